def q_X5_tower (cy : Nat → ClassId) (m0 : Nat) (kO : Nat) (lO : Nat) (sC : Nat) (sW : Nat) (sD : Nat) (pG : Nat) (wO : Nat) (fO : Nat) (mO : Nat) (cO : Nat) (th : Nat) (kK : Nat) (kL : Nat) (kC : Nat) (kW : Nat) (kD : Nat) (tw : Nat) (cb : Nat) (tu : Nat) (ak : Nat) (se : Nat) (pl : Nat) (iw : Int32) (nc : Nat) (sn : Int64) (ik : Int32) (kt : Nat) (ku : Nat) (ks : Nat) (hh : Int64) (mp : Nat → Nat) (mk : Nat → Nat) (ml : Nat → Int32) : Int32 → va_W → Prop := fun (r : Int32) (u : va_W) => ∃ (iwx : Int32), ∃ (ncx : Nat), ∃ (cbx : Nat), ∃ (tux : Nat), ∃ (twx : Nat), ∃ (sex : Nat), ∃ (plx : Nat), ∃ (kx : Nat → Nat), ∃ (lx : Nat → Int32), u = [(m0, .inr (5, [.int (nI twx), .int (nI cbx), .ref kO, .ref lO, .int (nI tux), .int (nI ak), .int (nI sex), .ref sC, .ref sW, .ref sD, .int (nI plx), .ref pG, .int iwx, .int (nI ncx), .ref wO, .ref fO, .ref mO, .ref cO, .long sn, .ref th, .int ik, .int (nI kt), .int (nI ku), .int (nI ks), .ref kK, .ref kL, .ref kC, .ref kW, .ref kD, .long hh])), (pG, .inl (cy 1, 26, .inl (fun j => nI (mp j)))), (kO, .inl (cy 0, 3, .inl (fun j => nI (kx j)))), (lO, .inl (cy 0, 3, .inl lx))] ∧ ((r = -103 ∧ cbx = cb ∧ tux = tu ∧ twx = tw ∧ sex = se ∧ plx = pl ∧ kx = mk ∧ lx = ml ∧ ∃ e : Nat, FM (amF pl mp) e ∧ ¬ ((e = 15 ∨ e = 23) ∧ e = pl)) ∨ (∃ z : Nat, (z = 2 ∨ z = 3) ∧ pl + 1 = 8 * z ∧ FM (amF pl mp) pl ∧ r = nI z ∧ cbx = z ∧ tux = 0 ∧ twx = tw + 1 ∧ sex = 0 ∧ plx = 0 ∧ ∀ j, kx j = mk j ∨ kx j < 5)) ∧ (∀ z : Nat, r = nI z → (z = 2 ∨ z = 3) → kx = kT mk mp z ∧ lx = lT ml mp z)
set_option maxHeartbeats 4000000 in
set_option maxRecDepth 100000 in
theorem g_X5_tower (l : Launch) (D : va_G) (cy : Nat → ClassId) (zz : Nat) (m0 : Nat) (kO : Nat) (lO : Nat) (sC : Nat) (sW : Nat) (sD : Nat) (pG : Nat) (wO : Nat) (fO : Nat) (mO : Nat) (cO : Nat) (th : Nat) (kK : Nat) (kL : Nat) (kC : Nat) (kW : Nat) (kD : Nat) (tw : Nat) (cb : Nat) (tu : Nat) (ak : Nat) (se : Nat) (pl : Nat) (iw : Int32) (nc : Nat) (sn : Int64) (ik : Int32) (kt : Nat) (ku : Nat) (ks : Nat) (hh : Int64) (mp : Nat → Nat) (mk : Nat → Nat) (ml : Nat → Int32) (hpl : pl ≤ 26) (hmp : ∀ j, mp j < 128) : Met l yX5_tower wsX5_tower ({ frames := 3, cells := 0, slots := 0, locals := 66 } : Room) (va_Pc [.ref m0] (cpre D cy [(m0, .inr (5, [.int (nI tw), .int (nI cb), .ref kO, .ref lO, .int (nI tu), .int (nI ak), .int (nI se), .ref sC, .ref sW, .ref sD, .int (nI pl), .ref pG, .int iw, .int (nI nc), .ref wO, .ref fO, .ref mO, .ref cO, .long sn, .ref th, .int ik, .int (nI kt), .int (nI ku), .int (nI ks), .ref kK, .ref kL, .ref kC, .ref kW, .ref kD, .long hh])), (pG, .inl (cy 1, 26, .inl (fun j => nI (mp j)))), (kO, .inl (cy 0, 3, .inl (fun j => nI (mk j)))), (lO, .inl (cy 0, 3, .inl ml))] zz)) (va_Qi (q_X5_tower cy m0 kO lO sC sW sD pG wO fO mO cO th kK kL kC kW kD tw cb tu ak se pl iw nc sn ik kt ku ks hh mp mk ml) (cpost D (va_A [(m0, .inr (5, [.int (nI tw), .int (nI cb), .ref kO, .ref lO, .int (nI tu), .int (nI ak), .int (nI se), .ref sC, .ref sW, .ref sD, .int (nI pl), .ref pG, .int iw, .int (nI nc), .ref wO, .ref fO, .ref mO, .ref cO, .long sn, .ref th, .int ik, .int (nI kt), .int (nI ku), .int (nI ks), .ref kK, .ref kL, .ref kC, .ref kW, .ref kD, .long hh])), (pG, .inl (cy 1, 26, .inl (fun j => nI (mp j)))), (kO, .inl (cy 0, 3, .inl (fun j => nI (mk j)))), (lO, .inl (cy 0, 3, .inl ml))] zz)) (va_A [(m0, .inr (5, [.int (nI tw), .int (nI cb), .ref kO, .ref lO, .int (nI tu), .int (nI ak), .int (nI se), .ref sC, .ref sW, .ref sD, .int (nI pl), .ref pG, .int iw, .int (nI nc), .ref wO, .ref fO, .ref mO, .ref cO, .long sn, .ref th, .int ik, .int (nI kt), .int (nI ku), .int (nI ks), .ref kK, .ref kL, .ref kC, .ref kW, .ref kD, .long hh])), (pG, .inl (cy 1, 26, .inl (fun j => nI (mp j)))), (kO, .inl (cy 0, 3, .inl (fun j => nI (mk j)))), (lO, .inl (cy 0, 3, .inl ml))] zz)) 0 0 (va_A [(m0, .inr (5, [.int (nI tw), .int (nI cb), .ref kO, .ref lO, .int (nI tu), .int (nI ak), .int (nI se), .ref sC, .ref sW, .ref sD, .int (nI pl), .ref pG, .int iw, .int (nI nc), .ref wO, .ref fO, .ref mO, .ref cO, .long sn, .ref th, .int ik, .int (nI kt), .int (nI ku), .int (nI ks), .ref kK, .ref kL, .ref kC, .ref kW, .ref kD, .long hh])), (pG, .inl (cy 1, 26, .inl (fun j => nI (mp j)))), (kO, .inl (cy 0, 3, .inl (fun j => nI (mk j)))), (lO, .inl (cy 0, 3, .inl ml))] zz) := by
  refine Met.ofW (cc := cX5_tower) (maxL := 3) (ret := (some .int)) (by decide) rfl ?_
  intro p e s m args below meth c s₁ B hml hv
  obtain ⟨rfl, hsz, hP, hD0, hX⟩ := hv
  have hx := B.exec
  have hb := B.bytes
  have hr := B.returns
  have hts := atoms_spec (ws := wsX5_tower) B.pre
  have hown : s.vm.findClass RX5 = some m.cls := findClass_of_methodNamed B.named
  have hlocks := B.notSynchronized
  subst hsz
  have hD := hD0.self (sz := s.heap.size)
  generalize hAe : va_A [(m0, .inr (5, [.int (nI tw), .int (nI cb), .ref kO, .ref lO, .int (nI tu), .int (nI ak), .int (nI se), .ref sC, .ref sW, .ref sD, .int (nI pl), .ref pG, .int iw, .int (nI nc), .ref wO, .ref fO, .ref mO, .ref cO, .long sn, .ref th, .int ik, .int (nI kt), .int (nI ku), .int (nI ks), .ref kK, .ref kL, .ref kC, .ref kW, .ref kD, .long hh])), (pG, .inl (cy 1, 26, .inl (fun j => nI (mp j)))), (kO, .inl (cy 0, 3, .inl (fun j => nI (mk j)))), (lO, .inl (cy 0, 3, .inl ml))] s.heap.size = A at hD hX ⊢
  have hA : ∀ q : Nat, s.heap.size ≤ q → A q := fun q h => by rw [← hAe]; exact Or.inr h
  obtain ⟨H, hH⟩ : ∃ H : Heap, H = s.heap := ⟨_, rfl⟩
  have hS : va_S A s.heap H [] := hH ▸ va_S.rf
  have hK := hX.1
  have hP : va_P D vwCl [(m0, .inr (5, [.int (nI tw), .int (nI cb), .ref kO, .ref lO, .int (nI tu), .int (nI ak), .int (nI se), .ref sC, .ref sW, .ref sD, .int (nI pl), .ref pG, .int iw, .int (nI nc), .ref wO, .ref fO, .ref mO, .ref cO, .long sn, .ref th, .int ik, .int (nI kt), .int (nI ku), .int (nI ks), .ref kK, .ref kL, .ref kC, .ref kW, .ref kD, .long hh])), (pG, .inl (cy 1, 26, .inl (fun j => nI (mp j)))), (kO, .inl (cy 0, 3, .inl (fun j => nI (mk j)))), (lO, .inl (cy 0, 3, .inl ml))] H := hH ▸ hP
  rw [← hH]
  have hw_X5 : ∀ w ∈ wsX50, w ∈ wsX5_tower := chX5 (by decide +kernel)
  have f_74 := hts (.fieldLink RX5 74 "CubeTowerModel" "isWhole" "Z") (inC wa_583 (by decide +kernel))
  have f_78 := hts (.fieldLink RX5 78 "CubeTowerModel" "newCubes" "I") (inC wa_584 (by decide +kernel))
  have f_88 := hts (.fieldLink RX5 88 "CubeTowerModel" "cubes" "I") (inC wa_662 (by decide +kernel))
  have f_7 := hts (.fieldLink RX5 7 "CubeTowerModel" "kindOf" "[I") (inC wa_201 (by decide +kernel))
  have f_25 := hts (.fieldLink RX5 25 "CubeTowerModel" "page" "[B") (inC wa_207 (by decide +kernel))
  have f_13 := hts (.fieldLink RX5 13 "CubeTowerModel" "lies" "[I") (inC wa_202 (by decide +kernel))
  have f_91 := hts (.fieldLink RX5 91 "CubeTowerModel" "turns" "I") (inC wa_663 (by decide +kernel))
  have f_94 := hts (.fieldLink RX5 94 "CubeTowerModel" "towers" "I") (inC wa_704 (by decide +kernel))
  have f_97 := hts (.fieldLink RX5 97 "CubeTowerModel" "seen" "I") (inC wa_705 (by decide +kernel))
  have f_63 := hts (.fieldLink RX5 63 "CubeTowerModel" "pageLength" "I") (inC wa_267 (by decide +kernel))
  have hl := lv_entry ([.ref m0]) (n := 3) (Nat.le_of_ble_eq_true rfl)
  rw [lg_entry_eq]
  generalize (lg_sl ([.ref m0]) ++ List.replicate (3 - (lg_sl ([.ref m0])).length) Slot.unset).toArray = ls at hl ⊢
  have hl : lv_has ls 3 [(0, .ref m0)] := hl
  refine lv_aload_n hx hb dX5_tower_0 rfl (lv_at hl 0 rfl) ?_
  refine kc_i (wc := [(m0, .inr (5, [.int (nI tw), .int (nI cb), .ref kO, .ref lO, .int (nI tu), .int (nI ak), .int (nI se), .ref sC, .ref sW, .ref sD, .int (nI pl), .ref pG, .int iw, .int (nI nc), .ref wO, .ref fO, .ref mO, .ref cO, .long sn, .ref th, .int ik, .int (nI kt), .int (nI ku), .int (nI ks), .ref kK, .ref kL, .ref kC, .ref kW, .ref kD, .long hh])), (pG, .inl (cy 1, 26, .inl (fun j => nI (mp j))))]) (wr := [(kO, .inl (cy 0, 3, .inl (fun j => nI (mk j)))), (lO, .inl (cy 0, 3, .inl ml))]) (va_runV (As := []) (rest := []) ⟨hx, hb, hml, hown, hts⟩ (g_X5_read l D cy H.size m0 kO lO sC sW sD pG wO fO mO cO th kK kL kC kW kD tw cb tu ak se pl iw nc sn ik kt ku ks hh mp hpl hmp) (cwV 0 hts gX5_tower_X5_read rfl rfl rfl hdc_X5_read ⟨Nat.le_of_ble_eq_true rfl, Nat.le_of_ble_eq_true rfl⟩) (cpre_V (wc := [(m0, .inr (5, [.int (nI tw), .int (nI cb), .ref kO, .ref lO, .int (nI tu), .int (nI ak), .int (nI se), .ref sC, .ref sW, .ref sD, .int (nI pl), .ref pG, .int iw, .int (nI nc), .ref wO, .ref fO, .ref mO, .ref cO, .long sn, .ref th, .int ik, .int (nI kt), .int (nI ku), .int (nI ks), .ref kK, .ref kL, .ref kC, .ref kW, .ref kD, .long hh])), (pG, .inl (cy 1, 26, .inl (fun j => nI (mp j))))]) 0 5 rfl rfl hX hP hD hS hA [0, 1] (by decide +kernel) rfl) rfl rfl hl.1 rfl (lv_room (Nat.le_of_ble_eq_true rfl)) dX5_tower_1 ⟨Nat.le_of_ble_eq_true rfl, Nat.le_of_ble_eq_true rfl⟩) hP hD hS hA [0, 1] [2, 3] rfl rfl (by decide +kernel) (by decide +kernel) (fun rr u1 H locs hw hP hD hS => ?_)
  obtain ⟨e9, iw9, nc9, hu, hrr, hfm, hrw⟩ := hw
  subst hu
  have hP : va_P D vwCl [(kO, .inl (cy 0, 3, .inl (fun j => nI (mk j)))), (lO, .inl (cy 0, 3, .inl ml)), (m0, .inr (5, [.int (nI tw), .int (nI cb), .ref kO, .ref lO, .int (nI tu), .int (nI ak), .int (nI se), .ref sC, .ref sW, .ref sD, .int (nI pl), .ref pG, .int iw9, .int (nI nc9), .ref wO, .ref fO, .ref mO, .ref cO, .long sn, .ref th, .int ik, .int (nI kt), .int (nI ku), .int (nI ks), .ref kK, .ref kL, .ref kC, .ref kW, .ref kD, .long hh])), (pG, .inl (cy 1, 26, .inl (fun j => nI (mp j))))] H := hP
  have hD : va_D A [(kO, .inl (cy 0, 3, .inl (fun j => nI (mk j)))), (lO, .inl (cy 0, 3, .inl ml)), (m0, .inr (5, [.int (nI tw), .int (nI cb), .ref kO, .ref lO, .int (nI tu), .int (nI ak), .int (nI se), .ref sC, .ref sW, .ref sD, .int (nI pl), .ref pG, .int iw9, .int (nI nc9), .ref wO, .ref fO, .ref mO, .ref cO, .long sn, .ref th, .int ik, .int (nI kt), .int (nI ku), .int (nI ks), .ref kK, .ref kL, .ref kC, .ref kW, .ref kD, .long hh])), (pG, .inl (cy 1, 26, .inl (fun j => nI (mp j))))] := hD
  refine lv_pop hx hb dX5_tower_4 rfl ?_
  refine lv_aload_n hx hb dX5_tower_5 rfl (lv_at hl 0 rfl) ?_
  refine va_get (D := D) (ci := 5) (v := .int iw9) (C := RX5) (T := TX5) (N := 30) hx hb hts hw_X5 hown hK hP 2 rfl rfl 12 (by decide) f_74 (fun _ h9 => h9) rfl dX5_tower_6 ?_
  refine lv_if_ne (tgt := 15) hx hb dX5_tower_9 (by decide) (fun c_9 => ?_) (fun c_9 => ?_)
  · rcases hrw with ⟨-, hw9⟩ | ⟨hw9, -⟩
    · rcases hw9 with ⟨rfl, rfl, rfl⟩ | ⟨rfl, rfl, rfl⟩
      · have hall : ∀ j, j < 15 → fitsI (mp j) j = 1 := fun j hj => by have h9 := hfm.1 j hj; rwa [show amF 15 mp j = mp j from if_pos hj] at h9
        have hP : va_P D vwCl [(kO, .inl (cy 0, 3, .inl (fun j => nI (mk j)))), (lO, .inl (cy 0, 3, .inl ml)), (m0, .inr (5, [.int (nI tw), .int (nI cb), .ref kO, .ref lO, .int (nI tu), .int (nI ak), .int (nI se), .ref sC, .ref sW, .ref sD, .int 15, .ref pG, .int iw9, .int 2, .ref wO, .ref fO, .ref mO, .ref cO, .long sn, .ref th, .int ik, .int (nI kt), .int (nI ku), .int (nI ks), .ref kK, .ref kL, .ref kC, .ref kW, .ref kD, .long hh])), (pG, .inl (cy 1, 26, .inl (fun j => nI (mp j))))] H := hP
        have hD : va_D A [(kO, .inl (cy 0, 3, .inl (fun j => nI (mk j)))), (lO, .inl (cy 0, 3, .inl ml)), (m0, .inr (5, [.int (nI tw), .int (nI cb), .ref kO, .ref lO, .int (nI tu), .int (nI ak), .int (nI se), .ref sC, .ref sW, .ref sD, .int 15, .ref pG, .int iw9, .int 2, .ref wO, .ref fO, .ref mO, .ref cO, .long sn, .ref th, .int ik, .int (nI kt), .int (nI ku), .int (nI ks), .ref kK, .ref kL, .ref kC, .ref kW, .ref kD, .long hh])), (pG, .inl (cy 1, 26, .inl (fun j => nI (mp j))))] := hD
        refine lv_aload_n hx hb dX5_tower_15 rfl (lv_at hl 0 rfl) ?_
        refine lv_aload_n hx hb dX5_tower_16 rfl (lv_at hl 0 rfl) ?_
        refine va_get (D := D) (ci := 5) (v := .int 2) (C := RX5) (T := TX5) (N := 30) hx hb hts hw_X5 hown hK hP 2 rfl rfl 13 (by decide) f_78 (fun _ h9 => h9) rfl dX5_tower_17 ?_
        refine va_put (D := D) (ci := 5) (v := .int 2) (ty := .int) (C := RX5) (T := TX5) (N := 30) hx hb hts hw_X5 tyX5 tyX5_ok nmX5 hown hK hP hD hS 2 rfl rfl 1 (by decide) f_88 (fun _ h9 => h9) rfl (tyX5_ok 1 (by decide)) rfl rfl (Nat.le_of_ble_eq_true rfl) dX5_tower_20 (fun H locs hP hD hS => ?_)
        have hP : va_P D vwCl [(kO, .inl (cy 0, 3, .inl (fun j => nI (mk j)))), (lO, .inl (cy 0, 3, .inl ml)), (m0, .inr (5, [.int (nI tw), .int 2, .ref kO, .ref lO, .int (nI tu), .int (nI ak), .int (nI se), .ref sC, .ref sW, .ref sD, .int 15, .ref pG, .int iw9, .int 2, .ref wO, .ref fO, .ref mO, .ref cO, .long sn, .ref th, .int ik, .int (nI kt), .int (nI ku), .int (nI ks), .ref kK, .ref kL, .ref kC, .ref kW, .ref kD, .long hh])), (pG, .inl (cy 1, 26, .inl (fun j => nI (mp j))))] H := hP
        have hD : va_D A [(kO, .inl (cy 0, 3, .inl (fun j => nI (mk j)))), (lO, .inl (cy 0, 3, .inl ml)), (m0, .inr (5, [.int (nI tw), .int 2, .ref kO, .ref lO, .int (nI tu), .int (nI ak), .int (nI se), .ref sC, .ref sW, .ref sD, .int 15, .ref pG, .int iw9, .int 2, .ref wO, .ref fO, .ref mO, .ref cO, .long sn, .ref th, .int ik, .int (nI kt), .int (nI ku), .int (nI ks), .ref kK, .ref kL, .ref kC, .ref kW, .ref kD, .long hh])), (pG, .inl (cy 1, 26, .inl (fun j => nI (mp j))))] := hD
        refine lv_iconst (v := 0) hx hb dX5_tower_23 (by decide) ?_
        refine lv_istore_n (lv' := [(1, .int 0), (0, .ref m0)]) hx hb dX5_tower_24 rfl hl (by decide) rfl (fun ls hl => ?_)
        refine lv_iload_n hx hb dX5_tower_25 rfl (lv_at hl 0 rfl) ?_
        refine lv_aload_n hx hb dX5_tower_26 rfl (lv_at hl 1 rfl) ?_
        refine va_get (D := D) (ci := 5) (v := .int 2) (C := RX5) (T := TX5) (N := 30) hx hb hts hw_X5 hown hK hP 2 rfl rfl 1 (by decide) f_88 (fun _ h9 => h9) rfl dX5_tower_27 ?_
        refine lv_icmp_ge (tgt := 107) hx hb dX5_tower_30 (by decide) (fun c_30 => ?_) (fun c_30 => ?_)
        · exact absurd c_30 (by decide)
        · refine lv_aload_n hx hb dX5_tower_33 rfl (lv_at hl 1 rfl) ?_
          refine va_get (D := D) (ci := 5) (v := .ref kO) (C := RX5) (T := TX5) (N := 30) hx hb hts hw_X5 hown hK hP 2 rfl rfl 2 (by decide) f_7 (fun _ h9 => h9) rfl dX5_tower_34 ?_
          refine lv_iload_n hx hb dX5_tower_37 rfl (lv_at hl 0 rfl) ?_
          refine lv_aload_n hx hb dX5_tower_38 rfl (lv_at hl 1 rfl) ?_
          refine va_get (D := D) (ci := 5) (v := .ref pG) (C := RX5) (T := TX5) (N := 30) hx hb hts hw_X5 hown hK hP 2 rfl rfl 11 (by decide) f_25 (fun _ h9 => h9) rfl dX5_tower_39 ?_
          refine lv_bipush (v := 8) hx hb dX5_tower_42 (by decide) ?_
          refine lv_iload_n hx hb dX5_tower_44 rfl (lv_at hl 0 rfl) ?_
          refine lv_imul hx hb dX5_tower_45 ?_
          refine lv_topi (fun y2 ey2 => ?_)
          obtain rfl : y2 = 0 := ey2.trans (by decide)
          refine va_bald hx hb hK hP 3 1 rfl rfl (vi_c (by decide +kernel)) dX5_tower_46 ?_
          refine lv_topi (fun y3 ey3 => ?_)
          obtain rfl : y3 = nI (mp 0) := ey3.trans (rfl)
          refine kc_i (wc := []) (wr := [(kO, .inl (cy 0, 3, .inl (fun j => nI (mk j)))), (lO, .inl (cy 0, 3, .inl ml)), (m0, .inr (5, [.int (nI tw), .int 2, .ref kO, .ref lO, .int (nI tu), .int (nI ak), .int (nI se), .ref sC, .ref sW, .ref sD, .int 15, .ref pG, .int iw9, .int 2, .ref wO, .ref fO, .ref mO, .ref cO, .long sn, .ref th, .int ik, .int (nI kt), .int (nI ku), .int (nI ks), .ref kK, .ref kL, .ref kC, .ref kW, .ref kD, .long hh])), (pG, .inl (cy 1, 26, .inl (fun j => nI (mp j))))]) (va_runS (As := [.int (nI (mp 0))]) (rest := [.int 0, .ref kO]) ⟨hx, hb, hml, hown, hts⟩ (c_X5_kindBy l D cy H.size (nI (mp 0)) ) (va_cwS 1 hts gX5_tower_X5_kindBy rfl rfl rfl hdc_X5_kindBy.2 ⟨Nat.le_of_ble_eq_true rfl, Nat.le_of_ble_eq_true rfl⟩) (cpre_S (wc := []) hX hP hD hS hA [] (by decide +kernel) rfl) rfl rfl hl.1 rfl (lv_room (Nat.le_of_ble_eq_true rfl)) dX5_tower_47 ⟨Nat.le_of_ble_eq_true rfl, Nat.le_of_ble_eq_true rfl⟩) hP hD hS hA [] [0, 1, 2, 3] rfl rfl (by decide +kernel) (by decide +kernel) (fun rk u4 H locs hw hP hD hS => ?_)
          obtain ⟨hu, hrk⟩ := hw
          subst hu
          have hP : va_P D vwCl [(kO, .inl (cy 0, 3, .inl (fun j => nI (mk j)))), (lO, .inl (cy 0, 3, .inl ml)), (m0, .inr (5, [.int (nI tw), .int 2, .ref kO, .ref lO, .int (nI tu), .int (nI ak), .int (nI se), .ref sC, .ref sW, .ref sD, .int 15, .ref pG, .int iw9, .int 2, .ref wO, .ref fO, .ref mO, .ref cO, .long sn, .ref th, .int ik, .int (nI kt), .int (nI ku), .int (nI ks), .ref kK, .ref kL, .ref kC, .ref kW, .ref kD, .long hh])), (pG, .inl (cy 1, 26, .inl (fun j => nI (mp j))))] H := hP
          have hD : va_D A [(kO, .inl (cy 0, 3, .inl (fun j => nI (mk j)))), (lO, .inl (cy 0, 3, .inl ml)), (m0, .inr (5, [.int (nI tw), .int 2, .ref kO, .ref lO, .int (nI tu), .int (nI ak), .int (nI se), .ref sC, .ref sW, .ref sD, .int 15, .ref pG, .int iw9, .int 2, .ref wO, .ref fO, .ref mO, .ref cO, .long sn, .ref th, .int ik, .int (nI kt), .int (nI ku), .int (nI ks), .ref kK, .ref kL, .ref kC, .ref kW, .ref kD, .long hh])), (pG, .inl (cy 1, 26, .inl (fun j => nI (mp j))))] := hD
          have hrk := hrk.trans (kb_kn _ (hmp _) ((ft_k (hmp 0) (by decide) (by decide)).mp (hall 0 (by decide))))
          subst hrk
          refine va_iast hx hb hK hP hD hS 0 0 rfl rfl (vi_c (by decide +kernel)) dX5_tower_50 (fun H locs hP hD hS => ?_)
          have hP : va_P D vwCl [(kO, .inl (cy 0, 3, .inl (upd (fun j => nI (mk j)) 0 (nI (kn (mp 0)))))), (lO, .inl (cy 0, 3, .inl ml)), (m0, .inr (5, [.int (nI tw), .int 2, .ref kO, .ref lO, .int (nI tu), .int (nI ak), .int (nI se), .ref sC, .ref sW, .ref sD, .int 15, .ref pG, .int iw9, .int 2, .ref wO, .ref fO, .ref mO, .ref cO, .long sn, .ref th, .int ik, .int (nI kt), .int (nI ku), .int (nI ks), .ref kK, .ref kL, .ref kC, .ref kW, .ref kD, .long hh])), (pG, .inl (cy 1, 26, .inl (fun j => nI (mp j))))] H := hP
          have hD : va_D A [(kO, .inl (cy 0, 3, .inl (upd (fun j => nI (mk j)) 0 (nI (kn (mp 0)))))), (lO, .inl (cy 0, 3, .inl ml)), (m0, .inr (5, [.int (nI tw), .int 2, .ref kO, .ref lO, .int (nI tu), .int (nI ak), .int (nI se), .ref sC, .ref sW, .ref sD, .int 15, .ref pG, .int iw9, .int 2, .ref wO, .ref fO, .ref mO, .ref cO, .long sn, .ref th, .int ik, .int (nI kt), .int (nI ku), .int (nI ks), .ref kK, .ref kL, .ref kC, .ref kW, .ref kD, .long hh])), (pG, .inl (cy 1, 26, .inl (fun j => nI (mp j))))] := hD
          rw [updN mk 0 (kn (mp 0))] at hP hD
          have hP : va_P D vwCl [(kO, .inl (cy 0, 3, .inl (fun j => nI ((va_up mk 0 (kn (mp 0))) j)))), (lO, .inl (cy 0, 3, .inl ml)), (m0, .inr (5, [.int (nI tw), .int 2, .ref kO, .ref lO, .int (nI tu), .int (nI ak), .int (nI se), .ref sC, .ref sW, .ref sD, .int 15, .ref pG, .int iw9, .int 2, .ref wO, .ref fO, .ref mO, .ref cO, .long sn, .ref th, .int ik, .int (nI kt), .int (nI ku), .int (nI ks), .ref kK, .ref kL, .ref kC, .ref kW, .ref kD, .long hh])), (pG, .inl (cy 1, 26, .inl (fun j => nI (mp j))))] H := hP
          have hD : va_D A [(kO, .inl (cy 0, 3, .inl (fun j => nI ((va_up mk 0 (kn (mp 0))) j)))), (lO, .inl (cy 0, 3, .inl ml)), (m0, .inr (5, [.int (nI tw), .int 2, .ref kO, .ref lO, .int (nI tu), .int (nI ak), .int (nI se), .ref sC, .ref sW, .ref sD, .int 15, .ref pG, .int iw9, .int 2, .ref wO, .ref fO, .ref mO, .ref cO, .long sn, .ref th, .int ik, .int (nI kt), .int (nI ku), .int (nI ks), .ref kK, .ref kL, .ref kC, .ref kW, .ref kD, .long hh])), (pG, .inl (cy 1, 26, .inl (fun j => nI (mp j))))] := hD
          refine lv_aload_n hx hb dX5_tower_51 rfl (lv_at hl 1 rfl) ?_
          refine va_get (D := D) (ci := 5) (v := .ref lO) (C := RX5) (T := TX5) (N := 30) hx hb hts hw_X5 hown hK hP 2 rfl rfl 3 (by decide) f_13 (fun _ h9 => h9) rfl dX5_tower_52 ?_
          refine lv_iload_n hx hb dX5_tower_55 rfl (lv_at hl 0 rfl) ?_
          refine lv_iconst (v := 0) hx hb dX5_tower_56 (by decide) ?_
          refine va_iast hx hb hK hP hD hS 1 0 rfl rfl (vi_c (by decide +kernel)) dX5_tower_57 (fun H locs hP hD hS => ?_)
          have hP : va_P D vwCl [(kO, .inl (cy 0, 3, .inl (fun j => nI ((va_up mk 0 (kn (mp 0))) j)))), (lO, .inl (cy 0, 3, .inl (upd ml 0 0))), (m0, .inr (5, [.int (nI tw), .int 2, .ref kO, .ref lO, .int (nI tu), .int (nI ak), .int (nI se), .ref sC, .ref sW, .ref sD, .int 15, .ref pG, .int iw9, .int 2, .ref wO, .ref fO, .ref mO, .ref cO, .long sn, .ref th, .int ik, .int (nI kt), .int (nI ku), .int (nI ks), .ref kK, .ref kL, .ref kC, .ref kW, .ref kD, .long hh])), (pG, .inl (cy 1, 26, .inl (fun j => nI (mp j))))] H := hP
          have hD : va_D A [(kO, .inl (cy 0, 3, .inl (fun j => nI ((va_up mk 0 (kn (mp 0))) j)))), (lO, .inl (cy 0, 3, .inl (upd ml 0 0))), (m0, .inr (5, [.int (nI tw), .int 2, .ref kO, .ref lO, .int (nI tu), .int (nI ak), .int (nI se), .ref sC, .ref sW, .ref sD, .int 15, .ref pG, .int iw9, .int 2, .ref wO, .ref fO, .ref mO, .ref cO, .long sn, .ref th, .int ik, .int (nI kt), .int (nI ku), .int (nI ks), .ref kK, .ref kL, .ref kC, .ref kW, .ref kD, .long hh])), (pG, .inl (cy 1, 26, .inl (fun j => nI (mp j))))] := hD
          refine lv_iconst (v := 0) hx hb dX5_tower_58 (by decide) ?_
          refine lv_istore_n (lv' := [(2, .int 0), (1, .int 0), (0, .ref m0)]) hx hb dX5_tower_59 rfl hl (by decide) rfl (fun ls hl => ?_)
          refine lv_iload_n hx hb dX5_tower_60 rfl (lv_at hl 0 rfl) ?_
          refine lv_bipush (v := 6) hx hb dX5_tower_61 (by decide) ?_
          refine lv_icmp_ge (tgt := 101) hx hb dX5_tower_63 (by decide) (fun c_63 => ?_) (fun c_63 => ?_)
          · exact absurd c_63 (by decide)
          · refine lv_aload_n hx hb dX5_tower_66 rfl (lv_at hl 2 rfl) ?_
            refine va_get (D := D) (ci := 5) (v := .ref lO) (C := RX5) (T := TX5) (N := 30) hx hb hts hw_X5 hown hK hP 2 rfl rfl 3 (by decide) f_13 (fun _ h9 => h9) rfl dX5_tower_67 ?_
            refine lv_iload_n hx hb dX5_tower_70 rfl (lv_at hl 1 rfl) ?_
            refine lv_dup2_11 hx hb dX5_tower_71 rfl rfl ?_
            refine va_iald hx hb hK hP 1 0 rfl rfl (vi_c (by decide +kernel)) dX5_tower_72 ?_
            refine lv_topi (fun y5 ey5 => ?_)
            obtain rfl : y5 = 0 := ey5.trans (upd_rd _ _ _ (by decide))
            refine lv_aload_n hx hb dX5_tower_73 rfl (lv_at hl 2 rfl) ?_
            refine va_get (D := D) (ci := 5) (v := .ref pG) (C := RX5) (T := TX5) (N := 30) hx hb hts hw_X5 hown hK hP 2 rfl rfl 11 (by decide) f_25 (fun _ h9 => h9) rfl dX5_tower_74 ?_
            refine lv_bipush (v := 8) hx hb dX5_tower_77 (by decide) ?_
            refine lv_iload_n hx hb dX5_tower_79 rfl (lv_at hl 1 rfl) ?_
            refine lv_imul hx hb dX5_tower_80 ?_
            refine lv_topi (fun y6 ey6 => ?_)
            obtain rfl : y6 = 0 := ey6.trans (by decide)
            refine lv_iconst (v := 1) hx hb dX5_tower_81 (by decide) ?_
            refine lv_iadd hx hb dX5_tower_82 ?_
            refine lv_topi (fun y7 ey7 => ?_)
            obtain rfl : y7 = 1 := ey7.trans (by decide)
            refine lv_iload_n hx hb dX5_tower_83 rfl (lv_at hl 0 rfl) ?_
            refine lv_iadd hx hb dX5_tower_84 ?_
            refine lv_topi (fun y8 ey8 => ?_)
            obtain rfl : y8 = 1 := ey8.trans (by decide)
            refine va_bald hx hb hK hP 3 1 rfl rfl (vi_c (by decide +kernel)) dX5_tower_85 ?_
            refine lv_topi (fun y9 ey9 => ?_)
            obtain rfl : y9 = nI (mp 1) := ey9.trans (rfl)
            refine lv_bipush (v := 97) hx hb dX5_tower_86 (by decide) ?_
            refine lv_isub hx hb dX5_tower_88 ?_
            refine lv_iconst (v := 3) hx hb dX5_tower_89 (by decide) ?_
            refine lv_iload_n hx hb dX5_tower_90 rfl (lv_at hl 0 rfl) ?_
            refine lv_imul hx hb dX5_tower_91 ?_
            refine lv_topi (fun y10 ey10 => ?_)
            obtain rfl : y10 = 0 := ey10.trans (by decide)
            refine lv_ishl hx hb dX5_tower_92 ?_
            refine lv_ior hx hb dX5_tower_93 ?_
            refine lv_topi (fun y11 ey11 => ?_)
            obtain rfl : y11 = pk1 0 (mp 1) 0 := ey11.trans (rfl)
            refine va_iast hx hb hK hP hD hS 1 0 rfl rfl (vi_c (by decide +kernel)) dX5_tower_94 (fun H locs hP hD hS => ?_)
            have hP : va_P D vwCl [(kO, .inl (cy 0, 3, .inl (fun j => nI ((va_up mk 0 (kn (mp 0))) j)))), (lO, .inl (cy 0, 3, .inl (upd (upd ml 0 0) 0 (pk1 0 (mp 1) 0)))), (m0, .inr (5, [.int (nI tw), .int 2, .ref kO, .ref lO, .int (nI tu), .int (nI ak), .int (nI se), .ref sC, .ref sW, .ref sD, .int 15, .ref pG, .int iw9, .int 2, .ref wO, .ref fO, .ref mO, .ref cO, .long sn, .ref th, .int ik, .int (nI kt), .int (nI ku), .int (nI ks), .ref kK, .ref kL, .ref kC, .ref kW, .ref kD, .long hh])), (pG, .inl (cy 1, 26, .inl (fun j => nI (mp j))))] H := hP
            have hD : va_D A [(kO, .inl (cy 0, 3, .inl (fun j => nI ((va_up mk 0 (kn (mp 0))) j)))), (lO, .inl (cy 0, 3, .inl (upd (upd ml 0 0) 0 (pk1 0 (mp 1) 0)))), (m0, .inr (5, [.int (nI tw), .int 2, .ref kO, .ref lO, .int (nI tu), .int (nI ak), .int (nI se), .ref sC, .ref sW, .ref sD, .int 15, .ref pG, .int iw9, .int 2, .ref wO, .ref fO, .ref mO, .ref cO, .long sn, .ref th, .int ik, .int (nI kt), .int (nI ku), .int (nI ks), .ref kK, .ref kL, .ref kC, .ref kW, .ref kD, .long hh])), (pG, .inl (cy 1, 26, .inl (fun j => nI (mp j))))] := hD
            rw [upd_upd ml 0 0 (pk1 0 (mp 1) 0)] at hP hD
            have hP : va_P D vwCl [(kO, .inl (cy 0, 3, .inl (fun j => nI ((va_up mk 0 (kn (mp 0))) j)))), (lO, .inl (cy 0, 3, .inl (upd ml 0 (pk1 0 (mp 1) 0)))), (m0, .inr (5, [.int (nI tw), .int 2, .ref kO, .ref lO, .int (nI tu), .int (nI ak), .int (nI se), .ref sC, .ref sW, .ref sD, .int 15, .ref pG, .int iw9, .int 2, .ref wO, .ref fO, .ref mO, .ref cO, .long sn, .ref th, .int ik, .int (nI kt), .int (nI ku), .int (nI ks), .ref kK, .ref kL, .ref kC, .ref kW, .ref kD, .long hh])), (pG, .inl (cy 1, 26, .inl (fun j => nI (mp j))))] H := hP
            have hD : va_D A [(kO, .inl (cy 0, 3, .inl (fun j => nI ((va_up mk 0 (kn (mp 0))) j)))), (lO, .inl (cy 0, 3, .inl (upd ml 0 (pk1 0 (mp 1) 0)))), (m0, .inr (5, [.int (nI tw), .int 2, .ref kO, .ref lO, .int (nI tu), .int (nI ak), .int (nI se), .ref sC, .ref sW, .ref sD, .int 15, .ref pG, .int iw9, .int 2, .ref wO, .ref fO, .ref mO, .ref cO, .long sn, .ref th, .int ik, .int (nI kt), .int (nI ku), .int (nI ks), .ref kK, .ref kL, .ref kC, .ref kW, .ref kD, .long hh])), (pG, .inl (cy 1, 26, .inl (fun j => nI (mp j))))] := hD
            refine lv_iinc (v := 1) (lv' := [(2, .int 1), (1, .int 0), (0, .ref m0)]) hx hb dX5_tower_95 hl (k := 0) rfl (by decide) (by decide) rfl (fun ls hl => ?_)
            refine lv_goto (tgt := 60) hx hb dX5_tower_98 (by decide) ?_
            refine lv_iload_n hx hb dX5_tower_60 rfl (lv_at hl 0 rfl) ?_
            refine lv_bipush (v := 6) hx hb dX5_tower_61 (by decide) ?_
            refine lv_icmp_ge (tgt := 101) hx hb dX5_tower_63 (by decide) (fun c_63 => ?_) (fun c_63 => ?_)
            · exact absurd c_63 (by decide)
            · refine lv_aload_n hx hb dX5_tower_66 rfl (lv_at hl 2 rfl) ?_
              refine va_get (D := D) (ci := 5) (v := .ref lO) (C := RX5) (T := TX5) (N := 30) hx hb hts hw_X5 hown hK hP 2 rfl rfl 3 (by decide) f_13 (fun _ h9 => h9) rfl dX5_tower_67 ?_
              refine lv_iload_n hx hb dX5_tower_70 rfl (lv_at hl 1 rfl) ?_
              refine lv_dup2_11 hx hb dX5_tower_71 rfl rfl ?_
              refine va_iald hx hb hK hP 1 0 rfl rfl (vi_c (by decide +kernel)) dX5_tower_72 ?_
              refine lv_topi (fun y12 ey12 => ?_)
              obtain rfl : y12 = pk1 0 (mp 1) 0 := ey12.trans (upd_rd _ _ _ (by decide))
              refine lv_aload_n hx hb dX5_tower_73 rfl (lv_at hl 2 rfl) ?_
              refine va_get (D := D) (ci := 5) (v := .ref pG) (C := RX5) (T := TX5) (N := 30) hx hb hts hw_X5 hown hK hP 2 rfl rfl 11 (by decide) f_25 (fun _ h9 => h9) rfl dX5_tower_74 ?_
              refine lv_bipush (v := 8) hx hb dX5_tower_77 (by decide) ?_
              refine lv_iload_n hx hb dX5_tower_79 rfl (lv_at hl 1 rfl) ?_
              refine lv_imul hx hb dX5_tower_80 ?_
              refine lv_topi (fun y13 ey13 => ?_)
              obtain rfl : y13 = 0 := ey13.trans (by decide)
              refine lv_iconst (v := 1) hx hb dX5_tower_81 (by decide) ?_
              refine lv_iadd hx hb dX5_tower_82 ?_
              refine lv_topi (fun y14 ey14 => ?_)
              obtain rfl : y14 = 1 := ey14.trans (by decide)
              refine lv_iload_n hx hb dX5_tower_83 rfl (lv_at hl 0 rfl) ?_
              refine lv_iadd hx hb dX5_tower_84 ?_
              refine lv_topi (fun y15 ey15 => ?_)
              obtain rfl : y15 = 2 := ey15.trans (by decide)
              refine va_bald hx hb hK hP 3 1 rfl rfl (vi_c (by decide +kernel)) dX5_tower_85 ?_
              refine lv_topi (fun y16 ey16 => ?_)
              obtain rfl : y16 = nI (mp 2) := ey16.trans (rfl)
              refine lv_bipush (v := 97) hx hb dX5_tower_86 (by decide) ?_
              refine lv_isub hx hb dX5_tower_88 ?_
              refine lv_iconst (v := 3) hx hb dX5_tower_89 (by decide) ?_
              refine lv_iload_n hx hb dX5_tower_90 rfl (lv_at hl 0 rfl) ?_
              refine lv_imul hx hb dX5_tower_91 ?_
              refine lv_topi (fun y17 ey17 => ?_)
              obtain rfl : y17 = 3 := ey17.trans (by decide)
              refine lv_ishl hx hb dX5_tower_92 ?_
              refine lv_ior hx hb dX5_tower_93 ?_
              refine lv_topi (fun y18 ey18 => ?_)
              obtain rfl : y18 = pk1 (pk1 0 (mp 1) 0) (mp 2) 1 := ey18.trans (rfl)
              refine va_iast hx hb hK hP hD hS 1 0 rfl rfl (vi_c (by decide +kernel)) dX5_tower_94 (fun H locs hP hD hS => ?_)
              have hP : va_P D vwCl [(kO, .inl (cy 0, 3, .inl (fun j => nI ((va_up mk 0 (kn (mp 0))) j)))), (lO, .inl (cy 0, 3, .inl (upd (upd ml 0 (pk1 0 (mp 1) 0)) 0 (pk1 (pk1 0 (mp 1) 0) (mp 2) 1)))), (m0, .inr (5, [.int (nI tw), .int 2, .ref kO, .ref lO, .int (nI tu), .int (nI ak), .int (nI se), .ref sC, .ref sW, .ref sD, .int 15, .ref pG, .int iw9, .int 2, .ref wO, .ref fO, .ref mO, .ref cO, .long sn, .ref th, .int ik, .int (nI kt), .int (nI ku), .int (nI ks), .ref kK, .ref kL, .ref kC, .ref kW, .ref kD, .long hh])), (pG, .inl (cy 1, 26, .inl (fun j => nI (mp j))))] H := hP
              have hD : va_D A [(kO, .inl (cy 0, 3, .inl (fun j => nI ((va_up mk 0 (kn (mp 0))) j)))), (lO, .inl (cy 0, 3, .inl (upd (upd ml 0 (pk1 0 (mp 1) 0)) 0 (pk1 (pk1 0 (mp 1) 0) (mp 2) 1)))), (m0, .inr (5, [.int (nI tw), .int 2, .ref kO, .ref lO, .int (nI tu), .int (nI ak), .int (nI se), .ref sC, .ref sW, .ref sD, .int 15, .ref pG, .int iw9, .int 2, .ref wO, .ref fO, .ref mO, .ref cO, .long sn, .ref th, .int ik, .int (nI kt), .int (nI ku), .int (nI ks), .ref kK, .ref kL, .ref kC, .ref kW, .ref kD, .long hh])), (pG, .inl (cy 1, 26, .inl (fun j => nI (mp j))))] := hD
              rw [upd_upd ml 0 (pk1 0 (mp 1) 0) (pk1 (pk1 0 (mp 1) 0) (mp 2) 1)] at hP hD
              have hP : va_P D vwCl [(kO, .inl (cy 0, 3, .inl (fun j => nI ((va_up mk 0 (kn (mp 0))) j)))), (lO, .inl (cy 0, 3, .inl (upd ml 0 (pk1 (pk1 0 (mp 1) 0) (mp 2) 1)))), (m0, .inr (5, [.int (nI tw), .int 2, .ref kO, .ref lO, .int (nI tu), .int (nI ak), .int (nI se), .ref sC, .ref sW, .ref sD, .int 15, .ref pG, .int iw9, .int 2, .ref wO, .ref fO, .ref mO, .ref cO, .long sn, .ref th, .int ik, .int (nI kt), .int (nI ku), .int (nI ks), .ref kK, .ref kL, .ref kC, .ref kW, .ref kD, .long hh])), (pG, .inl (cy 1, 26, .inl (fun j => nI (mp j))))] H := hP
              have hD : va_D A [(kO, .inl (cy 0, 3, .inl (fun j => nI ((va_up mk 0 (kn (mp 0))) j)))), (lO, .inl (cy 0, 3, .inl (upd ml 0 (pk1 (pk1 0 (mp 1) 0) (mp 2) 1)))), (m0, .inr (5, [.int (nI tw), .int 2, .ref kO, .ref lO, .int (nI tu), .int (nI ak), .int (nI se), .ref sC, .ref sW, .ref sD, .int 15, .ref pG, .int iw9, .int 2, .ref wO, .ref fO, .ref mO, .ref cO, .long sn, .ref th, .int ik, .int (nI kt), .int (nI ku), .int (nI ks), .ref kK, .ref kL, .ref kC, .ref kW, .ref kD, .long hh])), (pG, .inl (cy 1, 26, .inl (fun j => nI (mp j))))] := hD
              refine lv_iinc (v := 2) (lv' := [(2, .int 2), (1, .int 0), (0, .ref m0)]) hx hb dX5_tower_95 hl (k := 0) rfl (by decide) (by decide) rfl (fun ls hl => ?_)
              refine lv_goto (tgt := 60) hx hb dX5_tower_98 (by decide) ?_
              refine lv_iload_n hx hb dX5_tower_60 rfl (lv_at hl 0 rfl) ?_
              refine lv_bipush (v := 6) hx hb dX5_tower_61 (by decide) ?_
              refine lv_icmp_ge (tgt := 101) hx hb dX5_tower_63 (by decide) (fun c_63 => ?_) (fun c_63 => ?_)
              · exact absurd c_63 (by decide)
              · refine lv_aload_n hx hb dX5_tower_66 rfl (lv_at hl 2 rfl) ?_
                refine va_get (D := D) (ci := 5) (v := .ref lO) (C := RX5) (T := TX5) (N := 30) hx hb hts hw_X5 hown hK hP 2 rfl rfl 3 (by decide) f_13 (fun _ h9 => h9) rfl dX5_tower_67 ?_
                refine lv_iload_n hx hb dX5_tower_70 rfl (lv_at hl 1 rfl) ?_
                refine lv_dup2_11 hx hb dX5_tower_71 rfl rfl ?_
                refine va_iald hx hb hK hP 1 0 rfl rfl (vi_c (by decide +kernel)) dX5_tower_72 ?_
                refine lv_topi (fun y19 ey19 => ?_)
                obtain rfl : y19 = pk1 (pk1 0 (mp 1) 0) (mp 2) 1 := ey19.trans (upd_rd _ _ _ (by decide))
                refine lv_aload_n hx hb dX5_tower_73 rfl (lv_at hl 2 rfl) ?_
                refine va_get (D := D) (ci := 5) (v := .ref pG) (C := RX5) (T := TX5) (N := 30) hx hb hts hw_X5 hown hK hP 2 rfl rfl 11 (by decide) f_25 (fun _ h9 => h9) rfl dX5_tower_74 ?_
                refine lv_bipush (v := 8) hx hb dX5_tower_77 (by decide) ?_
                refine lv_iload_n hx hb dX5_tower_79 rfl (lv_at hl 1 rfl) ?_
                refine lv_imul hx hb dX5_tower_80 ?_
                refine lv_topi (fun y20 ey20 => ?_)
                obtain rfl : y20 = 0 := ey20.trans (by decide)
                refine lv_iconst (v := 1) hx hb dX5_tower_81 (by decide) ?_
                refine lv_iadd hx hb dX5_tower_82 ?_
                refine lv_topi (fun y21 ey21 => ?_)
                obtain rfl : y21 = 1 := ey21.trans (by decide)
                refine lv_iload_n hx hb dX5_tower_83 rfl (lv_at hl 0 rfl) ?_
                refine lv_iadd hx hb dX5_tower_84 ?_
                refine lv_topi (fun y22 ey22 => ?_)
                obtain rfl : y22 = 3 := ey22.trans (by decide)
                refine va_bald hx hb hK hP 3 1 rfl rfl (vi_c (by decide +kernel)) dX5_tower_85 ?_
                refine lv_topi (fun y23 ey23 => ?_)
                obtain rfl : y23 = nI (mp 3) := ey23.trans (rfl)
                refine lv_bipush (v := 97) hx hb dX5_tower_86 (by decide) ?_
                refine lv_isub hx hb dX5_tower_88 ?_
                refine lv_iconst (v := 3) hx hb dX5_tower_89 (by decide) ?_
                refine lv_iload_n hx hb dX5_tower_90 rfl (lv_at hl 0 rfl) ?_
                refine lv_imul hx hb dX5_tower_91 ?_
                refine lv_topi (fun y24 ey24 => ?_)
                obtain rfl : y24 = 6 := ey24.trans (by decide)
                refine lv_ishl hx hb dX5_tower_92 ?_
                refine lv_ior hx hb dX5_tower_93 ?_
                refine lv_topi (fun y25 ey25 => ?_)
                obtain rfl : y25 = pk1 (pk1 (pk1 0 (mp 1) 0) (mp 2) 1) (mp 3) 2 := ey25.trans (rfl)
                refine va_iast hx hb hK hP hD hS 1 0 rfl rfl (vi_c (by decide +kernel)) dX5_tower_94 (fun H locs hP hD hS => ?_)
                have hP : va_P D vwCl [(kO, .inl (cy 0, 3, .inl (fun j => nI ((va_up mk 0 (kn (mp 0))) j)))), (lO, .inl (cy 0, 3, .inl (upd (upd ml 0 (pk1 (pk1 0 (mp 1) 0) (mp 2) 1)) 0 (pk1 (pk1 (pk1 0 (mp 1) 0) (mp 2) 1) (mp 3) 2)))), (m0, .inr (5, [.int (nI tw), .int 2, .ref kO, .ref lO, .int (nI tu), .int (nI ak), .int (nI se), .ref sC, .ref sW, .ref sD, .int 15, .ref pG, .int iw9, .int 2, .ref wO, .ref fO, .ref mO, .ref cO, .long sn, .ref th, .int ik, .int (nI kt), .int (nI ku), .int (nI ks), .ref kK, .ref kL, .ref kC, .ref kW, .ref kD, .long hh])), (pG, .inl (cy 1, 26, .inl (fun j => nI (mp j))))] H := hP
                have hD : va_D A [(kO, .inl (cy 0, 3, .inl (fun j => nI ((va_up mk 0 (kn (mp 0))) j)))), (lO, .inl (cy 0, 3, .inl (upd (upd ml 0 (pk1 (pk1 0 (mp 1) 0) (mp 2) 1)) 0 (pk1 (pk1 (pk1 0 (mp 1) 0) (mp 2) 1) (mp 3) 2)))), (m0, .inr (5, [.int (nI tw), .int 2, .ref kO, .ref lO, .int (nI tu), .int (nI ak), .int (nI se), .ref sC, .ref sW, .ref sD, .int 15, .ref pG, .int iw9, .int 2, .ref wO, .ref fO, .ref mO, .ref cO, .long sn, .ref th, .int ik, .int (nI kt), .int (nI ku), .int (nI ks), .ref kK, .ref kL, .ref kC, .ref kW, .ref kD, .long hh])), (pG, .inl (cy 1, 26, .inl (fun j => nI (mp j))))] := hD
                rw [upd_upd ml 0 (pk1 (pk1 0 (mp 1) 0) (mp 2) 1) (pk1 (pk1 (pk1 0 (mp 1) 0) (mp 2) 1) (mp 3) 2)] at hP hD
                have hP : va_P D vwCl [(kO, .inl (cy 0, 3, .inl (fun j => nI ((va_up mk 0 (kn (mp 0))) j)))), (lO, .inl (cy 0, 3, .inl (upd ml 0 (pk1 (pk1 (pk1 0 (mp 1) 0) (mp 2) 1) (mp 3) 2)))), (m0, .inr (5, [.int (nI tw), .int 2, .ref kO, .ref lO, .int (nI tu), .int (nI ak), .int (nI se), .ref sC, .ref sW, .ref sD, .int 15, .ref pG, .int iw9, .int 2, .ref wO, .ref fO, .ref mO, .ref cO, .long sn, .ref th, .int ik, .int (nI kt), .int (nI ku), .int (nI ks), .ref kK, .ref kL, .ref kC, .ref kW, .ref kD, .long hh])), (pG, .inl (cy 1, 26, .inl (fun j => nI (mp j))))] H := hP
                have hD : va_D A [(kO, .inl (cy 0, 3, .inl (fun j => nI ((va_up mk 0 (kn (mp 0))) j)))), (lO, .inl (cy 0, 3, .inl (upd ml 0 (pk1 (pk1 (pk1 0 (mp 1) 0) (mp 2) 1) (mp 3) 2)))), (m0, .inr (5, [.int (nI tw), .int 2, .ref kO, .ref lO, .int (nI tu), .int (nI ak), .int (nI se), .ref sC, .ref sW, .ref sD, .int 15, .ref pG, .int iw9, .int 2, .ref wO, .ref fO, .ref mO, .ref cO, .long sn, .ref th, .int ik, .int (nI kt), .int (nI ku), .int (nI ks), .ref kK, .ref kL, .ref kC, .ref kW, .ref kD, .long hh])), (pG, .inl (cy 1, 26, .inl (fun j => nI (mp j))))] := hD
                refine lv_iinc (v := 3) (lv' := [(2, .int 3), (1, .int 0), (0, .ref m0)]) hx hb dX5_tower_95 hl (k := 0) rfl (by decide) (by decide) rfl (fun ls hl => ?_)
                refine lv_goto (tgt := 60) hx hb dX5_tower_98 (by decide) ?_
                refine lv_iload_n hx hb dX5_tower_60 rfl (lv_at hl 0 rfl) ?_
                refine lv_bipush (v := 6) hx hb dX5_tower_61 (by decide) ?_
                refine lv_icmp_ge (tgt := 101) hx hb dX5_tower_63 (by decide) (fun c_63 => ?_) (fun c_63 => ?_)
                · exact absurd c_63 (by decide)
                · refine lv_aload_n hx hb dX5_tower_66 rfl (lv_at hl 2 rfl) ?_
                  refine va_get (D := D) (ci := 5) (v := .ref lO) (C := RX5) (T := TX5) (N := 30) hx hb hts hw_X5 hown hK hP 2 rfl rfl 3 (by decide) f_13 (fun _ h9 => h9) rfl dX5_tower_67 ?_
                  refine lv_iload_n hx hb dX5_tower_70 rfl (lv_at hl 1 rfl) ?_
                  refine lv_dup2_11 hx hb dX5_tower_71 rfl rfl ?_
                  refine va_iald hx hb hK hP 1 0 rfl rfl (vi_c (by decide +kernel)) dX5_tower_72 ?_
                  refine lv_topi (fun y26 ey26 => ?_)
                  obtain rfl : y26 = pk1 (pk1 (pk1 0 (mp 1) 0) (mp 2) 1) (mp 3) 2 := ey26.trans (upd_rd _ _ _ (by decide))
                  refine lv_aload_n hx hb dX5_tower_73 rfl (lv_at hl 2 rfl) ?_
                  refine va_get (D := D) (ci := 5) (v := .ref pG) (C := RX5) (T := TX5) (N := 30) hx hb hts hw_X5 hown hK hP 2 rfl rfl 11 (by decide) f_25 (fun _ h9 => h9) rfl dX5_tower_74 ?_
                  refine lv_bipush (v := 8) hx hb dX5_tower_77 (by decide) ?_
                  refine lv_iload_n hx hb dX5_tower_79 rfl (lv_at hl 1 rfl) ?_
                  refine lv_imul hx hb dX5_tower_80 ?_
                  refine lv_topi (fun y27 ey27 => ?_)
                  obtain rfl : y27 = 0 := ey27.trans (by decide)
                  refine lv_iconst (v := 1) hx hb dX5_tower_81 (by decide) ?_
                  refine lv_iadd hx hb dX5_tower_82 ?_
                  refine lv_topi (fun y28 ey28 => ?_)
                  obtain rfl : y28 = 1 := ey28.trans (by decide)
                  refine lv_iload_n hx hb dX5_tower_83 rfl (lv_at hl 0 rfl) ?_
                  refine lv_iadd hx hb dX5_tower_84 ?_
                  refine lv_topi (fun y29 ey29 => ?_)
                  obtain rfl : y29 = 4 := ey29.trans (by decide)
                  refine va_bald hx hb hK hP 3 1 rfl rfl (vi_c (by decide +kernel)) dX5_tower_85 ?_
                  refine lv_topi (fun y30 ey30 => ?_)
                  obtain rfl : y30 = nI (mp 4) := ey30.trans (rfl)
                  refine lv_bipush (v := 97) hx hb dX5_tower_86 (by decide) ?_
                  refine lv_isub hx hb dX5_tower_88 ?_
                  refine lv_iconst (v := 3) hx hb dX5_tower_89 (by decide) ?_
                  refine lv_iload_n hx hb dX5_tower_90 rfl (lv_at hl 0 rfl) ?_
                  refine lv_imul hx hb dX5_tower_91 ?_
                  refine lv_topi (fun y31 ey31 => ?_)
                  obtain rfl : y31 = 9 := ey31.trans (by decide)
                  refine lv_ishl hx hb dX5_tower_92 ?_
                  refine lv_ior hx hb dX5_tower_93 ?_
                  refine lv_topi (fun y32 ey32 => ?_)
                  obtain rfl : y32 = pk1 (pk1 (pk1 (pk1 0 (mp 1) 0) (mp 2) 1) (mp 3) 2) (mp 4) 3 := ey32.trans (rfl)
                  refine va_iast hx hb hK hP hD hS 1 0 rfl rfl (vi_c (by decide +kernel)) dX5_tower_94 (fun H locs hP hD hS => ?_)
                  have hP : va_P D vwCl [(kO, .inl (cy 0, 3, .inl (fun j => nI ((va_up mk 0 (kn (mp 0))) j)))), (lO, .inl (cy 0, 3, .inl (upd (upd ml 0 (pk1 (pk1 (pk1 0 (mp 1) 0) (mp 2) 1) (mp 3) 2)) 0 (pk1 (pk1 (pk1 (pk1 0 (mp 1) 0) (mp 2) 1) (mp 3) 2) (mp 4) 3)))), (m0, .inr (5, [.int (nI tw), .int 2, .ref kO, .ref lO, .int (nI tu), .int (nI ak), .int (nI se), .ref sC, .ref sW, .ref sD, .int 15, .ref pG, .int iw9, .int 2, .ref wO, .ref fO, .ref mO, .ref cO, .long sn, .ref th, .int ik, .int (nI kt), .int (nI ku), .int (nI ks), .ref kK, .ref kL, .ref kC, .ref kW, .ref kD, .long hh])), (pG, .inl (cy 1, 26, .inl (fun j => nI (mp j))))] H := hP
                  have hD : va_D A [(kO, .inl (cy 0, 3, .inl (fun j => nI ((va_up mk 0 (kn (mp 0))) j)))), (lO, .inl (cy 0, 3, .inl (upd (upd ml 0 (pk1 (pk1 (pk1 0 (mp 1) 0) (mp 2) 1) (mp 3) 2)) 0 (pk1 (pk1 (pk1 (pk1 0 (mp 1) 0) (mp 2) 1) (mp 3) 2) (mp 4) 3)))), (m0, .inr (5, [.int (nI tw), .int 2, .ref kO, .ref lO, .int (nI tu), .int (nI ak), .int (nI se), .ref sC, .ref sW, .ref sD, .int 15, .ref pG, .int iw9, .int 2, .ref wO, .ref fO, .ref mO, .ref cO, .long sn, .ref th, .int ik, .int (nI kt), .int (nI ku), .int (nI ks), .ref kK, .ref kL, .ref kC, .ref kW, .ref kD, .long hh])), (pG, .inl (cy 1, 26, .inl (fun j => nI (mp j))))] := hD
                  rw [upd_upd ml 0 (pk1 (pk1 (pk1 0 (mp 1) 0) (mp 2) 1) (mp 3) 2) (pk1 (pk1 (pk1 (pk1 0 (mp 1) 0) (mp 2) 1) (mp 3) 2) (mp 4) 3)] at hP hD
                  have hP : va_P D vwCl [(kO, .inl (cy 0, 3, .inl (fun j => nI ((va_up mk 0 (kn (mp 0))) j)))), (lO, .inl (cy 0, 3, .inl (upd ml 0 (pk1 (pk1 (pk1 (pk1 0 (mp 1) 0) (mp 2) 1) (mp 3) 2) (mp 4) 3)))), (m0, .inr (5, [.int (nI tw), .int 2, .ref kO, .ref lO, .int (nI tu), .int (nI ak), .int (nI se), .ref sC, .ref sW, .ref sD, .int 15, .ref pG, .int iw9, .int 2, .ref wO, .ref fO, .ref mO, .ref cO, .long sn, .ref th, .int ik, .int (nI kt), .int (nI ku), .int (nI ks), .ref kK, .ref kL, .ref kC, .ref kW, .ref kD, .long hh])), (pG, .inl (cy 1, 26, .inl (fun j => nI (mp j))))] H := hP
                  have hD : va_D A [(kO, .inl (cy 0, 3, .inl (fun j => nI ((va_up mk 0 (kn (mp 0))) j)))), (lO, .inl (cy 0, 3, .inl (upd ml 0 (pk1 (pk1 (pk1 (pk1 0 (mp 1) 0) (mp 2) 1) (mp 3) 2) (mp 4) 3)))), (m0, .inr (5, [.int (nI tw), .int 2, .ref kO, .ref lO, .int (nI tu), .int (nI ak), .int (nI se), .ref sC, .ref sW, .ref sD, .int 15, .ref pG, .int iw9, .int 2, .ref wO, .ref fO, .ref mO, .ref cO, .long sn, .ref th, .int ik, .int (nI kt), .int (nI ku), .int (nI ks), .ref kK, .ref kL, .ref kC, .ref kW, .ref kD, .long hh])), (pG, .inl (cy 1, 26, .inl (fun j => nI (mp j))))] := hD
                  refine lv_iinc (v := 4) (lv' := [(2, .int 4), (1, .int 0), (0, .ref m0)]) hx hb dX5_tower_95 hl (k := 0) rfl (by decide) (by decide) rfl (fun ls hl => ?_)
                  refine lv_goto (tgt := 60) hx hb dX5_tower_98 (by decide) ?_
                  refine lv_iload_n hx hb dX5_tower_60 rfl (lv_at hl 0 rfl) ?_
                  refine lv_bipush (v := 6) hx hb dX5_tower_61 (by decide) ?_
                  refine lv_icmp_ge (tgt := 101) hx hb dX5_tower_63 (by decide) (fun c_63 => ?_) (fun c_63 => ?_)
                  · exact absurd c_63 (by decide)
                  · refine lv_aload_n hx hb dX5_tower_66 rfl (lv_at hl 2 rfl) ?_
                    refine va_get (D := D) (ci := 5) (v := .ref lO) (C := RX5) (T := TX5) (N := 30) hx hb hts hw_X5 hown hK hP 2 rfl rfl 3 (by decide) f_13 (fun _ h9 => h9) rfl dX5_tower_67 ?_
                    refine lv_iload_n hx hb dX5_tower_70 rfl (lv_at hl 1 rfl) ?_
                    refine lv_dup2_11 hx hb dX5_tower_71 rfl rfl ?_
                    refine va_iald hx hb hK hP 1 0 rfl rfl (vi_c (by decide +kernel)) dX5_tower_72 ?_
                    refine lv_topi (fun y33 ey33 => ?_)
                    obtain rfl : y33 = pk1 (pk1 (pk1 (pk1 0 (mp 1) 0) (mp 2) 1) (mp 3) 2) (mp 4) 3 := ey33.trans (upd_rd _ _ _ (by decide))
                    refine lv_aload_n hx hb dX5_tower_73 rfl (lv_at hl 2 rfl) ?_
                    refine va_get (D := D) (ci := 5) (v := .ref pG) (C := RX5) (T := TX5) (N := 30) hx hb hts hw_X5 hown hK hP 2 rfl rfl 11 (by decide) f_25 (fun _ h9 => h9) rfl dX5_tower_74 ?_
                    refine lv_bipush (v := 8) hx hb dX5_tower_77 (by decide) ?_
                    refine lv_iload_n hx hb dX5_tower_79 rfl (lv_at hl 1 rfl) ?_
                    refine lv_imul hx hb dX5_tower_80 ?_
                    refine lv_topi (fun y34 ey34 => ?_)
                    obtain rfl : y34 = 0 := ey34.trans (by decide)
                    refine lv_iconst (v := 1) hx hb dX5_tower_81 (by decide) ?_
                    refine lv_iadd hx hb dX5_tower_82 ?_
                    refine lv_topi (fun y35 ey35 => ?_)
                    obtain rfl : y35 = 1 := ey35.trans (by decide)
                    refine lv_iload_n hx hb dX5_tower_83 rfl (lv_at hl 0 rfl) ?_
                    refine lv_iadd hx hb dX5_tower_84 ?_
                    refine lv_topi (fun y36 ey36 => ?_)
                    obtain rfl : y36 = 5 := ey36.trans (by decide)
                    refine va_bald hx hb hK hP 3 1 rfl rfl (vi_c (by decide +kernel)) dX5_tower_85 ?_
                    refine lv_topi (fun y37 ey37 => ?_)
                    obtain rfl : y37 = nI (mp 5) := ey37.trans (rfl)
                    refine lv_bipush (v := 97) hx hb dX5_tower_86 (by decide) ?_
                    refine lv_isub hx hb dX5_tower_88 ?_
                    refine lv_iconst (v := 3) hx hb dX5_tower_89 (by decide) ?_
                    refine lv_iload_n hx hb dX5_tower_90 rfl (lv_at hl 0 rfl) ?_
                    refine lv_imul hx hb dX5_tower_91 ?_
                    refine lv_topi (fun y38 ey38 => ?_)
                    obtain rfl : y38 = 12 := ey38.trans (by decide)
                    refine lv_ishl hx hb dX5_tower_92 ?_
                    refine lv_ior hx hb dX5_tower_93 ?_
                    refine lv_topi (fun y39 ey39 => ?_)
                    obtain rfl : y39 = pk1 (pk1 (pk1 (pk1 (pk1 0 (mp 1) 0) (mp 2) 1) (mp 3) 2) (mp 4) 3) (mp 5) 4 := ey39.trans (rfl)
                    refine va_iast hx hb hK hP hD hS 1 0 rfl rfl (vi_c (by decide +kernel)) dX5_tower_94 (fun H locs hP hD hS => ?_)
                    have hP : va_P D vwCl [(kO, .inl (cy 0, 3, .inl (fun j => nI ((va_up mk 0 (kn (mp 0))) j)))), (lO, .inl (cy 0, 3, .inl (upd (upd ml 0 (pk1 (pk1 (pk1 (pk1 0 (mp 1) 0) (mp 2) 1) (mp 3) 2) (mp 4) 3)) 0 (pk1 (pk1 (pk1 (pk1 (pk1 0 (mp 1) 0) (mp 2) 1) (mp 3) 2) (mp 4) 3) (mp 5) 4)))), (m0, .inr (5, [.int (nI tw), .int 2, .ref kO, .ref lO, .int (nI tu), .int (nI ak), .int (nI se), .ref sC, .ref sW, .ref sD, .int 15, .ref pG, .int iw9, .int 2, .ref wO, .ref fO, .ref mO, .ref cO, .long sn, .ref th, .int ik, .int (nI kt), .int (nI ku), .int (nI ks), .ref kK, .ref kL, .ref kC, .ref kW, .ref kD, .long hh])), (pG, .inl (cy 1, 26, .inl (fun j => nI (mp j))))] H := hP
                    have hD : va_D A [(kO, .inl (cy 0, 3, .inl (fun j => nI ((va_up mk 0 (kn (mp 0))) j)))), (lO, .inl (cy 0, 3, .inl (upd (upd ml 0 (pk1 (pk1 (pk1 (pk1 0 (mp 1) 0) (mp 2) 1) (mp 3) 2) (mp 4) 3)) 0 (pk1 (pk1 (pk1 (pk1 (pk1 0 (mp 1) 0) (mp 2) 1) (mp 3) 2) (mp 4) 3) (mp 5) 4)))), (m0, .inr (5, [.int (nI tw), .int 2, .ref kO, .ref lO, .int (nI tu), .int (nI ak), .int (nI se), .ref sC, .ref sW, .ref sD, .int 15, .ref pG, .int iw9, .int 2, .ref wO, .ref fO, .ref mO, .ref cO, .long sn, .ref th, .int ik, .int (nI kt), .int (nI ku), .int (nI ks), .ref kK, .ref kL, .ref kC, .ref kW, .ref kD, .long hh])), (pG, .inl (cy 1, 26, .inl (fun j => nI (mp j))))] := hD
                    rw [upd_upd ml 0 (pk1 (pk1 (pk1 (pk1 0 (mp 1) 0) (mp 2) 1) (mp 3) 2) (mp 4) 3) (pk1 (pk1 (pk1 (pk1 (pk1 0 (mp 1) 0) (mp 2) 1) (mp 3) 2) (mp 4) 3) (mp 5) 4)] at hP hD
                    have hP : va_P D vwCl [(kO, .inl (cy 0, 3, .inl (fun j => nI ((va_up mk 0 (kn (mp 0))) j)))), (lO, .inl (cy 0, 3, .inl (upd ml 0 (pk1 (pk1 (pk1 (pk1 (pk1 0 (mp 1) 0) (mp 2) 1) (mp 3) 2) (mp 4) 3) (mp 5) 4)))), (m0, .inr (5, [.int (nI tw), .int 2, .ref kO, .ref lO, .int (nI tu), .int (nI ak), .int (nI se), .ref sC, .ref sW, .ref sD, .int 15, .ref pG, .int iw9, .int 2, .ref wO, .ref fO, .ref mO, .ref cO, .long sn, .ref th, .int ik, .int (nI kt), .int (nI ku), .int (nI ks), .ref kK, .ref kL, .ref kC, .ref kW, .ref kD, .long hh])), (pG, .inl (cy 1, 26, .inl (fun j => nI (mp j))))] H := hP
                    have hD : va_D A [(kO, .inl (cy 0, 3, .inl (fun j => nI ((va_up mk 0 (kn (mp 0))) j)))), (lO, .inl (cy 0, 3, .inl (upd ml 0 (pk1 (pk1 (pk1 (pk1 (pk1 0 (mp 1) 0) (mp 2) 1) (mp 3) 2) (mp 4) 3) (mp 5) 4)))), (m0, .inr (5, [.int (nI tw), .int 2, .ref kO, .ref lO, .int (nI tu), .int (nI ak), .int (nI se), .ref sC, .ref sW, .ref sD, .int 15, .ref pG, .int iw9, .int 2, .ref wO, .ref fO, .ref mO, .ref cO, .long sn, .ref th, .int ik, .int (nI kt), .int (nI ku), .int (nI ks), .ref kK, .ref kL, .ref kC, .ref kW, .ref kD, .long hh])), (pG, .inl (cy 1, 26, .inl (fun j => nI (mp j))))] := hD
                    refine lv_iinc (v := 5) (lv' := [(2, .int 5), (1, .int 0), (0, .ref m0)]) hx hb dX5_tower_95 hl (k := 0) rfl (by decide) (by decide) rfl (fun ls hl => ?_)
                    refine lv_goto (tgt := 60) hx hb dX5_tower_98 (by decide) ?_
                    refine lv_iload_n hx hb dX5_tower_60 rfl (lv_at hl 0 rfl) ?_
                    refine lv_bipush (v := 6) hx hb dX5_tower_61 (by decide) ?_
                    refine lv_icmp_ge (tgt := 101) hx hb dX5_tower_63 (by decide) (fun c_63 => ?_) (fun c_63 => ?_)
                    · exact absurd c_63 (by decide)
                    · refine lv_aload_n hx hb dX5_tower_66 rfl (lv_at hl 2 rfl) ?_
                      refine va_get (D := D) (ci := 5) (v := .ref lO) (C := RX5) (T := TX5) (N := 30) hx hb hts hw_X5 hown hK hP 2 rfl rfl 3 (by decide) f_13 (fun _ h9 => h9) rfl dX5_tower_67 ?_
                      refine lv_iload_n hx hb dX5_tower_70 rfl (lv_at hl 1 rfl) ?_
                      refine lv_dup2_11 hx hb dX5_tower_71 rfl rfl ?_
                      refine va_iald hx hb hK hP 1 0 rfl rfl (vi_c (by decide +kernel)) dX5_tower_72 ?_
                      refine lv_topi (fun y40 ey40 => ?_)
                      obtain rfl : y40 = pk1 (pk1 (pk1 (pk1 (pk1 0 (mp 1) 0) (mp 2) 1) (mp 3) 2) (mp 4) 3) (mp 5) 4 := ey40.trans (upd_rd _ _ _ (by decide))
                      refine lv_aload_n hx hb dX5_tower_73 rfl (lv_at hl 2 rfl) ?_
                      refine va_get (D := D) (ci := 5) (v := .ref pG) (C := RX5) (T := TX5) (N := 30) hx hb hts hw_X5 hown hK hP 2 rfl rfl 11 (by decide) f_25 (fun _ h9 => h9) rfl dX5_tower_74 ?_
                      refine lv_bipush (v := 8) hx hb dX5_tower_77 (by decide) ?_
                      refine lv_iload_n hx hb dX5_tower_79 rfl (lv_at hl 1 rfl) ?_
                      refine lv_imul hx hb dX5_tower_80 ?_
                      refine lv_topi (fun y41 ey41 => ?_)
                      obtain rfl : y41 = 0 := ey41.trans (by decide)
                      refine lv_iconst (v := 1) hx hb dX5_tower_81 (by decide) ?_
                      refine lv_iadd hx hb dX5_tower_82 ?_
                      refine lv_topi (fun y42 ey42 => ?_)
                      obtain rfl : y42 = 1 := ey42.trans (by decide)
                      refine lv_iload_n hx hb dX5_tower_83 rfl (lv_at hl 0 rfl) ?_
                      refine lv_iadd hx hb dX5_tower_84 ?_
                      refine lv_topi (fun y43 ey43 => ?_)
                      obtain rfl : y43 = 6 := ey43.trans (by decide)
                      refine va_bald hx hb hK hP 3 1 rfl rfl (vi_c (by decide +kernel)) dX5_tower_85 ?_
                      refine lv_topi (fun y44 ey44 => ?_)
                      obtain rfl : y44 = nI (mp 6) := ey44.trans (rfl)
                      refine lv_bipush (v := 97) hx hb dX5_tower_86 (by decide) ?_
                      refine lv_isub hx hb dX5_tower_88 ?_
                      refine lv_iconst (v := 3) hx hb dX5_tower_89 (by decide) ?_
                      refine lv_iload_n hx hb dX5_tower_90 rfl (lv_at hl 0 rfl) ?_
                      refine lv_imul hx hb dX5_tower_91 ?_
                      refine lv_topi (fun y45 ey45 => ?_)
                      obtain rfl : y45 = 15 := ey45.trans (by decide)
                      refine lv_ishl hx hb dX5_tower_92 ?_
                      refine lv_ior hx hb dX5_tower_93 ?_
                      refine lv_topi (fun y46 ey46 => ?_)
                      obtain rfl : y46 = pk1 (pk1 (pk1 (pk1 (pk1 (pk1 0 (mp 1) 0) (mp 2) 1) (mp 3) 2) (mp 4) 3) (mp 5) 4) (mp 6) 5 := ey46.trans (rfl)
                      refine va_iast hx hb hK hP hD hS 1 0 rfl rfl (vi_c (by decide +kernel)) dX5_tower_94 (fun H locs hP hD hS => ?_)
                      have hP : va_P D vwCl [(kO, .inl (cy 0, 3, .inl (fun j => nI ((va_up mk 0 (kn (mp 0))) j)))), (lO, .inl (cy 0, 3, .inl (upd (upd ml 0 (pk1 (pk1 (pk1 (pk1 (pk1 0 (mp 1) 0) (mp 2) 1) (mp 3) 2) (mp 4) 3) (mp 5) 4)) 0 (pk1 (pk1 (pk1 (pk1 (pk1 (pk1 0 (mp 1) 0) (mp 2) 1) (mp 3) 2) (mp 4) 3) (mp 5) 4) (mp 6) 5)))), (m0, .inr (5, [.int (nI tw), .int 2, .ref kO, .ref lO, .int (nI tu), .int (nI ak), .int (nI se), .ref sC, .ref sW, .ref sD, .int 15, .ref pG, .int iw9, .int 2, .ref wO, .ref fO, .ref mO, .ref cO, .long sn, .ref th, .int ik, .int (nI kt), .int (nI ku), .int (nI ks), .ref kK, .ref kL, .ref kC, .ref kW, .ref kD, .long hh])), (pG, .inl (cy 1, 26, .inl (fun j => nI (mp j))))] H := hP
                      have hD : va_D A [(kO, .inl (cy 0, 3, .inl (fun j => nI ((va_up mk 0 (kn (mp 0))) j)))), (lO, .inl (cy 0, 3, .inl (upd (upd ml 0 (pk1 (pk1 (pk1 (pk1 (pk1 0 (mp 1) 0) (mp 2) 1) (mp 3) 2) (mp 4) 3) (mp 5) 4)) 0 (pk1 (pk1 (pk1 (pk1 (pk1 (pk1 0 (mp 1) 0) (mp 2) 1) (mp 3) 2) (mp 4) 3) (mp 5) 4) (mp 6) 5)))), (m0, .inr (5, [.int (nI tw), .int 2, .ref kO, .ref lO, .int (nI tu), .int (nI ak), .int (nI se), .ref sC, .ref sW, .ref sD, .int 15, .ref pG, .int iw9, .int 2, .ref wO, .ref fO, .ref mO, .ref cO, .long sn, .ref th, .int ik, .int (nI kt), .int (nI ku), .int (nI ks), .ref kK, .ref kL, .ref kC, .ref kW, .ref kD, .long hh])), (pG, .inl (cy 1, 26, .inl (fun j => nI (mp j))))] := hD
                      rw [upd_upd ml 0 (pk1 (pk1 (pk1 (pk1 (pk1 0 (mp 1) 0) (mp 2) 1) (mp 3) 2) (mp 4) 3) (mp 5) 4) (pk1 (pk1 (pk1 (pk1 (pk1 (pk1 0 (mp 1) 0) (mp 2) 1) (mp 3) 2) (mp 4) 3) (mp 5) 4) (mp 6) 5)] at hP hD
                      have hP : va_P D vwCl [(kO, .inl (cy 0, 3, .inl (fun j => nI ((va_up mk 0 (kn (mp 0))) j)))), (lO, .inl (cy 0, 3, .inl (upd ml 0 (pk1 (pk1 (pk1 (pk1 (pk1 (pk1 0 (mp 1) 0) (mp 2) 1) (mp 3) 2) (mp 4) 3) (mp 5) 4) (mp 6) 5)))), (m0, .inr (5, [.int (nI tw), .int 2, .ref kO, .ref lO, .int (nI tu), .int (nI ak), .int (nI se), .ref sC, .ref sW, .ref sD, .int 15, .ref pG, .int iw9, .int 2, .ref wO, .ref fO, .ref mO, .ref cO, .long sn, .ref th, .int ik, .int (nI kt), .int (nI ku), .int (nI ks), .ref kK, .ref kL, .ref kC, .ref kW, .ref kD, .long hh])), (pG, .inl (cy 1, 26, .inl (fun j => nI (mp j))))] H := hP
                      have hD : va_D A [(kO, .inl (cy 0, 3, .inl (fun j => nI ((va_up mk 0 (kn (mp 0))) j)))), (lO, .inl (cy 0, 3, .inl (upd ml 0 (pk1 (pk1 (pk1 (pk1 (pk1 (pk1 0 (mp 1) 0) (mp 2) 1) (mp 3) 2) (mp 4) 3) (mp 5) 4) (mp 6) 5)))), (m0, .inr (5, [.int (nI tw), .int 2, .ref kO, .ref lO, .int (nI tu), .int (nI ak), .int (nI se), .ref sC, .ref sW, .ref sD, .int 15, .ref pG, .int iw9, .int 2, .ref wO, .ref fO, .ref mO, .ref cO, .long sn, .ref th, .int ik, .int (nI kt), .int (nI ku), .int (nI ks), .ref kK, .ref kL, .ref kC, .ref kW, .ref kD, .long hh])), (pG, .inl (cy 1, 26, .inl (fun j => nI (mp j))))] := hD
                      refine lv_iinc (v := 6) (lv' := [(2, .int 6), (1, .int 0), (0, .ref m0)]) hx hb dX5_tower_95 hl (k := 0) rfl (by decide) (by decide) rfl (fun ls hl => ?_)
                      refine lv_goto (tgt := 60) hx hb dX5_tower_98 (by decide) ?_
                      refine lv_iload_n hx hb dX5_tower_60 rfl (lv_at hl 0 rfl) ?_
                      refine lv_bipush (v := 6) hx hb dX5_tower_61 (by decide) ?_
                      refine lv_icmp_ge (tgt := 101) hx hb dX5_tower_63 (by decide) (fun c_63 => ?_) (fun c_63 => ?_)
                      · refine lv_iinc (v := 1) (lv' := [(1, .int 1), (2, .int 6), (0, .ref m0)]) hx hb dX5_tower_101 hl (k := 1) rfl (by decide) (by decide) rfl (fun ls hl => ?_)
                        refine lv_goto (tgt := 25) hx hb dX5_tower_104 (by decide) ?_
                        refine lv_iload_n hx hb dX5_tower_25 rfl (lv_at hl 0 rfl) ?_
                        refine lv_aload_n hx hb dX5_tower_26 rfl (lv_at hl 2 rfl) ?_
                        refine va_get (D := D) (ci := 5) (v := .int 2) (C := RX5) (T := TX5) (N := 30) hx hb hts hw_X5 hown hK hP 2 rfl rfl 1 (by decide) f_88 (fun _ h9 => h9) rfl dX5_tower_27 ?_
                        refine lv_icmp_ge (tgt := 107) hx hb dX5_tower_30 (by decide) (fun c_30 => ?_) (fun c_30 => ?_)
                        · exact absurd c_30 (by decide)
                        · refine lv_aload_n hx hb dX5_tower_33 rfl (lv_at hl 2 rfl) ?_
                          refine va_get (D := D) (ci := 5) (v := .ref kO) (C := RX5) (T := TX5) (N := 30) hx hb hts hw_X5 hown hK hP 2 rfl rfl 2 (by decide) f_7 (fun _ h9 => h9) rfl dX5_tower_34 ?_
                          refine lv_iload_n hx hb dX5_tower_37 rfl (lv_at hl 0 rfl) ?_
                          refine lv_aload_n hx hb dX5_tower_38 rfl (lv_at hl 2 rfl) ?_
                          refine va_get (D := D) (ci := 5) (v := .ref pG) (C := RX5) (T := TX5) (N := 30) hx hb hts hw_X5 hown hK hP 2 rfl rfl 11 (by decide) f_25 (fun _ h9 => h9) rfl dX5_tower_39 ?_
                          refine lv_bipush (v := 8) hx hb dX5_tower_42 (by decide) ?_
                          refine lv_iload_n hx hb dX5_tower_44 rfl (lv_at hl 0 rfl) ?_
                          refine lv_imul hx hb dX5_tower_45 ?_
                          refine lv_topi (fun y47 ey47 => ?_)
                          obtain rfl : y47 = 8 := ey47.trans (by decide)
                          refine va_bald hx hb hK hP 3 1 rfl rfl (vi_c (by decide +kernel)) dX5_tower_46 ?_
                          refine lv_topi (fun y48 ey48 => ?_)
                          obtain rfl : y48 = nI (mp 8) := ey48.trans (rfl)
                          refine kc_i (wc := []) (wr := [(kO, .inl (cy 0, 3, .inl (fun j => nI ((va_up mk 0 (kn (mp 0))) j)))), (lO, .inl (cy 0, 3, .inl (upd ml 0 (pk1 (pk1 (pk1 (pk1 (pk1 (pk1 0 (mp 1) 0) (mp 2) 1) (mp 3) 2) (mp 4) 3) (mp 5) 4) (mp 6) 5)))), (m0, .inr (5, [.int (nI tw), .int 2, .ref kO, .ref lO, .int (nI tu), .int (nI ak), .int (nI se), .ref sC, .ref sW, .ref sD, .int 15, .ref pG, .int iw9, .int 2, .ref wO, .ref fO, .ref mO, .ref cO, .long sn, .ref th, .int ik, .int (nI kt), .int (nI ku), .int (nI ks), .ref kK, .ref kL, .ref kC, .ref kW, .ref kD, .long hh])), (pG, .inl (cy 1, 26, .inl (fun j => nI (mp j))))]) (va_runS (As := [.int (nI (mp 8))]) (rest := [.int 1, .ref kO]) ⟨hx, hb, hml, hown, hts⟩ (c_X5_kindBy l D cy H.size (nI (mp 8)) ) (va_cwS 1 hts gX5_tower_X5_kindBy rfl rfl rfl hdc_X5_kindBy.2 ⟨Nat.le_of_ble_eq_true rfl, Nat.le_of_ble_eq_true rfl⟩) (cpre_S (wc := []) hX hP hD hS hA [] (by decide +kernel) rfl) rfl rfl hl.1 rfl (lv_room (Nat.le_of_ble_eq_true rfl)) dX5_tower_47 ⟨Nat.le_of_ble_eq_true rfl, Nat.le_of_ble_eq_true rfl⟩) hP hD hS hA [] [0, 1, 2, 3] rfl rfl (by decide +kernel) (by decide +kernel) (fun rk u49 H locs hw hP hD hS => ?_)
                          obtain ⟨hu, hrk⟩ := hw
                          subst hu
                          have hP : va_P D vwCl [(kO, .inl (cy 0, 3, .inl (fun j => nI ((va_up mk 0 (kn (mp 0))) j)))), (lO, .inl (cy 0, 3, .inl (upd ml 0 (pk1 (pk1 (pk1 (pk1 (pk1 (pk1 0 (mp 1) 0) (mp 2) 1) (mp 3) 2) (mp 4) 3) (mp 5) 4) (mp 6) 5)))), (m0, .inr (5, [.int (nI tw), .int 2, .ref kO, .ref lO, .int (nI tu), .int (nI ak), .int (nI se), .ref sC, .ref sW, .ref sD, .int 15, .ref pG, .int iw9, .int 2, .ref wO, .ref fO, .ref mO, .ref cO, .long sn, .ref th, .int ik, .int (nI kt), .int (nI ku), .int (nI ks), .ref kK, .ref kL, .ref kC, .ref kW, .ref kD, .long hh])), (pG, .inl (cy 1, 26, .inl (fun j => nI (mp j))))] H := hP
                          have hD : va_D A [(kO, .inl (cy 0, 3, .inl (fun j => nI ((va_up mk 0 (kn (mp 0))) j)))), (lO, .inl (cy 0, 3, .inl (upd ml 0 (pk1 (pk1 (pk1 (pk1 (pk1 (pk1 0 (mp 1) 0) (mp 2) 1) (mp 3) 2) (mp 4) 3) (mp 5) 4) (mp 6) 5)))), (m0, .inr (5, [.int (nI tw), .int 2, .ref kO, .ref lO, .int (nI tu), .int (nI ak), .int (nI se), .ref sC, .ref sW, .ref sD, .int 15, .ref pG, .int iw9, .int 2, .ref wO, .ref fO, .ref mO, .ref cO, .long sn, .ref th, .int ik, .int (nI kt), .int (nI ku), .int (nI ks), .ref kK, .ref kL, .ref kC, .ref kW, .ref kD, .long hh])), (pG, .inl (cy 1, 26, .inl (fun j => nI (mp j))))] := hD
                          have hrk := hrk.trans (kb_kn _ (hmp _) ((ft_k (hmp 8) (by decide) (by decide)).mp (hall 8 (by decide))))
                          subst hrk
                          refine va_iast hx hb hK hP hD hS 0 0 rfl rfl (vi_c (by decide +kernel)) dX5_tower_50 (fun H locs hP hD hS => ?_)
                          have hP : va_P D vwCl [(kO, .inl (cy 0, 3, .inl (upd (fun j => nI ((va_up mk 0 (kn (mp 0))) j)) 1 (nI (kn (mp 8)))))), (lO, .inl (cy 0, 3, .inl (upd ml 0 (pk1 (pk1 (pk1 (pk1 (pk1 (pk1 0 (mp 1) 0) (mp 2) 1) (mp 3) 2) (mp 4) 3) (mp 5) 4) (mp 6) 5)))), (m0, .inr (5, [.int (nI tw), .int 2, .ref kO, .ref lO, .int (nI tu), .int (nI ak), .int (nI se), .ref sC, .ref sW, .ref sD, .int 15, .ref pG, .int iw9, .int 2, .ref wO, .ref fO, .ref mO, .ref cO, .long sn, .ref th, .int ik, .int (nI kt), .int (nI ku), .int (nI ks), .ref kK, .ref kL, .ref kC, .ref kW, .ref kD, .long hh])), (pG, .inl (cy 1, 26, .inl (fun j => nI (mp j))))] H := hP
                          have hD : va_D A [(kO, .inl (cy 0, 3, .inl (upd (fun j => nI ((va_up mk 0 (kn (mp 0))) j)) 1 (nI (kn (mp 8)))))), (lO, .inl (cy 0, 3, .inl (upd ml 0 (pk1 (pk1 (pk1 (pk1 (pk1 (pk1 0 (mp 1) 0) (mp 2) 1) (mp 3) 2) (mp 4) 3) (mp 5) 4) (mp 6) 5)))), (m0, .inr (5, [.int (nI tw), .int 2, .ref kO, .ref lO, .int (nI tu), .int (nI ak), .int (nI se), .ref sC, .ref sW, .ref sD, .int 15, .ref pG, .int iw9, .int 2, .ref wO, .ref fO, .ref mO, .ref cO, .long sn, .ref th, .int ik, .int (nI kt), .int (nI ku), .int (nI ks), .ref kK, .ref kL, .ref kC, .ref kW, .ref kD, .long hh])), (pG, .inl (cy 1, 26, .inl (fun j => nI (mp j))))] := hD
                          rw [updN (va_up mk 0 (kn (mp 0))) 1 (kn (mp 8))] at hP hD
                          have hP : va_P D vwCl [(kO, .inl (cy 0, 3, .inl (fun j => nI ((va_up (va_up mk 0 (kn (mp 0))) 1 (kn (mp 8))) j)))), (lO, .inl (cy 0, 3, .inl (upd ml 0 (pk1 (pk1 (pk1 (pk1 (pk1 (pk1 0 (mp 1) 0) (mp 2) 1) (mp 3) 2) (mp 4) 3) (mp 5) 4) (mp 6) 5)))), (m0, .inr (5, [.int (nI tw), .int 2, .ref kO, .ref lO, .int (nI tu), .int (nI ak), .int (nI se), .ref sC, .ref sW, .ref sD, .int 15, .ref pG, .int iw9, .int 2, .ref wO, .ref fO, .ref mO, .ref cO, .long sn, .ref th, .int ik, .int (nI kt), .int (nI ku), .int (nI ks), .ref kK, .ref kL, .ref kC, .ref kW, .ref kD, .long hh])), (pG, .inl (cy 1, 26, .inl (fun j => nI (mp j))))] H := hP
                          have hD : va_D A [(kO, .inl (cy 0, 3, .inl (fun j => nI ((va_up (va_up mk 0 (kn (mp 0))) 1 (kn (mp 8))) j)))), (lO, .inl (cy 0, 3, .inl (upd ml 0 (pk1 (pk1 (pk1 (pk1 (pk1 (pk1 0 (mp 1) 0) (mp 2) 1) (mp 3) 2) (mp 4) 3) (mp 5) 4) (mp 6) 5)))), (m0, .inr (5, [.int (nI tw), .int 2, .ref kO, .ref lO, .int (nI tu), .int (nI ak), .int (nI se), .ref sC, .ref sW, .ref sD, .int 15, .ref pG, .int iw9, .int 2, .ref wO, .ref fO, .ref mO, .ref cO, .long sn, .ref th, .int ik, .int (nI kt), .int (nI ku), .int (nI ks), .ref kK, .ref kL, .ref kC, .ref kW, .ref kD, .long hh])), (pG, .inl (cy 1, 26, .inl (fun j => nI (mp j))))] := hD
                          refine lv_aload_n hx hb dX5_tower_51 rfl (lv_at hl 2 rfl) ?_
                          refine va_get (D := D) (ci := 5) (v := .ref lO) (C := RX5) (T := TX5) (N := 30) hx hb hts hw_X5 hown hK hP 2 rfl rfl 3 (by decide) f_13 (fun _ h9 => h9) rfl dX5_tower_52 ?_
                          refine lv_iload_n hx hb dX5_tower_55 rfl (lv_at hl 0 rfl) ?_
                          refine lv_iconst (v := 0) hx hb dX5_tower_56 (by decide) ?_
                          refine va_iast hx hb hK hP hD hS 1 0 rfl rfl (vi_c (by decide +kernel)) dX5_tower_57 (fun H locs hP hD hS => ?_)
                          have hP : va_P D vwCl [(kO, .inl (cy 0, 3, .inl (fun j => nI ((va_up (va_up mk 0 (kn (mp 0))) 1 (kn (mp 8))) j)))), (lO, .inl (cy 0, 3, .inl (upd (upd ml 0 (pk1 (pk1 (pk1 (pk1 (pk1 (pk1 0 (mp 1) 0) (mp 2) 1) (mp 3) 2) (mp 4) 3) (mp 5) 4) (mp 6) 5)) 1 0))), (m0, .inr (5, [.int (nI tw), .int 2, .ref kO, .ref lO, .int (nI tu), .int (nI ak), .int (nI se), .ref sC, .ref sW, .ref sD, .int 15, .ref pG, .int iw9, .int 2, .ref wO, .ref fO, .ref mO, .ref cO, .long sn, .ref th, .int ik, .int (nI kt), .int (nI ku), .int (nI ks), .ref kK, .ref kL, .ref kC, .ref kW, .ref kD, .long hh])), (pG, .inl (cy 1, 26, .inl (fun j => nI (mp j))))] H := hP
                          have hD : va_D A [(kO, .inl (cy 0, 3, .inl (fun j => nI ((va_up (va_up mk 0 (kn (mp 0))) 1 (kn (mp 8))) j)))), (lO, .inl (cy 0, 3, .inl (upd (upd ml 0 (pk1 (pk1 (pk1 (pk1 (pk1 (pk1 0 (mp 1) 0) (mp 2) 1) (mp 3) 2) (mp 4) 3) (mp 5) 4) (mp 6) 5)) 1 0))), (m0, .inr (5, [.int (nI tw), .int 2, .ref kO, .ref lO, .int (nI tu), .int (nI ak), .int (nI se), .ref sC, .ref sW, .ref sD, .int 15, .ref pG, .int iw9, .int 2, .ref wO, .ref fO, .ref mO, .ref cO, .long sn, .ref th, .int ik, .int (nI kt), .int (nI ku), .int (nI ks), .ref kK, .ref kL, .ref kC, .ref kW, .ref kD, .long hh])), (pG, .inl (cy 1, 26, .inl (fun j => nI (mp j))))] := hD
                          refine lv_iconst (v := 0) hx hb dX5_tower_58 (by decide) ?_
                          refine lv_istore_n (lv' := [(2, .int 0), (1, .int 1), (0, .ref m0)]) hx hb dX5_tower_59 rfl hl (by decide) rfl (fun ls hl => ?_)
                          refine lv_iload_n hx hb dX5_tower_60 rfl (lv_at hl 0 rfl) ?_
                          refine lv_bipush (v := 6) hx hb dX5_tower_61 (by decide) ?_
                          refine lv_icmp_ge (tgt := 101) hx hb dX5_tower_63 (by decide) (fun c_63 => ?_) (fun c_63 => ?_)
                          · exact absurd c_63 (by decide)
                          · refine lv_aload_n hx hb dX5_tower_66 rfl (lv_at hl 2 rfl) ?_
                            refine va_get (D := D) (ci := 5) (v := .ref lO) (C := RX5) (T := TX5) (N := 30) hx hb hts hw_X5 hown hK hP 2 rfl rfl 3 (by decide) f_13 (fun _ h9 => h9) rfl dX5_tower_67 ?_
                            refine lv_iload_n hx hb dX5_tower_70 rfl (lv_at hl 1 rfl) ?_
                            refine lv_dup2_11 hx hb dX5_tower_71 rfl rfl ?_
                            refine va_iald hx hb hK hP 1 0 rfl rfl (vi_c (by decide +kernel)) dX5_tower_72 ?_
                            refine lv_topi (fun y50 ey50 => ?_)
                            obtain rfl : y50 = 0 := ey50.trans (upd_rd _ _ _ (by decide))
                            refine lv_aload_n hx hb dX5_tower_73 rfl (lv_at hl 2 rfl) ?_
                            refine va_get (D := D) (ci := 5) (v := .ref pG) (C := RX5) (T := TX5) (N := 30) hx hb hts hw_X5 hown hK hP 2 rfl rfl 11 (by decide) f_25 (fun _ h9 => h9) rfl dX5_tower_74 ?_
                            refine lv_bipush (v := 8) hx hb dX5_tower_77 (by decide) ?_
                            refine lv_iload_n hx hb dX5_tower_79 rfl (lv_at hl 1 rfl) ?_
                            refine lv_imul hx hb dX5_tower_80 ?_
                            refine lv_topi (fun y51 ey51 => ?_)
                            obtain rfl : y51 = 8 := ey51.trans (by decide)
                            refine lv_iconst (v := 1) hx hb dX5_tower_81 (by decide) ?_
                            refine lv_iadd hx hb dX5_tower_82 ?_
                            refine lv_topi (fun y52 ey52 => ?_)
                            obtain rfl : y52 = 9 := ey52.trans (by decide)
                            refine lv_iload_n hx hb dX5_tower_83 rfl (lv_at hl 0 rfl) ?_
                            refine lv_iadd hx hb dX5_tower_84 ?_
                            refine lv_topi (fun y53 ey53 => ?_)
                            obtain rfl : y53 = 9 := ey53.trans (by decide)
                            refine va_bald hx hb hK hP 3 1 rfl rfl (vi_c (by decide +kernel)) dX5_tower_85 ?_
                            refine lv_topi (fun y54 ey54 => ?_)
                            obtain rfl : y54 = nI (mp 9) := ey54.trans (rfl)
                            refine lv_bipush (v := 97) hx hb dX5_tower_86 (by decide) ?_
                            refine lv_isub hx hb dX5_tower_88 ?_
                            refine lv_iconst (v := 3) hx hb dX5_tower_89 (by decide) ?_
                            refine lv_iload_n hx hb dX5_tower_90 rfl (lv_at hl 0 rfl) ?_
                            refine lv_imul hx hb dX5_tower_91 ?_
                            refine lv_topi (fun y55 ey55 => ?_)
                            obtain rfl : y55 = 0 := ey55.trans (by decide)
                            refine lv_ishl hx hb dX5_tower_92 ?_
                            refine lv_ior hx hb dX5_tower_93 ?_
                            refine lv_topi (fun y56 ey56 => ?_)
                            obtain rfl : y56 = pk1 0 (mp 9) 0 := ey56.trans (rfl)
                            refine va_iast hx hb hK hP hD hS 1 0 rfl rfl (vi_c (by decide +kernel)) dX5_tower_94 (fun H locs hP hD hS => ?_)
                            have hP : va_P D vwCl [(kO, .inl (cy 0, 3, .inl (fun j => nI ((va_up (va_up mk 0 (kn (mp 0))) 1 (kn (mp 8))) j)))), (lO, .inl (cy 0, 3, .inl (upd (upd (upd ml 0 (pk1 (pk1 (pk1 (pk1 (pk1 (pk1 0 (mp 1) 0) (mp 2) 1) (mp 3) 2) (mp 4) 3) (mp 5) 4) (mp 6) 5)) 1 0) 1 (pk1 0 (mp 9) 0)))), (m0, .inr (5, [.int (nI tw), .int 2, .ref kO, .ref lO, .int (nI tu), .int (nI ak), .int (nI se), .ref sC, .ref sW, .ref sD, .int 15, .ref pG, .int iw9, .int 2, .ref wO, .ref fO, .ref mO, .ref cO, .long sn, .ref th, .int ik, .int (nI kt), .int (nI ku), .int (nI ks), .ref kK, .ref kL, .ref kC, .ref kW, .ref kD, .long hh])), (pG, .inl (cy 1, 26, .inl (fun j => nI (mp j))))] H := hP
                            have hD : va_D A [(kO, .inl (cy 0, 3, .inl (fun j => nI ((va_up (va_up mk 0 (kn (mp 0))) 1 (kn (mp 8))) j)))), (lO, .inl (cy 0, 3, .inl (upd (upd (upd ml 0 (pk1 (pk1 (pk1 (pk1 (pk1 (pk1 0 (mp 1) 0) (mp 2) 1) (mp 3) 2) (mp 4) 3) (mp 5) 4) (mp 6) 5)) 1 0) 1 (pk1 0 (mp 9) 0)))), (m0, .inr (5, [.int (nI tw), .int 2, .ref kO, .ref lO, .int (nI tu), .int (nI ak), .int (nI se), .ref sC, .ref sW, .ref sD, .int 15, .ref pG, .int iw9, .int 2, .ref wO, .ref fO, .ref mO, .ref cO, .long sn, .ref th, .int ik, .int (nI kt), .int (nI ku), .int (nI ks), .ref kK, .ref kL, .ref kC, .ref kW, .ref kD, .long hh])), (pG, .inl (cy 1, 26, .inl (fun j => nI (mp j))))] := hD
                            rw [upd_upd (upd ml 0 (pk1 (pk1 (pk1 (pk1 (pk1 (pk1 0 (mp 1) 0) (mp 2) 1) (mp 3) 2) (mp 4) 3) (mp 5) 4) (mp 6) 5)) 1 0 (pk1 0 (mp 9) 0)] at hP hD
                            have hP : va_P D vwCl [(kO, .inl (cy 0, 3, .inl (fun j => nI ((va_up (va_up mk 0 (kn (mp 0))) 1 (kn (mp 8))) j)))), (lO, .inl (cy 0, 3, .inl (upd (upd ml 0 (pk1 (pk1 (pk1 (pk1 (pk1 (pk1 0 (mp 1) 0) (mp 2) 1) (mp 3) 2) (mp 4) 3) (mp 5) 4) (mp 6) 5)) 1 (pk1 0 (mp 9) 0)))), (m0, .inr (5, [.int (nI tw), .int 2, .ref kO, .ref lO, .int (nI tu), .int (nI ak), .int (nI se), .ref sC, .ref sW, .ref sD, .int 15, .ref pG, .int iw9, .int 2, .ref wO, .ref fO, .ref mO, .ref cO, .long sn, .ref th, .int ik, .int (nI kt), .int (nI ku), .int (nI ks), .ref kK, .ref kL, .ref kC, .ref kW, .ref kD, .long hh])), (pG, .inl (cy 1, 26, .inl (fun j => nI (mp j))))] H := hP
                            have hD : va_D A [(kO, .inl (cy 0, 3, .inl (fun j => nI ((va_up (va_up mk 0 (kn (mp 0))) 1 (kn (mp 8))) j)))), (lO, .inl (cy 0, 3, .inl (upd (upd ml 0 (pk1 (pk1 (pk1 (pk1 (pk1 (pk1 0 (mp 1) 0) (mp 2) 1) (mp 3) 2) (mp 4) 3) (mp 5) 4) (mp 6) 5)) 1 (pk1 0 (mp 9) 0)))), (m0, .inr (5, [.int (nI tw), .int 2, .ref kO, .ref lO, .int (nI tu), .int (nI ak), .int (nI se), .ref sC, .ref sW, .ref sD, .int 15, .ref pG, .int iw9, .int 2, .ref wO, .ref fO, .ref mO, .ref cO, .long sn, .ref th, .int ik, .int (nI kt), .int (nI ku), .int (nI ks), .ref kK, .ref kL, .ref kC, .ref kW, .ref kD, .long hh])), (pG, .inl (cy 1, 26, .inl (fun j => nI (mp j))))] := hD
                            refine lv_iinc (v := 1) (lv' := [(2, .int 1), (1, .int 1), (0, .ref m0)]) hx hb dX5_tower_95 hl (k := 0) rfl (by decide) (by decide) rfl (fun ls hl => ?_)
                            refine lv_goto (tgt := 60) hx hb dX5_tower_98 (by decide) ?_
                            refine lv_iload_n hx hb dX5_tower_60 rfl (lv_at hl 0 rfl) ?_
                            refine lv_bipush (v := 6) hx hb dX5_tower_61 (by decide) ?_
                            refine lv_icmp_ge (tgt := 101) hx hb dX5_tower_63 (by decide) (fun c_63 => ?_) (fun c_63 => ?_)
                            · exact absurd c_63 (by decide)
                            · refine lv_aload_n hx hb dX5_tower_66 rfl (lv_at hl 2 rfl) ?_
                              refine va_get (D := D) (ci := 5) (v := .ref lO) (C := RX5) (T := TX5) (N := 30) hx hb hts hw_X5 hown hK hP 2 rfl rfl 3 (by decide) f_13 (fun _ h9 => h9) rfl dX5_tower_67 ?_
                              refine lv_iload_n hx hb dX5_tower_70 rfl (lv_at hl 1 rfl) ?_
                              refine lv_dup2_11 hx hb dX5_tower_71 rfl rfl ?_
                              refine va_iald hx hb hK hP 1 0 rfl rfl (vi_c (by decide +kernel)) dX5_tower_72 ?_
                              refine lv_topi (fun y57 ey57 => ?_)
                              obtain rfl : y57 = pk1 0 (mp 9) 0 := ey57.trans (upd_rd _ _ _ (by decide))
                              refine lv_aload_n hx hb dX5_tower_73 rfl (lv_at hl 2 rfl) ?_
                              refine va_get (D := D) (ci := 5) (v := .ref pG) (C := RX5) (T := TX5) (N := 30) hx hb hts hw_X5 hown hK hP 2 rfl rfl 11 (by decide) f_25 (fun _ h9 => h9) rfl dX5_tower_74 ?_
                              refine lv_bipush (v := 8) hx hb dX5_tower_77 (by decide) ?_
                              refine lv_iload_n hx hb dX5_tower_79 rfl (lv_at hl 1 rfl) ?_
                              refine lv_imul hx hb dX5_tower_80 ?_
                              refine lv_topi (fun y58 ey58 => ?_)
                              obtain rfl : y58 = 8 := ey58.trans (by decide)
                              refine lv_iconst (v := 1) hx hb dX5_tower_81 (by decide) ?_
                              refine lv_iadd hx hb dX5_tower_82 ?_
                              refine lv_topi (fun y59 ey59 => ?_)
                              obtain rfl : y59 = 9 := ey59.trans (by decide)
                              refine lv_iload_n hx hb dX5_tower_83 rfl (lv_at hl 0 rfl) ?_
                              refine lv_iadd hx hb dX5_tower_84 ?_
                              refine lv_topi (fun y60 ey60 => ?_)
                              obtain rfl : y60 = 10 := ey60.trans (by decide)
                              refine va_bald hx hb hK hP 3 1 rfl rfl (vi_c (by decide +kernel)) dX5_tower_85 ?_
                              refine lv_topi (fun y61 ey61 => ?_)
                              obtain rfl : y61 = nI (mp 10) := ey61.trans (rfl)
                              refine lv_bipush (v := 97) hx hb dX5_tower_86 (by decide) ?_
                              refine lv_isub hx hb dX5_tower_88 ?_
                              refine lv_iconst (v := 3) hx hb dX5_tower_89 (by decide) ?_
                              refine lv_iload_n hx hb dX5_tower_90 rfl (lv_at hl 0 rfl) ?_
                              refine lv_imul hx hb dX5_tower_91 ?_
                              refine lv_topi (fun y62 ey62 => ?_)
                              obtain rfl : y62 = 3 := ey62.trans (by decide)
                              refine lv_ishl hx hb dX5_tower_92 ?_
                              refine lv_ior hx hb dX5_tower_93 ?_
                              refine lv_topi (fun y63 ey63 => ?_)
                              obtain rfl : y63 = pk1 (pk1 0 (mp 9) 0) (mp 10) 1 := ey63.trans (rfl)
                              refine va_iast hx hb hK hP hD hS 1 0 rfl rfl (vi_c (by decide +kernel)) dX5_tower_94 (fun H locs hP hD hS => ?_)
                              have hP : va_P D vwCl [(kO, .inl (cy 0, 3, .inl (fun j => nI ((va_up (va_up mk 0 (kn (mp 0))) 1 (kn (mp 8))) j)))), (lO, .inl (cy 0, 3, .inl (upd (upd (upd ml 0 (pk1 (pk1 (pk1 (pk1 (pk1 (pk1 0 (mp 1) 0) (mp 2) 1) (mp 3) 2) (mp 4) 3) (mp 5) 4) (mp 6) 5)) 1 (pk1 0 (mp 9) 0)) 1 (pk1 (pk1 0 (mp 9) 0) (mp 10) 1)))), (m0, .inr (5, [.int (nI tw), .int 2, .ref kO, .ref lO, .int (nI tu), .int (nI ak), .int (nI se), .ref sC, .ref sW, .ref sD, .int 15, .ref pG, .int iw9, .int 2, .ref wO, .ref fO, .ref mO, .ref cO, .long sn, .ref th, .int ik, .int (nI kt), .int (nI ku), .int (nI ks), .ref kK, .ref kL, .ref kC, .ref kW, .ref kD, .long hh])), (pG, .inl (cy 1, 26, .inl (fun j => nI (mp j))))] H := hP
                              have hD : va_D A [(kO, .inl (cy 0, 3, .inl (fun j => nI ((va_up (va_up mk 0 (kn (mp 0))) 1 (kn (mp 8))) j)))), (lO, .inl (cy 0, 3, .inl (upd (upd (upd ml 0 (pk1 (pk1 (pk1 (pk1 (pk1 (pk1 0 (mp 1) 0) (mp 2) 1) (mp 3) 2) (mp 4) 3) (mp 5) 4) (mp 6) 5)) 1 (pk1 0 (mp 9) 0)) 1 (pk1 (pk1 0 (mp 9) 0) (mp 10) 1)))), (m0, .inr (5, [.int (nI tw), .int 2, .ref kO, .ref lO, .int (nI tu), .int (nI ak), .int (nI se), .ref sC, .ref sW, .ref sD, .int 15, .ref pG, .int iw9, .int 2, .ref wO, .ref fO, .ref mO, .ref cO, .long sn, .ref th, .int ik, .int (nI kt), .int (nI ku), .int (nI ks), .ref kK, .ref kL, .ref kC, .ref kW, .ref kD, .long hh])), (pG, .inl (cy 1, 26, .inl (fun j => nI (mp j))))] := hD
                              rw [upd_upd (upd ml 0 (pk1 (pk1 (pk1 (pk1 (pk1 (pk1 0 (mp 1) 0) (mp 2) 1) (mp 3) 2) (mp 4) 3) (mp 5) 4) (mp 6) 5)) 1 (pk1 0 (mp 9) 0) (pk1 (pk1 0 (mp 9) 0) (mp 10) 1)] at hP hD
                              have hP : va_P D vwCl [(kO, .inl (cy 0, 3, .inl (fun j => nI ((va_up (va_up mk 0 (kn (mp 0))) 1 (kn (mp 8))) j)))), (lO, .inl (cy 0, 3, .inl (upd (upd ml 0 (pk1 (pk1 (pk1 (pk1 (pk1 (pk1 0 (mp 1) 0) (mp 2) 1) (mp 3) 2) (mp 4) 3) (mp 5) 4) (mp 6) 5)) 1 (pk1 (pk1 0 (mp 9) 0) (mp 10) 1)))), (m0, .inr (5, [.int (nI tw), .int 2, .ref kO, .ref lO, .int (nI tu), .int (nI ak), .int (nI se), .ref sC, .ref sW, .ref sD, .int 15, .ref pG, .int iw9, .int 2, .ref wO, .ref fO, .ref mO, .ref cO, .long sn, .ref th, .int ik, .int (nI kt), .int (nI ku), .int (nI ks), .ref kK, .ref kL, .ref kC, .ref kW, .ref kD, .long hh])), (pG, .inl (cy 1, 26, .inl (fun j => nI (mp j))))] H := hP
                              have hD : va_D A [(kO, .inl (cy 0, 3, .inl (fun j => nI ((va_up (va_up mk 0 (kn (mp 0))) 1 (kn (mp 8))) j)))), (lO, .inl (cy 0, 3, .inl (upd (upd ml 0 (pk1 (pk1 (pk1 (pk1 (pk1 (pk1 0 (mp 1) 0) (mp 2) 1) (mp 3) 2) (mp 4) 3) (mp 5) 4) (mp 6) 5)) 1 (pk1 (pk1 0 (mp 9) 0) (mp 10) 1)))), (m0, .inr (5, [.int (nI tw), .int 2, .ref kO, .ref lO, .int (nI tu), .int (nI ak), .int (nI se), .ref sC, .ref sW, .ref sD, .int 15, .ref pG, .int iw9, .int 2, .ref wO, .ref fO, .ref mO, .ref cO, .long sn, .ref th, .int ik, .int (nI kt), .int (nI ku), .int (nI ks), .ref kK, .ref kL, .ref kC, .ref kW, .ref kD, .long hh])), (pG, .inl (cy 1, 26, .inl (fun j => nI (mp j))))] := hD
                              refine lv_iinc (v := 2) (lv' := [(2, .int 2), (1, .int 1), (0, .ref m0)]) hx hb dX5_tower_95 hl (k := 0) rfl (by decide) (by decide) rfl (fun ls hl => ?_)
                              refine lv_goto (tgt := 60) hx hb dX5_tower_98 (by decide) ?_
                              refine lv_iload_n hx hb dX5_tower_60 rfl (lv_at hl 0 rfl) ?_
                              refine lv_bipush (v := 6) hx hb dX5_tower_61 (by decide) ?_
                              refine lv_icmp_ge (tgt := 101) hx hb dX5_tower_63 (by decide) (fun c_63 => ?_) (fun c_63 => ?_)
                              · exact absurd c_63 (by decide)
                              · refine lv_aload_n hx hb dX5_tower_66 rfl (lv_at hl 2 rfl) ?_
                                refine va_get (D := D) (ci := 5) (v := .ref lO) (C := RX5) (T := TX5) (N := 30) hx hb hts hw_X5 hown hK hP 2 rfl rfl 3 (by decide) f_13 (fun _ h9 => h9) rfl dX5_tower_67 ?_
                                refine lv_iload_n hx hb dX5_tower_70 rfl (lv_at hl 1 rfl) ?_
                                refine lv_dup2_11 hx hb dX5_tower_71 rfl rfl ?_
                                refine va_iald hx hb hK hP 1 0 rfl rfl (vi_c (by decide +kernel)) dX5_tower_72 ?_
                                refine lv_topi (fun y64 ey64 => ?_)
                                obtain rfl : y64 = pk1 (pk1 0 (mp 9) 0) (mp 10) 1 := ey64.trans (upd_rd _ _ _ (by decide))
                                refine lv_aload_n hx hb dX5_tower_73 rfl (lv_at hl 2 rfl) ?_
                                refine va_get (D := D) (ci := 5) (v := .ref pG) (C := RX5) (T := TX5) (N := 30) hx hb hts hw_X5 hown hK hP 2 rfl rfl 11 (by decide) f_25 (fun _ h9 => h9) rfl dX5_tower_74 ?_
                                refine lv_bipush (v := 8) hx hb dX5_tower_77 (by decide) ?_
                                refine lv_iload_n hx hb dX5_tower_79 rfl (lv_at hl 1 rfl) ?_
                                refine lv_imul hx hb dX5_tower_80 ?_
                                refine lv_topi (fun y65 ey65 => ?_)
                                obtain rfl : y65 = 8 := ey65.trans (by decide)
                                refine lv_iconst (v := 1) hx hb dX5_tower_81 (by decide) ?_
                                refine lv_iadd hx hb dX5_tower_82 ?_
                                refine lv_topi (fun y66 ey66 => ?_)
                                obtain rfl : y66 = 9 := ey66.trans (by decide)
                                refine lv_iload_n hx hb dX5_tower_83 rfl (lv_at hl 0 rfl) ?_
                                refine lv_iadd hx hb dX5_tower_84 ?_
                                refine lv_topi (fun y67 ey67 => ?_)
                                obtain rfl : y67 = 11 := ey67.trans (by decide)
                                refine va_bald hx hb hK hP 3 1 rfl rfl (vi_c (by decide +kernel)) dX5_tower_85 ?_
                                refine lv_topi (fun y68 ey68 => ?_)
                                obtain rfl : y68 = nI (mp 11) := ey68.trans (rfl)
                                refine lv_bipush (v := 97) hx hb dX5_tower_86 (by decide) ?_
                                refine lv_isub hx hb dX5_tower_88 ?_
                                refine lv_iconst (v := 3) hx hb dX5_tower_89 (by decide) ?_
                                refine lv_iload_n hx hb dX5_tower_90 rfl (lv_at hl 0 rfl) ?_
                                refine lv_imul hx hb dX5_tower_91 ?_
                                refine lv_topi (fun y69 ey69 => ?_)
                                obtain rfl : y69 = 6 := ey69.trans (by decide)
                                refine lv_ishl hx hb dX5_tower_92 ?_
                                refine lv_ior hx hb dX5_tower_93 ?_
                                refine lv_topi (fun y70 ey70 => ?_)
                                obtain rfl : y70 = pk1 (pk1 (pk1 0 (mp 9) 0) (mp 10) 1) (mp 11) 2 := ey70.trans (rfl)
                                refine va_iast hx hb hK hP hD hS 1 0 rfl rfl (vi_c (by decide +kernel)) dX5_tower_94 (fun H locs hP hD hS => ?_)
                                have hP : va_P D vwCl [(kO, .inl (cy 0, 3, .inl (fun j => nI ((va_up (va_up mk 0 (kn (mp 0))) 1 (kn (mp 8))) j)))), (lO, .inl (cy 0, 3, .inl (upd (upd (upd ml 0 (pk1 (pk1 (pk1 (pk1 (pk1 (pk1 0 (mp 1) 0) (mp 2) 1) (mp 3) 2) (mp 4) 3) (mp 5) 4) (mp 6) 5)) 1 (pk1 (pk1 0 (mp 9) 0) (mp 10) 1)) 1 (pk1 (pk1 (pk1 0 (mp 9) 0) (mp 10) 1) (mp 11) 2)))), (m0, .inr (5, [.int (nI tw), .int 2, .ref kO, .ref lO, .int (nI tu), .int (nI ak), .int (nI se), .ref sC, .ref sW, .ref sD, .int 15, .ref pG, .int iw9, .int 2, .ref wO, .ref fO, .ref mO, .ref cO, .long sn, .ref th, .int ik, .int (nI kt), .int (nI ku), .int (nI ks), .ref kK, .ref kL, .ref kC, .ref kW, .ref kD, .long hh])), (pG, .inl (cy 1, 26, .inl (fun j => nI (mp j))))] H := hP
                                have hD : va_D A [(kO, .inl (cy 0, 3, .inl (fun j => nI ((va_up (va_up mk 0 (kn (mp 0))) 1 (kn (mp 8))) j)))), (lO, .inl (cy 0, 3, .inl (upd (upd (upd ml 0 (pk1 (pk1 (pk1 (pk1 (pk1 (pk1 0 (mp 1) 0) (mp 2) 1) (mp 3) 2) (mp 4) 3) (mp 5) 4) (mp 6) 5)) 1 (pk1 (pk1 0 (mp 9) 0) (mp 10) 1)) 1 (pk1 (pk1 (pk1 0 (mp 9) 0) (mp 10) 1) (mp 11) 2)))), (m0, .inr (5, [.int (nI tw), .int 2, .ref kO, .ref lO, .int (nI tu), .int (nI ak), .int (nI se), .ref sC, .ref sW, .ref sD, .int 15, .ref pG, .int iw9, .int 2, .ref wO, .ref fO, .ref mO, .ref cO, .long sn, .ref th, .int ik, .int (nI kt), .int (nI ku), .int (nI ks), .ref kK, .ref kL, .ref kC, .ref kW, .ref kD, .long hh])), (pG, .inl (cy 1, 26, .inl (fun j => nI (mp j))))] := hD
                                rw [upd_upd (upd ml 0 (pk1 (pk1 (pk1 (pk1 (pk1 (pk1 0 (mp 1) 0) (mp 2) 1) (mp 3) 2) (mp 4) 3) (mp 5) 4) (mp 6) 5)) 1 (pk1 (pk1 0 (mp 9) 0) (mp 10) 1) (pk1 (pk1 (pk1 0 (mp 9) 0) (mp 10) 1) (mp 11) 2)] at hP hD
                                have hP : va_P D vwCl [(kO, .inl (cy 0, 3, .inl (fun j => nI ((va_up (va_up mk 0 (kn (mp 0))) 1 (kn (mp 8))) j)))), (lO, .inl (cy 0, 3, .inl (upd (upd ml 0 (pk1 (pk1 (pk1 (pk1 (pk1 (pk1 0 (mp 1) 0) (mp 2) 1) (mp 3) 2) (mp 4) 3) (mp 5) 4) (mp 6) 5)) 1 (pk1 (pk1 (pk1 0 (mp 9) 0) (mp 10) 1) (mp 11) 2)))), (m0, .inr (5, [.int (nI tw), .int 2, .ref kO, .ref lO, .int (nI tu), .int (nI ak), .int (nI se), .ref sC, .ref sW, .ref sD, .int 15, .ref pG, .int iw9, .int 2, .ref wO, .ref fO, .ref mO, .ref cO, .long sn, .ref th, .int ik, .int (nI kt), .int (nI ku), .int (nI ks), .ref kK, .ref kL, .ref kC, .ref kW, .ref kD, .long hh])), (pG, .inl (cy 1, 26, .inl (fun j => nI (mp j))))] H := hP
                                have hD : va_D A [(kO, .inl (cy 0, 3, .inl (fun j => nI ((va_up (va_up mk 0 (kn (mp 0))) 1 (kn (mp 8))) j)))), (lO, .inl (cy 0, 3, .inl (upd (upd ml 0 (pk1 (pk1 (pk1 (pk1 (pk1 (pk1 0 (mp 1) 0) (mp 2) 1) (mp 3) 2) (mp 4) 3) (mp 5) 4) (mp 6) 5)) 1 (pk1 (pk1 (pk1 0 (mp 9) 0) (mp 10) 1) (mp 11) 2)))), (m0, .inr (5, [.int (nI tw), .int 2, .ref kO, .ref lO, .int (nI tu), .int (nI ak), .int (nI se), .ref sC, .ref sW, .ref sD, .int 15, .ref pG, .int iw9, .int 2, .ref wO, .ref fO, .ref mO, .ref cO, .long sn, .ref th, .int ik, .int (nI kt), .int (nI ku), .int (nI ks), .ref kK, .ref kL, .ref kC, .ref kW, .ref kD, .long hh])), (pG, .inl (cy 1, 26, .inl (fun j => nI (mp j))))] := hD
                                refine lv_iinc (v := 3) (lv' := [(2, .int 3), (1, .int 1), (0, .ref m0)]) hx hb dX5_tower_95 hl (k := 0) rfl (by decide) (by decide) rfl (fun ls hl => ?_)
                                refine lv_goto (tgt := 60) hx hb dX5_tower_98 (by decide) ?_
                                refine lv_iload_n hx hb dX5_tower_60 rfl (lv_at hl 0 rfl) ?_
                                refine lv_bipush (v := 6) hx hb dX5_tower_61 (by decide) ?_
                                refine lv_icmp_ge (tgt := 101) hx hb dX5_tower_63 (by decide) (fun c_63 => ?_) (fun c_63 => ?_)
                                · exact absurd c_63 (by decide)
                                · refine lv_aload_n hx hb dX5_tower_66 rfl (lv_at hl 2 rfl) ?_
                                  refine va_get (D := D) (ci := 5) (v := .ref lO) (C := RX5) (T := TX5) (N := 30) hx hb hts hw_X5 hown hK hP 2 rfl rfl 3 (by decide) f_13 (fun _ h9 => h9) rfl dX5_tower_67 ?_
                                  refine lv_iload_n hx hb dX5_tower_70 rfl (lv_at hl 1 rfl) ?_
                                  refine lv_dup2_11 hx hb dX5_tower_71 rfl rfl ?_
                                  refine va_iald hx hb hK hP 1 0 rfl rfl (vi_c (by decide +kernel)) dX5_tower_72 ?_
                                  refine lv_topi (fun y71 ey71 => ?_)
                                  obtain rfl : y71 = pk1 (pk1 (pk1 0 (mp 9) 0) (mp 10) 1) (mp 11) 2 := ey71.trans (upd_rd _ _ _ (by decide))
                                  refine lv_aload_n hx hb dX5_tower_73 rfl (lv_at hl 2 rfl) ?_
                                  refine va_get (D := D) (ci := 5) (v := .ref pG) (C := RX5) (T := TX5) (N := 30) hx hb hts hw_X5 hown hK hP 2 rfl rfl 11 (by decide) f_25 (fun _ h9 => h9) rfl dX5_tower_74 ?_
                                  refine lv_bipush (v := 8) hx hb dX5_tower_77 (by decide) ?_
                                  refine lv_iload_n hx hb dX5_tower_79 rfl (lv_at hl 1 rfl) ?_
                                  refine lv_imul hx hb dX5_tower_80 ?_
                                  refine lv_topi (fun y72 ey72 => ?_)
                                  obtain rfl : y72 = 8 := ey72.trans (by decide)
                                  refine lv_iconst (v := 1) hx hb dX5_tower_81 (by decide) ?_
                                  refine lv_iadd hx hb dX5_tower_82 ?_
                                  refine lv_topi (fun y73 ey73 => ?_)
                                  obtain rfl : y73 = 9 := ey73.trans (by decide)
                                  refine lv_iload_n hx hb dX5_tower_83 rfl (lv_at hl 0 rfl) ?_
                                  refine lv_iadd hx hb dX5_tower_84 ?_
                                  refine lv_topi (fun y74 ey74 => ?_)
                                  obtain rfl : y74 = 12 := ey74.trans (by decide)
                                  refine va_bald hx hb hK hP 3 1 rfl rfl (vi_c (by decide +kernel)) dX5_tower_85 ?_
                                  refine lv_topi (fun y75 ey75 => ?_)
                                  obtain rfl : y75 = nI (mp 12) := ey75.trans (rfl)
                                  refine lv_bipush (v := 97) hx hb dX5_tower_86 (by decide) ?_
                                  refine lv_isub hx hb dX5_tower_88 ?_
                                  refine lv_iconst (v := 3) hx hb dX5_tower_89 (by decide) ?_
                                  refine lv_iload_n hx hb dX5_tower_90 rfl (lv_at hl 0 rfl) ?_
                                  refine lv_imul hx hb dX5_tower_91 ?_
                                  refine lv_topi (fun y76 ey76 => ?_)
                                  obtain rfl : y76 = 9 := ey76.trans (by decide)
                                  refine lv_ishl hx hb dX5_tower_92 ?_
                                  refine lv_ior hx hb dX5_tower_93 ?_
                                  refine lv_topi (fun y77 ey77 => ?_)
                                  obtain rfl : y77 = pk1 (pk1 (pk1 (pk1 0 (mp 9) 0) (mp 10) 1) (mp 11) 2) (mp 12) 3 := ey77.trans (rfl)
                                  refine va_iast hx hb hK hP hD hS 1 0 rfl rfl (vi_c (by decide +kernel)) dX5_tower_94 (fun H locs hP hD hS => ?_)
                                  have hP : va_P D vwCl [(kO, .inl (cy 0, 3, .inl (fun j => nI ((va_up (va_up mk 0 (kn (mp 0))) 1 (kn (mp 8))) j)))), (lO, .inl (cy 0, 3, .inl (upd (upd (upd ml 0 (pk1 (pk1 (pk1 (pk1 (pk1 (pk1 0 (mp 1) 0) (mp 2) 1) (mp 3) 2) (mp 4) 3) (mp 5) 4) (mp 6) 5)) 1 (pk1 (pk1 (pk1 0 (mp 9) 0) (mp 10) 1) (mp 11) 2)) 1 (pk1 (pk1 (pk1 (pk1 0 (mp 9) 0) (mp 10) 1) (mp 11) 2) (mp 12) 3)))), (m0, .inr (5, [.int (nI tw), .int 2, .ref kO, .ref lO, .int (nI tu), .int (nI ak), .int (nI se), .ref sC, .ref sW, .ref sD, .int 15, .ref pG, .int iw9, .int 2, .ref wO, .ref fO, .ref mO, .ref cO, .long sn, .ref th, .int ik, .int (nI kt), .int (nI ku), .int (nI ks), .ref kK, .ref kL, .ref kC, .ref kW, .ref kD, .long hh])), (pG, .inl (cy 1, 26, .inl (fun j => nI (mp j))))] H := hP
                                  have hD : va_D A [(kO, .inl (cy 0, 3, .inl (fun j => nI ((va_up (va_up mk 0 (kn (mp 0))) 1 (kn (mp 8))) j)))), (lO, .inl (cy 0, 3, .inl (upd (upd (upd ml 0 (pk1 (pk1 (pk1 (pk1 (pk1 (pk1 0 (mp 1) 0) (mp 2) 1) (mp 3) 2) (mp 4) 3) (mp 5) 4) (mp 6) 5)) 1 (pk1 (pk1 (pk1 0 (mp 9) 0) (mp 10) 1) (mp 11) 2)) 1 (pk1 (pk1 (pk1 (pk1 0 (mp 9) 0) (mp 10) 1) (mp 11) 2) (mp 12) 3)))), (m0, .inr (5, [.int (nI tw), .int 2, .ref kO, .ref lO, .int (nI tu), .int (nI ak), .int (nI se), .ref sC, .ref sW, .ref sD, .int 15, .ref pG, .int iw9, .int 2, .ref wO, .ref fO, .ref mO, .ref cO, .long sn, .ref th, .int ik, .int (nI kt), .int (nI ku), .int (nI ks), .ref kK, .ref kL, .ref kC, .ref kW, .ref kD, .long hh])), (pG, .inl (cy 1, 26, .inl (fun j => nI (mp j))))] := hD
                                  rw [upd_upd (upd ml 0 (pk1 (pk1 (pk1 (pk1 (pk1 (pk1 0 (mp 1) 0) (mp 2) 1) (mp 3) 2) (mp 4) 3) (mp 5) 4) (mp 6) 5)) 1 (pk1 (pk1 (pk1 0 (mp 9) 0) (mp 10) 1) (mp 11) 2) (pk1 (pk1 (pk1 (pk1 0 (mp 9) 0) (mp 10) 1) (mp 11) 2) (mp 12) 3)] at hP hD
                                  have hP : va_P D vwCl [(kO, .inl (cy 0, 3, .inl (fun j => nI ((va_up (va_up mk 0 (kn (mp 0))) 1 (kn (mp 8))) j)))), (lO, .inl (cy 0, 3, .inl (upd (upd ml 0 (pk1 (pk1 (pk1 (pk1 (pk1 (pk1 0 (mp 1) 0) (mp 2) 1) (mp 3) 2) (mp 4) 3) (mp 5) 4) (mp 6) 5)) 1 (pk1 (pk1 (pk1 (pk1 0 (mp 9) 0) (mp 10) 1) (mp 11) 2) (mp 12) 3)))), (m0, .inr (5, [.int (nI tw), .int 2, .ref kO, .ref lO, .int (nI tu), .int (nI ak), .int (nI se), .ref sC, .ref sW, .ref sD, .int 15, .ref pG, .int iw9, .int 2, .ref wO, .ref fO, .ref mO, .ref cO, .long sn, .ref th, .int ik, .int (nI kt), .int (nI ku), .int (nI ks), .ref kK, .ref kL, .ref kC, .ref kW, .ref kD, .long hh])), (pG, .inl (cy 1, 26, .inl (fun j => nI (mp j))))] H := hP
                                  have hD : va_D A [(kO, .inl (cy 0, 3, .inl (fun j => nI ((va_up (va_up mk 0 (kn (mp 0))) 1 (kn (mp 8))) j)))), (lO, .inl (cy 0, 3, .inl (upd (upd ml 0 (pk1 (pk1 (pk1 (pk1 (pk1 (pk1 0 (mp 1) 0) (mp 2) 1) (mp 3) 2) (mp 4) 3) (mp 5) 4) (mp 6) 5)) 1 (pk1 (pk1 (pk1 (pk1 0 (mp 9) 0) (mp 10) 1) (mp 11) 2) (mp 12) 3)))), (m0, .inr (5, [.int (nI tw), .int 2, .ref kO, .ref lO, .int (nI tu), .int (nI ak), .int (nI se), .ref sC, .ref sW, .ref sD, .int 15, .ref pG, .int iw9, .int 2, .ref wO, .ref fO, .ref mO, .ref cO, .long sn, .ref th, .int ik, .int (nI kt), .int (nI ku), .int (nI ks), .ref kK, .ref kL, .ref kC, .ref kW, .ref kD, .long hh])), (pG, .inl (cy 1, 26, .inl (fun j => nI (mp j))))] := hD
                                  refine lv_iinc (v := 4) (lv' := [(2, .int 4), (1, .int 1), (0, .ref m0)]) hx hb dX5_tower_95 hl (k := 0) rfl (by decide) (by decide) rfl (fun ls hl => ?_)
                                  refine lv_goto (tgt := 60) hx hb dX5_tower_98 (by decide) ?_
                                  refine lv_iload_n hx hb dX5_tower_60 rfl (lv_at hl 0 rfl) ?_
                                  refine lv_bipush (v := 6) hx hb dX5_tower_61 (by decide) ?_
                                  refine lv_icmp_ge (tgt := 101) hx hb dX5_tower_63 (by decide) (fun c_63 => ?_) (fun c_63 => ?_)
                                  · exact absurd c_63 (by decide)
                                  · refine lv_aload_n hx hb dX5_tower_66 rfl (lv_at hl 2 rfl) ?_
                                    refine va_get (D := D) (ci := 5) (v := .ref lO) (C := RX5) (T := TX5) (N := 30) hx hb hts hw_X5 hown hK hP 2 rfl rfl 3 (by decide) f_13 (fun _ h9 => h9) rfl dX5_tower_67 ?_
                                    refine lv_iload_n hx hb dX5_tower_70 rfl (lv_at hl 1 rfl) ?_
                                    refine lv_dup2_11 hx hb dX5_tower_71 rfl rfl ?_
                                    refine va_iald hx hb hK hP 1 0 rfl rfl (vi_c (by decide +kernel)) dX5_tower_72 ?_
                                    refine lv_topi (fun y78 ey78 => ?_)
                                    obtain rfl : y78 = pk1 (pk1 (pk1 (pk1 0 (mp 9) 0) (mp 10) 1) (mp 11) 2) (mp 12) 3 := ey78.trans (upd_rd _ _ _ (by decide))
                                    refine lv_aload_n hx hb dX5_tower_73 rfl (lv_at hl 2 rfl) ?_
                                    refine va_get (D := D) (ci := 5) (v := .ref pG) (C := RX5) (T := TX5) (N := 30) hx hb hts hw_X5 hown hK hP 2 rfl rfl 11 (by decide) f_25 (fun _ h9 => h9) rfl dX5_tower_74 ?_
                                    refine lv_bipush (v := 8) hx hb dX5_tower_77 (by decide) ?_
                                    refine lv_iload_n hx hb dX5_tower_79 rfl (lv_at hl 1 rfl) ?_
                                    refine lv_imul hx hb dX5_tower_80 ?_
                                    refine lv_topi (fun y79 ey79 => ?_)
                                    obtain rfl : y79 = 8 := ey79.trans (by decide)
                                    refine lv_iconst (v := 1) hx hb dX5_tower_81 (by decide) ?_
                                    refine lv_iadd hx hb dX5_tower_82 ?_
                                    refine lv_topi (fun y80 ey80 => ?_)
                                    obtain rfl : y80 = 9 := ey80.trans (by decide)
                                    refine lv_iload_n hx hb dX5_tower_83 rfl (lv_at hl 0 rfl) ?_
                                    refine lv_iadd hx hb dX5_tower_84 ?_
                                    refine lv_topi (fun y81 ey81 => ?_)
                                    obtain rfl : y81 = 13 := ey81.trans (by decide)
                                    refine va_bald hx hb hK hP 3 1 rfl rfl (vi_c (by decide +kernel)) dX5_tower_85 ?_
                                    refine lv_topi (fun y82 ey82 => ?_)
                                    obtain rfl : y82 = nI (mp 13) := ey82.trans (rfl)
                                    refine lv_bipush (v := 97) hx hb dX5_tower_86 (by decide) ?_
                                    refine lv_isub hx hb dX5_tower_88 ?_
                                    refine lv_iconst (v := 3) hx hb dX5_tower_89 (by decide) ?_
                                    refine lv_iload_n hx hb dX5_tower_90 rfl (lv_at hl 0 rfl) ?_
                                    refine lv_imul hx hb dX5_tower_91 ?_
                                    refine lv_topi (fun y83 ey83 => ?_)
                                    obtain rfl : y83 = 12 := ey83.trans (by decide)
                                    refine lv_ishl hx hb dX5_tower_92 ?_
                                    refine lv_ior hx hb dX5_tower_93 ?_
                                    refine lv_topi (fun y84 ey84 => ?_)
                                    obtain rfl : y84 = pk1 (pk1 (pk1 (pk1 (pk1 0 (mp 9) 0) (mp 10) 1) (mp 11) 2) (mp 12) 3) (mp 13) 4 := ey84.trans (rfl)
                                    refine va_iast hx hb hK hP hD hS 1 0 rfl rfl (vi_c (by decide +kernel)) dX5_tower_94 (fun H locs hP hD hS => ?_)
                                    have hP : va_P D vwCl [(kO, .inl (cy 0, 3, .inl (fun j => nI ((va_up (va_up mk 0 (kn (mp 0))) 1 (kn (mp 8))) j)))), (lO, .inl (cy 0, 3, .inl (upd (upd (upd ml 0 (pk1 (pk1 (pk1 (pk1 (pk1 (pk1 0 (mp 1) 0) (mp 2) 1) (mp 3) 2) (mp 4) 3) (mp 5) 4) (mp 6) 5)) 1 (pk1 (pk1 (pk1 (pk1 0 (mp 9) 0) (mp 10) 1) (mp 11) 2) (mp 12) 3)) 1 (pk1 (pk1 (pk1 (pk1 (pk1 0 (mp 9) 0) (mp 10) 1) (mp 11) 2) (mp 12) 3) (mp 13) 4)))), (m0, .inr (5, [.int (nI tw), .int 2, .ref kO, .ref lO, .int (nI tu), .int (nI ak), .int (nI se), .ref sC, .ref sW, .ref sD, .int 15, .ref pG, .int iw9, .int 2, .ref wO, .ref fO, .ref mO, .ref cO, .long sn, .ref th, .int ik, .int (nI kt), .int (nI ku), .int (nI ks), .ref kK, .ref kL, .ref kC, .ref kW, .ref kD, .long hh])), (pG, .inl (cy 1, 26, .inl (fun j => nI (mp j))))] H := hP
                                    have hD : va_D A [(kO, .inl (cy 0, 3, .inl (fun j => nI ((va_up (va_up mk 0 (kn (mp 0))) 1 (kn (mp 8))) j)))), (lO, .inl (cy 0, 3, .inl (upd (upd (upd ml 0 (pk1 (pk1 (pk1 (pk1 (pk1 (pk1 0 (mp 1) 0) (mp 2) 1) (mp 3) 2) (mp 4) 3) (mp 5) 4) (mp 6) 5)) 1 (pk1 (pk1 (pk1 (pk1 0 (mp 9) 0) (mp 10) 1) (mp 11) 2) (mp 12) 3)) 1 (pk1 (pk1 (pk1 (pk1 (pk1 0 (mp 9) 0) (mp 10) 1) (mp 11) 2) (mp 12) 3) (mp 13) 4)))), (m0, .inr (5, [.int (nI tw), .int 2, .ref kO, .ref lO, .int (nI tu), .int (nI ak), .int (nI se), .ref sC, .ref sW, .ref sD, .int 15, .ref pG, .int iw9, .int 2, .ref wO, .ref fO, .ref mO, .ref cO, .long sn, .ref th, .int ik, .int (nI kt), .int (nI ku), .int (nI ks), .ref kK, .ref kL, .ref kC, .ref kW, .ref kD, .long hh])), (pG, .inl (cy 1, 26, .inl (fun j => nI (mp j))))] := hD
                                    rw [upd_upd (upd ml 0 (pk1 (pk1 (pk1 (pk1 (pk1 (pk1 0 (mp 1) 0) (mp 2) 1) (mp 3) 2) (mp 4) 3) (mp 5) 4) (mp 6) 5)) 1 (pk1 (pk1 (pk1 (pk1 0 (mp 9) 0) (mp 10) 1) (mp 11) 2) (mp 12) 3) (pk1 (pk1 (pk1 (pk1 (pk1 0 (mp 9) 0) (mp 10) 1) (mp 11) 2) (mp 12) 3) (mp 13) 4)] at hP hD
                                    have hP : va_P D vwCl [(kO, .inl (cy 0, 3, .inl (fun j => nI ((va_up (va_up mk 0 (kn (mp 0))) 1 (kn (mp 8))) j)))), (lO, .inl (cy 0, 3, .inl (upd (upd ml 0 (pk1 (pk1 (pk1 (pk1 (pk1 (pk1 0 (mp 1) 0) (mp 2) 1) (mp 3) 2) (mp 4) 3) (mp 5) 4) (mp 6) 5)) 1 (pk1 (pk1 (pk1 (pk1 (pk1 0 (mp 9) 0) (mp 10) 1) (mp 11) 2) (mp 12) 3) (mp 13) 4)))), (m0, .inr (5, [.int (nI tw), .int 2, .ref kO, .ref lO, .int (nI tu), .int (nI ak), .int (nI se), .ref sC, .ref sW, .ref sD, .int 15, .ref pG, .int iw9, .int 2, .ref wO, .ref fO, .ref mO, .ref cO, .long sn, .ref th, .int ik, .int (nI kt), .int (nI ku), .int (nI ks), .ref kK, .ref kL, .ref kC, .ref kW, .ref kD, .long hh])), (pG, .inl (cy 1, 26, .inl (fun j => nI (mp j))))] H := hP
                                    have hD : va_D A [(kO, .inl (cy 0, 3, .inl (fun j => nI ((va_up (va_up mk 0 (kn (mp 0))) 1 (kn (mp 8))) j)))), (lO, .inl (cy 0, 3, .inl (upd (upd ml 0 (pk1 (pk1 (pk1 (pk1 (pk1 (pk1 0 (mp 1) 0) (mp 2) 1) (mp 3) 2) (mp 4) 3) (mp 5) 4) (mp 6) 5)) 1 (pk1 (pk1 (pk1 (pk1 (pk1 0 (mp 9) 0) (mp 10) 1) (mp 11) 2) (mp 12) 3) (mp 13) 4)))), (m0, .inr (5, [.int (nI tw), .int 2, .ref kO, .ref lO, .int (nI tu), .int (nI ak), .int (nI se), .ref sC, .ref sW, .ref sD, .int 15, .ref pG, .int iw9, .int 2, .ref wO, .ref fO, .ref mO, .ref cO, .long sn, .ref th, .int ik, .int (nI kt), .int (nI ku), .int (nI ks), .ref kK, .ref kL, .ref kC, .ref kW, .ref kD, .long hh])), (pG, .inl (cy 1, 26, .inl (fun j => nI (mp j))))] := hD
                                    refine lv_iinc (v := 5) (lv' := [(2, .int 5), (1, .int 1), (0, .ref m0)]) hx hb dX5_tower_95 hl (k := 0) rfl (by decide) (by decide) rfl (fun ls hl => ?_)
                                    refine lv_goto (tgt := 60) hx hb dX5_tower_98 (by decide) ?_
                                    refine lv_iload_n hx hb dX5_tower_60 rfl (lv_at hl 0 rfl) ?_
                                    refine lv_bipush (v := 6) hx hb dX5_tower_61 (by decide) ?_
                                    refine lv_icmp_ge (tgt := 101) hx hb dX5_tower_63 (by decide) (fun c_63 => ?_) (fun c_63 => ?_)
                                    · exact absurd c_63 (by decide)
                                    · refine lv_aload_n hx hb dX5_tower_66 rfl (lv_at hl 2 rfl) ?_
                                      refine va_get (D := D) (ci := 5) (v := .ref lO) (C := RX5) (T := TX5) (N := 30) hx hb hts hw_X5 hown hK hP 2 rfl rfl 3 (by decide) f_13 (fun _ h9 => h9) rfl dX5_tower_67 ?_
                                      refine lv_iload_n hx hb dX5_tower_70 rfl (lv_at hl 1 rfl) ?_
                                      refine lv_dup2_11 hx hb dX5_tower_71 rfl rfl ?_
                                      refine va_iald hx hb hK hP 1 0 rfl rfl (vi_c (by decide +kernel)) dX5_tower_72 ?_
                                      refine lv_topi (fun y85 ey85 => ?_)
                                      obtain rfl : y85 = pk1 (pk1 (pk1 (pk1 (pk1 0 (mp 9) 0) (mp 10) 1) (mp 11) 2) (mp 12) 3) (mp 13) 4 := ey85.trans (upd_rd _ _ _ (by decide))
                                      refine lv_aload_n hx hb dX5_tower_73 rfl (lv_at hl 2 rfl) ?_
                                      refine va_get (D := D) (ci := 5) (v := .ref pG) (C := RX5) (T := TX5) (N := 30) hx hb hts hw_X5 hown hK hP 2 rfl rfl 11 (by decide) f_25 (fun _ h9 => h9) rfl dX5_tower_74 ?_
                                      refine lv_bipush (v := 8) hx hb dX5_tower_77 (by decide) ?_
                                      refine lv_iload_n hx hb dX5_tower_79 rfl (lv_at hl 1 rfl) ?_
                                      refine lv_imul hx hb dX5_tower_80 ?_
                                      refine lv_topi (fun y86 ey86 => ?_)
                                      obtain rfl : y86 = 8 := ey86.trans (by decide)
                                      refine lv_iconst (v := 1) hx hb dX5_tower_81 (by decide) ?_
                                      refine lv_iadd hx hb dX5_tower_82 ?_
                                      refine lv_topi (fun y87 ey87 => ?_)
                                      obtain rfl : y87 = 9 := ey87.trans (by decide)
                                      refine lv_iload_n hx hb dX5_tower_83 rfl (lv_at hl 0 rfl) ?_
                                      refine lv_iadd hx hb dX5_tower_84 ?_
                                      refine lv_topi (fun y88 ey88 => ?_)
                                      obtain rfl : y88 = 14 := ey88.trans (by decide)
                                      refine va_bald hx hb hK hP 3 1 rfl rfl (vi_c (by decide +kernel)) dX5_tower_85 ?_
                                      refine lv_topi (fun y89 ey89 => ?_)
                                      obtain rfl : y89 = nI (mp 14) := ey89.trans (rfl)
                                      refine lv_bipush (v := 97) hx hb dX5_tower_86 (by decide) ?_
                                      refine lv_isub hx hb dX5_tower_88 ?_
                                      refine lv_iconst (v := 3) hx hb dX5_tower_89 (by decide) ?_
                                      refine lv_iload_n hx hb dX5_tower_90 rfl (lv_at hl 0 rfl) ?_
                                      refine lv_imul hx hb dX5_tower_91 ?_
                                      refine lv_topi (fun y90 ey90 => ?_)
                                      obtain rfl : y90 = 15 := ey90.trans (by decide)
                                      refine lv_ishl hx hb dX5_tower_92 ?_
                                      refine lv_ior hx hb dX5_tower_93 ?_
                                      refine lv_topi (fun y91 ey91 => ?_)
                                      obtain rfl : y91 = pk1 (pk1 (pk1 (pk1 (pk1 (pk1 0 (mp 9) 0) (mp 10) 1) (mp 11) 2) (mp 12) 3) (mp 13) 4) (mp 14) 5 := ey91.trans (rfl)
                                      refine va_iast hx hb hK hP hD hS 1 0 rfl rfl (vi_c (by decide +kernel)) dX5_tower_94 (fun H locs hP hD hS => ?_)
                                      have hP : va_P D vwCl [(kO, .inl (cy 0, 3, .inl (fun j => nI ((va_up (va_up mk 0 (kn (mp 0))) 1 (kn (mp 8))) j)))), (lO, .inl (cy 0, 3, .inl (upd (upd (upd ml 0 (pk1 (pk1 (pk1 (pk1 (pk1 (pk1 0 (mp 1) 0) (mp 2) 1) (mp 3) 2) (mp 4) 3) (mp 5) 4) (mp 6) 5)) 1 (pk1 (pk1 (pk1 (pk1 (pk1 0 (mp 9) 0) (mp 10) 1) (mp 11) 2) (mp 12) 3) (mp 13) 4)) 1 (pk1 (pk1 (pk1 (pk1 (pk1 (pk1 0 (mp 9) 0) (mp 10) 1) (mp 11) 2) (mp 12) 3) (mp 13) 4) (mp 14) 5)))), (m0, .inr (5, [.int (nI tw), .int 2, .ref kO, .ref lO, .int (nI tu), .int (nI ak), .int (nI se), .ref sC, .ref sW, .ref sD, .int 15, .ref pG, .int iw9, .int 2, .ref wO, .ref fO, .ref mO, .ref cO, .long sn, .ref th, .int ik, .int (nI kt), .int (nI ku), .int (nI ks), .ref kK, .ref kL, .ref kC, .ref kW, .ref kD, .long hh])), (pG, .inl (cy 1, 26, .inl (fun j => nI (mp j))))] H := hP
                                      have hD : va_D A [(kO, .inl (cy 0, 3, .inl (fun j => nI ((va_up (va_up mk 0 (kn (mp 0))) 1 (kn (mp 8))) j)))), (lO, .inl (cy 0, 3, .inl (upd (upd (upd ml 0 (pk1 (pk1 (pk1 (pk1 (pk1 (pk1 0 (mp 1) 0) (mp 2) 1) (mp 3) 2) (mp 4) 3) (mp 5) 4) (mp 6) 5)) 1 (pk1 (pk1 (pk1 (pk1 (pk1 0 (mp 9) 0) (mp 10) 1) (mp 11) 2) (mp 12) 3) (mp 13) 4)) 1 (pk1 (pk1 (pk1 (pk1 (pk1 (pk1 0 (mp 9) 0) (mp 10) 1) (mp 11) 2) (mp 12) 3) (mp 13) 4) (mp 14) 5)))), (m0, .inr (5, [.int (nI tw), .int 2, .ref kO, .ref lO, .int (nI tu), .int (nI ak), .int (nI se), .ref sC, .ref sW, .ref sD, .int 15, .ref pG, .int iw9, .int 2, .ref wO, .ref fO, .ref mO, .ref cO, .long sn, .ref th, .int ik, .int (nI kt), .int (nI ku), .int (nI ks), .ref kK, .ref kL, .ref kC, .ref kW, .ref kD, .long hh])), (pG, .inl (cy 1, 26, .inl (fun j => nI (mp j))))] := hD
                                      rw [upd_upd (upd ml 0 (pk1 (pk1 (pk1 (pk1 (pk1 (pk1 0 (mp 1) 0) (mp 2) 1) (mp 3) 2) (mp 4) 3) (mp 5) 4) (mp 6) 5)) 1 (pk1 (pk1 (pk1 (pk1 (pk1 0 (mp 9) 0) (mp 10) 1) (mp 11) 2) (mp 12) 3) (mp 13) 4) (pk1 (pk1 (pk1 (pk1 (pk1 (pk1 0 (mp 9) 0) (mp 10) 1) (mp 11) 2) (mp 12) 3) (mp 13) 4) (mp 14) 5)] at hP hD
                                      have hP : va_P D vwCl [(kO, .inl (cy 0, 3, .inl (fun j => nI ((va_up (va_up mk 0 (kn (mp 0))) 1 (kn (mp 8))) j)))), (lO, .inl (cy 0, 3, .inl (upd (upd ml 0 (pk1 (pk1 (pk1 (pk1 (pk1 (pk1 0 (mp 1) 0) (mp 2) 1) (mp 3) 2) (mp 4) 3) (mp 5) 4) (mp 6) 5)) 1 (pk1 (pk1 (pk1 (pk1 (pk1 (pk1 0 (mp 9) 0) (mp 10) 1) (mp 11) 2) (mp 12) 3) (mp 13) 4) (mp 14) 5)))), (m0, .inr (5, [.int (nI tw), .int 2, .ref kO, .ref lO, .int (nI tu), .int (nI ak), .int (nI se), .ref sC, .ref sW, .ref sD, .int 15, .ref pG, .int iw9, .int 2, .ref wO, .ref fO, .ref mO, .ref cO, .long sn, .ref th, .int ik, .int (nI kt), .int (nI ku), .int (nI ks), .ref kK, .ref kL, .ref kC, .ref kW, .ref kD, .long hh])), (pG, .inl (cy 1, 26, .inl (fun j => nI (mp j))))] H := hP
                                      have hD : va_D A [(kO, .inl (cy 0, 3, .inl (fun j => nI ((va_up (va_up mk 0 (kn (mp 0))) 1 (kn (mp 8))) j)))), (lO, .inl (cy 0, 3, .inl (upd (upd ml 0 (pk1 (pk1 (pk1 (pk1 (pk1 (pk1 0 (mp 1) 0) (mp 2) 1) (mp 3) 2) (mp 4) 3) (mp 5) 4) (mp 6) 5)) 1 (pk1 (pk1 (pk1 (pk1 (pk1 (pk1 0 (mp 9) 0) (mp 10) 1) (mp 11) 2) (mp 12) 3) (mp 13) 4) (mp 14) 5)))), (m0, .inr (5, [.int (nI tw), .int 2, .ref kO, .ref lO, .int (nI tu), .int (nI ak), .int (nI se), .ref sC, .ref sW, .ref sD, .int 15, .ref pG, .int iw9, .int 2, .ref wO, .ref fO, .ref mO, .ref cO, .long sn, .ref th, .int ik, .int (nI kt), .int (nI ku), .int (nI ks), .ref kK, .ref kL, .ref kC, .ref kW, .ref kD, .long hh])), (pG, .inl (cy 1, 26, .inl (fun j => nI (mp j))))] := hD
                                      refine lv_iinc (v := 6) (lv' := [(2, .int 6), (1, .int 1), (0, .ref m0)]) hx hb dX5_tower_95 hl (k := 0) rfl (by decide) (by decide) rfl (fun ls hl => ?_)
                                      refine lv_goto (tgt := 60) hx hb dX5_tower_98 (by decide) ?_
                                      refine lv_iload_n hx hb dX5_tower_60 rfl (lv_at hl 0 rfl) ?_
                                      refine lv_bipush (v := 6) hx hb dX5_tower_61 (by decide) ?_
                                      refine lv_icmp_ge (tgt := 101) hx hb dX5_tower_63 (by decide) (fun c_63 => ?_) (fun c_63 => ?_)
                                      · refine lv_iinc (v := 2) (lv' := [(1, .int 2), (2, .int 6), (0, .ref m0)]) hx hb dX5_tower_101 hl (k := 1) rfl (by decide) (by decide) rfl (fun ls hl => ?_)
                                        refine lv_goto (tgt := 25) hx hb dX5_tower_104 (by decide) ?_
                                        refine lv_iload_n hx hb dX5_tower_25 rfl (lv_at hl 0 rfl) ?_
                                        refine lv_aload_n hx hb dX5_tower_26 rfl (lv_at hl 2 rfl) ?_
                                        refine va_get (D := D) (ci := 5) (v := .int 2) (C := RX5) (T := TX5) (N := 30) hx hb hts hw_X5 hown hK hP 2 rfl rfl 1 (by decide) f_88 (fun _ h9 => h9) rfl dX5_tower_27 ?_
                                        refine lv_icmp_ge (tgt := 107) hx hb dX5_tower_30 (by decide) (fun c_30 => ?_) (fun c_30 => ?_)
                                        · refine lv_aload_n hx hb dX5_tower_107 rfl (lv_at hl 2 rfl) ?_
                                          refine lv_iconst (v := 0) hx hb dX5_tower_108 (by decide) ?_
                                          refine va_put (D := D) (ci := 5) (v := .int 0) (ty := .int) (C := RX5) (T := TX5) (N := 30) hx hb hts hw_X5 tyX5 tyX5_ok nmX5 hown hK hP hD hS 2 rfl rfl 4 (by decide) f_91 (fun _ h9 => h9) rfl (tyX5_ok 4 (by decide)) rfl rfl (Nat.le_of_ble_eq_true rfl) dX5_tower_109 (fun H locs hP hD hS => ?_)
                                          have hP : va_P D vwCl [(kO, .inl (cy 0, 3, .inl (fun j => nI ((va_up (va_up mk 0 (kn (mp 0))) 1 (kn (mp 8))) j)))), (lO, .inl (cy 0, 3, .inl (upd (upd ml 0 (pk1 (pk1 (pk1 (pk1 (pk1 (pk1 0 (mp 1) 0) (mp 2) 1) (mp 3) 2) (mp 4) 3) (mp 5) 4) (mp 6) 5)) 1 (pk1 (pk1 (pk1 (pk1 (pk1 (pk1 0 (mp 9) 0) (mp 10) 1) (mp 11) 2) (mp 12) 3) (mp 13) 4) (mp 14) 5)))), (m0, .inr (5, [.int (nI tw), .int 2, .ref kO, .ref lO, .int 0, .int (nI ak), .int (nI se), .ref sC, .ref sW, .ref sD, .int 15, .ref pG, .int iw9, .int 2, .ref wO, .ref fO, .ref mO, .ref cO, .long sn, .ref th, .int ik, .int (nI kt), .int (nI ku), .int (nI ks), .ref kK, .ref kL, .ref kC, .ref kW, .ref kD, .long hh])), (pG, .inl (cy 1, 26, .inl (fun j => nI (mp j))))] H := hP
                                          have hD : va_D A [(kO, .inl (cy 0, 3, .inl (fun j => nI ((va_up (va_up mk 0 (kn (mp 0))) 1 (kn (mp 8))) j)))), (lO, .inl (cy 0, 3, .inl (upd (upd ml 0 (pk1 (pk1 (pk1 (pk1 (pk1 (pk1 0 (mp 1) 0) (mp 2) 1) (mp 3) 2) (mp 4) 3) (mp 5) 4) (mp 6) 5)) 1 (pk1 (pk1 (pk1 (pk1 (pk1 (pk1 0 (mp 9) 0) (mp 10) 1) (mp 11) 2) (mp 12) 3) (mp 13) 4) (mp 14) 5)))), (m0, .inr (5, [.int (nI tw), .int 2, .ref kO, .ref lO, .int 0, .int (nI ak), .int (nI se), .ref sC, .ref sW, .ref sD, .int 15, .ref pG, .int iw9, .int 2, .ref wO, .ref fO, .ref mO, .ref cO, .long sn, .ref th, .int ik, .int (nI kt), .int (nI ku), .int (nI ks), .ref kK, .ref kL, .ref kC, .ref kW, .ref kD, .long hh])), (pG, .inl (cy 1, 26, .inl (fun j => nI (mp j))))] := hD
                                          refine lv_aload_n hx hb dX5_tower_112 rfl (lv_at hl 2 rfl) ?_
                                          refine lv_dup hx hb dX5_tower_113 rfl ?_
                                          refine va_get (D := D) (ci := 5) (v := .int (nI tw)) (C := RX5) (T := TX5) (N := 30) hx hb hts hw_X5 hown hK hP 2 rfl rfl 0 (by decide) f_94 (fun _ h9 => h9) rfl dX5_tower_114 ?_
                                          refine lv_iconst (v := 1) hx hb dX5_tower_117 (by decide) ?_
                                          refine lv_iadd hx hb dX5_tower_118 ?_
                                          refine lv_topi (fun y92 ey92 => ?_)
                                          obtain rfl : y92 = nI (tw + 1) := ey92.trans ((nI_succ tw).symm)
                                          refine va_put (D := D) (ci := 5) (v := .int (nI (tw + 1))) (ty := .int) (C := RX5) (T := TX5) (N := 30) hx hb hts hw_X5 tyX5 tyX5_ok nmX5 hown hK hP hD hS 2 rfl rfl 0 (by decide) f_94 (fun _ h9 => h9) rfl (tyX5_ok 0 (by decide)) rfl rfl (Nat.le_of_ble_eq_true rfl) dX5_tower_119 (fun H locs hP hD hS => ?_)
                                          have hP : va_P D vwCl [(kO, .inl (cy 0, 3, .inl (fun j => nI ((va_up (va_up mk 0 (kn (mp 0))) 1 (kn (mp 8))) j)))), (lO, .inl (cy 0, 3, .inl (upd (upd ml 0 (pk1 (pk1 (pk1 (pk1 (pk1 (pk1 0 (mp 1) 0) (mp 2) 1) (mp 3) 2) (mp 4) 3) (mp 5) 4) (mp 6) 5)) 1 (pk1 (pk1 (pk1 (pk1 (pk1 (pk1 0 (mp 9) 0) (mp 10) 1) (mp 11) 2) (mp 12) 3) (mp 13) 4) (mp 14) 5)))), (m0, .inr (5, [.int (nI (tw + 1)), .int 2, .ref kO, .ref lO, .int 0, .int (nI ak), .int (nI se), .ref sC, .ref sW, .ref sD, .int 15, .ref pG, .int iw9, .int 2, .ref wO, .ref fO, .ref mO, .ref cO, .long sn, .ref th, .int ik, .int (nI kt), .int (nI ku), .int (nI ks), .ref kK, .ref kL, .ref kC, .ref kW, .ref kD, .long hh])), (pG, .inl (cy 1, 26, .inl (fun j => nI (mp j))))] H := hP
                                          have hD : va_D A [(kO, .inl (cy 0, 3, .inl (fun j => nI ((va_up (va_up mk 0 (kn (mp 0))) 1 (kn (mp 8))) j)))), (lO, .inl (cy 0, 3, .inl (upd (upd ml 0 (pk1 (pk1 (pk1 (pk1 (pk1 (pk1 0 (mp 1) 0) (mp 2) 1) (mp 3) 2) (mp 4) 3) (mp 5) 4) (mp 6) 5)) 1 (pk1 (pk1 (pk1 (pk1 (pk1 (pk1 0 (mp 9) 0) (mp 10) 1) (mp 11) 2) (mp 12) 3) (mp 13) 4) (mp 14) 5)))), (m0, .inr (5, [.int (nI (tw + 1)), .int 2, .ref kO, .ref lO, .int 0, .int (nI ak), .int (nI se), .ref sC, .ref sW, .ref sD, .int 15, .ref pG, .int iw9, .int 2, .ref wO, .ref fO, .ref mO, .ref cO, .long sn, .ref th, .int ik, .int (nI kt), .int (nI ku), .int (nI ks), .ref kK, .ref kL, .ref kC, .ref kW, .ref kD, .long hh])), (pG, .inl (cy 1, 26, .inl (fun j => nI (mp j))))] := hD
                                          refine lv_aload_n hx hb dX5_tower_122 rfl (lv_at hl 2 rfl) ?_
                                          refine lv_iconst (v := 0) hx hb dX5_tower_123 (by decide) ?_
                                          refine va_put (D := D) (ci := 5) (v := .int 0) (ty := .int) (C := RX5) (T := TX5) (N := 30) hx hb hts hw_X5 tyX5 tyX5_ok nmX5 hown hK hP hD hS 2 rfl rfl 6 (by decide) f_97 (fun _ h9 => h9) rfl (tyX5_ok 6 (by decide)) rfl rfl (Nat.le_of_ble_eq_true rfl) dX5_tower_124 (fun H locs hP hD hS => ?_)
                                          have hP : va_P D vwCl [(kO, .inl (cy 0, 3, .inl (fun j => nI ((va_up (va_up mk 0 (kn (mp 0))) 1 (kn (mp 8))) j)))), (lO, .inl (cy 0, 3, .inl (upd (upd ml 0 (pk1 (pk1 (pk1 (pk1 (pk1 (pk1 0 (mp 1) 0) (mp 2) 1) (mp 3) 2) (mp 4) 3) (mp 5) 4) (mp 6) 5)) 1 (pk1 (pk1 (pk1 (pk1 (pk1 (pk1 0 (mp 9) 0) (mp 10) 1) (mp 11) 2) (mp 12) 3) (mp 13) 4) (mp 14) 5)))), (m0, .inr (5, [.int (nI (tw + 1)), .int 2, .ref kO, .ref lO, .int 0, .int (nI ak), .int 0, .ref sC, .ref sW, .ref sD, .int 15, .ref pG, .int iw9, .int 2, .ref wO, .ref fO, .ref mO, .ref cO, .long sn, .ref th, .int ik, .int (nI kt), .int (nI ku), .int (nI ks), .ref kK, .ref kL, .ref kC, .ref kW, .ref kD, .long hh])), (pG, .inl (cy 1, 26, .inl (fun j => nI (mp j))))] H := hP
                                          have hD : va_D A [(kO, .inl (cy 0, 3, .inl (fun j => nI ((va_up (va_up mk 0 (kn (mp 0))) 1 (kn (mp 8))) j)))), (lO, .inl (cy 0, 3, .inl (upd (upd ml 0 (pk1 (pk1 (pk1 (pk1 (pk1 (pk1 0 (mp 1) 0) (mp 2) 1) (mp 3) 2) (mp 4) 3) (mp 5) 4) (mp 6) 5)) 1 (pk1 (pk1 (pk1 (pk1 (pk1 (pk1 0 (mp 9) 0) (mp 10) 1) (mp 11) 2) (mp 12) 3) (mp 13) 4) (mp 14) 5)))), (m0, .inr (5, [.int (nI (tw + 1)), .int 2, .ref kO, .ref lO, .int 0, .int (nI ak), .int 0, .ref sC, .ref sW, .ref sD, .int 15, .ref pG, .int iw9, .int 2, .ref wO, .ref fO, .ref mO, .ref cO, .long sn, .ref th, .int ik, .int (nI kt), .int (nI ku), .int (nI ks), .ref kK, .ref kL, .ref kC, .ref kW, .ref kD, .long hh])), (pG, .inl (cy 1, 26, .inl (fun j => nI (mp j))))] := hD
                                          refine lv_aload_n hx hb dX5_tower_127 rfl (lv_at hl 2 rfl) ?_
                                          refine lv_iconst (v := 0) hx hb dX5_tower_128 (by decide) ?_
                                          refine va_put (D := D) (ci := 5) (v := .int 0) (ty := .int) (C := RX5) (T := TX5) (N := 30) hx hb hts hw_X5 tyX5 tyX5_ok nmX5 hown hK hP hD hS 2 rfl rfl 10 (by decide) f_63 (fun _ h9 => h9) rfl (tyX5_ok 10 (by decide)) rfl rfl (Nat.le_of_ble_eq_true rfl) dX5_tower_129 (fun H locs hP hD hS => ?_)
                                          have hP : va_P D vwCl [(kO, .inl (cy 0, 3, .inl (fun j => nI ((va_up (va_up mk 0 (kn (mp 0))) 1 (kn (mp 8))) j)))), (lO, .inl (cy 0, 3, .inl (upd (upd ml 0 (pk1 (pk1 (pk1 (pk1 (pk1 (pk1 0 (mp 1) 0) (mp 2) 1) (mp 3) 2) (mp 4) 3) (mp 5) 4) (mp 6) 5)) 1 (pk1 (pk1 (pk1 (pk1 (pk1 (pk1 0 (mp 9) 0) (mp 10) 1) (mp 11) 2) (mp 12) 3) (mp 13) 4) (mp 14) 5)))), (m0, .inr (5, [.int (nI (tw + 1)), .int 2, .ref kO, .ref lO, .int 0, .int (nI ak), .int 0, .ref sC, .ref sW, .ref sD, .int 0, .ref pG, .int iw9, .int 2, .ref wO, .ref fO, .ref mO, .ref cO, .long sn, .ref th, .int ik, .int (nI kt), .int (nI ku), .int (nI ks), .ref kK, .ref kL, .ref kC, .ref kW, .ref kD, .long hh])), (pG, .inl (cy 1, 26, .inl (fun j => nI (mp j))))] H := hP
                                          have hD : va_D A [(kO, .inl (cy 0, 3, .inl (fun j => nI ((va_up (va_up mk 0 (kn (mp 0))) 1 (kn (mp 8))) j)))), (lO, .inl (cy 0, 3, .inl (upd (upd ml 0 (pk1 (pk1 (pk1 (pk1 (pk1 (pk1 0 (mp 1) 0) (mp 2) 1) (mp 3) 2) (mp 4) 3) (mp 5) 4) (mp 6) 5)) 1 (pk1 (pk1 (pk1 (pk1 (pk1 (pk1 0 (mp 9) 0) (mp 10) 1) (mp 11) 2) (mp 12) 3) (mp 13) 4) (mp 14) 5)))), (m0, .inr (5, [.int (nI (tw + 1)), .int 2, .ref kO, .ref lO, .int 0, .int (nI ak), .int 0, .ref sC, .ref sW, .ref sD, .int 0, .ref pG, .int iw9, .int 2, .ref wO, .ref fO, .ref mO, .ref cO, .long sn, .ref th, .int ik, .int (nI kt), .int (nI ku), .int (nI ks), .ref kK, .ref kL, .ref kC, .ref kW, .ref kD, .long hh])), (pG, .inl (cy 1, 26, .inl (fun j => nI (mp j))))] := hD
                                          refine lv_aload_n hx hb dX5_tower_132 rfl (lv_at hl 2 rfl) ?_
                                          refine va_get (D := D) (ci := 5) (v := .int 2) (C := RX5) (T := TX5) (N := 30) hx hb hts hw_X5 hown hK hP 2 rfl rfl 1 (by decide) f_88 (fun _ h9 => h9) rfl dX5_tower_133 ?_
                                          have hP9 := hP.sub (ws' := [(m0, .inr (5, [.int (nI (tw + 1)), .int (nI 2), .ref kO, .ref lO, .int (nI 0), .int (nI ak), .int (nI 0), .ref sC, .ref sW, .ref sD, .int (nI 0), .ref pG, .int iw9, .int (nI 2), .ref wO, .ref fO, .ref mO, .ref cO, .long sn, .ref th, .int ik, .int (nI kt), .int (nI ku), .int (nI ks), .ref kK, .ref kL, .ref kC, .ref kW, .ref kD, .long hh])), (pG, .inl (cy 1, 26, .inl (fun j => nI (mp j)))), (kO, .inl (cy 0, 3, .inl (fun j => nI ((va_up (va_up mk 0 (kn (mp 0))) 1 (kn (mp 8))) j)))), (lO, .inl (cy 0, 3, .inl (upd (upd ml 0 (pk1 (pk1 (pk1 (pk1 (pk1 (pk1 0 (mp 1) 0) (mp 2) 1) (mp 3) 2) (mp 4) 3) (mp 5) 4) (mp 6) 5)) 1 (pk1 (pk1 (pk1 (pk1 (pk1 (pk1 0 (mp 9) 0) (mp 10) 1) (mp 11) 2) (mp 12) 3) (mp 13) 4) (mp 14) 5))))]) [2, 3, 0, 1] rfl
                                          have hD9 := hD.sub (ws' := [(m0, .inr (5, [.int (nI (tw + 1)), .int (nI 2), .ref kO, .ref lO, .int (nI 0), .int (nI ak), .int (nI 0), .ref sC, .ref sW, .ref sD, .int (nI 0), .ref pG, .int iw9, .int (nI 2), .ref wO, .ref fO, .ref mO, .ref cO, .long sn, .ref th, .int ik, .int (nI kt), .int (nI ku), .int (nI ks), .ref kK, .ref kL, .ref kC, .ref kW, .ref kD, .long hh])), (pG, .inl (cy 1, 26, .inl (fun j => nI (mp j)))), (kO, .inl (cy 0, 3, .inl (fun j => nI ((va_up (va_up mk 0 (kn (mp 0))) 1 (kn (mp 8))) j)))), (lO, .inl (cy 0, 3, .inl (upd (upd ml 0 (pk1 (pk1 (pk1 (pk1 (pk1 (pk1 0 (mp 1) 0) (mp 2) 1) (mp 3) 2) (mp 4) 3) (mp 5) 4) (mp 6) 5)) 1 (pk1 (pk1 (pk1 (pk1 (pk1 (pk1 0 (mp 9) 0) (mp 10) 1) (mp 11) 2) (mp 12) 3) (mp 13) 4) (mp 14) 5))))]) [2, 3, 0, 1] (by decide +kernel) rfl
                                          exact W.iret (v := 2) hx hb hr (fun t9 ht9 hW9 => ⟨⟨2, [(m0, .inr (5, [.int (nI (tw + 1)), .int (nI 2), .ref kO, .ref lO, .int (nI 0), .int (nI ak), .int (nI 0), .ref sC, .ref sW, .ref sD, .int (nI 0), .ref pG, .int iw9, .int (nI 2), .ref wO, .ref fO, .ref mO, .ref cO, .long sn, .ref th, .int ik, .int (nI kt), .int (nI ku), .int (nI ks), .ref kK, .ref kL, .ref kC, .ref kW, .ref kD, .long hh])), (pG, .inl (cy 1, 26, .inl (fun j => nI (mp j)))), (kO, .inl (cy 0, 3, .inl (fun j => nI ((va_up (va_up mk 0 (kn (mp 0))) 1 (kn (mp 8))) j)))), (lO, .inl (cy 0, 3, .inl (upd (upd ml 0 (pk1 (pk1 (pk1 (pk1 (pk1 (pk1 0 (mp 1) 0) (mp 2) 1) (mp 3) 2) (mp 4) 3) (mp 5) 4) (mp 6) 5)) 1 (pk1 (pk1 (pk1 (pk1 (pk1 (pk1 0 (mp 9) 0) (mp 10) 1) (mp 11) 2) (mp 12) 3) (mp 13) 4) (mp 14) 5))))], rfl, ⟨iw9, 2, 2, 0, (tw + 1), 0, 0, (va_up (va_up mk 0 (kn (mp 0))) 1 (kn (mp 8))), (upd (upd ml 0 (pk1 (pk1 (pk1 (pk1 (pk1 (pk1 0 (mp 1) 0) (mp 2) 1) (mp 3) 2) (mp 4) 3) (mp 5) 4) (mp 6) 5)) 1 (pk1 (pk1 (pk1 (pk1 (pk1 (pk1 0 (mp 9) 0) (mp 10) 1) (mp 11) 2) (mp 12) 3) (mp 13) 4) (mp 14) 5)), rfl, (Or.inr ⟨2, by decide, rfl, hfm, rfl, rfl, rfl, rfl, rfl, rfl, (fun j => by simp only [va_up]; split; exact Or.inr (kn5 _); split; exact Or.inr (kn5 _); exact Or.inl rfl)⟩), (fun z9 h9 hz9 => by rcases hz9 with rfl | rfl; exact ⟨rfl, rfl⟩; exact absurd h9 (by decide))⟩, by rw [ht9]; exact hP9, hD9⟩, hS.F ht9⟩) hS.2.2 dX5_tower_136
                                        · exact absurd c_30 (by decide)
                                      · exact absurd c_63 (by decide)
                      · exact absurd c_63 (by decide)
      · have hall : ∀ j, j < 23 → fitsI (mp j) j = 1 := fun j hj => by have h9 := hfm.1 j hj; rwa [show amF 23 mp j = mp j from if_pos hj] at h9
        have hP : va_P D vwCl [(kO, .inl (cy 0, 3, .inl (fun j => nI (mk j)))), (lO, .inl (cy 0, 3, .inl ml)), (m0, .inr (5, [.int (nI tw), .int (nI cb), .ref kO, .ref lO, .int (nI tu), .int (nI ak), .int (nI se), .ref sC, .ref sW, .ref sD, .int 23, .ref pG, .int iw9, .int 3, .ref wO, .ref fO, .ref mO, .ref cO, .long sn, .ref th, .int ik, .int (nI kt), .int (nI ku), .int (nI ks), .ref kK, .ref kL, .ref kC, .ref kW, .ref kD, .long hh])), (pG, .inl (cy 1, 26, .inl (fun j => nI (mp j))))] H := hP
        have hD : va_D A [(kO, .inl (cy 0, 3, .inl (fun j => nI (mk j)))), (lO, .inl (cy 0, 3, .inl ml)), (m0, .inr (5, [.int (nI tw), .int (nI cb), .ref kO, .ref lO, .int (nI tu), .int (nI ak), .int (nI se), .ref sC, .ref sW, .ref sD, .int 23, .ref pG, .int iw9, .int 3, .ref wO, .ref fO, .ref mO, .ref cO, .long sn, .ref th, .int ik, .int (nI kt), .int (nI ku), .int (nI ks), .ref kK, .ref kL, .ref kC, .ref kW, .ref kD, .long hh])), (pG, .inl (cy 1, 26, .inl (fun j => nI (mp j))))] := hD
        refine lv_aload_n hx hb dX5_tower_15 rfl (lv_at hl 0 rfl) ?_
        refine lv_aload_n hx hb dX5_tower_16 rfl (lv_at hl 0 rfl) ?_
        refine va_get (D := D) (ci := 5) (v := .int 3) (C := RX5) (T := TX5) (N := 30) hx hb hts hw_X5 hown hK hP 2 rfl rfl 13 (by decide) f_78 (fun _ h9 => h9) rfl dX5_tower_17 ?_
        refine va_put (D := D) (ci := 5) (v := .int 3) (ty := .int) (C := RX5) (T := TX5) (N := 30) hx hb hts hw_X5 tyX5 tyX5_ok nmX5 hown hK hP hD hS 2 rfl rfl 1 (by decide) f_88 (fun _ h9 => h9) rfl (tyX5_ok 1 (by decide)) rfl rfl (Nat.le_of_ble_eq_true rfl) dX5_tower_20 (fun H locs hP hD hS => ?_)
        have hP : va_P D vwCl [(kO, .inl (cy 0, 3, .inl (fun j => nI (mk j)))), (lO, .inl (cy 0, 3, .inl ml)), (m0, .inr (5, [.int (nI tw), .int 3, .ref kO, .ref lO, .int (nI tu), .int (nI ak), .int (nI se), .ref sC, .ref sW, .ref sD, .int 23, .ref pG, .int iw9, .int 3, .ref wO, .ref fO, .ref mO, .ref cO, .long sn, .ref th, .int ik, .int (nI kt), .int (nI ku), .int (nI ks), .ref kK, .ref kL, .ref kC, .ref kW, .ref kD, .long hh])), (pG, .inl (cy 1, 26, .inl (fun j => nI (mp j))))] H := hP
        have hD : va_D A [(kO, .inl (cy 0, 3, .inl (fun j => nI (mk j)))), (lO, .inl (cy 0, 3, .inl ml)), (m0, .inr (5, [.int (nI tw), .int 3, .ref kO, .ref lO, .int (nI tu), .int (nI ak), .int (nI se), .ref sC, .ref sW, .ref sD, .int 23, .ref pG, .int iw9, .int 3, .ref wO, .ref fO, .ref mO, .ref cO, .long sn, .ref th, .int ik, .int (nI kt), .int (nI ku), .int (nI ks), .ref kK, .ref kL, .ref kC, .ref kW, .ref kD, .long hh])), (pG, .inl (cy 1, 26, .inl (fun j => nI (mp j))))] := hD
        refine lv_iconst (v := 0) hx hb dX5_tower_23 (by decide) ?_
        refine lv_istore_n (lv' := [(1, .int 0), (0, .ref m0)]) hx hb dX5_tower_24 rfl hl (by decide) rfl (fun ls hl => ?_)
        refine lv_iload_n hx hb dX5_tower_25 rfl (lv_at hl 0 rfl) ?_
        refine lv_aload_n hx hb dX5_tower_26 rfl (lv_at hl 1 rfl) ?_
        refine va_get (D := D) (ci := 5) (v := .int 3) (C := RX5) (T := TX5) (N := 30) hx hb hts hw_X5 hown hK hP 2 rfl rfl 1 (by decide) f_88 (fun _ h9 => h9) rfl dX5_tower_27 ?_
        refine lv_icmp_ge (tgt := 107) hx hb dX5_tower_30 (by decide) (fun c_30 => ?_) (fun c_30 => ?_)
        · exact absurd c_30 (by decide)
        · refine lv_aload_n hx hb dX5_tower_33 rfl (lv_at hl 1 rfl) ?_
          refine va_get (D := D) (ci := 5) (v := .ref kO) (C := RX5) (T := TX5) (N := 30) hx hb hts hw_X5 hown hK hP 2 rfl rfl 2 (by decide) f_7 (fun _ h9 => h9) rfl dX5_tower_34 ?_
          refine lv_iload_n hx hb dX5_tower_37 rfl (lv_at hl 0 rfl) ?_
          refine lv_aload_n hx hb dX5_tower_38 rfl (lv_at hl 1 rfl) ?_
          refine va_get (D := D) (ci := 5) (v := .ref pG) (C := RX5) (T := TX5) (N := 30) hx hb hts hw_X5 hown hK hP 2 rfl rfl 11 (by decide) f_25 (fun _ h9 => h9) rfl dX5_tower_39 ?_
          refine lv_bipush (v := 8) hx hb dX5_tower_42 (by decide) ?_
          refine lv_iload_n hx hb dX5_tower_44 rfl (lv_at hl 0 rfl) ?_
          refine lv_imul hx hb dX5_tower_45 ?_
          refine lv_topi (fun y93 ey93 => ?_)
          obtain rfl : y93 = 0 := ey93.trans (by decide)
          refine va_bald hx hb hK hP 3 1 rfl rfl (vi_c (by decide +kernel)) dX5_tower_46 ?_
          refine lv_topi (fun y94 ey94 => ?_)
          obtain rfl : y94 = nI (mp 0) := ey94.trans (rfl)
          refine kc_i (wc := []) (wr := [(kO, .inl (cy 0, 3, .inl (fun j => nI (mk j)))), (lO, .inl (cy 0, 3, .inl ml)), (m0, .inr (5, [.int (nI tw), .int 3, .ref kO, .ref lO, .int (nI tu), .int (nI ak), .int (nI se), .ref sC, .ref sW, .ref sD, .int 23, .ref pG, .int iw9, .int 3, .ref wO, .ref fO, .ref mO, .ref cO, .long sn, .ref th, .int ik, .int (nI kt), .int (nI ku), .int (nI ks), .ref kK, .ref kL, .ref kC, .ref kW, .ref kD, .long hh])), (pG, .inl (cy 1, 26, .inl (fun j => nI (mp j))))]) (va_runS (As := [.int (nI (mp 0))]) (rest := [.int 0, .ref kO]) ⟨hx, hb, hml, hown, hts⟩ (c_X5_kindBy l D cy H.size (nI (mp 0)) ) (va_cwS 1 hts gX5_tower_X5_kindBy rfl rfl rfl hdc_X5_kindBy.2 ⟨Nat.le_of_ble_eq_true rfl, Nat.le_of_ble_eq_true rfl⟩) (cpre_S (wc := []) hX hP hD hS hA [] (by decide +kernel) rfl) rfl rfl hl.1 rfl (lv_room (Nat.le_of_ble_eq_true rfl)) dX5_tower_47 ⟨Nat.le_of_ble_eq_true rfl, Nat.le_of_ble_eq_true rfl⟩) hP hD hS hA [] [0, 1, 2, 3] rfl rfl (by decide +kernel) (by decide +kernel) (fun rk u95 H locs hw hP hD hS => ?_)
          obtain ⟨hu, hrk⟩ := hw
          subst hu
          have hP : va_P D vwCl [(kO, .inl (cy 0, 3, .inl (fun j => nI (mk j)))), (lO, .inl (cy 0, 3, .inl ml)), (m0, .inr (5, [.int (nI tw), .int 3, .ref kO, .ref lO, .int (nI tu), .int (nI ak), .int (nI se), .ref sC, .ref sW, .ref sD, .int 23, .ref pG, .int iw9, .int 3, .ref wO, .ref fO, .ref mO, .ref cO, .long sn, .ref th, .int ik, .int (nI kt), .int (nI ku), .int (nI ks), .ref kK, .ref kL, .ref kC, .ref kW, .ref kD, .long hh])), (pG, .inl (cy 1, 26, .inl (fun j => nI (mp j))))] H := hP
          have hD : va_D A [(kO, .inl (cy 0, 3, .inl (fun j => nI (mk j)))), (lO, .inl (cy 0, 3, .inl ml)), (m0, .inr (5, [.int (nI tw), .int 3, .ref kO, .ref lO, .int (nI tu), .int (nI ak), .int (nI se), .ref sC, .ref sW, .ref sD, .int 23, .ref pG, .int iw9, .int 3, .ref wO, .ref fO, .ref mO, .ref cO, .long sn, .ref th, .int ik, .int (nI kt), .int (nI ku), .int (nI ks), .ref kK, .ref kL, .ref kC, .ref kW, .ref kD, .long hh])), (pG, .inl (cy 1, 26, .inl (fun j => nI (mp j))))] := hD
          have hrk := hrk.trans (kb_kn _ (hmp _) ((ft_k (hmp 0) (by decide) (by decide)).mp (hall 0 (by decide))))
          subst hrk
          refine va_iast hx hb hK hP hD hS 0 0 rfl rfl (vi_c (by decide +kernel)) dX5_tower_50 (fun H locs hP hD hS => ?_)
          have hP : va_P D vwCl [(kO, .inl (cy 0, 3, .inl (upd (fun j => nI (mk j)) 0 (nI (kn (mp 0)))))), (lO, .inl (cy 0, 3, .inl ml)), (m0, .inr (5, [.int (nI tw), .int 3, .ref kO, .ref lO, .int (nI tu), .int (nI ak), .int (nI se), .ref sC, .ref sW, .ref sD, .int 23, .ref pG, .int iw9, .int 3, .ref wO, .ref fO, .ref mO, .ref cO, .long sn, .ref th, .int ik, .int (nI kt), .int (nI ku), .int (nI ks), .ref kK, .ref kL, .ref kC, .ref kW, .ref kD, .long hh])), (pG, .inl (cy 1, 26, .inl (fun j => nI (mp j))))] H := hP
          have hD : va_D A [(kO, .inl (cy 0, 3, .inl (upd (fun j => nI (mk j)) 0 (nI (kn (mp 0)))))), (lO, .inl (cy 0, 3, .inl ml)), (m0, .inr (5, [.int (nI tw), .int 3, .ref kO, .ref lO, .int (nI tu), .int (nI ak), .int (nI se), .ref sC, .ref sW, .ref sD, .int 23, .ref pG, .int iw9, .int 3, .ref wO, .ref fO, .ref mO, .ref cO, .long sn, .ref th, .int ik, .int (nI kt), .int (nI ku), .int (nI ks), .ref kK, .ref kL, .ref kC, .ref kW, .ref kD, .long hh])), (pG, .inl (cy 1, 26, .inl (fun j => nI (mp j))))] := hD
          rw [updN mk 0 (kn (mp 0))] at hP hD
          have hP : va_P D vwCl [(kO, .inl (cy 0, 3, .inl (fun j => nI ((va_up mk 0 (kn (mp 0))) j)))), (lO, .inl (cy 0, 3, .inl ml)), (m0, .inr (5, [.int (nI tw), .int 3, .ref kO, .ref lO, .int (nI tu), .int (nI ak), .int (nI se), .ref sC, .ref sW, .ref sD, .int 23, .ref pG, .int iw9, .int 3, .ref wO, .ref fO, .ref mO, .ref cO, .long sn, .ref th, .int ik, .int (nI kt), .int (nI ku), .int (nI ks), .ref kK, .ref kL, .ref kC, .ref kW, .ref kD, .long hh])), (pG, .inl (cy 1, 26, .inl (fun j => nI (mp j))))] H := hP
          have hD : va_D A [(kO, .inl (cy 0, 3, .inl (fun j => nI ((va_up mk 0 (kn (mp 0))) j)))), (lO, .inl (cy 0, 3, .inl ml)), (m0, .inr (5, [.int (nI tw), .int 3, .ref kO, .ref lO, .int (nI tu), .int (nI ak), .int (nI se), .ref sC, .ref sW, .ref sD, .int 23, .ref pG, .int iw9, .int 3, .ref wO, .ref fO, .ref mO, .ref cO, .long sn, .ref th, .int ik, .int (nI kt), .int (nI ku), .int (nI ks), .ref kK, .ref kL, .ref kC, .ref kW, .ref kD, .long hh])), (pG, .inl (cy 1, 26, .inl (fun j => nI (mp j))))] := hD
          refine lv_aload_n hx hb dX5_tower_51 rfl (lv_at hl 1 rfl) ?_
          refine va_get (D := D) (ci := 5) (v := .ref lO) (C := RX5) (T := TX5) (N := 30) hx hb hts hw_X5 hown hK hP 2 rfl rfl 3 (by decide) f_13 (fun _ h9 => h9) rfl dX5_tower_52 ?_
          refine lv_iload_n hx hb dX5_tower_55 rfl (lv_at hl 0 rfl) ?_
          refine lv_iconst (v := 0) hx hb dX5_tower_56 (by decide) ?_
          refine va_iast hx hb hK hP hD hS 1 0 rfl rfl (vi_c (by decide +kernel)) dX5_tower_57 (fun H locs hP hD hS => ?_)
          have hP : va_P D vwCl [(kO, .inl (cy 0, 3, .inl (fun j => nI ((va_up mk 0 (kn (mp 0))) j)))), (lO, .inl (cy 0, 3, .inl (upd ml 0 0))), (m0, .inr (5, [.int (nI tw), .int 3, .ref kO, .ref lO, .int (nI tu), .int (nI ak), .int (nI se), .ref sC, .ref sW, .ref sD, .int 23, .ref pG, .int iw9, .int 3, .ref wO, .ref fO, .ref mO, .ref cO, .long sn, .ref th, .int ik, .int (nI kt), .int (nI ku), .int (nI ks), .ref kK, .ref kL, .ref kC, .ref kW, .ref kD, .long hh])), (pG, .inl (cy 1, 26, .inl (fun j => nI (mp j))))] H := hP
          have hD : va_D A [(kO, .inl (cy 0, 3, .inl (fun j => nI ((va_up mk 0 (kn (mp 0))) j)))), (lO, .inl (cy 0, 3, .inl (upd ml 0 0))), (m0, .inr (5, [.int (nI tw), .int 3, .ref kO, .ref lO, .int (nI tu), .int (nI ak), .int (nI se), .ref sC, .ref sW, .ref sD, .int 23, .ref pG, .int iw9, .int 3, .ref wO, .ref fO, .ref mO, .ref cO, .long sn, .ref th, .int ik, .int (nI kt), .int (nI ku), .int (nI ks), .ref kK, .ref kL, .ref kC, .ref kW, .ref kD, .long hh])), (pG, .inl (cy 1, 26, .inl (fun j => nI (mp j))))] := hD
          refine lv_iconst (v := 0) hx hb dX5_tower_58 (by decide) ?_
          refine lv_istore_n (lv' := [(2, .int 0), (1, .int 0), (0, .ref m0)]) hx hb dX5_tower_59 rfl hl (by decide) rfl (fun ls hl => ?_)
          refine lv_iload_n hx hb dX5_tower_60 rfl (lv_at hl 0 rfl) ?_
          refine lv_bipush (v := 6) hx hb dX5_tower_61 (by decide) ?_
          refine lv_icmp_ge (tgt := 101) hx hb dX5_tower_63 (by decide) (fun c_63 => ?_) (fun c_63 => ?_)
          · exact absurd c_63 (by decide)
          · refine lv_aload_n hx hb dX5_tower_66 rfl (lv_at hl 2 rfl) ?_
            refine va_get (D := D) (ci := 5) (v := .ref lO) (C := RX5) (T := TX5) (N := 30) hx hb hts hw_X5 hown hK hP 2 rfl rfl 3 (by decide) f_13 (fun _ h9 => h9) rfl dX5_tower_67 ?_
            refine lv_iload_n hx hb dX5_tower_70 rfl (lv_at hl 1 rfl) ?_
            refine lv_dup2_11 hx hb dX5_tower_71 rfl rfl ?_
            refine va_iald hx hb hK hP 1 0 rfl rfl (vi_c (by decide +kernel)) dX5_tower_72 ?_
            refine lv_topi (fun y96 ey96 => ?_)
            obtain rfl : y96 = 0 := ey96.trans (upd_rd _ _ _ (by decide))
            refine lv_aload_n hx hb dX5_tower_73 rfl (lv_at hl 2 rfl) ?_
            refine va_get (D := D) (ci := 5) (v := .ref pG) (C := RX5) (T := TX5) (N := 30) hx hb hts hw_X5 hown hK hP 2 rfl rfl 11 (by decide) f_25 (fun _ h9 => h9) rfl dX5_tower_74 ?_
            refine lv_bipush (v := 8) hx hb dX5_tower_77 (by decide) ?_
            refine lv_iload_n hx hb dX5_tower_79 rfl (lv_at hl 1 rfl) ?_
            refine lv_imul hx hb dX5_tower_80 ?_
            refine lv_topi (fun y97 ey97 => ?_)
            obtain rfl : y97 = 0 := ey97.trans (by decide)
            refine lv_iconst (v := 1) hx hb dX5_tower_81 (by decide) ?_
            refine lv_iadd hx hb dX5_tower_82 ?_
            refine lv_topi (fun y98 ey98 => ?_)
            obtain rfl : y98 = 1 := ey98.trans (by decide)
            refine lv_iload_n hx hb dX5_tower_83 rfl (lv_at hl 0 rfl) ?_
            refine lv_iadd hx hb dX5_tower_84 ?_
            refine lv_topi (fun y99 ey99 => ?_)
            obtain rfl : y99 = 1 := ey99.trans (by decide)
            refine va_bald hx hb hK hP 3 1 rfl rfl (vi_c (by decide +kernel)) dX5_tower_85 ?_
            refine lv_topi (fun y100 ey100 => ?_)
            obtain rfl : y100 = nI (mp 1) := ey100.trans (rfl)
            refine lv_bipush (v := 97) hx hb dX5_tower_86 (by decide) ?_
            refine lv_isub hx hb dX5_tower_88 ?_
            refine lv_iconst (v := 3) hx hb dX5_tower_89 (by decide) ?_
            refine lv_iload_n hx hb dX5_tower_90 rfl (lv_at hl 0 rfl) ?_
            refine lv_imul hx hb dX5_tower_91 ?_
            refine lv_topi (fun y101 ey101 => ?_)
            obtain rfl : y101 = 0 := ey101.trans (by decide)
            refine lv_ishl hx hb dX5_tower_92 ?_
            refine lv_ior hx hb dX5_tower_93 ?_
            refine lv_topi (fun y102 ey102 => ?_)
            obtain rfl : y102 = pk1 0 (mp 1) 0 := ey102.trans (rfl)
            refine va_iast hx hb hK hP hD hS 1 0 rfl rfl (vi_c (by decide +kernel)) dX5_tower_94 (fun H locs hP hD hS => ?_)
            have hP : va_P D vwCl [(kO, .inl (cy 0, 3, .inl (fun j => nI ((va_up mk 0 (kn (mp 0))) j)))), (lO, .inl (cy 0, 3, .inl (upd (upd ml 0 0) 0 (pk1 0 (mp 1) 0)))), (m0, .inr (5, [.int (nI tw), .int 3, .ref kO, .ref lO, .int (nI tu), .int (nI ak), .int (nI se), .ref sC, .ref sW, .ref sD, .int 23, .ref pG, .int iw9, .int 3, .ref wO, .ref fO, .ref mO, .ref cO, .long sn, .ref th, .int ik, .int (nI kt), .int (nI ku), .int (nI ks), .ref kK, .ref kL, .ref kC, .ref kW, .ref kD, .long hh])), (pG, .inl (cy 1, 26, .inl (fun j => nI (mp j))))] H := hP
            have hD : va_D A [(kO, .inl (cy 0, 3, .inl (fun j => nI ((va_up mk 0 (kn (mp 0))) j)))), (lO, .inl (cy 0, 3, .inl (upd (upd ml 0 0) 0 (pk1 0 (mp 1) 0)))), (m0, .inr (5, [.int (nI tw), .int 3, .ref kO, .ref lO, .int (nI tu), .int (nI ak), .int (nI se), .ref sC, .ref sW, .ref sD, .int 23, .ref pG, .int iw9, .int 3, .ref wO, .ref fO, .ref mO, .ref cO, .long sn, .ref th, .int ik, .int (nI kt), .int (nI ku), .int (nI ks), .ref kK, .ref kL, .ref kC, .ref kW, .ref kD, .long hh])), (pG, .inl (cy 1, 26, .inl (fun j => nI (mp j))))] := hD
            rw [upd_upd ml 0 0 (pk1 0 (mp 1) 0)] at hP hD
            have hP : va_P D vwCl [(kO, .inl (cy 0, 3, .inl (fun j => nI ((va_up mk 0 (kn (mp 0))) j)))), (lO, .inl (cy 0, 3, .inl (upd ml 0 (pk1 0 (mp 1) 0)))), (m0, .inr (5, [.int (nI tw), .int 3, .ref kO, .ref lO, .int (nI tu), .int (nI ak), .int (nI se), .ref sC, .ref sW, .ref sD, .int 23, .ref pG, .int iw9, .int 3, .ref wO, .ref fO, .ref mO, .ref cO, .long sn, .ref th, .int ik, .int (nI kt), .int (nI ku), .int (nI ks), .ref kK, .ref kL, .ref kC, .ref kW, .ref kD, .long hh])), (pG, .inl (cy 1, 26, .inl (fun j => nI (mp j))))] H := hP
            have hD : va_D A [(kO, .inl (cy 0, 3, .inl (fun j => nI ((va_up mk 0 (kn (mp 0))) j)))), (lO, .inl (cy 0, 3, .inl (upd ml 0 (pk1 0 (mp 1) 0)))), (m0, .inr (5, [.int (nI tw), .int 3, .ref kO, .ref lO, .int (nI tu), .int (nI ak), .int (nI se), .ref sC, .ref sW, .ref sD, .int 23, .ref pG, .int iw9, .int 3, .ref wO, .ref fO, .ref mO, .ref cO, .long sn, .ref th, .int ik, .int (nI kt), .int (nI ku), .int (nI ks), .ref kK, .ref kL, .ref kC, .ref kW, .ref kD, .long hh])), (pG, .inl (cy 1, 26, .inl (fun j => nI (mp j))))] := hD
            refine lv_iinc (v := 1) (lv' := [(2, .int 1), (1, .int 0), (0, .ref m0)]) hx hb dX5_tower_95 hl (k := 0) rfl (by decide) (by decide) rfl (fun ls hl => ?_)
            refine lv_goto (tgt := 60) hx hb dX5_tower_98 (by decide) ?_
            refine lv_iload_n hx hb dX5_tower_60 rfl (lv_at hl 0 rfl) ?_
            refine lv_bipush (v := 6) hx hb dX5_tower_61 (by decide) ?_
            refine lv_icmp_ge (tgt := 101) hx hb dX5_tower_63 (by decide) (fun c_63 => ?_) (fun c_63 => ?_)
            · exact absurd c_63 (by decide)
            · refine lv_aload_n hx hb dX5_tower_66 rfl (lv_at hl 2 rfl) ?_
              refine va_get (D := D) (ci := 5) (v := .ref lO) (C := RX5) (T := TX5) (N := 30) hx hb hts hw_X5 hown hK hP 2 rfl rfl 3 (by decide) f_13 (fun _ h9 => h9) rfl dX5_tower_67 ?_
              refine lv_iload_n hx hb dX5_tower_70 rfl (lv_at hl 1 rfl) ?_
              refine lv_dup2_11 hx hb dX5_tower_71 rfl rfl ?_
              refine va_iald hx hb hK hP 1 0 rfl rfl (vi_c (by decide +kernel)) dX5_tower_72 ?_
              refine lv_topi (fun y103 ey103 => ?_)
              obtain rfl : y103 = pk1 0 (mp 1) 0 := ey103.trans (upd_rd _ _ _ (by decide))
              refine lv_aload_n hx hb dX5_tower_73 rfl (lv_at hl 2 rfl) ?_
              refine va_get (D := D) (ci := 5) (v := .ref pG) (C := RX5) (T := TX5) (N := 30) hx hb hts hw_X5 hown hK hP 2 rfl rfl 11 (by decide) f_25 (fun _ h9 => h9) rfl dX5_tower_74 ?_
              refine lv_bipush (v := 8) hx hb dX5_tower_77 (by decide) ?_
              refine lv_iload_n hx hb dX5_tower_79 rfl (lv_at hl 1 rfl) ?_
              refine lv_imul hx hb dX5_tower_80 ?_
              refine lv_topi (fun y104 ey104 => ?_)
              obtain rfl : y104 = 0 := ey104.trans (by decide)
              refine lv_iconst (v := 1) hx hb dX5_tower_81 (by decide) ?_
              refine lv_iadd hx hb dX5_tower_82 ?_
              refine lv_topi (fun y105 ey105 => ?_)
              obtain rfl : y105 = 1 := ey105.trans (by decide)
              refine lv_iload_n hx hb dX5_tower_83 rfl (lv_at hl 0 rfl) ?_
              refine lv_iadd hx hb dX5_tower_84 ?_
              refine lv_topi (fun y106 ey106 => ?_)
              obtain rfl : y106 = 2 := ey106.trans (by decide)
              refine va_bald hx hb hK hP 3 1 rfl rfl (vi_c (by decide +kernel)) dX5_tower_85 ?_
              refine lv_topi (fun y107 ey107 => ?_)
              obtain rfl : y107 = nI (mp 2) := ey107.trans (rfl)
              refine lv_bipush (v := 97) hx hb dX5_tower_86 (by decide) ?_
              refine lv_isub hx hb dX5_tower_88 ?_
              refine lv_iconst (v := 3) hx hb dX5_tower_89 (by decide) ?_
              refine lv_iload_n hx hb dX5_tower_90 rfl (lv_at hl 0 rfl) ?_
              refine lv_imul hx hb dX5_tower_91 ?_
              refine lv_topi (fun y108 ey108 => ?_)
              obtain rfl : y108 = 3 := ey108.trans (by decide)
              refine lv_ishl hx hb dX5_tower_92 ?_
              refine lv_ior hx hb dX5_tower_93 ?_
              refine lv_topi (fun y109 ey109 => ?_)
              obtain rfl : y109 = pk1 (pk1 0 (mp 1) 0) (mp 2) 1 := ey109.trans (rfl)
              refine va_iast hx hb hK hP hD hS 1 0 rfl rfl (vi_c (by decide +kernel)) dX5_tower_94 (fun H locs hP hD hS => ?_)
              have hP : va_P D vwCl [(kO, .inl (cy 0, 3, .inl (fun j => nI ((va_up mk 0 (kn (mp 0))) j)))), (lO, .inl (cy 0, 3, .inl (upd (upd ml 0 (pk1 0 (mp 1) 0)) 0 (pk1 (pk1 0 (mp 1) 0) (mp 2) 1)))), (m0, .inr (5, [.int (nI tw), .int 3, .ref kO, .ref lO, .int (nI tu), .int (nI ak), .int (nI se), .ref sC, .ref sW, .ref sD, .int 23, .ref pG, .int iw9, .int 3, .ref wO, .ref fO, .ref mO, .ref cO, .long sn, .ref th, .int ik, .int (nI kt), .int (nI ku), .int (nI ks), .ref kK, .ref kL, .ref kC, .ref kW, .ref kD, .long hh])), (pG, .inl (cy 1, 26, .inl (fun j => nI (mp j))))] H := hP
              have hD : va_D A [(kO, .inl (cy 0, 3, .inl (fun j => nI ((va_up mk 0 (kn (mp 0))) j)))), (lO, .inl (cy 0, 3, .inl (upd (upd ml 0 (pk1 0 (mp 1) 0)) 0 (pk1 (pk1 0 (mp 1) 0) (mp 2) 1)))), (m0, .inr (5, [.int (nI tw), .int 3, .ref kO, .ref lO, .int (nI tu), .int (nI ak), .int (nI se), .ref sC, .ref sW, .ref sD, .int 23, .ref pG, .int iw9, .int 3, .ref wO, .ref fO, .ref mO, .ref cO, .long sn, .ref th, .int ik, .int (nI kt), .int (nI ku), .int (nI ks), .ref kK, .ref kL, .ref kC, .ref kW, .ref kD, .long hh])), (pG, .inl (cy 1, 26, .inl (fun j => nI (mp j))))] := hD
              rw [upd_upd ml 0 (pk1 0 (mp 1) 0) (pk1 (pk1 0 (mp 1) 0) (mp 2) 1)] at hP hD
              have hP : va_P D vwCl [(kO, .inl (cy 0, 3, .inl (fun j => nI ((va_up mk 0 (kn (mp 0))) j)))), (lO, .inl (cy 0, 3, .inl (upd ml 0 (pk1 (pk1 0 (mp 1) 0) (mp 2) 1)))), (m0, .inr (5, [.int (nI tw), .int 3, .ref kO, .ref lO, .int (nI tu), .int (nI ak), .int (nI se), .ref sC, .ref sW, .ref sD, .int 23, .ref pG, .int iw9, .int 3, .ref wO, .ref fO, .ref mO, .ref cO, .long sn, .ref th, .int ik, .int (nI kt), .int (nI ku), .int (nI ks), .ref kK, .ref kL, .ref kC, .ref kW, .ref kD, .long hh])), (pG, .inl (cy 1, 26, .inl (fun j => nI (mp j))))] H := hP
              have hD : va_D A [(kO, .inl (cy 0, 3, .inl (fun j => nI ((va_up mk 0 (kn (mp 0))) j)))), (lO, .inl (cy 0, 3, .inl (upd ml 0 (pk1 (pk1 0 (mp 1) 0) (mp 2) 1)))), (m0, .inr (5, [.int (nI tw), .int 3, .ref kO, .ref lO, .int (nI tu), .int (nI ak), .int (nI se), .ref sC, .ref sW, .ref sD, .int 23, .ref pG, .int iw9, .int 3, .ref wO, .ref fO, .ref mO, .ref cO, .long sn, .ref th, .int ik, .int (nI kt), .int (nI ku), .int (nI ks), .ref kK, .ref kL, .ref kC, .ref kW, .ref kD, .long hh])), (pG, .inl (cy 1, 26, .inl (fun j => nI (mp j))))] := hD
              refine lv_iinc (v := 2) (lv' := [(2, .int 2), (1, .int 0), (0, .ref m0)]) hx hb dX5_tower_95 hl (k := 0) rfl (by decide) (by decide) rfl (fun ls hl => ?_)
              refine lv_goto (tgt := 60) hx hb dX5_tower_98 (by decide) ?_
              refine lv_iload_n hx hb dX5_tower_60 rfl (lv_at hl 0 rfl) ?_
              refine lv_bipush (v := 6) hx hb dX5_tower_61 (by decide) ?_
              refine lv_icmp_ge (tgt := 101) hx hb dX5_tower_63 (by decide) (fun c_63 => ?_) (fun c_63 => ?_)
              · exact absurd c_63 (by decide)
              · refine lv_aload_n hx hb dX5_tower_66 rfl (lv_at hl 2 rfl) ?_
                refine va_get (D := D) (ci := 5) (v := .ref lO) (C := RX5) (T := TX5) (N := 30) hx hb hts hw_X5 hown hK hP 2 rfl rfl 3 (by decide) f_13 (fun _ h9 => h9) rfl dX5_tower_67 ?_
                refine lv_iload_n hx hb dX5_tower_70 rfl (lv_at hl 1 rfl) ?_
                refine lv_dup2_11 hx hb dX5_tower_71 rfl rfl ?_
                refine va_iald hx hb hK hP 1 0 rfl rfl (vi_c (by decide +kernel)) dX5_tower_72 ?_
                refine lv_topi (fun y110 ey110 => ?_)
                obtain rfl : y110 = pk1 (pk1 0 (mp 1) 0) (mp 2) 1 := ey110.trans (upd_rd _ _ _ (by decide))
                refine lv_aload_n hx hb dX5_tower_73 rfl (lv_at hl 2 rfl) ?_
                refine va_get (D := D) (ci := 5) (v := .ref pG) (C := RX5) (T := TX5) (N := 30) hx hb hts hw_X5 hown hK hP 2 rfl rfl 11 (by decide) f_25 (fun _ h9 => h9) rfl dX5_tower_74 ?_
                refine lv_bipush (v := 8) hx hb dX5_tower_77 (by decide) ?_
                refine lv_iload_n hx hb dX5_tower_79 rfl (lv_at hl 1 rfl) ?_
                refine lv_imul hx hb dX5_tower_80 ?_
                refine lv_topi (fun y111 ey111 => ?_)
                obtain rfl : y111 = 0 := ey111.trans (by decide)
                refine lv_iconst (v := 1) hx hb dX5_tower_81 (by decide) ?_
                refine lv_iadd hx hb dX5_tower_82 ?_
                refine lv_topi (fun y112 ey112 => ?_)
                obtain rfl : y112 = 1 := ey112.trans (by decide)
                refine lv_iload_n hx hb dX5_tower_83 rfl (lv_at hl 0 rfl) ?_
                refine lv_iadd hx hb dX5_tower_84 ?_
                refine lv_topi (fun y113 ey113 => ?_)
                obtain rfl : y113 = 3 := ey113.trans (by decide)
                refine va_bald hx hb hK hP 3 1 rfl rfl (vi_c (by decide +kernel)) dX5_tower_85 ?_
                refine lv_topi (fun y114 ey114 => ?_)
                obtain rfl : y114 = nI (mp 3) := ey114.trans (rfl)
                refine lv_bipush (v := 97) hx hb dX5_tower_86 (by decide) ?_
                refine lv_isub hx hb dX5_tower_88 ?_
                refine lv_iconst (v := 3) hx hb dX5_tower_89 (by decide) ?_
                refine lv_iload_n hx hb dX5_tower_90 rfl (lv_at hl 0 rfl) ?_
                refine lv_imul hx hb dX5_tower_91 ?_
                refine lv_topi (fun y115 ey115 => ?_)
                obtain rfl : y115 = 6 := ey115.trans (by decide)
                refine lv_ishl hx hb dX5_tower_92 ?_
                refine lv_ior hx hb dX5_tower_93 ?_
                refine lv_topi (fun y116 ey116 => ?_)
                obtain rfl : y116 = pk1 (pk1 (pk1 0 (mp 1) 0) (mp 2) 1) (mp 3) 2 := ey116.trans (rfl)
                refine va_iast hx hb hK hP hD hS 1 0 rfl rfl (vi_c (by decide +kernel)) dX5_tower_94 (fun H locs hP hD hS => ?_)
                have hP : va_P D vwCl [(kO, .inl (cy 0, 3, .inl (fun j => nI ((va_up mk 0 (kn (mp 0))) j)))), (lO, .inl (cy 0, 3, .inl (upd (upd ml 0 (pk1 (pk1 0 (mp 1) 0) (mp 2) 1)) 0 (pk1 (pk1 (pk1 0 (mp 1) 0) (mp 2) 1) (mp 3) 2)))), (m0, .inr (5, [.int (nI tw), .int 3, .ref kO, .ref lO, .int (nI tu), .int (nI ak), .int (nI se), .ref sC, .ref sW, .ref sD, .int 23, .ref pG, .int iw9, .int 3, .ref wO, .ref fO, .ref mO, .ref cO, .long sn, .ref th, .int ik, .int (nI kt), .int (nI ku), .int (nI ks), .ref kK, .ref kL, .ref kC, .ref kW, .ref kD, .long hh])), (pG, .inl (cy 1, 26, .inl (fun j => nI (mp j))))] H := hP
                have hD : va_D A [(kO, .inl (cy 0, 3, .inl (fun j => nI ((va_up mk 0 (kn (mp 0))) j)))), (lO, .inl (cy 0, 3, .inl (upd (upd ml 0 (pk1 (pk1 0 (mp 1) 0) (mp 2) 1)) 0 (pk1 (pk1 (pk1 0 (mp 1) 0) (mp 2) 1) (mp 3) 2)))), (m0, .inr (5, [.int (nI tw), .int 3, .ref kO, .ref lO, .int (nI tu), .int (nI ak), .int (nI se), .ref sC, .ref sW, .ref sD, .int 23, .ref pG, .int iw9, .int 3, .ref wO, .ref fO, .ref mO, .ref cO, .long sn, .ref th, .int ik, .int (nI kt), .int (nI ku), .int (nI ks), .ref kK, .ref kL, .ref kC, .ref kW, .ref kD, .long hh])), (pG, .inl (cy 1, 26, .inl (fun j => nI (mp j))))] := hD
                rw [upd_upd ml 0 (pk1 (pk1 0 (mp 1) 0) (mp 2) 1) (pk1 (pk1 (pk1 0 (mp 1) 0) (mp 2) 1) (mp 3) 2)] at hP hD
                have hP : va_P D vwCl [(kO, .inl (cy 0, 3, .inl (fun j => nI ((va_up mk 0 (kn (mp 0))) j)))), (lO, .inl (cy 0, 3, .inl (upd ml 0 (pk1 (pk1 (pk1 0 (mp 1) 0) (mp 2) 1) (mp 3) 2)))), (m0, .inr (5, [.int (nI tw), .int 3, .ref kO, .ref lO, .int (nI tu), .int (nI ak), .int (nI se), .ref sC, .ref sW, .ref sD, .int 23, .ref pG, .int iw9, .int 3, .ref wO, .ref fO, .ref mO, .ref cO, .long sn, .ref th, .int ik, .int (nI kt), .int (nI ku), .int (nI ks), .ref kK, .ref kL, .ref kC, .ref kW, .ref kD, .long hh])), (pG, .inl (cy 1, 26, .inl (fun j => nI (mp j))))] H := hP
                have hD : va_D A [(kO, .inl (cy 0, 3, .inl (fun j => nI ((va_up mk 0 (kn (mp 0))) j)))), (lO, .inl (cy 0, 3, .inl (upd ml 0 (pk1 (pk1 (pk1 0 (mp 1) 0) (mp 2) 1) (mp 3) 2)))), (m0, .inr (5, [.int (nI tw), .int 3, .ref kO, .ref lO, .int (nI tu), .int (nI ak), .int (nI se), .ref sC, .ref sW, .ref sD, .int 23, .ref pG, .int iw9, .int 3, .ref wO, .ref fO, .ref mO, .ref cO, .long sn, .ref th, .int ik, .int (nI kt), .int (nI ku), .int (nI ks), .ref kK, .ref kL, .ref kC, .ref kW, .ref kD, .long hh])), (pG, .inl (cy 1, 26, .inl (fun j => nI (mp j))))] := hD
                refine lv_iinc (v := 3) (lv' := [(2, .int 3), (1, .int 0), (0, .ref m0)]) hx hb dX5_tower_95 hl (k := 0) rfl (by decide) (by decide) rfl (fun ls hl => ?_)
                refine lv_goto (tgt := 60) hx hb dX5_tower_98 (by decide) ?_
                refine lv_iload_n hx hb dX5_tower_60 rfl (lv_at hl 0 rfl) ?_
                refine lv_bipush (v := 6) hx hb dX5_tower_61 (by decide) ?_
                refine lv_icmp_ge (tgt := 101) hx hb dX5_tower_63 (by decide) (fun c_63 => ?_) (fun c_63 => ?_)
                · exact absurd c_63 (by decide)
                · refine lv_aload_n hx hb dX5_tower_66 rfl (lv_at hl 2 rfl) ?_
                  refine va_get (D := D) (ci := 5) (v := .ref lO) (C := RX5) (T := TX5) (N := 30) hx hb hts hw_X5 hown hK hP 2 rfl rfl 3 (by decide) f_13 (fun _ h9 => h9) rfl dX5_tower_67 ?_
                  refine lv_iload_n hx hb dX5_tower_70 rfl (lv_at hl 1 rfl) ?_
                  refine lv_dup2_11 hx hb dX5_tower_71 rfl rfl ?_
                  refine va_iald hx hb hK hP 1 0 rfl rfl (vi_c (by decide +kernel)) dX5_tower_72 ?_
                  refine lv_topi (fun y117 ey117 => ?_)
                  obtain rfl : y117 = pk1 (pk1 (pk1 0 (mp 1) 0) (mp 2) 1) (mp 3) 2 := ey117.trans (upd_rd _ _ _ (by decide))
                  refine lv_aload_n hx hb dX5_tower_73 rfl (lv_at hl 2 rfl) ?_
                  refine va_get (D := D) (ci := 5) (v := .ref pG) (C := RX5) (T := TX5) (N := 30) hx hb hts hw_X5 hown hK hP 2 rfl rfl 11 (by decide) f_25 (fun _ h9 => h9) rfl dX5_tower_74 ?_
                  refine lv_bipush (v := 8) hx hb dX5_tower_77 (by decide) ?_
                  refine lv_iload_n hx hb dX5_tower_79 rfl (lv_at hl 1 rfl) ?_
                  refine lv_imul hx hb dX5_tower_80 ?_
                  refine lv_topi (fun y118 ey118 => ?_)
                  obtain rfl : y118 = 0 := ey118.trans (by decide)
                  refine lv_iconst (v := 1) hx hb dX5_tower_81 (by decide) ?_
                  refine lv_iadd hx hb dX5_tower_82 ?_
                  refine lv_topi (fun y119 ey119 => ?_)
                  obtain rfl : y119 = 1 := ey119.trans (by decide)
                  refine lv_iload_n hx hb dX5_tower_83 rfl (lv_at hl 0 rfl) ?_
                  refine lv_iadd hx hb dX5_tower_84 ?_
                  refine lv_topi (fun y120 ey120 => ?_)
                  obtain rfl : y120 = 4 := ey120.trans (by decide)
                  refine va_bald hx hb hK hP 3 1 rfl rfl (vi_c (by decide +kernel)) dX5_tower_85 ?_
                  refine lv_topi (fun y121 ey121 => ?_)
                  obtain rfl : y121 = nI (mp 4) := ey121.trans (rfl)
                  refine lv_bipush (v := 97) hx hb dX5_tower_86 (by decide) ?_
                  refine lv_isub hx hb dX5_tower_88 ?_
                  refine lv_iconst (v := 3) hx hb dX5_tower_89 (by decide) ?_
                  refine lv_iload_n hx hb dX5_tower_90 rfl (lv_at hl 0 rfl) ?_
                  refine lv_imul hx hb dX5_tower_91 ?_
                  refine lv_topi (fun y122 ey122 => ?_)
                  obtain rfl : y122 = 9 := ey122.trans (by decide)
                  refine lv_ishl hx hb dX5_tower_92 ?_
                  refine lv_ior hx hb dX5_tower_93 ?_
                  refine lv_topi (fun y123 ey123 => ?_)
                  obtain rfl : y123 = pk1 (pk1 (pk1 (pk1 0 (mp 1) 0) (mp 2) 1) (mp 3) 2) (mp 4) 3 := ey123.trans (rfl)
                  refine va_iast hx hb hK hP hD hS 1 0 rfl rfl (vi_c (by decide +kernel)) dX5_tower_94 (fun H locs hP hD hS => ?_)
                  have hP : va_P D vwCl [(kO, .inl (cy 0, 3, .inl (fun j => nI ((va_up mk 0 (kn (mp 0))) j)))), (lO, .inl (cy 0, 3, .inl (upd (upd ml 0 (pk1 (pk1 (pk1 0 (mp 1) 0) (mp 2) 1) (mp 3) 2)) 0 (pk1 (pk1 (pk1 (pk1 0 (mp 1) 0) (mp 2) 1) (mp 3) 2) (mp 4) 3)))), (m0, .inr (5, [.int (nI tw), .int 3, .ref kO, .ref lO, .int (nI tu), .int (nI ak), .int (nI se), .ref sC, .ref sW, .ref sD, .int 23, .ref pG, .int iw9, .int 3, .ref wO, .ref fO, .ref mO, .ref cO, .long sn, .ref th, .int ik, .int (nI kt), .int (nI ku), .int (nI ks), .ref kK, .ref kL, .ref kC, .ref kW, .ref kD, .long hh])), (pG, .inl (cy 1, 26, .inl (fun j => nI (mp j))))] H := hP
                  have hD : va_D A [(kO, .inl (cy 0, 3, .inl (fun j => nI ((va_up mk 0 (kn (mp 0))) j)))), (lO, .inl (cy 0, 3, .inl (upd (upd ml 0 (pk1 (pk1 (pk1 0 (mp 1) 0) (mp 2) 1) (mp 3) 2)) 0 (pk1 (pk1 (pk1 (pk1 0 (mp 1) 0) (mp 2) 1) (mp 3) 2) (mp 4) 3)))), (m0, .inr (5, [.int (nI tw), .int 3, .ref kO, .ref lO, .int (nI tu), .int (nI ak), .int (nI se), .ref sC, .ref sW, .ref sD, .int 23, .ref pG, .int iw9, .int 3, .ref wO, .ref fO, .ref mO, .ref cO, .long sn, .ref th, .int ik, .int (nI kt), .int (nI ku), .int (nI ks), .ref kK, .ref kL, .ref kC, .ref kW, .ref kD, .long hh])), (pG, .inl (cy 1, 26, .inl (fun j => nI (mp j))))] := hD
                  rw [upd_upd ml 0 (pk1 (pk1 (pk1 0 (mp 1) 0) (mp 2) 1) (mp 3) 2) (pk1 (pk1 (pk1 (pk1 0 (mp 1) 0) (mp 2) 1) (mp 3) 2) (mp 4) 3)] at hP hD
                  have hP : va_P D vwCl [(kO, .inl (cy 0, 3, .inl (fun j => nI ((va_up mk 0 (kn (mp 0))) j)))), (lO, .inl (cy 0, 3, .inl (upd ml 0 (pk1 (pk1 (pk1 (pk1 0 (mp 1) 0) (mp 2) 1) (mp 3) 2) (mp 4) 3)))), (m0, .inr (5, [.int (nI tw), .int 3, .ref kO, .ref lO, .int (nI tu), .int (nI ak), .int (nI se), .ref sC, .ref sW, .ref sD, .int 23, .ref pG, .int iw9, .int 3, .ref wO, .ref fO, .ref mO, .ref cO, .long sn, .ref th, .int ik, .int (nI kt), .int (nI ku), .int (nI ks), .ref kK, .ref kL, .ref kC, .ref kW, .ref kD, .long hh])), (pG, .inl (cy 1, 26, .inl (fun j => nI (mp j))))] H := hP
                  have hD : va_D A [(kO, .inl (cy 0, 3, .inl (fun j => nI ((va_up mk 0 (kn (mp 0))) j)))), (lO, .inl (cy 0, 3, .inl (upd ml 0 (pk1 (pk1 (pk1 (pk1 0 (mp 1) 0) (mp 2) 1) (mp 3) 2) (mp 4) 3)))), (m0, .inr (5, [.int (nI tw), .int 3, .ref kO, .ref lO, .int (nI tu), .int (nI ak), .int (nI se), .ref sC, .ref sW, .ref sD, .int 23, .ref pG, .int iw9, .int 3, .ref wO, .ref fO, .ref mO, .ref cO, .long sn, .ref th, .int ik, .int (nI kt), .int (nI ku), .int (nI ks), .ref kK, .ref kL, .ref kC, .ref kW, .ref kD, .long hh])), (pG, .inl (cy 1, 26, .inl (fun j => nI (mp j))))] := hD
                  refine lv_iinc (v := 4) (lv' := [(2, .int 4), (1, .int 0), (0, .ref m0)]) hx hb dX5_tower_95 hl (k := 0) rfl (by decide) (by decide) rfl (fun ls hl => ?_)
                  refine lv_goto (tgt := 60) hx hb dX5_tower_98 (by decide) ?_
                  refine lv_iload_n hx hb dX5_tower_60 rfl (lv_at hl 0 rfl) ?_
                  refine lv_bipush (v := 6) hx hb dX5_tower_61 (by decide) ?_
                  refine lv_icmp_ge (tgt := 101) hx hb dX5_tower_63 (by decide) (fun c_63 => ?_) (fun c_63 => ?_)
                  · exact absurd c_63 (by decide)
                  · refine lv_aload_n hx hb dX5_tower_66 rfl (lv_at hl 2 rfl) ?_
                    refine va_get (D := D) (ci := 5) (v := .ref lO) (C := RX5) (T := TX5) (N := 30) hx hb hts hw_X5 hown hK hP 2 rfl rfl 3 (by decide) f_13 (fun _ h9 => h9) rfl dX5_tower_67 ?_
                    refine lv_iload_n hx hb dX5_tower_70 rfl (lv_at hl 1 rfl) ?_
                    refine lv_dup2_11 hx hb dX5_tower_71 rfl rfl ?_
                    refine va_iald hx hb hK hP 1 0 rfl rfl (vi_c (by decide +kernel)) dX5_tower_72 ?_
                    refine lv_topi (fun y124 ey124 => ?_)
                    obtain rfl : y124 = pk1 (pk1 (pk1 (pk1 0 (mp 1) 0) (mp 2) 1) (mp 3) 2) (mp 4) 3 := ey124.trans (upd_rd _ _ _ (by decide))
                    refine lv_aload_n hx hb dX5_tower_73 rfl (lv_at hl 2 rfl) ?_
                    refine va_get (D := D) (ci := 5) (v := .ref pG) (C := RX5) (T := TX5) (N := 30) hx hb hts hw_X5 hown hK hP 2 rfl rfl 11 (by decide) f_25 (fun _ h9 => h9) rfl dX5_tower_74 ?_
                    refine lv_bipush (v := 8) hx hb dX5_tower_77 (by decide) ?_
                    refine lv_iload_n hx hb dX5_tower_79 rfl (lv_at hl 1 rfl) ?_
                    refine lv_imul hx hb dX5_tower_80 ?_
                    refine lv_topi (fun y125 ey125 => ?_)
                    obtain rfl : y125 = 0 := ey125.trans (by decide)
                    refine lv_iconst (v := 1) hx hb dX5_tower_81 (by decide) ?_
                    refine lv_iadd hx hb dX5_tower_82 ?_
                    refine lv_topi (fun y126 ey126 => ?_)
                    obtain rfl : y126 = 1 := ey126.trans (by decide)
                    refine lv_iload_n hx hb dX5_tower_83 rfl (lv_at hl 0 rfl) ?_
                    refine lv_iadd hx hb dX5_tower_84 ?_
                    refine lv_topi (fun y127 ey127 => ?_)
                    obtain rfl : y127 = 5 := ey127.trans (by decide)
                    refine va_bald hx hb hK hP 3 1 rfl rfl (vi_c (by decide +kernel)) dX5_tower_85 ?_
                    refine lv_topi (fun y128 ey128 => ?_)
                    obtain rfl : y128 = nI (mp 5) := ey128.trans (rfl)
                    refine lv_bipush (v := 97) hx hb dX5_tower_86 (by decide) ?_
                    refine lv_isub hx hb dX5_tower_88 ?_
                    refine lv_iconst (v := 3) hx hb dX5_tower_89 (by decide) ?_
                    refine lv_iload_n hx hb dX5_tower_90 rfl (lv_at hl 0 rfl) ?_
                    refine lv_imul hx hb dX5_tower_91 ?_
                    refine lv_topi (fun y129 ey129 => ?_)
                    obtain rfl : y129 = 12 := ey129.trans (by decide)
                    refine lv_ishl hx hb dX5_tower_92 ?_
                    refine lv_ior hx hb dX5_tower_93 ?_
                    refine lv_topi (fun y130 ey130 => ?_)
                    obtain rfl : y130 = pk1 (pk1 (pk1 (pk1 (pk1 0 (mp 1) 0) (mp 2) 1) (mp 3) 2) (mp 4) 3) (mp 5) 4 := ey130.trans (rfl)
                    refine va_iast hx hb hK hP hD hS 1 0 rfl rfl (vi_c (by decide +kernel)) dX5_tower_94 (fun H locs hP hD hS => ?_)
                    have hP : va_P D vwCl [(kO, .inl (cy 0, 3, .inl (fun j => nI ((va_up mk 0 (kn (mp 0))) j)))), (lO, .inl (cy 0, 3, .inl (upd (upd ml 0 (pk1 (pk1 (pk1 (pk1 0 (mp 1) 0) (mp 2) 1) (mp 3) 2) (mp 4) 3)) 0 (pk1 (pk1 (pk1 (pk1 (pk1 0 (mp 1) 0) (mp 2) 1) (mp 3) 2) (mp 4) 3) (mp 5) 4)))), (m0, .inr (5, [.int (nI tw), .int 3, .ref kO, .ref lO, .int (nI tu), .int (nI ak), .int (nI se), .ref sC, .ref sW, .ref sD, .int 23, .ref pG, .int iw9, .int 3, .ref wO, .ref fO, .ref mO, .ref cO, .long sn, .ref th, .int ik, .int (nI kt), .int (nI ku), .int (nI ks), .ref kK, .ref kL, .ref kC, .ref kW, .ref kD, .long hh])), (pG, .inl (cy 1, 26, .inl (fun j => nI (mp j))))] H := hP
                    have hD : va_D A [(kO, .inl (cy 0, 3, .inl (fun j => nI ((va_up mk 0 (kn (mp 0))) j)))), (lO, .inl (cy 0, 3, .inl (upd (upd ml 0 (pk1 (pk1 (pk1 (pk1 0 (mp 1) 0) (mp 2) 1) (mp 3) 2) (mp 4) 3)) 0 (pk1 (pk1 (pk1 (pk1 (pk1 0 (mp 1) 0) (mp 2) 1) (mp 3) 2) (mp 4) 3) (mp 5) 4)))), (m0, .inr (5, [.int (nI tw), .int 3, .ref kO, .ref lO, .int (nI tu), .int (nI ak), .int (nI se), .ref sC, .ref sW, .ref sD, .int 23, .ref pG, .int iw9, .int 3, .ref wO, .ref fO, .ref mO, .ref cO, .long sn, .ref th, .int ik, .int (nI kt), .int (nI ku), .int (nI ks), .ref kK, .ref kL, .ref kC, .ref kW, .ref kD, .long hh])), (pG, .inl (cy 1, 26, .inl (fun j => nI (mp j))))] := hD
                    rw [upd_upd ml 0 (pk1 (pk1 (pk1 (pk1 0 (mp 1) 0) (mp 2) 1) (mp 3) 2) (mp 4) 3) (pk1 (pk1 (pk1 (pk1 (pk1 0 (mp 1) 0) (mp 2) 1) (mp 3) 2) (mp 4) 3) (mp 5) 4)] at hP hD
                    have hP : va_P D vwCl [(kO, .inl (cy 0, 3, .inl (fun j => nI ((va_up mk 0 (kn (mp 0))) j)))), (lO, .inl (cy 0, 3, .inl (upd ml 0 (pk1 (pk1 (pk1 (pk1 (pk1 0 (mp 1) 0) (mp 2) 1) (mp 3) 2) (mp 4) 3) (mp 5) 4)))), (m0, .inr (5, [.int (nI tw), .int 3, .ref kO, .ref lO, .int (nI tu), .int (nI ak), .int (nI se), .ref sC, .ref sW, .ref sD, .int 23, .ref pG, .int iw9, .int 3, .ref wO, .ref fO, .ref mO, .ref cO, .long sn, .ref th, .int ik, .int (nI kt), .int (nI ku), .int (nI ks), .ref kK, .ref kL, .ref kC, .ref kW, .ref kD, .long hh])), (pG, .inl (cy 1, 26, .inl (fun j => nI (mp j))))] H := hP
                    have hD : va_D A [(kO, .inl (cy 0, 3, .inl (fun j => nI ((va_up mk 0 (kn (mp 0))) j)))), (lO, .inl (cy 0, 3, .inl (upd ml 0 (pk1 (pk1 (pk1 (pk1 (pk1 0 (mp 1) 0) (mp 2) 1) (mp 3) 2) (mp 4) 3) (mp 5) 4)))), (m0, .inr (5, [.int (nI tw), .int 3, .ref kO, .ref lO, .int (nI tu), .int (nI ak), .int (nI se), .ref sC, .ref sW, .ref sD, .int 23, .ref pG, .int iw9, .int 3, .ref wO, .ref fO, .ref mO, .ref cO, .long sn, .ref th, .int ik, .int (nI kt), .int (nI ku), .int (nI ks), .ref kK, .ref kL, .ref kC, .ref kW, .ref kD, .long hh])), (pG, .inl (cy 1, 26, .inl (fun j => nI (mp j))))] := hD
                    refine lv_iinc (v := 5) (lv' := [(2, .int 5), (1, .int 0), (0, .ref m0)]) hx hb dX5_tower_95 hl (k := 0) rfl (by decide) (by decide) rfl (fun ls hl => ?_)
                    refine lv_goto (tgt := 60) hx hb dX5_tower_98 (by decide) ?_
                    refine lv_iload_n hx hb dX5_tower_60 rfl (lv_at hl 0 rfl) ?_
                    refine lv_bipush (v := 6) hx hb dX5_tower_61 (by decide) ?_
                    refine lv_icmp_ge (tgt := 101) hx hb dX5_tower_63 (by decide) (fun c_63 => ?_) (fun c_63 => ?_)
                    · exact absurd c_63 (by decide)
                    · refine lv_aload_n hx hb dX5_tower_66 rfl (lv_at hl 2 rfl) ?_
                      refine va_get (D := D) (ci := 5) (v := .ref lO) (C := RX5) (T := TX5) (N := 30) hx hb hts hw_X5 hown hK hP 2 rfl rfl 3 (by decide) f_13 (fun _ h9 => h9) rfl dX5_tower_67 ?_
                      refine lv_iload_n hx hb dX5_tower_70 rfl (lv_at hl 1 rfl) ?_
                      refine lv_dup2_11 hx hb dX5_tower_71 rfl rfl ?_
                      refine va_iald hx hb hK hP 1 0 rfl rfl (vi_c (by decide +kernel)) dX5_tower_72 ?_
                      refine lv_topi (fun y131 ey131 => ?_)
                      obtain rfl : y131 = pk1 (pk1 (pk1 (pk1 (pk1 0 (mp 1) 0) (mp 2) 1) (mp 3) 2) (mp 4) 3) (mp 5) 4 := ey131.trans (upd_rd _ _ _ (by decide))
                      refine lv_aload_n hx hb dX5_tower_73 rfl (lv_at hl 2 rfl) ?_
                      refine va_get (D := D) (ci := 5) (v := .ref pG) (C := RX5) (T := TX5) (N := 30) hx hb hts hw_X5 hown hK hP 2 rfl rfl 11 (by decide) f_25 (fun _ h9 => h9) rfl dX5_tower_74 ?_
                      refine lv_bipush (v := 8) hx hb dX5_tower_77 (by decide) ?_
                      refine lv_iload_n hx hb dX5_tower_79 rfl (lv_at hl 1 rfl) ?_
                      refine lv_imul hx hb dX5_tower_80 ?_
                      refine lv_topi (fun y132 ey132 => ?_)
                      obtain rfl : y132 = 0 := ey132.trans (by decide)
                      refine lv_iconst (v := 1) hx hb dX5_tower_81 (by decide) ?_
                      refine lv_iadd hx hb dX5_tower_82 ?_
                      refine lv_topi (fun y133 ey133 => ?_)
                      obtain rfl : y133 = 1 := ey133.trans (by decide)
                      refine lv_iload_n hx hb dX5_tower_83 rfl (lv_at hl 0 rfl) ?_
                      refine lv_iadd hx hb dX5_tower_84 ?_
                      refine lv_topi (fun y134 ey134 => ?_)
                      obtain rfl : y134 = 6 := ey134.trans (by decide)
                      refine va_bald hx hb hK hP 3 1 rfl rfl (vi_c (by decide +kernel)) dX5_tower_85 ?_
                      refine lv_topi (fun y135 ey135 => ?_)
                      obtain rfl : y135 = nI (mp 6) := ey135.trans (rfl)
                      refine lv_bipush (v := 97) hx hb dX5_tower_86 (by decide) ?_
                      refine lv_isub hx hb dX5_tower_88 ?_
                      refine lv_iconst (v := 3) hx hb dX5_tower_89 (by decide) ?_
                      refine lv_iload_n hx hb dX5_tower_90 rfl (lv_at hl 0 rfl) ?_
                      refine lv_imul hx hb dX5_tower_91 ?_
                      refine lv_topi (fun y136 ey136 => ?_)
                      obtain rfl : y136 = 15 := ey136.trans (by decide)
                      refine lv_ishl hx hb dX5_tower_92 ?_
                      refine lv_ior hx hb dX5_tower_93 ?_
                      refine lv_topi (fun y137 ey137 => ?_)
                      obtain rfl : y137 = pk1 (pk1 (pk1 (pk1 (pk1 (pk1 0 (mp 1) 0) (mp 2) 1) (mp 3) 2) (mp 4) 3) (mp 5) 4) (mp 6) 5 := ey137.trans (rfl)
                      refine va_iast hx hb hK hP hD hS 1 0 rfl rfl (vi_c (by decide +kernel)) dX5_tower_94 (fun H locs hP hD hS => ?_)
                      have hP : va_P D vwCl [(kO, .inl (cy 0, 3, .inl (fun j => nI ((va_up mk 0 (kn (mp 0))) j)))), (lO, .inl (cy 0, 3, .inl (upd (upd ml 0 (pk1 (pk1 (pk1 (pk1 (pk1 0 (mp 1) 0) (mp 2) 1) (mp 3) 2) (mp 4) 3) (mp 5) 4)) 0 (pk1 (pk1 (pk1 (pk1 (pk1 (pk1 0 (mp 1) 0) (mp 2) 1) (mp 3) 2) (mp 4) 3) (mp 5) 4) (mp 6) 5)))), (m0, .inr (5, [.int (nI tw), .int 3, .ref kO, .ref lO, .int (nI tu), .int (nI ak), .int (nI se), .ref sC, .ref sW, .ref sD, .int 23, .ref pG, .int iw9, .int 3, .ref wO, .ref fO, .ref mO, .ref cO, .long sn, .ref th, .int ik, .int (nI kt), .int (nI ku), .int (nI ks), .ref kK, .ref kL, .ref kC, .ref kW, .ref kD, .long hh])), (pG, .inl (cy 1, 26, .inl (fun j => nI (mp j))))] H := hP
                      have hD : va_D A [(kO, .inl (cy 0, 3, .inl (fun j => nI ((va_up mk 0 (kn (mp 0))) j)))), (lO, .inl (cy 0, 3, .inl (upd (upd ml 0 (pk1 (pk1 (pk1 (pk1 (pk1 0 (mp 1) 0) (mp 2) 1) (mp 3) 2) (mp 4) 3) (mp 5) 4)) 0 (pk1 (pk1 (pk1 (pk1 (pk1 (pk1 0 (mp 1) 0) (mp 2) 1) (mp 3) 2) (mp 4) 3) (mp 5) 4) (mp 6) 5)))), (m0, .inr (5, [.int (nI tw), .int 3, .ref kO, .ref lO, .int (nI tu), .int (nI ak), .int (nI se), .ref sC, .ref sW, .ref sD, .int 23, .ref pG, .int iw9, .int 3, .ref wO, .ref fO, .ref mO, .ref cO, .long sn, .ref th, .int ik, .int (nI kt), .int (nI ku), .int (nI ks), .ref kK, .ref kL, .ref kC, .ref kW, .ref kD, .long hh])), (pG, .inl (cy 1, 26, .inl (fun j => nI (mp j))))] := hD
                      rw [upd_upd ml 0 (pk1 (pk1 (pk1 (pk1 (pk1 0 (mp 1) 0) (mp 2) 1) (mp 3) 2) (mp 4) 3) (mp 5) 4) (pk1 (pk1 (pk1 (pk1 (pk1 (pk1 0 (mp 1) 0) (mp 2) 1) (mp 3) 2) (mp 4) 3) (mp 5) 4) (mp 6) 5)] at hP hD
                      have hP : va_P D vwCl [(kO, .inl (cy 0, 3, .inl (fun j => nI ((va_up mk 0 (kn (mp 0))) j)))), (lO, .inl (cy 0, 3, .inl (upd ml 0 (pk1 (pk1 (pk1 (pk1 (pk1 (pk1 0 (mp 1) 0) (mp 2) 1) (mp 3) 2) (mp 4) 3) (mp 5) 4) (mp 6) 5)))), (m0, .inr (5, [.int (nI tw), .int 3, .ref kO, .ref lO, .int (nI tu), .int (nI ak), .int (nI se), .ref sC, .ref sW, .ref sD, .int 23, .ref pG, .int iw9, .int 3, .ref wO, .ref fO, .ref mO, .ref cO, .long sn, .ref th, .int ik, .int (nI kt), .int (nI ku), .int (nI ks), .ref kK, .ref kL, .ref kC, .ref kW, .ref kD, .long hh])), (pG, .inl (cy 1, 26, .inl (fun j => nI (mp j))))] H := hP
                      have hD : va_D A [(kO, .inl (cy 0, 3, .inl (fun j => nI ((va_up mk 0 (kn (mp 0))) j)))), (lO, .inl (cy 0, 3, .inl (upd ml 0 (pk1 (pk1 (pk1 (pk1 (pk1 (pk1 0 (mp 1) 0) (mp 2) 1) (mp 3) 2) (mp 4) 3) (mp 5) 4) (mp 6) 5)))), (m0, .inr (5, [.int (nI tw), .int 3, .ref kO, .ref lO, .int (nI tu), .int (nI ak), .int (nI se), .ref sC, .ref sW, .ref sD, .int 23, .ref pG, .int iw9, .int 3, .ref wO, .ref fO, .ref mO, .ref cO, .long sn, .ref th, .int ik, .int (nI kt), .int (nI ku), .int (nI ks), .ref kK, .ref kL, .ref kC, .ref kW, .ref kD, .long hh])), (pG, .inl (cy 1, 26, .inl (fun j => nI (mp j))))] := hD
                      refine lv_iinc (v := 6) (lv' := [(2, .int 6), (1, .int 0), (0, .ref m0)]) hx hb dX5_tower_95 hl (k := 0) rfl (by decide) (by decide) rfl (fun ls hl => ?_)
                      refine lv_goto (tgt := 60) hx hb dX5_tower_98 (by decide) ?_
                      refine lv_iload_n hx hb dX5_tower_60 rfl (lv_at hl 0 rfl) ?_
                      refine lv_bipush (v := 6) hx hb dX5_tower_61 (by decide) ?_
                      refine lv_icmp_ge (tgt := 101) hx hb dX5_tower_63 (by decide) (fun c_63 => ?_) (fun c_63 => ?_)
                      · refine lv_iinc (v := 1) (lv' := [(1, .int 1), (2, .int 6), (0, .ref m0)]) hx hb dX5_tower_101 hl (k := 1) rfl (by decide) (by decide) rfl (fun ls hl => ?_)
                        refine lv_goto (tgt := 25) hx hb dX5_tower_104 (by decide) ?_
                        refine lv_iload_n hx hb dX5_tower_25 rfl (lv_at hl 0 rfl) ?_
                        refine lv_aload_n hx hb dX5_tower_26 rfl (lv_at hl 2 rfl) ?_
                        refine va_get (D := D) (ci := 5) (v := .int 3) (C := RX5) (T := TX5) (N := 30) hx hb hts hw_X5 hown hK hP 2 rfl rfl 1 (by decide) f_88 (fun _ h9 => h9) rfl dX5_tower_27 ?_
                        refine lv_icmp_ge (tgt := 107) hx hb dX5_tower_30 (by decide) (fun c_30 => ?_) (fun c_30 => ?_)
                        · exact absurd c_30 (by decide)
                        · refine lv_aload_n hx hb dX5_tower_33 rfl (lv_at hl 2 rfl) ?_
                          refine va_get (D := D) (ci := 5) (v := .ref kO) (C := RX5) (T := TX5) (N := 30) hx hb hts hw_X5 hown hK hP 2 rfl rfl 2 (by decide) f_7 (fun _ h9 => h9) rfl dX5_tower_34 ?_
                          refine lv_iload_n hx hb dX5_tower_37 rfl (lv_at hl 0 rfl) ?_
                          refine lv_aload_n hx hb dX5_tower_38 rfl (lv_at hl 2 rfl) ?_
                          refine va_get (D := D) (ci := 5) (v := .ref pG) (C := RX5) (T := TX5) (N := 30) hx hb hts hw_X5 hown hK hP 2 rfl rfl 11 (by decide) f_25 (fun _ h9 => h9) rfl dX5_tower_39 ?_
                          refine lv_bipush (v := 8) hx hb dX5_tower_42 (by decide) ?_
                          refine lv_iload_n hx hb dX5_tower_44 rfl (lv_at hl 0 rfl) ?_
                          refine lv_imul hx hb dX5_tower_45 ?_
                          refine lv_topi (fun y138 ey138 => ?_)
                          obtain rfl : y138 = 8 := ey138.trans (by decide)
                          refine va_bald hx hb hK hP 3 1 rfl rfl (vi_c (by decide +kernel)) dX5_tower_46 ?_
                          refine lv_topi (fun y139 ey139 => ?_)
                          obtain rfl : y139 = nI (mp 8) := ey139.trans (rfl)
                          refine kc_i (wc := []) (wr := [(kO, .inl (cy 0, 3, .inl (fun j => nI ((va_up mk 0 (kn (mp 0))) j)))), (lO, .inl (cy 0, 3, .inl (upd ml 0 (pk1 (pk1 (pk1 (pk1 (pk1 (pk1 0 (mp 1) 0) (mp 2) 1) (mp 3) 2) (mp 4) 3) (mp 5) 4) (mp 6) 5)))), (m0, .inr (5, [.int (nI tw), .int 3, .ref kO, .ref lO, .int (nI tu), .int (nI ak), .int (nI se), .ref sC, .ref sW, .ref sD, .int 23, .ref pG, .int iw9, .int 3, .ref wO, .ref fO, .ref mO, .ref cO, .long sn, .ref th, .int ik, .int (nI kt), .int (nI ku), .int (nI ks), .ref kK, .ref kL, .ref kC, .ref kW, .ref kD, .long hh])), (pG, .inl (cy 1, 26, .inl (fun j => nI (mp j))))]) (va_runS (As := [.int (nI (mp 8))]) (rest := [.int 1, .ref kO]) ⟨hx, hb, hml, hown, hts⟩ (c_X5_kindBy l D cy H.size (nI (mp 8)) ) (va_cwS 1 hts gX5_tower_X5_kindBy rfl rfl rfl hdc_X5_kindBy.2 ⟨Nat.le_of_ble_eq_true rfl, Nat.le_of_ble_eq_true rfl⟩) (cpre_S (wc := []) hX hP hD hS hA [] (by decide +kernel) rfl) rfl rfl hl.1 rfl (lv_room (Nat.le_of_ble_eq_true rfl)) dX5_tower_47 ⟨Nat.le_of_ble_eq_true rfl, Nat.le_of_ble_eq_true rfl⟩) hP hD hS hA [] [0, 1, 2, 3] rfl rfl (by decide +kernel) (by decide +kernel) (fun rk u140 H locs hw hP hD hS => ?_)
                          obtain ⟨hu, hrk⟩ := hw
                          subst hu
                          have hP : va_P D vwCl [(kO, .inl (cy 0, 3, .inl (fun j => nI ((va_up mk 0 (kn (mp 0))) j)))), (lO, .inl (cy 0, 3, .inl (upd ml 0 (pk1 (pk1 (pk1 (pk1 (pk1 (pk1 0 (mp 1) 0) (mp 2) 1) (mp 3) 2) (mp 4) 3) (mp 5) 4) (mp 6) 5)))), (m0, .inr (5, [.int (nI tw), .int 3, .ref kO, .ref lO, .int (nI tu), .int (nI ak), .int (nI se), .ref sC, .ref sW, .ref sD, .int 23, .ref pG, .int iw9, .int 3, .ref wO, .ref fO, .ref mO, .ref cO, .long sn, .ref th, .int ik, .int (nI kt), .int (nI ku), .int (nI ks), .ref kK, .ref kL, .ref kC, .ref kW, .ref kD, .long hh])), (pG, .inl (cy 1, 26, .inl (fun j => nI (mp j))))] H := hP
                          have hD : va_D A [(kO, .inl (cy 0, 3, .inl (fun j => nI ((va_up mk 0 (kn (mp 0))) j)))), (lO, .inl (cy 0, 3, .inl (upd ml 0 (pk1 (pk1 (pk1 (pk1 (pk1 (pk1 0 (mp 1) 0) (mp 2) 1) (mp 3) 2) (mp 4) 3) (mp 5) 4) (mp 6) 5)))), (m0, .inr (5, [.int (nI tw), .int 3, .ref kO, .ref lO, .int (nI tu), .int (nI ak), .int (nI se), .ref sC, .ref sW, .ref sD, .int 23, .ref pG, .int iw9, .int 3, .ref wO, .ref fO, .ref mO, .ref cO, .long sn, .ref th, .int ik, .int (nI kt), .int (nI ku), .int (nI ks), .ref kK, .ref kL, .ref kC, .ref kW, .ref kD, .long hh])), (pG, .inl (cy 1, 26, .inl (fun j => nI (mp j))))] := hD
                          have hrk := hrk.trans (kb_kn _ (hmp _) ((ft_k (hmp 8) (by decide) (by decide)).mp (hall 8 (by decide))))
                          subst hrk
                          refine va_iast hx hb hK hP hD hS 0 0 rfl rfl (vi_c (by decide +kernel)) dX5_tower_50 (fun H locs hP hD hS => ?_)
                          have hP : va_P D vwCl [(kO, .inl (cy 0, 3, .inl (upd (fun j => nI ((va_up mk 0 (kn (mp 0))) j)) 1 (nI (kn (mp 8)))))), (lO, .inl (cy 0, 3, .inl (upd ml 0 (pk1 (pk1 (pk1 (pk1 (pk1 (pk1 0 (mp 1) 0) (mp 2) 1) (mp 3) 2) (mp 4) 3) (mp 5) 4) (mp 6) 5)))), (m0, .inr (5, [.int (nI tw), .int 3, .ref kO, .ref lO, .int (nI tu), .int (nI ak), .int (nI se), .ref sC, .ref sW, .ref sD, .int 23, .ref pG, .int iw9, .int 3, .ref wO, .ref fO, .ref mO, .ref cO, .long sn, .ref th, .int ik, .int (nI kt), .int (nI ku), .int (nI ks), .ref kK, .ref kL, .ref kC, .ref kW, .ref kD, .long hh])), (pG, .inl (cy 1, 26, .inl (fun j => nI (mp j))))] H := hP
                          have hD : va_D A [(kO, .inl (cy 0, 3, .inl (upd (fun j => nI ((va_up mk 0 (kn (mp 0))) j)) 1 (nI (kn (mp 8)))))), (lO, .inl (cy 0, 3, .inl (upd ml 0 (pk1 (pk1 (pk1 (pk1 (pk1 (pk1 0 (mp 1) 0) (mp 2) 1) (mp 3) 2) (mp 4) 3) (mp 5) 4) (mp 6) 5)))), (m0, .inr (5, [.int (nI tw), .int 3, .ref kO, .ref lO, .int (nI tu), .int (nI ak), .int (nI se), .ref sC, .ref sW, .ref sD, .int 23, .ref pG, .int iw9, .int 3, .ref wO, .ref fO, .ref mO, .ref cO, .long sn, .ref th, .int ik, .int (nI kt), .int (nI ku), .int (nI ks), .ref kK, .ref kL, .ref kC, .ref kW, .ref kD, .long hh])), (pG, .inl (cy 1, 26, .inl (fun j => nI (mp j))))] := hD
                          rw [updN (va_up mk 0 (kn (mp 0))) 1 (kn (mp 8))] at hP hD
                          have hP : va_P D vwCl [(kO, .inl (cy 0, 3, .inl (fun j => nI ((va_up (va_up mk 0 (kn (mp 0))) 1 (kn (mp 8))) j)))), (lO, .inl (cy 0, 3, .inl (upd ml 0 (pk1 (pk1 (pk1 (pk1 (pk1 (pk1 0 (mp 1) 0) (mp 2) 1) (mp 3) 2) (mp 4) 3) (mp 5) 4) (mp 6) 5)))), (m0, .inr (5, [.int (nI tw), .int 3, .ref kO, .ref lO, .int (nI tu), .int (nI ak), .int (nI se), .ref sC, .ref sW, .ref sD, .int 23, .ref pG, .int iw9, .int 3, .ref wO, .ref fO, .ref mO, .ref cO, .long sn, .ref th, .int ik, .int (nI kt), .int (nI ku), .int (nI ks), .ref kK, .ref kL, .ref kC, .ref kW, .ref kD, .long hh])), (pG, .inl (cy 1, 26, .inl (fun j => nI (mp j))))] H := hP
                          have hD : va_D A [(kO, .inl (cy 0, 3, .inl (fun j => nI ((va_up (va_up mk 0 (kn (mp 0))) 1 (kn (mp 8))) j)))), (lO, .inl (cy 0, 3, .inl (upd ml 0 (pk1 (pk1 (pk1 (pk1 (pk1 (pk1 0 (mp 1) 0) (mp 2) 1) (mp 3) 2) (mp 4) 3) (mp 5) 4) (mp 6) 5)))), (m0, .inr (5, [.int (nI tw), .int 3, .ref kO, .ref lO, .int (nI tu), .int (nI ak), .int (nI se), .ref sC, .ref sW, .ref sD, .int 23, .ref pG, .int iw9, .int 3, .ref wO, .ref fO, .ref mO, .ref cO, .long sn, .ref th, .int ik, .int (nI kt), .int (nI ku), .int (nI ks), .ref kK, .ref kL, .ref kC, .ref kW, .ref kD, .long hh])), (pG, .inl (cy 1, 26, .inl (fun j => nI (mp j))))] := hD
                          refine lv_aload_n hx hb dX5_tower_51 rfl (lv_at hl 2 rfl) ?_
                          refine va_get (D := D) (ci := 5) (v := .ref lO) (C := RX5) (T := TX5) (N := 30) hx hb hts hw_X5 hown hK hP 2 rfl rfl 3 (by decide) f_13 (fun _ h9 => h9) rfl dX5_tower_52 ?_
                          refine lv_iload_n hx hb dX5_tower_55 rfl (lv_at hl 0 rfl) ?_
                          refine lv_iconst (v := 0) hx hb dX5_tower_56 (by decide) ?_
                          refine va_iast hx hb hK hP hD hS 1 0 rfl rfl (vi_c (by decide +kernel)) dX5_tower_57 (fun H locs hP hD hS => ?_)
                          have hP : va_P D vwCl [(kO, .inl (cy 0, 3, .inl (fun j => nI ((va_up (va_up mk 0 (kn (mp 0))) 1 (kn (mp 8))) j)))), (lO, .inl (cy 0, 3, .inl (upd (upd ml 0 (pk1 (pk1 (pk1 (pk1 (pk1 (pk1 0 (mp 1) 0) (mp 2) 1) (mp 3) 2) (mp 4) 3) (mp 5) 4) (mp 6) 5)) 1 0))), (m0, .inr (5, [.int (nI tw), .int 3, .ref kO, .ref lO, .int (nI tu), .int (nI ak), .int (nI se), .ref sC, .ref sW, .ref sD, .int 23, .ref pG, .int iw9, .int 3, .ref wO, .ref fO, .ref mO, .ref cO, .long sn, .ref th, .int ik, .int (nI kt), .int (nI ku), .int (nI ks), .ref kK, .ref kL, .ref kC, .ref kW, .ref kD, .long hh])), (pG, .inl (cy 1, 26, .inl (fun j => nI (mp j))))] H := hP
                          have hD : va_D A [(kO, .inl (cy 0, 3, .inl (fun j => nI ((va_up (va_up mk 0 (kn (mp 0))) 1 (kn (mp 8))) j)))), (lO, .inl (cy 0, 3, .inl (upd (upd ml 0 (pk1 (pk1 (pk1 (pk1 (pk1 (pk1 0 (mp 1) 0) (mp 2) 1) (mp 3) 2) (mp 4) 3) (mp 5) 4) (mp 6) 5)) 1 0))), (m0, .inr (5, [.int (nI tw), .int 3, .ref kO, .ref lO, .int (nI tu), .int (nI ak), .int (nI se), .ref sC, .ref sW, .ref sD, .int 23, .ref pG, .int iw9, .int 3, .ref wO, .ref fO, .ref mO, .ref cO, .long sn, .ref th, .int ik, .int (nI kt), .int (nI ku), .int (nI ks), .ref kK, .ref kL, .ref kC, .ref kW, .ref kD, .long hh])), (pG, .inl (cy 1, 26, .inl (fun j => nI (mp j))))] := hD
                          refine lv_iconst (v := 0) hx hb dX5_tower_58 (by decide) ?_
                          refine lv_istore_n (lv' := [(2, .int 0), (1, .int 1), (0, .ref m0)]) hx hb dX5_tower_59 rfl hl (by decide) rfl (fun ls hl => ?_)
                          refine lv_iload_n hx hb dX5_tower_60 rfl (lv_at hl 0 rfl) ?_
                          refine lv_bipush (v := 6) hx hb dX5_tower_61 (by decide) ?_
                          refine lv_icmp_ge (tgt := 101) hx hb dX5_tower_63 (by decide) (fun c_63 => ?_) (fun c_63 => ?_)
                          · exact absurd c_63 (by decide)
                          · refine lv_aload_n hx hb dX5_tower_66 rfl (lv_at hl 2 rfl) ?_
                            refine va_get (D := D) (ci := 5) (v := .ref lO) (C := RX5) (T := TX5) (N := 30) hx hb hts hw_X5 hown hK hP 2 rfl rfl 3 (by decide) f_13 (fun _ h9 => h9) rfl dX5_tower_67 ?_
                            refine lv_iload_n hx hb dX5_tower_70 rfl (lv_at hl 1 rfl) ?_
                            refine lv_dup2_11 hx hb dX5_tower_71 rfl rfl ?_
                            refine va_iald hx hb hK hP 1 0 rfl rfl (vi_c (by decide +kernel)) dX5_tower_72 ?_
                            refine lv_topi (fun y141 ey141 => ?_)
                            obtain rfl : y141 = 0 := ey141.trans (upd_rd _ _ _ (by decide))
                            refine lv_aload_n hx hb dX5_tower_73 rfl (lv_at hl 2 rfl) ?_
                            refine va_get (D := D) (ci := 5) (v := .ref pG) (C := RX5) (T := TX5) (N := 30) hx hb hts hw_X5 hown hK hP 2 rfl rfl 11 (by decide) f_25 (fun _ h9 => h9) rfl dX5_tower_74 ?_
                            refine lv_bipush (v := 8) hx hb dX5_tower_77 (by decide) ?_
                            refine lv_iload_n hx hb dX5_tower_79 rfl (lv_at hl 1 rfl) ?_
                            refine lv_imul hx hb dX5_tower_80 ?_
                            refine lv_topi (fun y142 ey142 => ?_)
                            obtain rfl : y142 = 8 := ey142.trans (by decide)
                            refine lv_iconst (v := 1) hx hb dX5_tower_81 (by decide) ?_
                            refine lv_iadd hx hb dX5_tower_82 ?_
                            refine lv_topi (fun y143 ey143 => ?_)
                            obtain rfl : y143 = 9 := ey143.trans (by decide)
                            refine lv_iload_n hx hb dX5_tower_83 rfl (lv_at hl 0 rfl) ?_
                            refine lv_iadd hx hb dX5_tower_84 ?_
                            refine lv_topi (fun y144 ey144 => ?_)
                            obtain rfl : y144 = 9 := ey144.trans (by decide)
                            refine va_bald hx hb hK hP 3 1 rfl rfl (vi_c (by decide +kernel)) dX5_tower_85 ?_
                            refine lv_topi (fun y145 ey145 => ?_)
                            obtain rfl : y145 = nI (mp 9) := ey145.trans (rfl)
                            refine lv_bipush (v := 97) hx hb dX5_tower_86 (by decide) ?_
                            refine lv_isub hx hb dX5_tower_88 ?_
                            refine lv_iconst (v := 3) hx hb dX5_tower_89 (by decide) ?_
                            refine lv_iload_n hx hb dX5_tower_90 rfl (lv_at hl 0 rfl) ?_
                            refine lv_imul hx hb dX5_tower_91 ?_
                            refine lv_topi (fun y146 ey146 => ?_)
                            obtain rfl : y146 = 0 := ey146.trans (by decide)
                            refine lv_ishl hx hb dX5_tower_92 ?_
                            refine lv_ior hx hb dX5_tower_93 ?_
                            refine lv_topi (fun y147 ey147 => ?_)
                            obtain rfl : y147 = pk1 0 (mp 9) 0 := ey147.trans (rfl)
                            refine va_iast hx hb hK hP hD hS 1 0 rfl rfl (vi_c (by decide +kernel)) dX5_tower_94 (fun H locs hP hD hS => ?_)
                            have hP : va_P D vwCl [(kO, .inl (cy 0, 3, .inl (fun j => nI ((va_up (va_up mk 0 (kn (mp 0))) 1 (kn (mp 8))) j)))), (lO, .inl (cy 0, 3, .inl (upd (upd (upd ml 0 (pk1 (pk1 (pk1 (pk1 (pk1 (pk1 0 (mp 1) 0) (mp 2) 1) (mp 3) 2) (mp 4) 3) (mp 5) 4) (mp 6) 5)) 1 0) 1 (pk1 0 (mp 9) 0)))), (m0, .inr (5, [.int (nI tw), .int 3, .ref kO, .ref lO, .int (nI tu), .int (nI ak), .int (nI se), .ref sC, .ref sW, .ref sD, .int 23, .ref pG, .int iw9, .int 3, .ref wO, .ref fO, .ref mO, .ref cO, .long sn, .ref th, .int ik, .int (nI kt), .int (nI ku), .int (nI ks), .ref kK, .ref kL, .ref kC, .ref kW, .ref kD, .long hh])), (pG, .inl (cy 1, 26, .inl (fun j => nI (mp j))))] H := hP
                            have hD : va_D A [(kO, .inl (cy 0, 3, .inl (fun j => nI ((va_up (va_up mk 0 (kn (mp 0))) 1 (kn (mp 8))) j)))), (lO, .inl (cy 0, 3, .inl (upd (upd (upd ml 0 (pk1 (pk1 (pk1 (pk1 (pk1 (pk1 0 (mp 1) 0) (mp 2) 1) (mp 3) 2) (mp 4) 3) (mp 5) 4) (mp 6) 5)) 1 0) 1 (pk1 0 (mp 9) 0)))), (m0, .inr (5, [.int (nI tw), .int 3, .ref kO, .ref lO, .int (nI tu), .int (nI ak), .int (nI se), .ref sC, .ref sW, .ref sD, .int 23, .ref pG, .int iw9, .int 3, .ref wO, .ref fO, .ref mO, .ref cO, .long sn, .ref th, .int ik, .int (nI kt), .int (nI ku), .int (nI ks), .ref kK, .ref kL, .ref kC, .ref kW, .ref kD, .long hh])), (pG, .inl (cy 1, 26, .inl (fun j => nI (mp j))))] := hD
                            rw [upd_upd (upd ml 0 (pk1 (pk1 (pk1 (pk1 (pk1 (pk1 0 (mp 1) 0) (mp 2) 1) (mp 3) 2) (mp 4) 3) (mp 5) 4) (mp 6) 5)) 1 0 (pk1 0 (mp 9) 0)] at hP hD
                            have hP : va_P D vwCl [(kO, .inl (cy 0, 3, .inl (fun j => nI ((va_up (va_up mk 0 (kn (mp 0))) 1 (kn (mp 8))) j)))), (lO, .inl (cy 0, 3, .inl (upd (upd ml 0 (pk1 (pk1 (pk1 (pk1 (pk1 (pk1 0 (mp 1) 0) (mp 2) 1) (mp 3) 2) (mp 4) 3) (mp 5) 4) (mp 6) 5)) 1 (pk1 0 (mp 9) 0)))), (m0, .inr (5, [.int (nI tw), .int 3, .ref kO, .ref lO, .int (nI tu), .int (nI ak), .int (nI se), .ref sC, .ref sW, .ref sD, .int 23, .ref pG, .int iw9, .int 3, .ref wO, .ref fO, .ref mO, .ref cO, .long sn, .ref th, .int ik, .int (nI kt), .int (nI ku), .int (nI ks), .ref kK, .ref kL, .ref kC, .ref kW, .ref kD, .long hh])), (pG, .inl (cy 1, 26, .inl (fun j => nI (mp j))))] H := hP
                            have hD : va_D A [(kO, .inl (cy 0, 3, .inl (fun j => nI ((va_up (va_up mk 0 (kn (mp 0))) 1 (kn (mp 8))) j)))), (lO, .inl (cy 0, 3, .inl (upd (upd ml 0 (pk1 (pk1 (pk1 (pk1 (pk1 (pk1 0 (mp 1) 0) (mp 2) 1) (mp 3) 2) (mp 4) 3) (mp 5) 4) (mp 6) 5)) 1 (pk1 0 (mp 9) 0)))), (m0, .inr (5, [.int (nI tw), .int 3, .ref kO, .ref lO, .int (nI tu), .int (nI ak), .int (nI se), .ref sC, .ref sW, .ref sD, .int 23, .ref pG, .int iw9, .int 3, .ref wO, .ref fO, .ref mO, .ref cO, .long sn, .ref th, .int ik, .int (nI kt), .int (nI ku), .int (nI ks), .ref kK, .ref kL, .ref kC, .ref kW, .ref kD, .long hh])), (pG, .inl (cy 1, 26, .inl (fun j => nI (mp j))))] := hD
                            refine lv_iinc (v := 1) (lv' := [(2, .int 1), (1, .int 1), (0, .ref m0)]) hx hb dX5_tower_95 hl (k := 0) rfl (by decide) (by decide) rfl (fun ls hl => ?_)
                            refine lv_goto (tgt := 60) hx hb dX5_tower_98 (by decide) ?_
                            refine lv_iload_n hx hb dX5_tower_60 rfl (lv_at hl 0 rfl) ?_
                            refine lv_bipush (v := 6) hx hb dX5_tower_61 (by decide) ?_
                            refine lv_icmp_ge (tgt := 101) hx hb dX5_tower_63 (by decide) (fun c_63 => ?_) (fun c_63 => ?_)
                            · exact absurd c_63 (by decide)
                            · refine lv_aload_n hx hb dX5_tower_66 rfl (lv_at hl 2 rfl) ?_
                              refine va_get (D := D) (ci := 5) (v := .ref lO) (C := RX5) (T := TX5) (N := 30) hx hb hts hw_X5 hown hK hP 2 rfl rfl 3 (by decide) f_13 (fun _ h9 => h9) rfl dX5_tower_67 ?_
                              refine lv_iload_n hx hb dX5_tower_70 rfl (lv_at hl 1 rfl) ?_
                              refine lv_dup2_11 hx hb dX5_tower_71 rfl rfl ?_
                              refine va_iald hx hb hK hP 1 0 rfl rfl (vi_c (by decide +kernel)) dX5_tower_72 ?_
                              refine lv_topi (fun y148 ey148 => ?_)
                              obtain rfl : y148 = pk1 0 (mp 9) 0 := ey148.trans (upd_rd _ _ _ (by decide))
                              refine lv_aload_n hx hb dX5_tower_73 rfl (lv_at hl 2 rfl) ?_
                              refine va_get (D := D) (ci := 5) (v := .ref pG) (C := RX5) (T := TX5) (N := 30) hx hb hts hw_X5 hown hK hP 2 rfl rfl 11 (by decide) f_25 (fun _ h9 => h9) rfl dX5_tower_74 ?_
                              refine lv_bipush (v := 8) hx hb dX5_tower_77 (by decide) ?_
                              refine lv_iload_n hx hb dX5_tower_79 rfl (lv_at hl 1 rfl) ?_
                              refine lv_imul hx hb dX5_tower_80 ?_
                              refine lv_topi (fun y149 ey149 => ?_)
                              obtain rfl : y149 = 8 := ey149.trans (by decide)
                              refine lv_iconst (v := 1) hx hb dX5_tower_81 (by decide) ?_
                              refine lv_iadd hx hb dX5_tower_82 ?_
                              refine lv_topi (fun y150 ey150 => ?_)
                              obtain rfl : y150 = 9 := ey150.trans (by decide)
                              refine lv_iload_n hx hb dX5_tower_83 rfl (lv_at hl 0 rfl) ?_
                              refine lv_iadd hx hb dX5_tower_84 ?_
                              refine lv_topi (fun y151 ey151 => ?_)
                              obtain rfl : y151 = 10 := ey151.trans (by decide)
                              refine va_bald hx hb hK hP 3 1 rfl rfl (vi_c (by decide +kernel)) dX5_tower_85 ?_
                              refine lv_topi (fun y152 ey152 => ?_)
                              obtain rfl : y152 = nI (mp 10) := ey152.trans (rfl)
                              refine lv_bipush (v := 97) hx hb dX5_tower_86 (by decide) ?_
                              refine lv_isub hx hb dX5_tower_88 ?_
                              refine lv_iconst (v := 3) hx hb dX5_tower_89 (by decide) ?_
                              refine lv_iload_n hx hb dX5_tower_90 rfl (lv_at hl 0 rfl) ?_
                              refine lv_imul hx hb dX5_tower_91 ?_
                              refine lv_topi (fun y153 ey153 => ?_)
                              obtain rfl : y153 = 3 := ey153.trans (by decide)
                              refine lv_ishl hx hb dX5_tower_92 ?_
                              refine lv_ior hx hb dX5_tower_93 ?_
                              refine lv_topi (fun y154 ey154 => ?_)
                              obtain rfl : y154 = pk1 (pk1 0 (mp 9) 0) (mp 10) 1 := ey154.trans (rfl)
                              refine va_iast hx hb hK hP hD hS 1 0 rfl rfl (vi_c (by decide +kernel)) dX5_tower_94 (fun H locs hP hD hS => ?_)
                              have hP : va_P D vwCl [(kO, .inl (cy 0, 3, .inl (fun j => nI ((va_up (va_up mk 0 (kn (mp 0))) 1 (kn (mp 8))) j)))), (lO, .inl (cy 0, 3, .inl (upd (upd (upd ml 0 (pk1 (pk1 (pk1 (pk1 (pk1 (pk1 0 (mp 1) 0) (mp 2) 1) (mp 3) 2) (mp 4) 3) (mp 5) 4) (mp 6) 5)) 1 (pk1 0 (mp 9) 0)) 1 (pk1 (pk1 0 (mp 9) 0) (mp 10) 1)))), (m0, .inr (5, [.int (nI tw), .int 3, .ref kO, .ref lO, .int (nI tu), .int (nI ak), .int (nI se), .ref sC, .ref sW, .ref sD, .int 23, .ref pG, .int iw9, .int 3, .ref wO, .ref fO, .ref mO, .ref cO, .long sn, .ref th, .int ik, .int (nI kt), .int (nI ku), .int (nI ks), .ref kK, .ref kL, .ref kC, .ref kW, .ref kD, .long hh])), (pG, .inl (cy 1, 26, .inl (fun j => nI (mp j))))] H := hP
                              have hD : va_D A [(kO, .inl (cy 0, 3, .inl (fun j => nI ((va_up (va_up mk 0 (kn (mp 0))) 1 (kn (mp 8))) j)))), (lO, .inl (cy 0, 3, .inl (upd (upd (upd ml 0 (pk1 (pk1 (pk1 (pk1 (pk1 (pk1 0 (mp 1) 0) (mp 2) 1) (mp 3) 2) (mp 4) 3) (mp 5) 4) (mp 6) 5)) 1 (pk1 0 (mp 9) 0)) 1 (pk1 (pk1 0 (mp 9) 0) (mp 10) 1)))), (m0, .inr (5, [.int (nI tw), .int 3, .ref kO, .ref lO, .int (nI tu), .int (nI ak), .int (nI se), .ref sC, .ref sW, .ref sD, .int 23, .ref pG, .int iw9, .int 3, .ref wO, .ref fO, .ref mO, .ref cO, .long sn, .ref th, .int ik, .int (nI kt), .int (nI ku), .int (nI ks), .ref kK, .ref kL, .ref kC, .ref kW, .ref kD, .long hh])), (pG, .inl (cy 1, 26, .inl (fun j => nI (mp j))))] := hD
                              rw [upd_upd (upd ml 0 (pk1 (pk1 (pk1 (pk1 (pk1 (pk1 0 (mp 1) 0) (mp 2) 1) (mp 3) 2) (mp 4) 3) (mp 5) 4) (mp 6) 5)) 1 (pk1 0 (mp 9) 0) (pk1 (pk1 0 (mp 9) 0) (mp 10) 1)] at hP hD
                              have hP : va_P D vwCl [(kO, .inl (cy 0, 3, .inl (fun j => nI ((va_up (va_up mk 0 (kn (mp 0))) 1 (kn (mp 8))) j)))), (lO, .inl (cy 0, 3, .inl (upd (upd ml 0 (pk1 (pk1 (pk1 (pk1 (pk1 (pk1 0 (mp 1) 0) (mp 2) 1) (mp 3) 2) (mp 4) 3) (mp 5) 4) (mp 6) 5)) 1 (pk1 (pk1 0 (mp 9) 0) (mp 10) 1)))), (m0, .inr (5, [.int (nI tw), .int 3, .ref kO, .ref lO, .int (nI tu), .int (nI ak), .int (nI se), .ref sC, .ref sW, .ref sD, .int 23, .ref pG, .int iw9, .int 3, .ref wO, .ref fO, .ref mO, .ref cO, .long sn, .ref th, .int ik, .int (nI kt), .int (nI ku), .int (nI ks), .ref kK, .ref kL, .ref kC, .ref kW, .ref kD, .long hh])), (pG, .inl (cy 1, 26, .inl (fun j => nI (mp j))))] H := hP
                              have hD : va_D A [(kO, .inl (cy 0, 3, .inl (fun j => nI ((va_up (va_up mk 0 (kn (mp 0))) 1 (kn (mp 8))) j)))), (lO, .inl (cy 0, 3, .inl (upd (upd ml 0 (pk1 (pk1 (pk1 (pk1 (pk1 (pk1 0 (mp 1) 0) (mp 2) 1) (mp 3) 2) (mp 4) 3) (mp 5) 4) (mp 6) 5)) 1 (pk1 (pk1 0 (mp 9) 0) (mp 10) 1)))), (m0, .inr (5, [.int (nI tw), .int 3, .ref kO, .ref lO, .int (nI tu), .int (nI ak), .int (nI se), .ref sC, .ref sW, .ref sD, .int 23, .ref pG, .int iw9, .int 3, .ref wO, .ref fO, .ref mO, .ref cO, .long sn, .ref th, .int ik, .int (nI kt), .int (nI ku), .int (nI ks), .ref kK, .ref kL, .ref kC, .ref kW, .ref kD, .long hh])), (pG, .inl (cy 1, 26, .inl (fun j => nI (mp j))))] := hD
                              refine lv_iinc (v := 2) (lv' := [(2, .int 2), (1, .int 1), (0, .ref m0)]) hx hb dX5_tower_95 hl (k := 0) rfl (by decide) (by decide) rfl (fun ls hl => ?_)
                              refine lv_goto (tgt := 60) hx hb dX5_tower_98 (by decide) ?_
                              refine lv_iload_n hx hb dX5_tower_60 rfl (lv_at hl 0 rfl) ?_
                              refine lv_bipush (v := 6) hx hb dX5_tower_61 (by decide) ?_
                              refine lv_icmp_ge (tgt := 101) hx hb dX5_tower_63 (by decide) (fun c_63 => ?_) (fun c_63 => ?_)
                              · exact absurd c_63 (by decide)
                              · refine lv_aload_n hx hb dX5_tower_66 rfl (lv_at hl 2 rfl) ?_
                                refine va_get (D := D) (ci := 5) (v := .ref lO) (C := RX5) (T := TX5) (N := 30) hx hb hts hw_X5 hown hK hP 2 rfl rfl 3 (by decide) f_13 (fun _ h9 => h9) rfl dX5_tower_67 ?_
                                refine lv_iload_n hx hb dX5_tower_70 rfl (lv_at hl 1 rfl) ?_
                                refine lv_dup2_11 hx hb dX5_tower_71 rfl rfl ?_
                                refine va_iald hx hb hK hP 1 0 rfl rfl (vi_c (by decide +kernel)) dX5_tower_72 ?_
                                refine lv_topi (fun y155 ey155 => ?_)
                                obtain rfl : y155 = pk1 (pk1 0 (mp 9) 0) (mp 10) 1 := ey155.trans (upd_rd _ _ _ (by decide))
                                refine lv_aload_n hx hb dX5_tower_73 rfl (lv_at hl 2 rfl) ?_
                                refine va_get (D := D) (ci := 5) (v := .ref pG) (C := RX5) (T := TX5) (N := 30) hx hb hts hw_X5 hown hK hP 2 rfl rfl 11 (by decide) f_25 (fun _ h9 => h9) rfl dX5_tower_74 ?_
                                refine lv_bipush (v := 8) hx hb dX5_tower_77 (by decide) ?_
                                refine lv_iload_n hx hb dX5_tower_79 rfl (lv_at hl 1 rfl) ?_
                                refine lv_imul hx hb dX5_tower_80 ?_
                                refine lv_topi (fun y156 ey156 => ?_)
                                obtain rfl : y156 = 8 := ey156.trans (by decide)
                                refine lv_iconst (v := 1) hx hb dX5_tower_81 (by decide) ?_
                                refine lv_iadd hx hb dX5_tower_82 ?_
                                refine lv_topi (fun y157 ey157 => ?_)
                                obtain rfl : y157 = 9 := ey157.trans (by decide)
                                refine lv_iload_n hx hb dX5_tower_83 rfl (lv_at hl 0 rfl) ?_
                                refine lv_iadd hx hb dX5_tower_84 ?_
                                refine lv_topi (fun y158 ey158 => ?_)
                                obtain rfl : y158 = 11 := ey158.trans (by decide)
                                refine va_bald hx hb hK hP 3 1 rfl rfl (vi_c (by decide +kernel)) dX5_tower_85 ?_
                                refine lv_topi (fun y159 ey159 => ?_)
                                obtain rfl : y159 = nI (mp 11) := ey159.trans (rfl)
                                refine lv_bipush (v := 97) hx hb dX5_tower_86 (by decide) ?_
                                refine lv_isub hx hb dX5_tower_88 ?_
                                refine lv_iconst (v := 3) hx hb dX5_tower_89 (by decide) ?_
                                refine lv_iload_n hx hb dX5_tower_90 rfl (lv_at hl 0 rfl) ?_
                                refine lv_imul hx hb dX5_tower_91 ?_
                                refine lv_topi (fun y160 ey160 => ?_)
                                obtain rfl : y160 = 6 := ey160.trans (by decide)
                                refine lv_ishl hx hb dX5_tower_92 ?_
                                refine lv_ior hx hb dX5_tower_93 ?_
                                refine lv_topi (fun y161 ey161 => ?_)
                                obtain rfl : y161 = pk1 (pk1 (pk1 0 (mp 9) 0) (mp 10) 1) (mp 11) 2 := ey161.trans (rfl)
                                refine va_iast hx hb hK hP hD hS 1 0 rfl rfl (vi_c (by decide +kernel)) dX5_tower_94 (fun H locs hP hD hS => ?_)
                                have hP : va_P D vwCl [(kO, .inl (cy 0, 3, .inl (fun j => nI ((va_up (va_up mk 0 (kn (mp 0))) 1 (kn (mp 8))) j)))), (lO, .inl (cy 0, 3, .inl (upd (upd (upd ml 0 (pk1 (pk1 (pk1 (pk1 (pk1 (pk1 0 (mp 1) 0) (mp 2) 1) (mp 3) 2) (mp 4) 3) (mp 5) 4) (mp 6) 5)) 1 (pk1 (pk1 0 (mp 9) 0) (mp 10) 1)) 1 (pk1 (pk1 (pk1 0 (mp 9) 0) (mp 10) 1) (mp 11) 2)))), (m0, .inr (5, [.int (nI tw), .int 3, .ref kO, .ref lO, .int (nI tu), .int (nI ak), .int (nI se), .ref sC, .ref sW, .ref sD, .int 23, .ref pG, .int iw9, .int 3, .ref wO, .ref fO, .ref mO, .ref cO, .long sn, .ref th, .int ik, .int (nI kt), .int (nI ku), .int (nI ks), .ref kK, .ref kL, .ref kC, .ref kW, .ref kD, .long hh])), (pG, .inl (cy 1, 26, .inl (fun j => nI (mp j))))] H := hP
                                have hD : va_D A [(kO, .inl (cy 0, 3, .inl (fun j => nI ((va_up (va_up mk 0 (kn (mp 0))) 1 (kn (mp 8))) j)))), (lO, .inl (cy 0, 3, .inl (upd (upd (upd ml 0 (pk1 (pk1 (pk1 (pk1 (pk1 (pk1 0 (mp 1) 0) (mp 2) 1) (mp 3) 2) (mp 4) 3) (mp 5) 4) (mp 6) 5)) 1 (pk1 (pk1 0 (mp 9) 0) (mp 10) 1)) 1 (pk1 (pk1 (pk1 0 (mp 9) 0) (mp 10) 1) (mp 11) 2)))), (m0, .inr (5, [.int (nI tw), .int 3, .ref kO, .ref lO, .int (nI tu), .int (nI ak), .int (nI se), .ref sC, .ref sW, .ref sD, .int 23, .ref pG, .int iw9, .int 3, .ref wO, .ref fO, .ref mO, .ref cO, .long sn, .ref th, .int ik, .int (nI kt), .int (nI ku), .int (nI ks), .ref kK, .ref kL, .ref kC, .ref kW, .ref kD, .long hh])), (pG, .inl (cy 1, 26, .inl (fun j => nI (mp j))))] := hD
                                rw [upd_upd (upd ml 0 (pk1 (pk1 (pk1 (pk1 (pk1 (pk1 0 (mp 1) 0) (mp 2) 1) (mp 3) 2) (mp 4) 3) (mp 5) 4) (mp 6) 5)) 1 (pk1 (pk1 0 (mp 9) 0) (mp 10) 1) (pk1 (pk1 (pk1 0 (mp 9) 0) (mp 10) 1) (mp 11) 2)] at hP hD
                                have hP : va_P D vwCl [(kO, .inl (cy 0, 3, .inl (fun j => nI ((va_up (va_up mk 0 (kn (mp 0))) 1 (kn (mp 8))) j)))), (lO, .inl (cy 0, 3, .inl (upd (upd ml 0 (pk1 (pk1 (pk1 (pk1 (pk1 (pk1 0 (mp 1) 0) (mp 2) 1) (mp 3) 2) (mp 4) 3) (mp 5) 4) (mp 6) 5)) 1 (pk1 (pk1 (pk1 0 (mp 9) 0) (mp 10) 1) (mp 11) 2)))), (m0, .inr (5, [.int (nI tw), .int 3, .ref kO, .ref lO, .int (nI tu), .int (nI ak), .int (nI se), .ref sC, .ref sW, .ref sD, .int 23, .ref pG, .int iw9, .int 3, .ref wO, .ref fO, .ref mO, .ref cO, .long sn, .ref th, .int ik, .int (nI kt), .int (nI ku), .int (nI ks), .ref kK, .ref kL, .ref kC, .ref kW, .ref kD, .long hh])), (pG, .inl (cy 1, 26, .inl (fun j => nI (mp j))))] H := hP
                                have hD : va_D A [(kO, .inl (cy 0, 3, .inl (fun j => nI ((va_up (va_up mk 0 (kn (mp 0))) 1 (kn (mp 8))) j)))), (lO, .inl (cy 0, 3, .inl (upd (upd ml 0 (pk1 (pk1 (pk1 (pk1 (pk1 (pk1 0 (mp 1) 0) (mp 2) 1) (mp 3) 2) (mp 4) 3) (mp 5) 4) (mp 6) 5)) 1 (pk1 (pk1 (pk1 0 (mp 9) 0) (mp 10) 1) (mp 11) 2)))), (m0, .inr (5, [.int (nI tw), .int 3, .ref kO, .ref lO, .int (nI tu), .int (nI ak), .int (nI se), .ref sC, .ref sW, .ref sD, .int 23, .ref pG, .int iw9, .int 3, .ref wO, .ref fO, .ref mO, .ref cO, .long sn, .ref th, .int ik, .int (nI kt), .int (nI ku), .int (nI ks), .ref kK, .ref kL, .ref kC, .ref kW, .ref kD, .long hh])), (pG, .inl (cy 1, 26, .inl (fun j => nI (mp j))))] := hD
                                refine lv_iinc (v := 3) (lv' := [(2, .int 3), (1, .int 1), (0, .ref m0)]) hx hb dX5_tower_95 hl (k := 0) rfl (by decide) (by decide) rfl (fun ls hl => ?_)
                                refine lv_goto (tgt := 60) hx hb dX5_tower_98 (by decide) ?_
                                refine lv_iload_n hx hb dX5_tower_60 rfl (lv_at hl 0 rfl) ?_
                                refine lv_bipush (v := 6) hx hb dX5_tower_61 (by decide) ?_
                                refine lv_icmp_ge (tgt := 101) hx hb dX5_tower_63 (by decide) (fun c_63 => ?_) (fun c_63 => ?_)
                                · exact absurd c_63 (by decide)
                                · refine lv_aload_n hx hb dX5_tower_66 rfl (lv_at hl 2 rfl) ?_
                                  refine va_get (D := D) (ci := 5) (v := .ref lO) (C := RX5) (T := TX5) (N := 30) hx hb hts hw_X5 hown hK hP 2 rfl rfl 3 (by decide) f_13 (fun _ h9 => h9) rfl dX5_tower_67 ?_
                                  refine lv_iload_n hx hb dX5_tower_70 rfl (lv_at hl 1 rfl) ?_
                                  refine lv_dup2_11 hx hb dX5_tower_71 rfl rfl ?_
                                  refine va_iald hx hb hK hP 1 0 rfl rfl (vi_c (by decide +kernel)) dX5_tower_72 ?_
                                  refine lv_topi (fun y162 ey162 => ?_)
                                  obtain rfl : y162 = pk1 (pk1 (pk1 0 (mp 9) 0) (mp 10) 1) (mp 11) 2 := ey162.trans (upd_rd _ _ _ (by decide))
                                  refine lv_aload_n hx hb dX5_tower_73 rfl (lv_at hl 2 rfl) ?_
                                  refine va_get (D := D) (ci := 5) (v := .ref pG) (C := RX5) (T := TX5) (N := 30) hx hb hts hw_X5 hown hK hP 2 rfl rfl 11 (by decide) f_25 (fun _ h9 => h9) rfl dX5_tower_74 ?_
                                  refine lv_bipush (v := 8) hx hb dX5_tower_77 (by decide) ?_
                                  refine lv_iload_n hx hb dX5_tower_79 rfl (lv_at hl 1 rfl) ?_
                                  refine lv_imul hx hb dX5_tower_80 ?_
                                  refine lv_topi (fun y163 ey163 => ?_)
                                  obtain rfl : y163 = 8 := ey163.trans (by decide)
                                  refine lv_iconst (v := 1) hx hb dX5_tower_81 (by decide) ?_
                                  refine lv_iadd hx hb dX5_tower_82 ?_
                                  refine lv_topi (fun y164 ey164 => ?_)
                                  obtain rfl : y164 = 9 := ey164.trans (by decide)
                                  refine lv_iload_n hx hb dX5_tower_83 rfl (lv_at hl 0 rfl) ?_
                                  refine lv_iadd hx hb dX5_tower_84 ?_
                                  refine lv_topi (fun y165 ey165 => ?_)
                                  obtain rfl : y165 = 12 := ey165.trans (by decide)
                                  refine va_bald hx hb hK hP 3 1 rfl rfl (vi_c (by decide +kernel)) dX5_tower_85 ?_
                                  refine lv_topi (fun y166 ey166 => ?_)
                                  obtain rfl : y166 = nI (mp 12) := ey166.trans (rfl)
                                  refine lv_bipush (v := 97) hx hb dX5_tower_86 (by decide) ?_
                                  refine lv_isub hx hb dX5_tower_88 ?_
                                  refine lv_iconst (v := 3) hx hb dX5_tower_89 (by decide) ?_
                                  refine lv_iload_n hx hb dX5_tower_90 rfl (lv_at hl 0 rfl) ?_
                                  refine lv_imul hx hb dX5_tower_91 ?_
                                  refine lv_topi (fun y167 ey167 => ?_)
                                  obtain rfl : y167 = 9 := ey167.trans (by decide)
                                  refine lv_ishl hx hb dX5_tower_92 ?_
                                  refine lv_ior hx hb dX5_tower_93 ?_
                                  refine lv_topi (fun y168 ey168 => ?_)
                                  obtain rfl : y168 = pk1 (pk1 (pk1 (pk1 0 (mp 9) 0) (mp 10) 1) (mp 11) 2) (mp 12) 3 := ey168.trans (rfl)
                                  refine va_iast hx hb hK hP hD hS 1 0 rfl rfl (vi_c (by decide +kernel)) dX5_tower_94 (fun H locs hP hD hS => ?_)
                                  have hP : va_P D vwCl [(kO, .inl (cy 0, 3, .inl (fun j => nI ((va_up (va_up mk 0 (kn (mp 0))) 1 (kn (mp 8))) j)))), (lO, .inl (cy 0, 3, .inl (upd (upd (upd ml 0 (pk1 (pk1 (pk1 (pk1 (pk1 (pk1 0 (mp 1) 0) (mp 2) 1) (mp 3) 2) (mp 4) 3) (mp 5) 4) (mp 6) 5)) 1 (pk1 (pk1 (pk1 0 (mp 9) 0) (mp 10) 1) (mp 11) 2)) 1 (pk1 (pk1 (pk1 (pk1 0 (mp 9) 0) (mp 10) 1) (mp 11) 2) (mp 12) 3)))), (m0, .inr (5, [.int (nI tw), .int 3, .ref kO, .ref lO, .int (nI tu), .int (nI ak), .int (nI se), .ref sC, .ref sW, .ref sD, .int 23, .ref pG, .int iw9, .int 3, .ref wO, .ref fO, .ref mO, .ref cO, .long sn, .ref th, .int ik, .int (nI kt), .int (nI ku), .int (nI ks), .ref kK, .ref kL, .ref kC, .ref kW, .ref kD, .long hh])), (pG, .inl (cy 1, 26, .inl (fun j => nI (mp j))))] H := hP
                                  have hD : va_D A [(kO, .inl (cy 0, 3, .inl (fun j => nI ((va_up (va_up mk 0 (kn (mp 0))) 1 (kn (mp 8))) j)))), (lO, .inl (cy 0, 3, .inl (upd (upd (upd ml 0 (pk1 (pk1 (pk1 (pk1 (pk1 (pk1 0 (mp 1) 0) (mp 2) 1) (mp 3) 2) (mp 4) 3) (mp 5) 4) (mp 6) 5)) 1 (pk1 (pk1 (pk1 0 (mp 9) 0) (mp 10) 1) (mp 11) 2)) 1 (pk1 (pk1 (pk1 (pk1 0 (mp 9) 0) (mp 10) 1) (mp 11) 2) (mp 12) 3)))), (m0, .inr (5, [.int (nI tw), .int 3, .ref kO, .ref lO, .int (nI tu), .int (nI ak), .int (nI se), .ref sC, .ref sW, .ref sD, .int 23, .ref pG, .int iw9, .int 3, .ref wO, .ref fO, .ref mO, .ref cO, .long sn, .ref th, .int ik, .int (nI kt), .int (nI ku), .int (nI ks), .ref kK, .ref kL, .ref kC, .ref kW, .ref kD, .long hh])), (pG, .inl (cy 1, 26, .inl (fun j => nI (mp j))))] := hD
                                  rw [upd_upd (upd ml 0 (pk1 (pk1 (pk1 (pk1 (pk1 (pk1 0 (mp 1) 0) (mp 2) 1) (mp 3) 2) (mp 4) 3) (mp 5) 4) (mp 6) 5)) 1 (pk1 (pk1 (pk1 0 (mp 9) 0) (mp 10) 1) (mp 11) 2) (pk1 (pk1 (pk1 (pk1 0 (mp 9) 0) (mp 10) 1) (mp 11) 2) (mp 12) 3)] at hP hD
                                  have hP : va_P D vwCl [(kO, .inl (cy 0, 3, .inl (fun j => nI ((va_up (va_up mk 0 (kn (mp 0))) 1 (kn (mp 8))) j)))), (lO, .inl (cy 0, 3, .inl (upd (upd ml 0 (pk1 (pk1 (pk1 (pk1 (pk1 (pk1 0 (mp 1) 0) (mp 2) 1) (mp 3) 2) (mp 4) 3) (mp 5) 4) (mp 6) 5)) 1 (pk1 (pk1 (pk1 (pk1 0 (mp 9) 0) (mp 10) 1) (mp 11) 2) (mp 12) 3)))), (m0, .inr (5, [.int (nI tw), .int 3, .ref kO, .ref lO, .int (nI tu), .int (nI ak), .int (nI se), .ref sC, .ref sW, .ref sD, .int 23, .ref pG, .int iw9, .int 3, .ref wO, .ref fO, .ref mO, .ref cO, .long sn, .ref th, .int ik, .int (nI kt), .int (nI ku), .int (nI ks), .ref kK, .ref kL, .ref kC, .ref kW, .ref kD, .long hh])), (pG, .inl (cy 1, 26, .inl (fun j => nI (mp j))))] H := hP
                                  have hD : va_D A [(kO, .inl (cy 0, 3, .inl (fun j => nI ((va_up (va_up mk 0 (kn (mp 0))) 1 (kn (mp 8))) j)))), (lO, .inl (cy 0, 3, .inl (upd (upd ml 0 (pk1 (pk1 (pk1 (pk1 (pk1 (pk1 0 (mp 1) 0) (mp 2) 1) (mp 3) 2) (mp 4) 3) (mp 5) 4) (mp 6) 5)) 1 (pk1 (pk1 (pk1 (pk1 0 (mp 9) 0) (mp 10) 1) (mp 11) 2) (mp 12) 3)))), (m0, .inr (5, [.int (nI tw), .int 3, .ref kO, .ref lO, .int (nI tu), .int (nI ak), .int (nI se), .ref sC, .ref sW, .ref sD, .int 23, .ref pG, .int iw9, .int 3, .ref wO, .ref fO, .ref mO, .ref cO, .long sn, .ref th, .int ik, .int (nI kt), .int (nI ku), .int (nI ks), .ref kK, .ref kL, .ref kC, .ref kW, .ref kD, .long hh])), (pG, .inl (cy 1, 26, .inl (fun j => nI (mp j))))] := hD
                                  refine lv_iinc (v := 4) (lv' := [(2, .int 4), (1, .int 1), (0, .ref m0)]) hx hb dX5_tower_95 hl (k := 0) rfl (by decide) (by decide) rfl (fun ls hl => ?_)
                                  refine lv_goto (tgt := 60) hx hb dX5_tower_98 (by decide) ?_
                                  refine lv_iload_n hx hb dX5_tower_60 rfl (lv_at hl 0 rfl) ?_
                                  refine lv_bipush (v := 6) hx hb dX5_tower_61 (by decide) ?_
                                  refine lv_icmp_ge (tgt := 101) hx hb dX5_tower_63 (by decide) (fun c_63 => ?_) (fun c_63 => ?_)
                                  · exact absurd c_63 (by decide)
                                  · refine lv_aload_n hx hb dX5_tower_66 rfl (lv_at hl 2 rfl) ?_
                                    refine va_get (D := D) (ci := 5) (v := .ref lO) (C := RX5) (T := TX5) (N := 30) hx hb hts hw_X5 hown hK hP 2 rfl rfl 3 (by decide) f_13 (fun _ h9 => h9) rfl dX5_tower_67 ?_
                                    refine lv_iload_n hx hb dX5_tower_70 rfl (lv_at hl 1 rfl) ?_
                                    refine lv_dup2_11 hx hb dX5_tower_71 rfl rfl ?_
                                    refine va_iald hx hb hK hP 1 0 rfl rfl (vi_c (by decide +kernel)) dX5_tower_72 ?_
                                    refine lv_topi (fun y169 ey169 => ?_)
                                    obtain rfl : y169 = pk1 (pk1 (pk1 (pk1 0 (mp 9) 0) (mp 10) 1) (mp 11) 2) (mp 12) 3 := ey169.trans (upd_rd _ _ _ (by decide))
                                    refine lv_aload_n hx hb dX5_tower_73 rfl (lv_at hl 2 rfl) ?_
                                    refine va_get (D := D) (ci := 5) (v := .ref pG) (C := RX5) (T := TX5) (N := 30) hx hb hts hw_X5 hown hK hP 2 rfl rfl 11 (by decide) f_25 (fun _ h9 => h9) rfl dX5_tower_74 ?_
                                    refine lv_bipush (v := 8) hx hb dX5_tower_77 (by decide) ?_
                                    refine lv_iload_n hx hb dX5_tower_79 rfl (lv_at hl 1 rfl) ?_
                                    refine lv_imul hx hb dX5_tower_80 ?_
                                    refine lv_topi (fun y170 ey170 => ?_)
                                    obtain rfl : y170 = 8 := ey170.trans (by decide)
                                    refine lv_iconst (v := 1) hx hb dX5_tower_81 (by decide) ?_
                                    refine lv_iadd hx hb dX5_tower_82 ?_
                                    refine lv_topi (fun y171 ey171 => ?_)
                                    obtain rfl : y171 = 9 := ey171.trans (by decide)
                                    refine lv_iload_n hx hb dX5_tower_83 rfl (lv_at hl 0 rfl) ?_
                                    refine lv_iadd hx hb dX5_tower_84 ?_
                                    refine lv_topi (fun y172 ey172 => ?_)
                                    obtain rfl : y172 = 13 := ey172.trans (by decide)
                                    refine va_bald hx hb hK hP 3 1 rfl rfl (vi_c (by decide +kernel)) dX5_tower_85 ?_
                                    refine lv_topi (fun y173 ey173 => ?_)
                                    obtain rfl : y173 = nI (mp 13) := ey173.trans (rfl)
                                    refine lv_bipush (v := 97) hx hb dX5_tower_86 (by decide) ?_
                                    refine lv_isub hx hb dX5_tower_88 ?_
                                    refine lv_iconst (v := 3) hx hb dX5_tower_89 (by decide) ?_
                                    refine lv_iload_n hx hb dX5_tower_90 rfl (lv_at hl 0 rfl) ?_
                                    refine lv_imul hx hb dX5_tower_91 ?_
                                    refine lv_topi (fun y174 ey174 => ?_)
                                    obtain rfl : y174 = 12 := ey174.trans (by decide)
                                    refine lv_ishl hx hb dX5_tower_92 ?_
                                    refine lv_ior hx hb dX5_tower_93 ?_
                                    refine lv_topi (fun y175 ey175 => ?_)
                                    obtain rfl : y175 = pk1 (pk1 (pk1 (pk1 (pk1 0 (mp 9) 0) (mp 10) 1) (mp 11) 2) (mp 12) 3) (mp 13) 4 := ey175.trans (rfl)
                                    refine va_iast hx hb hK hP hD hS 1 0 rfl rfl (vi_c (by decide +kernel)) dX5_tower_94 (fun H locs hP hD hS => ?_)
                                    have hP : va_P D vwCl [(kO, .inl (cy 0, 3, .inl (fun j => nI ((va_up (va_up mk 0 (kn (mp 0))) 1 (kn (mp 8))) j)))), (lO, .inl (cy 0, 3, .inl (upd (upd (upd ml 0 (pk1 (pk1 (pk1 (pk1 (pk1 (pk1 0 (mp 1) 0) (mp 2) 1) (mp 3) 2) (mp 4) 3) (mp 5) 4) (mp 6) 5)) 1 (pk1 (pk1 (pk1 (pk1 0 (mp 9) 0) (mp 10) 1) (mp 11) 2) (mp 12) 3)) 1 (pk1 (pk1 (pk1 (pk1 (pk1 0 (mp 9) 0) (mp 10) 1) (mp 11) 2) (mp 12) 3) (mp 13) 4)))), (m0, .inr (5, [.int (nI tw), .int 3, .ref kO, .ref lO, .int (nI tu), .int (nI ak), .int (nI se), .ref sC, .ref sW, .ref sD, .int 23, .ref pG, .int iw9, .int 3, .ref wO, .ref fO, .ref mO, .ref cO, .long sn, .ref th, .int ik, .int (nI kt), .int (nI ku), .int (nI ks), .ref kK, .ref kL, .ref kC, .ref kW, .ref kD, .long hh])), (pG, .inl (cy 1, 26, .inl (fun j => nI (mp j))))] H := hP
                                    have hD : va_D A [(kO, .inl (cy 0, 3, .inl (fun j => nI ((va_up (va_up mk 0 (kn (mp 0))) 1 (kn (mp 8))) j)))), (lO, .inl (cy 0, 3, .inl (upd (upd (upd ml 0 (pk1 (pk1 (pk1 (pk1 (pk1 (pk1 0 (mp 1) 0) (mp 2) 1) (mp 3) 2) (mp 4) 3) (mp 5) 4) (mp 6) 5)) 1 (pk1 (pk1 (pk1 (pk1 0 (mp 9) 0) (mp 10) 1) (mp 11) 2) (mp 12) 3)) 1 (pk1 (pk1 (pk1 (pk1 (pk1 0 (mp 9) 0) (mp 10) 1) (mp 11) 2) (mp 12) 3) (mp 13) 4)))), (m0, .inr (5, [.int (nI tw), .int 3, .ref kO, .ref lO, .int (nI tu), .int (nI ak), .int (nI se), .ref sC, .ref sW, .ref sD, .int 23, .ref pG, .int iw9, .int 3, .ref wO, .ref fO, .ref mO, .ref cO, .long sn, .ref th, .int ik, .int (nI kt), .int (nI ku), .int (nI ks), .ref kK, .ref kL, .ref kC, .ref kW, .ref kD, .long hh])), (pG, .inl (cy 1, 26, .inl (fun j => nI (mp j))))] := hD
                                    rw [upd_upd (upd ml 0 (pk1 (pk1 (pk1 (pk1 (pk1 (pk1 0 (mp 1) 0) (mp 2) 1) (mp 3) 2) (mp 4) 3) (mp 5) 4) (mp 6) 5)) 1 (pk1 (pk1 (pk1 (pk1 0 (mp 9) 0) (mp 10) 1) (mp 11) 2) (mp 12) 3) (pk1 (pk1 (pk1 (pk1 (pk1 0 (mp 9) 0) (mp 10) 1) (mp 11) 2) (mp 12) 3) (mp 13) 4)] at hP hD
                                    have hP : va_P D vwCl [(kO, .inl (cy 0, 3, .inl (fun j => nI ((va_up (va_up mk 0 (kn (mp 0))) 1 (kn (mp 8))) j)))), (lO, .inl (cy 0, 3, .inl (upd (upd ml 0 (pk1 (pk1 (pk1 (pk1 (pk1 (pk1 0 (mp 1) 0) (mp 2) 1) (mp 3) 2) (mp 4) 3) (mp 5) 4) (mp 6) 5)) 1 (pk1 (pk1 (pk1 (pk1 (pk1 0 (mp 9) 0) (mp 10) 1) (mp 11) 2) (mp 12) 3) (mp 13) 4)))), (m0, .inr (5, [.int (nI tw), .int 3, .ref kO, .ref lO, .int (nI tu), .int (nI ak), .int (nI se), .ref sC, .ref sW, .ref sD, .int 23, .ref pG, .int iw9, .int 3, .ref wO, .ref fO, .ref mO, .ref cO, .long sn, .ref th, .int ik, .int (nI kt), .int (nI ku), .int (nI ks), .ref kK, .ref kL, .ref kC, .ref kW, .ref kD, .long hh])), (pG, .inl (cy 1, 26, .inl (fun j => nI (mp j))))] H := hP
                                    have hD : va_D A [(kO, .inl (cy 0, 3, .inl (fun j => nI ((va_up (va_up mk 0 (kn (mp 0))) 1 (kn (mp 8))) j)))), (lO, .inl (cy 0, 3, .inl (upd (upd ml 0 (pk1 (pk1 (pk1 (pk1 (pk1 (pk1 0 (mp 1) 0) (mp 2) 1) (mp 3) 2) (mp 4) 3) (mp 5) 4) (mp 6) 5)) 1 (pk1 (pk1 (pk1 (pk1 (pk1 0 (mp 9) 0) (mp 10) 1) (mp 11) 2) (mp 12) 3) (mp 13) 4)))), (m0, .inr (5, [.int (nI tw), .int 3, .ref kO, .ref lO, .int (nI tu), .int (nI ak), .int (nI se), .ref sC, .ref sW, .ref sD, .int 23, .ref pG, .int iw9, .int 3, .ref wO, .ref fO, .ref mO, .ref cO, .long sn, .ref th, .int ik, .int (nI kt), .int (nI ku), .int (nI ks), .ref kK, .ref kL, .ref kC, .ref kW, .ref kD, .long hh])), (pG, .inl (cy 1, 26, .inl (fun j => nI (mp j))))] := hD
                                    refine lv_iinc (v := 5) (lv' := [(2, .int 5), (1, .int 1), (0, .ref m0)]) hx hb dX5_tower_95 hl (k := 0) rfl (by decide) (by decide) rfl (fun ls hl => ?_)
                                    refine lv_goto (tgt := 60) hx hb dX5_tower_98 (by decide) ?_
                                    refine lv_iload_n hx hb dX5_tower_60 rfl (lv_at hl 0 rfl) ?_
                                    refine lv_bipush (v := 6) hx hb dX5_tower_61 (by decide) ?_
                                    refine lv_icmp_ge (tgt := 101) hx hb dX5_tower_63 (by decide) (fun c_63 => ?_) (fun c_63 => ?_)
                                    · exact absurd c_63 (by decide)
                                    · refine lv_aload_n hx hb dX5_tower_66 rfl (lv_at hl 2 rfl) ?_
                                      refine va_get (D := D) (ci := 5) (v := .ref lO) (C := RX5) (T := TX5) (N := 30) hx hb hts hw_X5 hown hK hP 2 rfl rfl 3 (by decide) f_13 (fun _ h9 => h9) rfl dX5_tower_67 ?_
                                      refine lv_iload_n hx hb dX5_tower_70 rfl (lv_at hl 1 rfl) ?_
                                      refine lv_dup2_11 hx hb dX5_tower_71 rfl rfl ?_
                                      refine va_iald hx hb hK hP 1 0 rfl rfl (vi_c (by decide +kernel)) dX5_tower_72 ?_
                                      refine lv_topi (fun y176 ey176 => ?_)
                                      obtain rfl : y176 = pk1 (pk1 (pk1 (pk1 (pk1 0 (mp 9) 0) (mp 10) 1) (mp 11) 2) (mp 12) 3) (mp 13) 4 := ey176.trans (upd_rd _ _ _ (by decide))
                                      refine lv_aload_n hx hb dX5_tower_73 rfl (lv_at hl 2 rfl) ?_
                                      refine va_get (D := D) (ci := 5) (v := .ref pG) (C := RX5) (T := TX5) (N := 30) hx hb hts hw_X5 hown hK hP 2 rfl rfl 11 (by decide) f_25 (fun _ h9 => h9) rfl dX5_tower_74 ?_
                                      refine lv_bipush (v := 8) hx hb dX5_tower_77 (by decide) ?_
                                      refine lv_iload_n hx hb dX5_tower_79 rfl (lv_at hl 1 rfl) ?_
                                      refine lv_imul hx hb dX5_tower_80 ?_
                                      refine lv_topi (fun y177 ey177 => ?_)
                                      obtain rfl : y177 = 8 := ey177.trans (by decide)
                                      refine lv_iconst (v := 1) hx hb dX5_tower_81 (by decide) ?_
                                      refine lv_iadd hx hb dX5_tower_82 ?_
                                      refine lv_topi (fun y178 ey178 => ?_)
                                      obtain rfl : y178 = 9 := ey178.trans (by decide)
                                      refine lv_iload_n hx hb dX5_tower_83 rfl (lv_at hl 0 rfl) ?_
                                      refine lv_iadd hx hb dX5_tower_84 ?_
                                      refine lv_topi (fun y179 ey179 => ?_)
                                      obtain rfl : y179 = 14 := ey179.trans (by decide)
                                      refine va_bald hx hb hK hP 3 1 rfl rfl (vi_c (by decide +kernel)) dX5_tower_85 ?_
                                      refine lv_topi (fun y180 ey180 => ?_)
                                      obtain rfl : y180 = nI (mp 14) := ey180.trans (rfl)
                                      refine lv_bipush (v := 97) hx hb dX5_tower_86 (by decide) ?_
                                      refine lv_isub hx hb dX5_tower_88 ?_
                                      refine lv_iconst (v := 3) hx hb dX5_tower_89 (by decide) ?_
                                      refine lv_iload_n hx hb dX5_tower_90 rfl (lv_at hl 0 rfl) ?_
                                      refine lv_imul hx hb dX5_tower_91 ?_
                                      refine lv_topi (fun y181 ey181 => ?_)
                                      obtain rfl : y181 = 15 := ey181.trans (by decide)
                                      refine lv_ishl hx hb dX5_tower_92 ?_
                                      refine lv_ior hx hb dX5_tower_93 ?_
                                      refine lv_topi (fun y182 ey182 => ?_)
                                      obtain rfl : y182 = pk1 (pk1 (pk1 (pk1 (pk1 (pk1 0 (mp 9) 0) (mp 10) 1) (mp 11) 2) (mp 12) 3) (mp 13) 4) (mp 14) 5 := ey182.trans (rfl)
                                      refine va_iast hx hb hK hP hD hS 1 0 rfl rfl (vi_c (by decide +kernel)) dX5_tower_94 (fun H locs hP hD hS => ?_)
                                      have hP : va_P D vwCl [(kO, .inl (cy 0, 3, .inl (fun j => nI ((va_up (va_up mk 0 (kn (mp 0))) 1 (kn (mp 8))) j)))), (lO, .inl (cy 0, 3, .inl (upd (upd (upd ml 0 (pk1 (pk1 (pk1 (pk1 (pk1 (pk1 0 (mp 1) 0) (mp 2) 1) (mp 3) 2) (mp 4) 3) (mp 5) 4) (mp 6) 5)) 1 (pk1 (pk1 (pk1 (pk1 (pk1 0 (mp 9) 0) (mp 10) 1) (mp 11) 2) (mp 12) 3) (mp 13) 4)) 1 (pk1 (pk1 (pk1 (pk1 (pk1 (pk1 0 (mp 9) 0) (mp 10) 1) (mp 11) 2) (mp 12) 3) (mp 13) 4) (mp 14) 5)))), (m0, .inr (5, [.int (nI tw), .int 3, .ref kO, .ref lO, .int (nI tu), .int (nI ak), .int (nI se), .ref sC, .ref sW, .ref sD, .int 23, .ref pG, .int iw9, .int 3, .ref wO, .ref fO, .ref mO, .ref cO, .long sn, .ref th, .int ik, .int (nI kt), .int (nI ku), .int (nI ks), .ref kK, .ref kL, .ref kC, .ref kW, .ref kD, .long hh])), (pG, .inl (cy 1, 26, .inl (fun j => nI (mp j))))] H := hP
                                      have hD : va_D A [(kO, .inl (cy 0, 3, .inl (fun j => nI ((va_up (va_up mk 0 (kn (mp 0))) 1 (kn (mp 8))) j)))), (lO, .inl (cy 0, 3, .inl (upd (upd (upd ml 0 (pk1 (pk1 (pk1 (pk1 (pk1 (pk1 0 (mp 1) 0) (mp 2) 1) (mp 3) 2) (mp 4) 3) (mp 5) 4) (mp 6) 5)) 1 (pk1 (pk1 (pk1 (pk1 (pk1 0 (mp 9) 0) (mp 10) 1) (mp 11) 2) (mp 12) 3) (mp 13) 4)) 1 (pk1 (pk1 (pk1 (pk1 (pk1 (pk1 0 (mp 9) 0) (mp 10) 1) (mp 11) 2) (mp 12) 3) (mp 13) 4) (mp 14) 5)))), (m0, .inr (5, [.int (nI tw), .int 3, .ref kO, .ref lO, .int (nI tu), .int (nI ak), .int (nI se), .ref sC, .ref sW, .ref sD, .int 23, .ref pG, .int iw9, .int 3, .ref wO, .ref fO, .ref mO, .ref cO, .long sn, .ref th, .int ik, .int (nI kt), .int (nI ku), .int (nI ks), .ref kK, .ref kL, .ref kC, .ref kW, .ref kD, .long hh])), (pG, .inl (cy 1, 26, .inl (fun j => nI (mp j))))] := hD
                                      rw [upd_upd (upd ml 0 (pk1 (pk1 (pk1 (pk1 (pk1 (pk1 0 (mp 1) 0) (mp 2) 1) (mp 3) 2) (mp 4) 3) (mp 5) 4) (mp 6) 5)) 1 (pk1 (pk1 (pk1 (pk1 (pk1 0 (mp 9) 0) (mp 10) 1) (mp 11) 2) (mp 12) 3) (mp 13) 4) (pk1 (pk1 (pk1 (pk1 (pk1 (pk1 0 (mp 9) 0) (mp 10) 1) (mp 11) 2) (mp 12) 3) (mp 13) 4) (mp 14) 5)] at hP hD
                                      have hP : va_P D vwCl [(kO, .inl (cy 0, 3, .inl (fun j => nI ((va_up (va_up mk 0 (kn (mp 0))) 1 (kn (mp 8))) j)))), (lO, .inl (cy 0, 3, .inl (upd (upd ml 0 (pk1 (pk1 (pk1 (pk1 (pk1 (pk1 0 (mp 1) 0) (mp 2) 1) (mp 3) 2) (mp 4) 3) (mp 5) 4) (mp 6) 5)) 1 (pk1 (pk1 (pk1 (pk1 (pk1 (pk1 0 (mp 9) 0) (mp 10) 1) (mp 11) 2) (mp 12) 3) (mp 13) 4) (mp 14) 5)))), (m0, .inr (5, [.int (nI tw), .int 3, .ref kO, .ref lO, .int (nI tu), .int (nI ak), .int (nI se), .ref sC, .ref sW, .ref sD, .int 23, .ref pG, .int iw9, .int 3, .ref wO, .ref fO, .ref mO, .ref cO, .long sn, .ref th, .int ik, .int (nI kt), .int (nI ku), .int (nI ks), .ref kK, .ref kL, .ref kC, .ref kW, .ref kD, .long hh])), (pG, .inl (cy 1, 26, .inl (fun j => nI (mp j))))] H := hP
                                      have hD : va_D A [(kO, .inl (cy 0, 3, .inl (fun j => nI ((va_up (va_up mk 0 (kn (mp 0))) 1 (kn (mp 8))) j)))), (lO, .inl (cy 0, 3, .inl (upd (upd ml 0 (pk1 (pk1 (pk1 (pk1 (pk1 (pk1 0 (mp 1) 0) (mp 2) 1) (mp 3) 2) (mp 4) 3) (mp 5) 4) (mp 6) 5)) 1 (pk1 (pk1 (pk1 (pk1 (pk1 (pk1 0 (mp 9) 0) (mp 10) 1) (mp 11) 2) (mp 12) 3) (mp 13) 4) (mp 14) 5)))), (m0, .inr (5, [.int (nI tw), .int 3, .ref kO, .ref lO, .int (nI tu), .int (nI ak), .int (nI se), .ref sC, .ref sW, .ref sD, .int 23, .ref pG, .int iw9, .int 3, .ref wO, .ref fO, .ref mO, .ref cO, .long sn, .ref th, .int ik, .int (nI kt), .int (nI ku), .int (nI ks), .ref kK, .ref kL, .ref kC, .ref kW, .ref kD, .long hh])), (pG, .inl (cy 1, 26, .inl (fun j => nI (mp j))))] := hD
                                      refine lv_iinc (v := 6) (lv' := [(2, .int 6), (1, .int 1), (0, .ref m0)]) hx hb dX5_tower_95 hl (k := 0) rfl (by decide) (by decide) rfl (fun ls hl => ?_)
                                      refine lv_goto (tgt := 60) hx hb dX5_tower_98 (by decide) ?_
                                      refine lv_iload_n hx hb dX5_tower_60 rfl (lv_at hl 0 rfl) ?_
                                      refine lv_bipush (v := 6) hx hb dX5_tower_61 (by decide) ?_
                                      refine lv_icmp_ge (tgt := 101) hx hb dX5_tower_63 (by decide) (fun c_63 => ?_) (fun c_63 => ?_)
                                      · refine lv_iinc (v := 2) (lv' := [(1, .int 2), (2, .int 6), (0, .ref m0)]) hx hb dX5_tower_101 hl (k := 1) rfl (by decide) (by decide) rfl (fun ls hl => ?_)
                                        refine lv_goto (tgt := 25) hx hb dX5_tower_104 (by decide) ?_
                                        refine lv_iload_n hx hb dX5_tower_25 rfl (lv_at hl 0 rfl) ?_
                                        refine lv_aload_n hx hb dX5_tower_26 rfl (lv_at hl 2 rfl) ?_
                                        refine va_get (D := D) (ci := 5) (v := .int 3) (C := RX5) (T := TX5) (N := 30) hx hb hts hw_X5 hown hK hP 2 rfl rfl 1 (by decide) f_88 (fun _ h9 => h9) rfl dX5_tower_27 ?_
                                        refine lv_icmp_ge (tgt := 107) hx hb dX5_tower_30 (by decide) (fun c_30 => ?_) (fun c_30 => ?_)
                                        · exact absurd c_30 (by decide)
                                        · refine lv_aload_n hx hb dX5_tower_33 rfl (lv_at hl 2 rfl) ?_
                                          refine va_get (D := D) (ci := 5) (v := .ref kO) (C := RX5) (T := TX5) (N := 30) hx hb hts hw_X5 hown hK hP 2 rfl rfl 2 (by decide) f_7 (fun _ h9 => h9) rfl dX5_tower_34 ?_
                                          refine lv_iload_n hx hb dX5_tower_37 rfl (lv_at hl 0 rfl) ?_
                                          refine lv_aload_n hx hb dX5_tower_38 rfl (lv_at hl 2 rfl) ?_
                                          refine va_get (D := D) (ci := 5) (v := .ref pG) (C := RX5) (T := TX5) (N := 30) hx hb hts hw_X5 hown hK hP 2 rfl rfl 11 (by decide) f_25 (fun _ h9 => h9) rfl dX5_tower_39 ?_
                                          refine lv_bipush (v := 8) hx hb dX5_tower_42 (by decide) ?_
                                          refine lv_iload_n hx hb dX5_tower_44 rfl (lv_at hl 0 rfl) ?_
                                          refine lv_imul hx hb dX5_tower_45 ?_
                                          refine lv_topi (fun y183 ey183 => ?_)
                                          obtain rfl : y183 = 16 := ey183.trans (by decide)
                                          refine va_bald hx hb hK hP 3 1 rfl rfl (vi_c (by decide +kernel)) dX5_tower_46 ?_
                                          refine lv_topi (fun y184 ey184 => ?_)
                                          obtain rfl : y184 = nI (mp 16) := ey184.trans (rfl)
                                          refine kc_i (wc := []) (wr := [(kO, .inl (cy 0, 3, .inl (fun j => nI ((va_up (va_up mk 0 (kn (mp 0))) 1 (kn (mp 8))) j)))), (lO, .inl (cy 0, 3, .inl (upd (upd ml 0 (pk1 (pk1 (pk1 (pk1 (pk1 (pk1 0 (mp 1) 0) (mp 2) 1) (mp 3) 2) (mp 4) 3) (mp 5) 4) (mp 6) 5)) 1 (pk1 (pk1 (pk1 (pk1 (pk1 (pk1 0 (mp 9) 0) (mp 10) 1) (mp 11) 2) (mp 12) 3) (mp 13) 4) (mp 14) 5)))), (m0, .inr (5, [.int (nI tw), .int 3, .ref kO, .ref lO, .int (nI tu), .int (nI ak), .int (nI se), .ref sC, .ref sW, .ref sD, .int 23, .ref pG, .int iw9, .int 3, .ref wO, .ref fO, .ref mO, .ref cO, .long sn, .ref th, .int ik, .int (nI kt), .int (nI ku), .int (nI ks), .ref kK, .ref kL, .ref kC, .ref kW, .ref kD, .long hh])), (pG, .inl (cy 1, 26, .inl (fun j => nI (mp j))))]) (va_runS (As := [.int (nI (mp 16))]) (rest := [.int 2, .ref kO]) ⟨hx, hb, hml, hown, hts⟩ (c_X5_kindBy l D cy H.size (nI (mp 16)) ) (va_cwS 1 hts gX5_tower_X5_kindBy rfl rfl rfl hdc_X5_kindBy.2 ⟨Nat.le_of_ble_eq_true rfl, Nat.le_of_ble_eq_true rfl⟩) (cpre_S (wc := []) hX hP hD hS hA [] (by decide +kernel) rfl) rfl rfl hl.1 rfl (lv_room (Nat.le_of_ble_eq_true rfl)) dX5_tower_47 ⟨Nat.le_of_ble_eq_true rfl, Nat.le_of_ble_eq_true rfl⟩) hP hD hS hA [] [0, 1, 2, 3] rfl rfl (by decide +kernel) (by decide +kernel) (fun rk u185 H locs hw hP hD hS => ?_)
                                          obtain ⟨hu, hrk⟩ := hw
                                          subst hu
                                          have hP : va_P D vwCl [(kO, .inl (cy 0, 3, .inl (fun j => nI ((va_up (va_up mk 0 (kn (mp 0))) 1 (kn (mp 8))) j)))), (lO, .inl (cy 0, 3, .inl (upd (upd ml 0 (pk1 (pk1 (pk1 (pk1 (pk1 (pk1 0 (mp 1) 0) (mp 2) 1) (mp 3) 2) (mp 4) 3) (mp 5) 4) (mp 6) 5)) 1 (pk1 (pk1 (pk1 (pk1 (pk1 (pk1 0 (mp 9) 0) (mp 10) 1) (mp 11) 2) (mp 12) 3) (mp 13) 4) (mp 14) 5)))), (m0, .inr (5, [.int (nI tw), .int 3, .ref kO, .ref lO, .int (nI tu), .int (nI ak), .int (nI se), .ref sC, .ref sW, .ref sD, .int 23, .ref pG, .int iw9, .int 3, .ref wO, .ref fO, .ref mO, .ref cO, .long sn, .ref th, .int ik, .int (nI kt), .int (nI ku), .int (nI ks), .ref kK, .ref kL, .ref kC, .ref kW, .ref kD, .long hh])), (pG, .inl (cy 1, 26, .inl (fun j => nI (mp j))))] H := hP
                                          have hD : va_D A [(kO, .inl (cy 0, 3, .inl (fun j => nI ((va_up (va_up mk 0 (kn (mp 0))) 1 (kn (mp 8))) j)))), (lO, .inl (cy 0, 3, .inl (upd (upd ml 0 (pk1 (pk1 (pk1 (pk1 (pk1 (pk1 0 (mp 1) 0) (mp 2) 1) (mp 3) 2) (mp 4) 3) (mp 5) 4) (mp 6) 5)) 1 (pk1 (pk1 (pk1 (pk1 (pk1 (pk1 0 (mp 9) 0) (mp 10) 1) (mp 11) 2) (mp 12) 3) (mp 13) 4) (mp 14) 5)))), (m0, .inr (5, [.int (nI tw), .int 3, .ref kO, .ref lO, .int (nI tu), .int (nI ak), .int (nI se), .ref sC, .ref sW, .ref sD, .int 23, .ref pG, .int iw9, .int 3, .ref wO, .ref fO, .ref mO, .ref cO, .long sn, .ref th, .int ik, .int (nI kt), .int (nI ku), .int (nI ks), .ref kK, .ref kL, .ref kC, .ref kW, .ref kD, .long hh])), (pG, .inl (cy 1, 26, .inl (fun j => nI (mp j))))] := hD
                                          have hrk := hrk.trans (kb_kn _ (hmp _) ((ft_k (hmp 16) (by decide) (by decide)).mp (hall 16 (by decide))))
                                          subst hrk
                                          refine va_iast hx hb hK hP hD hS 0 0 rfl rfl (vi_c (by decide +kernel)) dX5_tower_50 (fun H locs hP hD hS => ?_)
                                          have hP : va_P D vwCl [(kO, .inl (cy 0, 3, .inl (upd (fun j => nI ((va_up (va_up mk 0 (kn (mp 0))) 1 (kn (mp 8))) j)) 2 (nI (kn (mp 16)))))), (lO, .inl (cy 0, 3, .inl (upd (upd ml 0 (pk1 (pk1 (pk1 (pk1 (pk1 (pk1 0 (mp 1) 0) (mp 2) 1) (mp 3) 2) (mp 4) 3) (mp 5) 4) (mp 6) 5)) 1 (pk1 (pk1 (pk1 (pk1 (pk1 (pk1 0 (mp 9) 0) (mp 10) 1) (mp 11) 2) (mp 12) 3) (mp 13) 4) (mp 14) 5)))), (m0, .inr (5, [.int (nI tw), .int 3, .ref kO, .ref lO, .int (nI tu), .int (nI ak), .int (nI se), .ref sC, .ref sW, .ref sD, .int 23, .ref pG, .int iw9, .int 3, .ref wO, .ref fO, .ref mO, .ref cO, .long sn, .ref th, .int ik, .int (nI kt), .int (nI ku), .int (nI ks), .ref kK, .ref kL, .ref kC, .ref kW, .ref kD, .long hh])), (pG, .inl (cy 1, 26, .inl (fun j => nI (mp j))))] H := hP
                                          have hD : va_D A [(kO, .inl (cy 0, 3, .inl (upd (fun j => nI ((va_up (va_up mk 0 (kn (mp 0))) 1 (kn (mp 8))) j)) 2 (nI (kn (mp 16)))))), (lO, .inl (cy 0, 3, .inl (upd (upd ml 0 (pk1 (pk1 (pk1 (pk1 (pk1 (pk1 0 (mp 1) 0) (mp 2) 1) (mp 3) 2) (mp 4) 3) (mp 5) 4) (mp 6) 5)) 1 (pk1 (pk1 (pk1 (pk1 (pk1 (pk1 0 (mp 9) 0) (mp 10) 1) (mp 11) 2) (mp 12) 3) (mp 13) 4) (mp 14) 5)))), (m0, .inr (5, [.int (nI tw), .int 3, .ref kO, .ref lO, .int (nI tu), .int (nI ak), .int (nI se), .ref sC, .ref sW, .ref sD, .int 23, .ref pG, .int iw9, .int 3, .ref wO, .ref fO, .ref mO, .ref cO, .long sn, .ref th, .int ik, .int (nI kt), .int (nI ku), .int (nI ks), .ref kK, .ref kL, .ref kC, .ref kW, .ref kD, .long hh])), (pG, .inl (cy 1, 26, .inl (fun j => nI (mp j))))] := hD
                                          rw [updN (va_up (va_up mk 0 (kn (mp 0))) 1 (kn (mp 8))) 2 (kn (mp 16))] at hP hD
                                          have hP : va_P D vwCl [(kO, .inl (cy 0, 3, .inl (fun j => nI ((va_up (va_up (va_up mk 0 (kn (mp 0))) 1 (kn (mp 8))) 2 (kn (mp 16))) j)))), (lO, .inl (cy 0, 3, .inl (upd (upd ml 0 (pk1 (pk1 (pk1 (pk1 (pk1 (pk1 0 (mp 1) 0) (mp 2) 1) (mp 3) 2) (mp 4) 3) (mp 5) 4) (mp 6) 5)) 1 (pk1 (pk1 (pk1 (pk1 (pk1 (pk1 0 (mp 9) 0) (mp 10) 1) (mp 11) 2) (mp 12) 3) (mp 13) 4) (mp 14) 5)))), (m0, .inr (5, [.int (nI tw), .int 3, .ref kO, .ref lO, .int (nI tu), .int (nI ak), .int (nI se), .ref sC, .ref sW, .ref sD, .int 23, .ref pG, .int iw9, .int 3, .ref wO, .ref fO, .ref mO, .ref cO, .long sn, .ref th, .int ik, .int (nI kt), .int (nI ku), .int (nI ks), .ref kK, .ref kL, .ref kC, .ref kW, .ref kD, .long hh])), (pG, .inl (cy 1, 26, .inl (fun j => nI (mp j))))] H := hP
                                          have hD : va_D A [(kO, .inl (cy 0, 3, .inl (fun j => nI ((va_up (va_up (va_up mk 0 (kn (mp 0))) 1 (kn (mp 8))) 2 (kn (mp 16))) j)))), (lO, .inl (cy 0, 3, .inl (upd (upd ml 0 (pk1 (pk1 (pk1 (pk1 (pk1 (pk1 0 (mp 1) 0) (mp 2) 1) (mp 3) 2) (mp 4) 3) (mp 5) 4) (mp 6) 5)) 1 (pk1 (pk1 (pk1 (pk1 (pk1 (pk1 0 (mp 9) 0) (mp 10) 1) (mp 11) 2) (mp 12) 3) (mp 13) 4) (mp 14) 5)))), (m0, .inr (5, [.int (nI tw), .int 3, .ref kO, .ref lO, .int (nI tu), .int (nI ak), .int (nI se), .ref sC, .ref sW, .ref sD, .int 23, .ref pG, .int iw9, .int 3, .ref wO, .ref fO, .ref mO, .ref cO, .long sn, .ref th, .int ik, .int (nI kt), .int (nI ku), .int (nI ks), .ref kK, .ref kL, .ref kC, .ref kW, .ref kD, .long hh])), (pG, .inl (cy 1, 26, .inl (fun j => nI (mp j))))] := hD
                                          refine lv_aload_n hx hb dX5_tower_51 rfl (lv_at hl 2 rfl) ?_
                                          refine va_get (D := D) (ci := 5) (v := .ref lO) (C := RX5) (T := TX5) (N := 30) hx hb hts hw_X5 hown hK hP 2 rfl rfl 3 (by decide) f_13 (fun _ h9 => h9) rfl dX5_tower_52 ?_
                                          refine lv_iload_n hx hb dX5_tower_55 rfl (lv_at hl 0 rfl) ?_
                                          refine lv_iconst (v := 0) hx hb dX5_tower_56 (by decide) ?_
                                          refine va_iast hx hb hK hP hD hS 1 0 rfl rfl (vi_c (by decide +kernel)) dX5_tower_57 (fun H locs hP hD hS => ?_)
                                          have hP : va_P D vwCl [(kO, .inl (cy 0, 3, .inl (fun j => nI ((va_up (va_up (va_up mk 0 (kn (mp 0))) 1 (kn (mp 8))) 2 (kn (mp 16))) j)))), (lO, .inl (cy 0, 3, .inl (upd (upd (upd ml 0 (pk1 (pk1 (pk1 (pk1 (pk1 (pk1 0 (mp 1) 0) (mp 2) 1) (mp 3) 2) (mp 4) 3) (mp 5) 4) (mp 6) 5)) 1 (pk1 (pk1 (pk1 (pk1 (pk1 (pk1 0 (mp 9) 0) (mp 10) 1) (mp 11) 2) (mp 12) 3) (mp 13) 4) (mp 14) 5)) 2 0))), (m0, .inr (5, [.int (nI tw), .int 3, .ref kO, .ref lO, .int (nI tu), .int (nI ak), .int (nI se), .ref sC, .ref sW, .ref sD, .int 23, .ref pG, .int iw9, .int 3, .ref wO, .ref fO, .ref mO, .ref cO, .long sn, .ref th, .int ik, .int (nI kt), .int (nI ku), .int (nI ks), .ref kK, .ref kL, .ref kC, .ref kW, .ref kD, .long hh])), (pG, .inl (cy 1, 26, .inl (fun j => nI (mp j))))] H := hP
                                          have hD : va_D A [(kO, .inl (cy 0, 3, .inl (fun j => nI ((va_up (va_up (va_up mk 0 (kn (mp 0))) 1 (kn (mp 8))) 2 (kn (mp 16))) j)))), (lO, .inl (cy 0, 3, .inl (upd (upd (upd ml 0 (pk1 (pk1 (pk1 (pk1 (pk1 (pk1 0 (mp 1) 0) (mp 2) 1) (mp 3) 2) (mp 4) 3) (mp 5) 4) (mp 6) 5)) 1 (pk1 (pk1 (pk1 (pk1 (pk1 (pk1 0 (mp 9) 0) (mp 10) 1) (mp 11) 2) (mp 12) 3) (mp 13) 4) (mp 14) 5)) 2 0))), (m0, .inr (5, [.int (nI tw), .int 3, .ref kO, .ref lO, .int (nI tu), .int (nI ak), .int (nI se), .ref sC, .ref sW, .ref sD, .int 23, .ref pG, .int iw9, .int 3, .ref wO, .ref fO, .ref mO, .ref cO, .long sn, .ref th, .int ik, .int (nI kt), .int (nI ku), .int (nI ks), .ref kK, .ref kL, .ref kC, .ref kW, .ref kD, .long hh])), (pG, .inl (cy 1, 26, .inl (fun j => nI (mp j))))] := hD
                                          refine lv_iconst (v := 0) hx hb dX5_tower_58 (by decide) ?_
                                          refine lv_istore_n (lv' := [(2, .int 0), (1, .int 2), (0, .ref m0)]) hx hb dX5_tower_59 rfl hl (by decide) rfl (fun ls hl => ?_)
                                          refine lv_iload_n hx hb dX5_tower_60 rfl (lv_at hl 0 rfl) ?_
                                          refine lv_bipush (v := 6) hx hb dX5_tower_61 (by decide) ?_
                                          refine lv_icmp_ge (tgt := 101) hx hb dX5_tower_63 (by decide) (fun c_63 => ?_) (fun c_63 => ?_)
                                          · exact absurd c_63 (by decide)
                                          · refine lv_aload_n hx hb dX5_tower_66 rfl (lv_at hl 2 rfl) ?_
                                            refine va_get (D := D) (ci := 5) (v := .ref lO) (C := RX5) (T := TX5) (N := 30) hx hb hts hw_X5 hown hK hP 2 rfl rfl 3 (by decide) f_13 (fun _ h9 => h9) rfl dX5_tower_67 ?_
                                            refine lv_iload_n hx hb dX5_tower_70 rfl (lv_at hl 1 rfl) ?_
                                            refine lv_dup2_11 hx hb dX5_tower_71 rfl rfl ?_
                                            refine va_iald hx hb hK hP 1 0 rfl rfl (vi_c (by decide +kernel)) dX5_tower_72 ?_
                                            refine lv_topi (fun y186 ey186 => ?_)
                                            obtain rfl : y186 = 0 := ey186.trans (upd_rd _ _ _ (by decide))
                                            refine lv_aload_n hx hb dX5_tower_73 rfl (lv_at hl 2 rfl) ?_
                                            refine va_get (D := D) (ci := 5) (v := .ref pG) (C := RX5) (T := TX5) (N := 30) hx hb hts hw_X5 hown hK hP 2 rfl rfl 11 (by decide) f_25 (fun _ h9 => h9) rfl dX5_tower_74 ?_
                                            refine lv_bipush (v := 8) hx hb dX5_tower_77 (by decide) ?_
                                            refine lv_iload_n hx hb dX5_tower_79 rfl (lv_at hl 1 rfl) ?_
                                            refine lv_imul hx hb dX5_tower_80 ?_
                                            refine lv_topi (fun y187 ey187 => ?_)
                                            obtain rfl : y187 = 16 := ey187.trans (by decide)
                                            refine lv_iconst (v := 1) hx hb dX5_tower_81 (by decide) ?_
                                            refine lv_iadd hx hb dX5_tower_82 ?_
                                            refine lv_topi (fun y188 ey188 => ?_)
                                            obtain rfl : y188 = 17 := ey188.trans (by decide)
                                            refine lv_iload_n hx hb dX5_tower_83 rfl (lv_at hl 0 rfl) ?_
                                            refine lv_iadd hx hb dX5_tower_84 ?_
                                            refine lv_topi (fun y189 ey189 => ?_)
                                            obtain rfl : y189 = 17 := ey189.trans (by decide)
                                            refine va_bald hx hb hK hP 3 1 rfl rfl (vi_c (by decide +kernel)) dX5_tower_85 ?_
                                            refine lv_topi (fun y190 ey190 => ?_)
                                            obtain rfl : y190 = nI (mp 17) := ey190.trans (rfl)
                                            refine lv_bipush (v := 97) hx hb dX5_tower_86 (by decide) ?_
                                            refine lv_isub hx hb dX5_tower_88 ?_
                                            refine lv_iconst (v := 3) hx hb dX5_tower_89 (by decide) ?_
                                            refine lv_iload_n hx hb dX5_tower_90 rfl (lv_at hl 0 rfl) ?_
                                            refine lv_imul hx hb dX5_tower_91 ?_
                                            refine lv_topi (fun y191 ey191 => ?_)
                                            obtain rfl : y191 = 0 := ey191.trans (by decide)
                                            refine lv_ishl hx hb dX5_tower_92 ?_
                                            refine lv_ior hx hb dX5_tower_93 ?_
                                            refine lv_topi (fun y192 ey192 => ?_)
                                            obtain rfl : y192 = pk1 0 (mp 17) 0 := ey192.trans (rfl)
                                            refine va_iast hx hb hK hP hD hS 1 0 rfl rfl (vi_c (by decide +kernel)) dX5_tower_94 (fun H locs hP hD hS => ?_)
                                            have hP : va_P D vwCl [(kO, .inl (cy 0, 3, .inl (fun j => nI ((va_up (va_up (va_up mk 0 (kn (mp 0))) 1 (kn (mp 8))) 2 (kn (mp 16))) j)))), (lO, .inl (cy 0, 3, .inl (upd (upd (upd (upd ml 0 (pk1 (pk1 (pk1 (pk1 (pk1 (pk1 0 (mp 1) 0) (mp 2) 1) (mp 3) 2) (mp 4) 3) (mp 5) 4) (mp 6) 5)) 1 (pk1 (pk1 (pk1 (pk1 (pk1 (pk1 0 (mp 9) 0) (mp 10) 1) (mp 11) 2) (mp 12) 3) (mp 13) 4) (mp 14) 5)) 2 0) 2 (pk1 0 (mp 17) 0)))), (m0, .inr (5, [.int (nI tw), .int 3, .ref kO, .ref lO, .int (nI tu), .int (nI ak), .int (nI se), .ref sC, .ref sW, .ref sD, .int 23, .ref pG, .int iw9, .int 3, .ref wO, .ref fO, .ref mO, .ref cO, .long sn, .ref th, .int ik, .int (nI kt), .int (nI ku), .int (nI ks), .ref kK, .ref kL, .ref kC, .ref kW, .ref kD, .long hh])), (pG, .inl (cy 1, 26, .inl (fun j => nI (mp j))))] H := hP
                                            have hD : va_D A [(kO, .inl (cy 0, 3, .inl (fun j => nI ((va_up (va_up (va_up mk 0 (kn (mp 0))) 1 (kn (mp 8))) 2 (kn (mp 16))) j)))), (lO, .inl (cy 0, 3, .inl (upd (upd (upd (upd ml 0 (pk1 (pk1 (pk1 (pk1 (pk1 (pk1 0 (mp 1) 0) (mp 2) 1) (mp 3) 2) (mp 4) 3) (mp 5) 4) (mp 6) 5)) 1 (pk1 (pk1 (pk1 (pk1 (pk1 (pk1 0 (mp 9) 0) (mp 10) 1) (mp 11) 2) (mp 12) 3) (mp 13) 4) (mp 14) 5)) 2 0) 2 (pk1 0 (mp 17) 0)))), (m0, .inr (5, [.int (nI tw), .int 3, .ref kO, .ref lO, .int (nI tu), .int (nI ak), .int (nI se), .ref sC, .ref sW, .ref sD, .int 23, .ref pG, .int iw9, .int 3, .ref wO, .ref fO, .ref mO, .ref cO, .long sn, .ref th, .int ik, .int (nI kt), .int (nI ku), .int (nI ks), .ref kK, .ref kL, .ref kC, .ref kW, .ref kD, .long hh])), (pG, .inl (cy 1, 26, .inl (fun j => nI (mp j))))] := hD
                                            rw [upd_upd (upd (upd ml 0 (pk1 (pk1 (pk1 (pk1 (pk1 (pk1 0 (mp 1) 0) (mp 2) 1) (mp 3) 2) (mp 4) 3) (mp 5) 4) (mp 6) 5)) 1 (pk1 (pk1 (pk1 (pk1 (pk1 (pk1 0 (mp 9) 0) (mp 10) 1) (mp 11) 2) (mp 12) 3) (mp 13) 4) (mp 14) 5)) 2 0 (pk1 0 (mp 17) 0)] at hP hD
                                            have hP : va_P D vwCl [(kO, .inl (cy 0, 3, .inl (fun j => nI ((va_up (va_up (va_up mk 0 (kn (mp 0))) 1 (kn (mp 8))) 2 (kn (mp 16))) j)))), (lO, .inl (cy 0, 3, .inl (upd (upd (upd ml 0 (pk1 (pk1 (pk1 (pk1 (pk1 (pk1 0 (mp 1) 0) (mp 2) 1) (mp 3) 2) (mp 4) 3) (mp 5) 4) (mp 6) 5)) 1 (pk1 (pk1 (pk1 (pk1 (pk1 (pk1 0 (mp 9) 0) (mp 10) 1) (mp 11) 2) (mp 12) 3) (mp 13) 4) (mp 14) 5)) 2 (pk1 0 (mp 17) 0)))), (m0, .inr (5, [.int (nI tw), .int 3, .ref kO, .ref lO, .int (nI tu), .int (nI ak), .int (nI se), .ref sC, .ref sW, .ref sD, .int 23, .ref pG, .int iw9, .int 3, .ref wO, .ref fO, .ref mO, .ref cO, .long sn, .ref th, .int ik, .int (nI kt), .int (nI ku), .int (nI ks), .ref kK, .ref kL, .ref kC, .ref kW, .ref kD, .long hh])), (pG, .inl (cy 1, 26, .inl (fun j => nI (mp j))))] H := hP
                                            have hD : va_D A [(kO, .inl (cy 0, 3, .inl (fun j => nI ((va_up (va_up (va_up mk 0 (kn (mp 0))) 1 (kn (mp 8))) 2 (kn (mp 16))) j)))), (lO, .inl (cy 0, 3, .inl (upd (upd (upd ml 0 (pk1 (pk1 (pk1 (pk1 (pk1 (pk1 0 (mp 1) 0) (mp 2) 1) (mp 3) 2) (mp 4) 3) (mp 5) 4) (mp 6) 5)) 1 (pk1 (pk1 (pk1 (pk1 (pk1 (pk1 0 (mp 9) 0) (mp 10) 1) (mp 11) 2) (mp 12) 3) (mp 13) 4) (mp 14) 5)) 2 (pk1 0 (mp 17) 0)))), (m0, .inr (5, [.int (nI tw), .int 3, .ref kO, .ref lO, .int (nI tu), .int (nI ak), .int (nI se), .ref sC, .ref sW, .ref sD, .int 23, .ref pG, .int iw9, .int 3, .ref wO, .ref fO, .ref mO, .ref cO, .long sn, .ref th, .int ik, .int (nI kt), .int (nI ku), .int (nI ks), .ref kK, .ref kL, .ref kC, .ref kW, .ref kD, .long hh])), (pG, .inl (cy 1, 26, .inl (fun j => nI (mp j))))] := hD
                                            refine lv_iinc (v := 1) (lv' := [(2, .int 1), (1, .int 2), (0, .ref m0)]) hx hb dX5_tower_95 hl (k := 0) rfl (by decide) (by decide) rfl (fun ls hl => ?_)
                                            refine lv_goto (tgt := 60) hx hb dX5_tower_98 (by decide) ?_
                                            refine lv_iload_n hx hb dX5_tower_60 rfl (lv_at hl 0 rfl) ?_
                                            refine lv_bipush (v := 6) hx hb dX5_tower_61 (by decide) ?_
                                            refine lv_icmp_ge (tgt := 101) hx hb dX5_tower_63 (by decide) (fun c_63 => ?_) (fun c_63 => ?_)
                                            · exact absurd c_63 (by decide)
                                            · refine lv_aload_n hx hb dX5_tower_66 rfl (lv_at hl 2 rfl) ?_
                                              refine va_get (D := D) (ci := 5) (v := .ref lO) (C := RX5) (T := TX5) (N := 30) hx hb hts hw_X5 hown hK hP 2 rfl rfl 3 (by decide) f_13 (fun _ h9 => h9) rfl dX5_tower_67 ?_
                                              refine lv_iload_n hx hb dX5_tower_70 rfl (lv_at hl 1 rfl) ?_
                                              refine lv_dup2_11 hx hb dX5_tower_71 rfl rfl ?_
                                              refine va_iald hx hb hK hP 1 0 rfl rfl (vi_c (by decide +kernel)) dX5_tower_72 ?_
                                              refine lv_topi (fun y193 ey193 => ?_)
                                              obtain rfl : y193 = pk1 0 (mp 17) 0 := ey193.trans (upd_rd _ _ _ (by decide))
                                              refine lv_aload_n hx hb dX5_tower_73 rfl (lv_at hl 2 rfl) ?_
                                              refine va_get (D := D) (ci := 5) (v := .ref pG) (C := RX5) (T := TX5) (N := 30) hx hb hts hw_X5 hown hK hP 2 rfl rfl 11 (by decide) f_25 (fun _ h9 => h9) rfl dX5_tower_74 ?_
                                              refine lv_bipush (v := 8) hx hb dX5_tower_77 (by decide) ?_
                                              refine lv_iload_n hx hb dX5_tower_79 rfl (lv_at hl 1 rfl) ?_
                                              refine lv_imul hx hb dX5_tower_80 ?_
                                              refine lv_topi (fun y194 ey194 => ?_)
                                              obtain rfl : y194 = 16 := ey194.trans (by decide)
                                              refine lv_iconst (v := 1) hx hb dX5_tower_81 (by decide) ?_
                                              refine lv_iadd hx hb dX5_tower_82 ?_
                                              refine lv_topi (fun y195 ey195 => ?_)
                                              obtain rfl : y195 = 17 := ey195.trans (by decide)
                                              refine lv_iload_n hx hb dX5_tower_83 rfl (lv_at hl 0 rfl) ?_
                                              refine lv_iadd hx hb dX5_tower_84 ?_
                                              refine lv_topi (fun y196 ey196 => ?_)
                                              obtain rfl : y196 = 18 := ey196.trans (by decide)
                                              refine va_bald hx hb hK hP 3 1 rfl rfl (vi_c (by decide +kernel)) dX5_tower_85 ?_
                                              refine lv_topi (fun y197 ey197 => ?_)
                                              obtain rfl : y197 = nI (mp 18) := ey197.trans (rfl)
                                              refine lv_bipush (v := 97) hx hb dX5_tower_86 (by decide) ?_
                                              refine lv_isub hx hb dX5_tower_88 ?_
                                              refine lv_iconst (v := 3) hx hb dX5_tower_89 (by decide) ?_
                                              refine lv_iload_n hx hb dX5_tower_90 rfl (lv_at hl 0 rfl) ?_
                                              refine lv_imul hx hb dX5_tower_91 ?_
                                              refine lv_topi (fun y198 ey198 => ?_)
                                              obtain rfl : y198 = 3 := ey198.trans (by decide)
                                              refine lv_ishl hx hb dX5_tower_92 ?_
                                              refine lv_ior hx hb dX5_tower_93 ?_
                                              refine lv_topi (fun y199 ey199 => ?_)
                                              obtain rfl : y199 = pk1 (pk1 0 (mp 17) 0) (mp 18) 1 := ey199.trans (rfl)
                                              refine va_iast hx hb hK hP hD hS 1 0 rfl rfl (vi_c (by decide +kernel)) dX5_tower_94 (fun H locs hP hD hS => ?_)
                                              have hP : va_P D vwCl [(kO, .inl (cy 0, 3, .inl (fun j => nI ((va_up (va_up (va_up mk 0 (kn (mp 0))) 1 (kn (mp 8))) 2 (kn (mp 16))) j)))), (lO, .inl (cy 0, 3, .inl (upd (upd (upd (upd ml 0 (pk1 (pk1 (pk1 (pk1 (pk1 (pk1 0 (mp 1) 0) (mp 2) 1) (mp 3) 2) (mp 4) 3) (mp 5) 4) (mp 6) 5)) 1 (pk1 (pk1 (pk1 (pk1 (pk1 (pk1 0 (mp 9) 0) (mp 10) 1) (mp 11) 2) (mp 12) 3) (mp 13) 4) (mp 14) 5)) 2 (pk1 0 (mp 17) 0)) 2 (pk1 (pk1 0 (mp 17) 0) (mp 18) 1)))), (m0, .inr (5, [.int (nI tw), .int 3, .ref kO, .ref lO, .int (nI tu), .int (nI ak), .int (nI se), .ref sC, .ref sW, .ref sD, .int 23, .ref pG, .int iw9, .int 3, .ref wO, .ref fO, .ref mO, .ref cO, .long sn, .ref th, .int ik, .int (nI kt), .int (nI ku), .int (nI ks), .ref kK, .ref kL, .ref kC, .ref kW, .ref kD, .long hh])), (pG, .inl (cy 1, 26, .inl (fun j => nI (mp j))))] H := hP
                                              have hD : va_D A [(kO, .inl (cy 0, 3, .inl (fun j => nI ((va_up (va_up (va_up mk 0 (kn (mp 0))) 1 (kn (mp 8))) 2 (kn (mp 16))) j)))), (lO, .inl (cy 0, 3, .inl (upd (upd (upd (upd ml 0 (pk1 (pk1 (pk1 (pk1 (pk1 (pk1 0 (mp 1) 0) (mp 2) 1) (mp 3) 2) (mp 4) 3) (mp 5) 4) (mp 6) 5)) 1 (pk1 (pk1 (pk1 (pk1 (pk1 (pk1 0 (mp 9) 0) (mp 10) 1) (mp 11) 2) (mp 12) 3) (mp 13) 4) (mp 14) 5)) 2 (pk1 0 (mp 17) 0)) 2 (pk1 (pk1 0 (mp 17) 0) (mp 18) 1)))), (m0, .inr (5, [.int (nI tw), .int 3, .ref kO, .ref lO, .int (nI tu), .int (nI ak), .int (nI se), .ref sC, .ref sW, .ref sD, .int 23, .ref pG, .int iw9, .int 3, .ref wO, .ref fO, .ref mO, .ref cO, .long sn, .ref th, .int ik, .int (nI kt), .int (nI ku), .int (nI ks), .ref kK, .ref kL, .ref kC, .ref kW, .ref kD, .long hh])), (pG, .inl (cy 1, 26, .inl (fun j => nI (mp j))))] := hD
                                              rw [upd_upd (upd (upd ml 0 (pk1 (pk1 (pk1 (pk1 (pk1 (pk1 0 (mp 1) 0) (mp 2) 1) (mp 3) 2) (mp 4) 3) (mp 5) 4) (mp 6) 5)) 1 (pk1 (pk1 (pk1 (pk1 (pk1 (pk1 0 (mp 9) 0) (mp 10) 1) (mp 11) 2) (mp 12) 3) (mp 13) 4) (mp 14) 5)) 2 (pk1 0 (mp 17) 0) (pk1 (pk1 0 (mp 17) 0) (mp 18) 1)] at hP hD
                                              have hP : va_P D vwCl [(kO, .inl (cy 0, 3, .inl (fun j => nI ((va_up (va_up (va_up mk 0 (kn (mp 0))) 1 (kn (mp 8))) 2 (kn (mp 16))) j)))), (lO, .inl (cy 0, 3, .inl (upd (upd (upd ml 0 (pk1 (pk1 (pk1 (pk1 (pk1 (pk1 0 (mp 1) 0) (mp 2) 1) (mp 3) 2) (mp 4) 3) (mp 5) 4) (mp 6) 5)) 1 (pk1 (pk1 (pk1 (pk1 (pk1 (pk1 0 (mp 9) 0) (mp 10) 1) (mp 11) 2) (mp 12) 3) (mp 13) 4) (mp 14) 5)) 2 (pk1 (pk1 0 (mp 17) 0) (mp 18) 1)))), (m0, .inr (5, [.int (nI tw), .int 3, .ref kO, .ref lO, .int (nI tu), .int (nI ak), .int (nI se), .ref sC, .ref sW, .ref sD, .int 23, .ref pG, .int iw9, .int 3, .ref wO, .ref fO, .ref mO, .ref cO, .long sn, .ref th, .int ik, .int (nI kt), .int (nI ku), .int (nI ks), .ref kK, .ref kL, .ref kC, .ref kW, .ref kD, .long hh])), (pG, .inl (cy 1, 26, .inl (fun j => nI (mp j))))] H := hP
                                              have hD : va_D A [(kO, .inl (cy 0, 3, .inl (fun j => nI ((va_up (va_up (va_up mk 0 (kn (mp 0))) 1 (kn (mp 8))) 2 (kn (mp 16))) j)))), (lO, .inl (cy 0, 3, .inl (upd (upd (upd ml 0 (pk1 (pk1 (pk1 (pk1 (pk1 (pk1 0 (mp 1) 0) (mp 2) 1) (mp 3) 2) (mp 4) 3) (mp 5) 4) (mp 6) 5)) 1 (pk1 (pk1 (pk1 (pk1 (pk1 (pk1 0 (mp 9) 0) (mp 10) 1) (mp 11) 2) (mp 12) 3) (mp 13) 4) (mp 14) 5)) 2 (pk1 (pk1 0 (mp 17) 0) (mp 18) 1)))), (m0, .inr (5, [.int (nI tw), .int 3, .ref kO, .ref lO, .int (nI tu), .int (nI ak), .int (nI se), .ref sC, .ref sW, .ref sD, .int 23, .ref pG, .int iw9, .int 3, .ref wO, .ref fO, .ref mO, .ref cO, .long sn, .ref th, .int ik, .int (nI kt), .int (nI ku), .int (nI ks), .ref kK, .ref kL, .ref kC, .ref kW, .ref kD, .long hh])), (pG, .inl (cy 1, 26, .inl (fun j => nI (mp j))))] := hD
                                              refine lv_iinc (v := 2) (lv' := [(2, .int 2), (1, .int 2), (0, .ref m0)]) hx hb dX5_tower_95 hl (k := 0) rfl (by decide) (by decide) rfl (fun ls hl => ?_)
                                              refine lv_goto (tgt := 60) hx hb dX5_tower_98 (by decide) ?_
                                              refine lv_iload_n hx hb dX5_tower_60 rfl (lv_at hl 0 rfl) ?_
                                              refine lv_bipush (v := 6) hx hb dX5_tower_61 (by decide) ?_
                                              refine lv_icmp_ge (tgt := 101) hx hb dX5_tower_63 (by decide) (fun c_63 => ?_) (fun c_63 => ?_)
                                              · exact absurd c_63 (by decide)
                                              · refine lv_aload_n hx hb dX5_tower_66 rfl (lv_at hl 2 rfl) ?_
                                                refine va_get (D := D) (ci := 5) (v := .ref lO) (C := RX5) (T := TX5) (N := 30) hx hb hts hw_X5 hown hK hP 2 rfl rfl 3 (by decide) f_13 (fun _ h9 => h9) rfl dX5_tower_67 ?_
                                                refine lv_iload_n hx hb dX5_tower_70 rfl (lv_at hl 1 rfl) ?_
                                                refine lv_dup2_11 hx hb dX5_tower_71 rfl rfl ?_
                                                refine va_iald hx hb hK hP 1 0 rfl rfl (vi_c (by decide +kernel)) dX5_tower_72 ?_
                                                refine lv_topi (fun y200 ey200 => ?_)
                                                obtain rfl : y200 = pk1 (pk1 0 (mp 17) 0) (mp 18) 1 := ey200.trans (upd_rd _ _ _ (by decide))
                                                refine lv_aload_n hx hb dX5_tower_73 rfl (lv_at hl 2 rfl) ?_
                                                refine va_get (D := D) (ci := 5) (v := .ref pG) (C := RX5) (T := TX5) (N := 30) hx hb hts hw_X5 hown hK hP 2 rfl rfl 11 (by decide) f_25 (fun _ h9 => h9) rfl dX5_tower_74 ?_
                                                refine lv_bipush (v := 8) hx hb dX5_tower_77 (by decide) ?_
                                                refine lv_iload_n hx hb dX5_tower_79 rfl (lv_at hl 1 rfl) ?_
                                                refine lv_imul hx hb dX5_tower_80 ?_
                                                refine lv_topi (fun y201 ey201 => ?_)
                                                obtain rfl : y201 = 16 := ey201.trans (by decide)
                                                refine lv_iconst (v := 1) hx hb dX5_tower_81 (by decide) ?_
                                                refine lv_iadd hx hb dX5_tower_82 ?_
                                                refine lv_topi (fun y202 ey202 => ?_)
                                                obtain rfl : y202 = 17 := ey202.trans (by decide)
                                                refine lv_iload_n hx hb dX5_tower_83 rfl (lv_at hl 0 rfl) ?_
                                                refine lv_iadd hx hb dX5_tower_84 ?_
                                                refine lv_topi (fun y203 ey203 => ?_)
                                                obtain rfl : y203 = 19 := ey203.trans (by decide)
                                                refine va_bald hx hb hK hP 3 1 rfl rfl (vi_c (by decide +kernel)) dX5_tower_85 ?_
                                                refine lv_topi (fun y204 ey204 => ?_)
                                                obtain rfl : y204 = nI (mp 19) := ey204.trans (rfl)
                                                refine lv_bipush (v := 97) hx hb dX5_tower_86 (by decide) ?_
                                                refine lv_isub hx hb dX5_tower_88 ?_
                                                refine lv_iconst (v := 3) hx hb dX5_tower_89 (by decide) ?_
                                                refine lv_iload_n hx hb dX5_tower_90 rfl (lv_at hl 0 rfl) ?_
                                                refine lv_imul hx hb dX5_tower_91 ?_
                                                refine lv_topi (fun y205 ey205 => ?_)
                                                obtain rfl : y205 = 6 := ey205.trans (by decide)
                                                refine lv_ishl hx hb dX5_tower_92 ?_
                                                refine lv_ior hx hb dX5_tower_93 ?_
                                                refine lv_topi (fun y206 ey206 => ?_)
                                                obtain rfl : y206 = pk1 (pk1 (pk1 0 (mp 17) 0) (mp 18) 1) (mp 19) 2 := ey206.trans (rfl)
                                                refine va_iast hx hb hK hP hD hS 1 0 rfl rfl (vi_c (by decide +kernel)) dX5_tower_94 (fun H locs hP hD hS => ?_)
                                                have hP : va_P D vwCl [(kO, .inl (cy 0, 3, .inl (fun j => nI ((va_up (va_up (va_up mk 0 (kn (mp 0))) 1 (kn (mp 8))) 2 (kn (mp 16))) j)))), (lO, .inl (cy 0, 3, .inl (upd (upd (upd (upd ml 0 (pk1 (pk1 (pk1 (pk1 (pk1 (pk1 0 (mp 1) 0) (mp 2) 1) (mp 3) 2) (mp 4) 3) (mp 5) 4) (mp 6) 5)) 1 (pk1 (pk1 (pk1 (pk1 (pk1 (pk1 0 (mp 9) 0) (mp 10) 1) (mp 11) 2) (mp 12) 3) (mp 13) 4) (mp 14) 5)) 2 (pk1 (pk1 0 (mp 17) 0) (mp 18) 1)) 2 (pk1 (pk1 (pk1 0 (mp 17) 0) (mp 18) 1) (mp 19) 2)))), (m0, .inr (5, [.int (nI tw), .int 3, .ref kO, .ref lO, .int (nI tu), .int (nI ak), .int (nI se), .ref sC, .ref sW, .ref sD, .int 23, .ref pG, .int iw9, .int 3, .ref wO, .ref fO, .ref mO, .ref cO, .long sn, .ref th, .int ik, .int (nI kt), .int (nI ku), .int (nI ks), .ref kK, .ref kL, .ref kC, .ref kW, .ref kD, .long hh])), (pG, .inl (cy 1, 26, .inl (fun j => nI (mp j))))] H := hP
                                                have hD : va_D A [(kO, .inl (cy 0, 3, .inl (fun j => nI ((va_up (va_up (va_up mk 0 (kn (mp 0))) 1 (kn (mp 8))) 2 (kn (mp 16))) j)))), (lO, .inl (cy 0, 3, .inl (upd (upd (upd (upd ml 0 (pk1 (pk1 (pk1 (pk1 (pk1 (pk1 0 (mp 1) 0) (mp 2) 1) (mp 3) 2) (mp 4) 3) (mp 5) 4) (mp 6) 5)) 1 (pk1 (pk1 (pk1 (pk1 (pk1 (pk1 0 (mp 9) 0) (mp 10) 1) (mp 11) 2) (mp 12) 3) (mp 13) 4) (mp 14) 5)) 2 (pk1 (pk1 0 (mp 17) 0) (mp 18) 1)) 2 (pk1 (pk1 (pk1 0 (mp 17) 0) (mp 18) 1) (mp 19) 2)))), (m0, .inr (5, [.int (nI tw), .int 3, .ref kO, .ref lO, .int (nI tu), .int (nI ak), .int (nI se), .ref sC, .ref sW, .ref sD, .int 23, .ref pG, .int iw9, .int 3, .ref wO, .ref fO, .ref mO, .ref cO, .long sn, .ref th, .int ik, .int (nI kt), .int (nI ku), .int (nI ks), .ref kK, .ref kL, .ref kC, .ref kW, .ref kD, .long hh])), (pG, .inl (cy 1, 26, .inl (fun j => nI (mp j))))] := hD
                                                rw [upd_upd (upd (upd ml 0 (pk1 (pk1 (pk1 (pk1 (pk1 (pk1 0 (mp 1) 0) (mp 2) 1) (mp 3) 2) (mp 4) 3) (mp 5) 4) (mp 6) 5)) 1 (pk1 (pk1 (pk1 (pk1 (pk1 (pk1 0 (mp 9) 0) (mp 10) 1) (mp 11) 2) (mp 12) 3) (mp 13) 4) (mp 14) 5)) 2 (pk1 (pk1 0 (mp 17) 0) (mp 18) 1) (pk1 (pk1 (pk1 0 (mp 17) 0) (mp 18) 1) (mp 19) 2)] at hP hD
                                                have hP : va_P D vwCl [(kO, .inl (cy 0, 3, .inl (fun j => nI ((va_up (va_up (va_up mk 0 (kn (mp 0))) 1 (kn (mp 8))) 2 (kn (mp 16))) j)))), (lO, .inl (cy 0, 3, .inl (upd (upd (upd ml 0 (pk1 (pk1 (pk1 (pk1 (pk1 (pk1 0 (mp 1) 0) (mp 2) 1) (mp 3) 2) (mp 4) 3) (mp 5) 4) (mp 6) 5)) 1 (pk1 (pk1 (pk1 (pk1 (pk1 (pk1 0 (mp 9) 0) (mp 10) 1) (mp 11) 2) (mp 12) 3) (mp 13) 4) (mp 14) 5)) 2 (pk1 (pk1 (pk1 0 (mp 17) 0) (mp 18) 1) (mp 19) 2)))), (m0, .inr (5, [.int (nI tw), .int 3, .ref kO, .ref lO, .int (nI tu), .int (nI ak), .int (nI se), .ref sC, .ref sW, .ref sD, .int 23, .ref pG, .int iw9, .int 3, .ref wO, .ref fO, .ref mO, .ref cO, .long sn, .ref th, .int ik, .int (nI kt), .int (nI ku), .int (nI ks), .ref kK, .ref kL, .ref kC, .ref kW, .ref kD, .long hh])), (pG, .inl (cy 1, 26, .inl (fun j => nI (mp j))))] H := hP
                                                have hD : va_D A [(kO, .inl (cy 0, 3, .inl (fun j => nI ((va_up (va_up (va_up mk 0 (kn (mp 0))) 1 (kn (mp 8))) 2 (kn (mp 16))) j)))), (lO, .inl (cy 0, 3, .inl (upd (upd (upd ml 0 (pk1 (pk1 (pk1 (pk1 (pk1 (pk1 0 (mp 1) 0) (mp 2) 1) (mp 3) 2) (mp 4) 3) (mp 5) 4) (mp 6) 5)) 1 (pk1 (pk1 (pk1 (pk1 (pk1 (pk1 0 (mp 9) 0) (mp 10) 1) (mp 11) 2) (mp 12) 3) (mp 13) 4) (mp 14) 5)) 2 (pk1 (pk1 (pk1 0 (mp 17) 0) (mp 18) 1) (mp 19) 2)))), (m0, .inr (5, [.int (nI tw), .int 3, .ref kO, .ref lO, .int (nI tu), .int (nI ak), .int (nI se), .ref sC, .ref sW, .ref sD, .int 23, .ref pG, .int iw9, .int 3, .ref wO, .ref fO, .ref mO, .ref cO, .long sn, .ref th, .int ik, .int (nI kt), .int (nI ku), .int (nI ks), .ref kK, .ref kL, .ref kC, .ref kW, .ref kD, .long hh])), (pG, .inl (cy 1, 26, .inl (fun j => nI (mp j))))] := hD
                                                refine lv_iinc (v := 3) (lv' := [(2, .int 3), (1, .int 2), (0, .ref m0)]) hx hb dX5_tower_95 hl (k := 0) rfl (by decide) (by decide) rfl (fun ls hl => ?_)
                                                refine lv_goto (tgt := 60) hx hb dX5_tower_98 (by decide) ?_
                                                refine lv_iload_n hx hb dX5_tower_60 rfl (lv_at hl 0 rfl) ?_
                                                refine lv_bipush (v := 6) hx hb dX5_tower_61 (by decide) ?_
                                                refine lv_icmp_ge (tgt := 101) hx hb dX5_tower_63 (by decide) (fun c_63 => ?_) (fun c_63 => ?_)
                                                · exact absurd c_63 (by decide)
                                                · refine lv_aload_n hx hb dX5_tower_66 rfl (lv_at hl 2 rfl) ?_
                                                  refine va_get (D := D) (ci := 5) (v := .ref lO) (C := RX5) (T := TX5) (N := 30) hx hb hts hw_X5 hown hK hP 2 rfl rfl 3 (by decide) f_13 (fun _ h9 => h9) rfl dX5_tower_67 ?_
                                                  refine lv_iload_n hx hb dX5_tower_70 rfl (lv_at hl 1 rfl) ?_
                                                  refine lv_dup2_11 hx hb dX5_tower_71 rfl rfl ?_
                                                  refine va_iald hx hb hK hP 1 0 rfl rfl (vi_c (by decide +kernel)) dX5_tower_72 ?_
                                                  refine lv_topi (fun y207 ey207 => ?_)
                                                  obtain rfl : y207 = pk1 (pk1 (pk1 0 (mp 17) 0) (mp 18) 1) (mp 19) 2 := ey207.trans (upd_rd _ _ _ (by decide))
                                                  refine lv_aload_n hx hb dX5_tower_73 rfl (lv_at hl 2 rfl) ?_
                                                  refine va_get (D := D) (ci := 5) (v := .ref pG) (C := RX5) (T := TX5) (N := 30) hx hb hts hw_X5 hown hK hP 2 rfl rfl 11 (by decide) f_25 (fun _ h9 => h9) rfl dX5_tower_74 ?_
                                                  refine lv_bipush (v := 8) hx hb dX5_tower_77 (by decide) ?_
                                                  refine lv_iload_n hx hb dX5_tower_79 rfl (lv_at hl 1 rfl) ?_
                                                  refine lv_imul hx hb dX5_tower_80 ?_
                                                  refine lv_topi (fun y208 ey208 => ?_)
                                                  obtain rfl : y208 = 16 := ey208.trans (by decide)
                                                  refine lv_iconst (v := 1) hx hb dX5_tower_81 (by decide) ?_
                                                  refine lv_iadd hx hb dX5_tower_82 ?_
                                                  refine lv_topi (fun y209 ey209 => ?_)
                                                  obtain rfl : y209 = 17 := ey209.trans (by decide)
                                                  refine lv_iload_n hx hb dX5_tower_83 rfl (lv_at hl 0 rfl) ?_
                                                  refine lv_iadd hx hb dX5_tower_84 ?_
                                                  refine lv_topi (fun y210 ey210 => ?_)
                                                  obtain rfl : y210 = 20 := ey210.trans (by decide)
                                                  refine va_bald hx hb hK hP 3 1 rfl rfl (vi_c (by decide +kernel)) dX5_tower_85 ?_
                                                  refine lv_topi (fun y211 ey211 => ?_)
                                                  obtain rfl : y211 = nI (mp 20) := ey211.trans (rfl)
                                                  refine lv_bipush (v := 97) hx hb dX5_tower_86 (by decide) ?_
                                                  refine lv_isub hx hb dX5_tower_88 ?_
                                                  refine lv_iconst (v := 3) hx hb dX5_tower_89 (by decide) ?_
                                                  refine lv_iload_n hx hb dX5_tower_90 rfl (lv_at hl 0 rfl) ?_
                                                  refine lv_imul hx hb dX5_tower_91 ?_
                                                  refine lv_topi (fun y212 ey212 => ?_)
                                                  obtain rfl : y212 = 9 := ey212.trans (by decide)
                                                  refine lv_ishl hx hb dX5_tower_92 ?_
                                                  refine lv_ior hx hb dX5_tower_93 ?_
                                                  refine lv_topi (fun y213 ey213 => ?_)
                                                  obtain rfl : y213 = pk1 (pk1 (pk1 (pk1 0 (mp 17) 0) (mp 18) 1) (mp 19) 2) (mp 20) 3 := ey213.trans (rfl)
                                                  refine va_iast hx hb hK hP hD hS 1 0 rfl rfl (vi_c (by decide +kernel)) dX5_tower_94 (fun H locs hP hD hS => ?_)
                                                  have hP : va_P D vwCl [(kO, .inl (cy 0, 3, .inl (fun j => nI ((va_up (va_up (va_up mk 0 (kn (mp 0))) 1 (kn (mp 8))) 2 (kn (mp 16))) j)))), (lO, .inl (cy 0, 3, .inl (upd (upd (upd (upd ml 0 (pk1 (pk1 (pk1 (pk1 (pk1 (pk1 0 (mp 1) 0) (mp 2) 1) (mp 3) 2) (mp 4) 3) (mp 5) 4) (mp 6) 5)) 1 (pk1 (pk1 (pk1 (pk1 (pk1 (pk1 0 (mp 9) 0) (mp 10) 1) (mp 11) 2) (mp 12) 3) (mp 13) 4) (mp 14) 5)) 2 (pk1 (pk1 (pk1 0 (mp 17) 0) (mp 18) 1) (mp 19) 2)) 2 (pk1 (pk1 (pk1 (pk1 0 (mp 17) 0) (mp 18) 1) (mp 19) 2) (mp 20) 3)))), (m0, .inr (5, [.int (nI tw), .int 3, .ref kO, .ref lO, .int (nI tu), .int (nI ak), .int (nI se), .ref sC, .ref sW, .ref sD, .int 23, .ref pG, .int iw9, .int 3, .ref wO, .ref fO, .ref mO, .ref cO, .long sn, .ref th, .int ik, .int (nI kt), .int (nI ku), .int (nI ks), .ref kK, .ref kL, .ref kC, .ref kW, .ref kD, .long hh])), (pG, .inl (cy 1, 26, .inl (fun j => nI (mp j))))] H := hP
                                                  have hD : va_D A [(kO, .inl (cy 0, 3, .inl (fun j => nI ((va_up (va_up (va_up mk 0 (kn (mp 0))) 1 (kn (mp 8))) 2 (kn (mp 16))) j)))), (lO, .inl (cy 0, 3, .inl (upd (upd (upd (upd ml 0 (pk1 (pk1 (pk1 (pk1 (pk1 (pk1 0 (mp 1) 0) (mp 2) 1) (mp 3) 2) (mp 4) 3) (mp 5) 4) (mp 6) 5)) 1 (pk1 (pk1 (pk1 (pk1 (pk1 (pk1 0 (mp 9) 0) (mp 10) 1) (mp 11) 2) (mp 12) 3) (mp 13) 4) (mp 14) 5)) 2 (pk1 (pk1 (pk1 0 (mp 17) 0) (mp 18) 1) (mp 19) 2)) 2 (pk1 (pk1 (pk1 (pk1 0 (mp 17) 0) (mp 18) 1) (mp 19) 2) (mp 20) 3)))), (m0, .inr (5, [.int (nI tw), .int 3, .ref kO, .ref lO, .int (nI tu), .int (nI ak), .int (nI se), .ref sC, .ref sW, .ref sD, .int 23, .ref pG, .int iw9, .int 3, .ref wO, .ref fO, .ref mO, .ref cO, .long sn, .ref th, .int ik, .int (nI kt), .int (nI ku), .int (nI ks), .ref kK, .ref kL, .ref kC, .ref kW, .ref kD, .long hh])), (pG, .inl (cy 1, 26, .inl (fun j => nI (mp j))))] := hD
                                                  rw [upd_upd (upd (upd ml 0 (pk1 (pk1 (pk1 (pk1 (pk1 (pk1 0 (mp 1) 0) (mp 2) 1) (mp 3) 2) (mp 4) 3) (mp 5) 4) (mp 6) 5)) 1 (pk1 (pk1 (pk1 (pk1 (pk1 (pk1 0 (mp 9) 0) (mp 10) 1) (mp 11) 2) (mp 12) 3) (mp 13) 4) (mp 14) 5)) 2 (pk1 (pk1 (pk1 0 (mp 17) 0) (mp 18) 1) (mp 19) 2) (pk1 (pk1 (pk1 (pk1 0 (mp 17) 0) (mp 18) 1) (mp 19) 2) (mp 20) 3)] at hP hD
                                                  have hP : va_P D vwCl [(kO, .inl (cy 0, 3, .inl (fun j => nI ((va_up (va_up (va_up mk 0 (kn (mp 0))) 1 (kn (mp 8))) 2 (kn (mp 16))) j)))), (lO, .inl (cy 0, 3, .inl (upd (upd (upd ml 0 (pk1 (pk1 (pk1 (pk1 (pk1 (pk1 0 (mp 1) 0) (mp 2) 1) (mp 3) 2) (mp 4) 3) (mp 5) 4) (mp 6) 5)) 1 (pk1 (pk1 (pk1 (pk1 (pk1 (pk1 0 (mp 9) 0) (mp 10) 1) (mp 11) 2) (mp 12) 3) (mp 13) 4) (mp 14) 5)) 2 (pk1 (pk1 (pk1 (pk1 0 (mp 17) 0) (mp 18) 1) (mp 19) 2) (mp 20) 3)))), (m0, .inr (5, [.int (nI tw), .int 3, .ref kO, .ref lO, .int (nI tu), .int (nI ak), .int (nI se), .ref sC, .ref sW, .ref sD, .int 23, .ref pG, .int iw9, .int 3, .ref wO, .ref fO, .ref mO, .ref cO, .long sn, .ref th, .int ik, .int (nI kt), .int (nI ku), .int (nI ks), .ref kK, .ref kL, .ref kC, .ref kW, .ref kD, .long hh])), (pG, .inl (cy 1, 26, .inl (fun j => nI (mp j))))] H := hP
                                                  have hD : va_D A [(kO, .inl (cy 0, 3, .inl (fun j => nI ((va_up (va_up (va_up mk 0 (kn (mp 0))) 1 (kn (mp 8))) 2 (kn (mp 16))) j)))), (lO, .inl (cy 0, 3, .inl (upd (upd (upd ml 0 (pk1 (pk1 (pk1 (pk1 (pk1 (pk1 0 (mp 1) 0) (mp 2) 1) (mp 3) 2) (mp 4) 3) (mp 5) 4) (mp 6) 5)) 1 (pk1 (pk1 (pk1 (pk1 (pk1 (pk1 0 (mp 9) 0) (mp 10) 1) (mp 11) 2) (mp 12) 3) (mp 13) 4) (mp 14) 5)) 2 (pk1 (pk1 (pk1 (pk1 0 (mp 17) 0) (mp 18) 1) (mp 19) 2) (mp 20) 3)))), (m0, .inr (5, [.int (nI tw), .int 3, .ref kO, .ref lO, .int (nI tu), .int (nI ak), .int (nI se), .ref sC, .ref sW, .ref sD, .int 23, .ref pG, .int iw9, .int 3, .ref wO, .ref fO, .ref mO, .ref cO, .long sn, .ref th, .int ik, .int (nI kt), .int (nI ku), .int (nI ks), .ref kK, .ref kL, .ref kC, .ref kW, .ref kD, .long hh])), (pG, .inl (cy 1, 26, .inl (fun j => nI (mp j))))] := hD
                                                  refine lv_iinc (v := 4) (lv' := [(2, .int 4), (1, .int 2), (0, .ref m0)]) hx hb dX5_tower_95 hl (k := 0) rfl (by decide) (by decide) rfl (fun ls hl => ?_)
                                                  refine lv_goto (tgt := 60) hx hb dX5_tower_98 (by decide) ?_
                                                  refine lv_iload_n hx hb dX5_tower_60 rfl (lv_at hl 0 rfl) ?_
                                                  refine lv_bipush (v := 6) hx hb dX5_tower_61 (by decide) ?_
                                                  refine lv_icmp_ge (tgt := 101) hx hb dX5_tower_63 (by decide) (fun c_63 => ?_) (fun c_63 => ?_)
                                                  · exact absurd c_63 (by decide)
                                                  · refine lv_aload_n hx hb dX5_tower_66 rfl (lv_at hl 2 rfl) ?_
                                                    refine va_get (D := D) (ci := 5) (v := .ref lO) (C := RX5) (T := TX5) (N := 30) hx hb hts hw_X5 hown hK hP 2 rfl rfl 3 (by decide) f_13 (fun _ h9 => h9) rfl dX5_tower_67 ?_
                                                    refine lv_iload_n hx hb dX5_tower_70 rfl (lv_at hl 1 rfl) ?_
                                                    refine lv_dup2_11 hx hb dX5_tower_71 rfl rfl ?_
                                                    refine va_iald hx hb hK hP 1 0 rfl rfl (vi_c (by decide +kernel)) dX5_tower_72 ?_
                                                    refine lv_topi (fun y214 ey214 => ?_)
                                                    obtain rfl : y214 = pk1 (pk1 (pk1 (pk1 0 (mp 17) 0) (mp 18) 1) (mp 19) 2) (mp 20) 3 := ey214.trans (upd_rd _ _ _ (by decide))
                                                    refine lv_aload_n hx hb dX5_tower_73 rfl (lv_at hl 2 rfl) ?_
                                                    refine va_get (D := D) (ci := 5) (v := .ref pG) (C := RX5) (T := TX5) (N := 30) hx hb hts hw_X5 hown hK hP 2 rfl rfl 11 (by decide) f_25 (fun _ h9 => h9) rfl dX5_tower_74 ?_
                                                    refine lv_bipush (v := 8) hx hb dX5_tower_77 (by decide) ?_
                                                    refine lv_iload_n hx hb dX5_tower_79 rfl (lv_at hl 1 rfl) ?_
                                                    refine lv_imul hx hb dX5_tower_80 ?_
                                                    refine lv_topi (fun y215 ey215 => ?_)
                                                    obtain rfl : y215 = 16 := ey215.trans (by decide)
                                                    refine lv_iconst (v := 1) hx hb dX5_tower_81 (by decide) ?_
                                                    refine lv_iadd hx hb dX5_tower_82 ?_
                                                    refine lv_topi (fun y216 ey216 => ?_)
                                                    obtain rfl : y216 = 17 := ey216.trans (by decide)
                                                    refine lv_iload_n hx hb dX5_tower_83 rfl (lv_at hl 0 rfl) ?_
                                                    refine lv_iadd hx hb dX5_tower_84 ?_
                                                    refine lv_topi (fun y217 ey217 => ?_)
                                                    obtain rfl : y217 = 21 := ey217.trans (by decide)
                                                    refine va_bald hx hb hK hP 3 1 rfl rfl (vi_c (by decide +kernel)) dX5_tower_85 ?_
                                                    refine lv_topi (fun y218 ey218 => ?_)
                                                    obtain rfl : y218 = nI (mp 21) := ey218.trans (rfl)
                                                    refine lv_bipush (v := 97) hx hb dX5_tower_86 (by decide) ?_
                                                    refine lv_isub hx hb dX5_tower_88 ?_
                                                    refine lv_iconst (v := 3) hx hb dX5_tower_89 (by decide) ?_
                                                    refine lv_iload_n hx hb dX5_tower_90 rfl (lv_at hl 0 rfl) ?_
                                                    refine lv_imul hx hb dX5_tower_91 ?_
                                                    refine lv_topi (fun y219 ey219 => ?_)
                                                    obtain rfl : y219 = 12 := ey219.trans (by decide)
                                                    refine lv_ishl hx hb dX5_tower_92 ?_
                                                    refine lv_ior hx hb dX5_tower_93 ?_
                                                    refine lv_topi (fun y220 ey220 => ?_)
                                                    obtain rfl : y220 = pk1 (pk1 (pk1 (pk1 (pk1 0 (mp 17) 0) (mp 18) 1) (mp 19) 2) (mp 20) 3) (mp 21) 4 := ey220.trans (rfl)
                                                    refine va_iast hx hb hK hP hD hS 1 0 rfl rfl (vi_c (by decide +kernel)) dX5_tower_94 (fun H locs hP hD hS => ?_)
                                                    have hP : va_P D vwCl [(kO, .inl (cy 0, 3, .inl (fun j => nI ((va_up (va_up (va_up mk 0 (kn (mp 0))) 1 (kn (mp 8))) 2 (kn (mp 16))) j)))), (lO, .inl (cy 0, 3, .inl (upd (upd (upd (upd ml 0 (pk1 (pk1 (pk1 (pk1 (pk1 (pk1 0 (mp 1) 0) (mp 2) 1) (mp 3) 2) (mp 4) 3) (mp 5) 4) (mp 6) 5)) 1 (pk1 (pk1 (pk1 (pk1 (pk1 (pk1 0 (mp 9) 0) (mp 10) 1) (mp 11) 2) (mp 12) 3) (mp 13) 4) (mp 14) 5)) 2 (pk1 (pk1 (pk1 (pk1 0 (mp 17) 0) (mp 18) 1) (mp 19) 2) (mp 20) 3)) 2 (pk1 (pk1 (pk1 (pk1 (pk1 0 (mp 17) 0) (mp 18) 1) (mp 19) 2) (mp 20) 3) (mp 21) 4)))), (m0, .inr (5, [.int (nI tw), .int 3, .ref kO, .ref lO, .int (nI tu), .int (nI ak), .int (nI se), .ref sC, .ref sW, .ref sD, .int 23, .ref pG, .int iw9, .int 3, .ref wO, .ref fO, .ref mO, .ref cO, .long sn, .ref th, .int ik, .int (nI kt), .int (nI ku), .int (nI ks), .ref kK, .ref kL, .ref kC, .ref kW, .ref kD, .long hh])), (pG, .inl (cy 1, 26, .inl (fun j => nI (mp j))))] H := hP
                                                    have hD : va_D A [(kO, .inl (cy 0, 3, .inl (fun j => nI ((va_up (va_up (va_up mk 0 (kn (mp 0))) 1 (kn (mp 8))) 2 (kn (mp 16))) j)))), (lO, .inl (cy 0, 3, .inl (upd (upd (upd (upd ml 0 (pk1 (pk1 (pk1 (pk1 (pk1 (pk1 0 (mp 1) 0) (mp 2) 1) (mp 3) 2) (mp 4) 3) (mp 5) 4) (mp 6) 5)) 1 (pk1 (pk1 (pk1 (pk1 (pk1 (pk1 0 (mp 9) 0) (mp 10) 1) (mp 11) 2) (mp 12) 3) (mp 13) 4) (mp 14) 5)) 2 (pk1 (pk1 (pk1 (pk1 0 (mp 17) 0) (mp 18) 1) (mp 19) 2) (mp 20) 3)) 2 (pk1 (pk1 (pk1 (pk1 (pk1 0 (mp 17) 0) (mp 18) 1) (mp 19) 2) (mp 20) 3) (mp 21) 4)))), (m0, .inr (5, [.int (nI tw), .int 3, .ref kO, .ref lO, .int (nI tu), .int (nI ak), .int (nI se), .ref sC, .ref sW, .ref sD, .int 23, .ref pG, .int iw9, .int 3, .ref wO, .ref fO, .ref mO, .ref cO, .long sn, .ref th, .int ik, .int (nI kt), .int (nI ku), .int (nI ks), .ref kK, .ref kL, .ref kC, .ref kW, .ref kD, .long hh])), (pG, .inl (cy 1, 26, .inl (fun j => nI (mp j))))] := hD
                                                    rw [upd_upd (upd (upd ml 0 (pk1 (pk1 (pk1 (pk1 (pk1 (pk1 0 (mp 1) 0) (mp 2) 1) (mp 3) 2) (mp 4) 3) (mp 5) 4) (mp 6) 5)) 1 (pk1 (pk1 (pk1 (pk1 (pk1 (pk1 0 (mp 9) 0) (mp 10) 1) (mp 11) 2) (mp 12) 3) (mp 13) 4) (mp 14) 5)) 2 (pk1 (pk1 (pk1 (pk1 0 (mp 17) 0) (mp 18) 1) (mp 19) 2) (mp 20) 3) (pk1 (pk1 (pk1 (pk1 (pk1 0 (mp 17) 0) (mp 18) 1) (mp 19) 2) (mp 20) 3) (mp 21) 4)] at hP hD
                                                    have hP : va_P D vwCl [(kO, .inl (cy 0, 3, .inl (fun j => nI ((va_up (va_up (va_up mk 0 (kn (mp 0))) 1 (kn (mp 8))) 2 (kn (mp 16))) j)))), (lO, .inl (cy 0, 3, .inl (upd (upd (upd ml 0 (pk1 (pk1 (pk1 (pk1 (pk1 (pk1 0 (mp 1) 0) (mp 2) 1) (mp 3) 2) (mp 4) 3) (mp 5) 4) (mp 6) 5)) 1 (pk1 (pk1 (pk1 (pk1 (pk1 (pk1 0 (mp 9) 0) (mp 10) 1) (mp 11) 2) (mp 12) 3) (mp 13) 4) (mp 14) 5)) 2 (pk1 (pk1 (pk1 (pk1 (pk1 0 (mp 17) 0) (mp 18) 1) (mp 19) 2) (mp 20) 3) (mp 21) 4)))), (m0, .inr (5, [.int (nI tw), .int 3, .ref kO, .ref lO, .int (nI tu), .int (nI ak), .int (nI se), .ref sC, .ref sW, .ref sD, .int 23, .ref pG, .int iw9, .int 3, .ref wO, .ref fO, .ref mO, .ref cO, .long sn, .ref th, .int ik, .int (nI kt), .int (nI ku), .int (nI ks), .ref kK, .ref kL, .ref kC, .ref kW, .ref kD, .long hh])), (pG, .inl (cy 1, 26, .inl (fun j => nI (mp j))))] H := hP
                                                    have hD : va_D A [(kO, .inl (cy 0, 3, .inl (fun j => nI ((va_up (va_up (va_up mk 0 (kn (mp 0))) 1 (kn (mp 8))) 2 (kn (mp 16))) j)))), (lO, .inl (cy 0, 3, .inl (upd (upd (upd ml 0 (pk1 (pk1 (pk1 (pk1 (pk1 (pk1 0 (mp 1) 0) (mp 2) 1) (mp 3) 2) (mp 4) 3) (mp 5) 4) (mp 6) 5)) 1 (pk1 (pk1 (pk1 (pk1 (pk1 (pk1 0 (mp 9) 0) (mp 10) 1) (mp 11) 2) (mp 12) 3) (mp 13) 4) (mp 14) 5)) 2 (pk1 (pk1 (pk1 (pk1 (pk1 0 (mp 17) 0) (mp 18) 1) (mp 19) 2) (mp 20) 3) (mp 21) 4)))), (m0, .inr (5, [.int (nI tw), .int 3, .ref kO, .ref lO, .int (nI tu), .int (nI ak), .int (nI se), .ref sC, .ref sW, .ref sD, .int 23, .ref pG, .int iw9, .int 3, .ref wO, .ref fO, .ref mO, .ref cO, .long sn, .ref th, .int ik, .int (nI kt), .int (nI ku), .int (nI ks), .ref kK, .ref kL, .ref kC, .ref kW, .ref kD, .long hh])), (pG, .inl (cy 1, 26, .inl (fun j => nI (mp j))))] := hD
                                                    refine lv_iinc (v := 5) (lv' := [(2, .int 5), (1, .int 2), (0, .ref m0)]) hx hb dX5_tower_95 hl (k := 0) rfl (by decide) (by decide) rfl (fun ls hl => ?_)
                                                    refine lv_goto (tgt := 60) hx hb dX5_tower_98 (by decide) ?_
                                                    refine lv_iload_n hx hb dX5_tower_60 rfl (lv_at hl 0 rfl) ?_
                                                    refine lv_bipush (v := 6) hx hb dX5_tower_61 (by decide) ?_
                                                    refine lv_icmp_ge (tgt := 101) hx hb dX5_tower_63 (by decide) (fun c_63 => ?_) (fun c_63 => ?_)
                                                    · exact absurd c_63 (by decide)
                                                    · refine lv_aload_n hx hb dX5_tower_66 rfl (lv_at hl 2 rfl) ?_
                                                      refine va_get (D := D) (ci := 5) (v := .ref lO) (C := RX5) (T := TX5) (N := 30) hx hb hts hw_X5 hown hK hP 2 rfl rfl 3 (by decide) f_13 (fun _ h9 => h9) rfl dX5_tower_67 ?_
                                                      refine lv_iload_n hx hb dX5_tower_70 rfl (lv_at hl 1 rfl) ?_
                                                      refine lv_dup2_11 hx hb dX5_tower_71 rfl rfl ?_
                                                      refine va_iald hx hb hK hP 1 0 rfl rfl (vi_c (by decide +kernel)) dX5_tower_72 ?_
                                                      refine lv_topi (fun y221 ey221 => ?_)
                                                      obtain rfl : y221 = pk1 (pk1 (pk1 (pk1 (pk1 0 (mp 17) 0) (mp 18) 1) (mp 19) 2) (mp 20) 3) (mp 21) 4 := ey221.trans (upd_rd _ _ _ (by decide))
                                                      refine lv_aload_n hx hb dX5_tower_73 rfl (lv_at hl 2 rfl) ?_
                                                      refine va_get (D := D) (ci := 5) (v := .ref pG) (C := RX5) (T := TX5) (N := 30) hx hb hts hw_X5 hown hK hP 2 rfl rfl 11 (by decide) f_25 (fun _ h9 => h9) rfl dX5_tower_74 ?_
                                                      refine lv_bipush (v := 8) hx hb dX5_tower_77 (by decide) ?_
                                                      refine lv_iload_n hx hb dX5_tower_79 rfl (lv_at hl 1 rfl) ?_
                                                      refine lv_imul hx hb dX5_tower_80 ?_
                                                      refine lv_topi (fun y222 ey222 => ?_)
                                                      obtain rfl : y222 = 16 := ey222.trans (by decide)
                                                      refine lv_iconst (v := 1) hx hb dX5_tower_81 (by decide) ?_
                                                      refine lv_iadd hx hb dX5_tower_82 ?_
                                                      refine lv_topi (fun y223 ey223 => ?_)
                                                      obtain rfl : y223 = 17 := ey223.trans (by decide)
                                                      refine lv_iload_n hx hb dX5_tower_83 rfl (lv_at hl 0 rfl) ?_
                                                      refine lv_iadd hx hb dX5_tower_84 ?_
                                                      refine lv_topi (fun y224 ey224 => ?_)
                                                      obtain rfl : y224 = 22 := ey224.trans (by decide)
                                                      refine va_bald hx hb hK hP 3 1 rfl rfl (vi_c (by decide +kernel)) dX5_tower_85 ?_
                                                      refine lv_topi (fun y225 ey225 => ?_)
                                                      obtain rfl : y225 = nI (mp 22) := ey225.trans (rfl)
                                                      refine lv_bipush (v := 97) hx hb dX5_tower_86 (by decide) ?_
                                                      refine lv_isub hx hb dX5_tower_88 ?_
                                                      refine lv_iconst (v := 3) hx hb dX5_tower_89 (by decide) ?_
                                                      refine lv_iload_n hx hb dX5_tower_90 rfl (lv_at hl 0 rfl) ?_
                                                      refine lv_imul hx hb dX5_tower_91 ?_
                                                      refine lv_topi (fun y226 ey226 => ?_)
                                                      obtain rfl : y226 = 15 := ey226.trans (by decide)
                                                      refine lv_ishl hx hb dX5_tower_92 ?_
                                                      refine lv_ior hx hb dX5_tower_93 ?_
                                                      refine lv_topi (fun y227 ey227 => ?_)
                                                      obtain rfl : y227 = pk1 (pk1 (pk1 (pk1 (pk1 (pk1 0 (mp 17) 0) (mp 18) 1) (mp 19) 2) (mp 20) 3) (mp 21) 4) (mp 22) 5 := ey227.trans (rfl)
                                                      refine va_iast hx hb hK hP hD hS 1 0 rfl rfl (vi_c (by decide +kernel)) dX5_tower_94 (fun H locs hP hD hS => ?_)
                                                      have hP : va_P D vwCl [(kO, .inl (cy 0, 3, .inl (fun j => nI ((va_up (va_up (va_up mk 0 (kn (mp 0))) 1 (kn (mp 8))) 2 (kn (mp 16))) j)))), (lO, .inl (cy 0, 3, .inl (upd (upd (upd (upd ml 0 (pk1 (pk1 (pk1 (pk1 (pk1 (pk1 0 (mp 1) 0) (mp 2) 1) (mp 3) 2) (mp 4) 3) (mp 5) 4) (mp 6) 5)) 1 (pk1 (pk1 (pk1 (pk1 (pk1 (pk1 0 (mp 9) 0) (mp 10) 1) (mp 11) 2) (mp 12) 3) (mp 13) 4) (mp 14) 5)) 2 (pk1 (pk1 (pk1 (pk1 (pk1 0 (mp 17) 0) (mp 18) 1) (mp 19) 2) (mp 20) 3) (mp 21) 4)) 2 (pk1 (pk1 (pk1 (pk1 (pk1 (pk1 0 (mp 17) 0) (mp 18) 1) (mp 19) 2) (mp 20) 3) (mp 21) 4) (mp 22) 5)))), (m0, .inr (5, [.int (nI tw), .int 3, .ref kO, .ref lO, .int (nI tu), .int (nI ak), .int (nI se), .ref sC, .ref sW, .ref sD, .int 23, .ref pG, .int iw9, .int 3, .ref wO, .ref fO, .ref mO, .ref cO, .long sn, .ref th, .int ik, .int (nI kt), .int (nI ku), .int (nI ks), .ref kK, .ref kL, .ref kC, .ref kW, .ref kD, .long hh])), (pG, .inl (cy 1, 26, .inl (fun j => nI (mp j))))] H := hP
                                                      have hD : va_D A [(kO, .inl (cy 0, 3, .inl (fun j => nI ((va_up (va_up (va_up mk 0 (kn (mp 0))) 1 (kn (mp 8))) 2 (kn (mp 16))) j)))), (lO, .inl (cy 0, 3, .inl (upd (upd (upd (upd ml 0 (pk1 (pk1 (pk1 (pk1 (pk1 (pk1 0 (mp 1) 0) (mp 2) 1) (mp 3) 2) (mp 4) 3) (mp 5) 4) (mp 6) 5)) 1 (pk1 (pk1 (pk1 (pk1 (pk1 (pk1 0 (mp 9) 0) (mp 10) 1) (mp 11) 2) (mp 12) 3) (mp 13) 4) (mp 14) 5)) 2 (pk1 (pk1 (pk1 (pk1 (pk1 0 (mp 17) 0) (mp 18) 1) (mp 19) 2) (mp 20) 3) (mp 21) 4)) 2 (pk1 (pk1 (pk1 (pk1 (pk1 (pk1 0 (mp 17) 0) (mp 18) 1) (mp 19) 2) (mp 20) 3) (mp 21) 4) (mp 22) 5)))), (m0, .inr (5, [.int (nI tw), .int 3, .ref kO, .ref lO, .int (nI tu), .int (nI ak), .int (nI se), .ref sC, .ref sW, .ref sD, .int 23, .ref pG, .int iw9, .int 3, .ref wO, .ref fO, .ref mO, .ref cO, .long sn, .ref th, .int ik, .int (nI kt), .int (nI ku), .int (nI ks), .ref kK, .ref kL, .ref kC, .ref kW, .ref kD, .long hh])), (pG, .inl (cy 1, 26, .inl (fun j => nI (mp j))))] := hD
                                                      rw [upd_upd (upd (upd ml 0 (pk1 (pk1 (pk1 (pk1 (pk1 (pk1 0 (mp 1) 0) (mp 2) 1) (mp 3) 2) (mp 4) 3) (mp 5) 4) (mp 6) 5)) 1 (pk1 (pk1 (pk1 (pk1 (pk1 (pk1 0 (mp 9) 0) (mp 10) 1) (mp 11) 2) (mp 12) 3) (mp 13) 4) (mp 14) 5)) 2 (pk1 (pk1 (pk1 (pk1 (pk1 0 (mp 17) 0) (mp 18) 1) (mp 19) 2) (mp 20) 3) (mp 21) 4) (pk1 (pk1 (pk1 (pk1 (pk1 (pk1 0 (mp 17) 0) (mp 18) 1) (mp 19) 2) (mp 20) 3) (mp 21) 4) (mp 22) 5)] at hP hD
                                                      have hP : va_P D vwCl [(kO, .inl (cy 0, 3, .inl (fun j => nI ((va_up (va_up (va_up mk 0 (kn (mp 0))) 1 (kn (mp 8))) 2 (kn (mp 16))) j)))), (lO, .inl (cy 0, 3, .inl (upd (upd (upd ml 0 (pk1 (pk1 (pk1 (pk1 (pk1 (pk1 0 (mp 1) 0) (mp 2) 1) (mp 3) 2) (mp 4) 3) (mp 5) 4) (mp 6) 5)) 1 (pk1 (pk1 (pk1 (pk1 (pk1 (pk1 0 (mp 9) 0) (mp 10) 1) (mp 11) 2) (mp 12) 3) (mp 13) 4) (mp 14) 5)) 2 (pk1 (pk1 (pk1 (pk1 (pk1 (pk1 0 (mp 17) 0) (mp 18) 1) (mp 19) 2) (mp 20) 3) (mp 21) 4) (mp 22) 5)))), (m0, .inr (5, [.int (nI tw), .int 3, .ref kO, .ref lO, .int (nI tu), .int (nI ak), .int (nI se), .ref sC, .ref sW, .ref sD, .int 23, .ref pG, .int iw9, .int 3, .ref wO, .ref fO, .ref mO, .ref cO, .long sn, .ref th, .int ik, .int (nI kt), .int (nI ku), .int (nI ks), .ref kK, .ref kL, .ref kC, .ref kW, .ref kD, .long hh])), (pG, .inl (cy 1, 26, .inl (fun j => nI (mp j))))] H := hP
                                                      have hD : va_D A [(kO, .inl (cy 0, 3, .inl (fun j => nI ((va_up (va_up (va_up mk 0 (kn (mp 0))) 1 (kn (mp 8))) 2 (kn (mp 16))) j)))), (lO, .inl (cy 0, 3, .inl (upd (upd (upd ml 0 (pk1 (pk1 (pk1 (pk1 (pk1 (pk1 0 (mp 1) 0) (mp 2) 1) (mp 3) 2) (mp 4) 3) (mp 5) 4) (mp 6) 5)) 1 (pk1 (pk1 (pk1 (pk1 (pk1 (pk1 0 (mp 9) 0) (mp 10) 1) (mp 11) 2) (mp 12) 3) (mp 13) 4) (mp 14) 5)) 2 (pk1 (pk1 (pk1 (pk1 (pk1 (pk1 0 (mp 17) 0) (mp 18) 1) (mp 19) 2) (mp 20) 3) (mp 21) 4) (mp 22) 5)))), (m0, .inr (5, [.int (nI tw), .int 3, .ref kO, .ref lO, .int (nI tu), .int (nI ak), .int (nI se), .ref sC, .ref sW, .ref sD, .int 23, .ref pG, .int iw9, .int 3, .ref wO, .ref fO, .ref mO, .ref cO, .long sn, .ref th, .int ik, .int (nI kt), .int (nI ku), .int (nI ks), .ref kK, .ref kL, .ref kC, .ref kW, .ref kD, .long hh])), (pG, .inl (cy 1, 26, .inl (fun j => nI (mp j))))] := hD
                                                      refine lv_iinc (v := 6) (lv' := [(2, .int 6), (1, .int 2), (0, .ref m0)]) hx hb dX5_tower_95 hl (k := 0) rfl (by decide) (by decide) rfl (fun ls hl => ?_)
                                                      refine lv_goto (tgt := 60) hx hb dX5_tower_98 (by decide) ?_
                                                      refine lv_iload_n hx hb dX5_tower_60 rfl (lv_at hl 0 rfl) ?_
                                                      refine lv_bipush (v := 6) hx hb dX5_tower_61 (by decide) ?_
                                                      refine lv_icmp_ge (tgt := 101) hx hb dX5_tower_63 (by decide) (fun c_63 => ?_) (fun c_63 => ?_)
                                                      · refine lv_iinc (v := 3) (lv' := [(1, .int 3), (2, .int 6), (0, .ref m0)]) hx hb dX5_tower_101 hl (k := 1) rfl (by decide) (by decide) rfl (fun ls hl => ?_)
                                                        refine lv_goto (tgt := 25) hx hb dX5_tower_104 (by decide) ?_
                                                        refine lv_iload_n hx hb dX5_tower_25 rfl (lv_at hl 0 rfl) ?_
                                                        refine lv_aload_n hx hb dX5_tower_26 rfl (lv_at hl 2 rfl) ?_
                                                        refine va_get (D := D) (ci := 5) (v := .int 3) (C := RX5) (T := TX5) (N := 30) hx hb hts hw_X5 hown hK hP 2 rfl rfl 1 (by decide) f_88 (fun _ h9 => h9) rfl dX5_tower_27 ?_
                                                        refine lv_icmp_ge (tgt := 107) hx hb dX5_tower_30 (by decide) (fun c_30 => ?_) (fun c_30 => ?_)
                                                        · refine lv_aload_n hx hb dX5_tower_107 rfl (lv_at hl 2 rfl) ?_
                                                          refine lv_iconst (v := 0) hx hb dX5_tower_108 (by decide) ?_
                                                          refine va_put (D := D) (ci := 5) (v := .int 0) (ty := .int) (C := RX5) (T := TX5) (N := 30) hx hb hts hw_X5 tyX5 tyX5_ok nmX5 hown hK hP hD hS 2 rfl rfl 4 (by decide) f_91 (fun _ h9 => h9) rfl (tyX5_ok 4 (by decide)) rfl rfl (Nat.le_of_ble_eq_true rfl) dX5_tower_109 (fun H locs hP hD hS => ?_)
                                                          have hP : va_P D vwCl [(kO, .inl (cy 0, 3, .inl (fun j => nI ((va_up (va_up (va_up mk 0 (kn (mp 0))) 1 (kn (mp 8))) 2 (kn (mp 16))) j)))), (lO, .inl (cy 0, 3, .inl (upd (upd (upd ml 0 (pk1 (pk1 (pk1 (pk1 (pk1 (pk1 0 (mp 1) 0) (mp 2) 1) (mp 3) 2) (mp 4) 3) (mp 5) 4) (mp 6) 5)) 1 (pk1 (pk1 (pk1 (pk1 (pk1 (pk1 0 (mp 9) 0) (mp 10) 1) (mp 11) 2) (mp 12) 3) (mp 13) 4) (mp 14) 5)) 2 (pk1 (pk1 (pk1 (pk1 (pk1 (pk1 0 (mp 17) 0) (mp 18) 1) (mp 19) 2) (mp 20) 3) (mp 21) 4) (mp 22) 5)))), (m0, .inr (5, [.int (nI tw), .int 3, .ref kO, .ref lO, .int 0, .int (nI ak), .int (nI se), .ref sC, .ref sW, .ref sD, .int 23, .ref pG, .int iw9, .int 3, .ref wO, .ref fO, .ref mO, .ref cO, .long sn, .ref th, .int ik, .int (nI kt), .int (nI ku), .int (nI ks), .ref kK, .ref kL, .ref kC, .ref kW, .ref kD, .long hh])), (pG, .inl (cy 1, 26, .inl (fun j => nI (mp j))))] H := hP
                                                          have hD : va_D A [(kO, .inl (cy 0, 3, .inl (fun j => nI ((va_up (va_up (va_up mk 0 (kn (mp 0))) 1 (kn (mp 8))) 2 (kn (mp 16))) j)))), (lO, .inl (cy 0, 3, .inl (upd (upd (upd ml 0 (pk1 (pk1 (pk1 (pk1 (pk1 (pk1 0 (mp 1) 0) (mp 2) 1) (mp 3) 2) (mp 4) 3) (mp 5) 4) (mp 6) 5)) 1 (pk1 (pk1 (pk1 (pk1 (pk1 (pk1 0 (mp 9) 0) (mp 10) 1) (mp 11) 2) (mp 12) 3) (mp 13) 4) (mp 14) 5)) 2 (pk1 (pk1 (pk1 (pk1 (pk1 (pk1 0 (mp 17) 0) (mp 18) 1) (mp 19) 2) (mp 20) 3) (mp 21) 4) (mp 22) 5)))), (m0, .inr (5, [.int (nI tw), .int 3, .ref kO, .ref lO, .int 0, .int (nI ak), .int (nI se), .ref sC, .ref sW, .ref sD, .int 23, .ref pG, .int iw9, .int 3, .ref wO, .ref fO, .ref mO, .ref cO, .long sn, .ref th, .int ik, .int (nI kt), .int (nI ku), .int (nI ks), .ref kK, .ref kL, .ref kC, .ref kW, .ref kD, .long hh])), (pG, .inl (cy 1, 26, .inl (fun j => nI (mp j))))] := hD
                                                          refine lv_aload_n hx hb dX5_tower_112 rfl (lv_at hl 2 rfl) ?_
                                                          refine lv_dup hx hb dX5_tower_113 rfl ?_
                                                          refine va_get (D := D) (ci := 5) (v := .int (nI tw)) (C := RX5) (T := TX5) (N := 30) hx hb hts hw_X5 hown hK hP 2 rfl rfl 0 (by decide) f_94 (fun _ h9 => h9) rfl dX5_tower_114 ?_
                                                          refine lv_iconst (v := 1) hx hb dX5_tower_117 (by decide) ?_
                                                          refine lv_iadd hx hb dX5_tower_118 ?_
                                                          refine lv_topi (fun y228 ey228 => ?_)
                                                          obtain rfl : y228 = nI (tw + 1) := ey228.trans ((nI_succ tw).symm)
                                                          refine va_put (D := D) (ci := 5) (v := .int (nI (tw + 1))) (ty := .int) (C := RX5) (T := TX5) (N := 30) hx hb hts hw_X5 tyX5 tyX5_ok nmX5 hown hK hP hD hS 2 rfl rfl 0 (by decide) f_94 (fun _ h9 => h9) rfl (tyX5_ok 0 (by decide)) rfl rfl (Nat.le_of_ble_eq_true rfl) dX5_tower_119 (fun H locs hP hD hS => ?_)
                                                          have hP : va_P D vwCl [(kO, .inl (cy 0, 3, .inl (fun j => nI ((va_up (va_up (va_up mk 0 (kn (mp 0))) 1 (kn (mp 8))) 2 (kn (mp 16))) j)))), (lO, .inl (cy 0, 3, .inl (upd (upd (upd ml 0 (pk1 (pk1 (pk1 (pk1 (pk1 (pk1 0 (mp 1) 0) (mp 2) 1) (mp 3) 2) (mp 4) 3) (mp 5) 4) (mp 6) 5)) 1 (pk1 (pk1 (pk1 (pk1 (pk1 (pk1 0 (mp 9) 0) (mp 10) 1) (mp 11) 2) (mp 12) 3) (mp 13) 4) (mp 14) 5)) 2 (pk1 (pk1 (pk1 (pk1 (pk1 (pk1 0 (mp 17) 0) (mp 18) 1) (mp 19) 2) (mp 20) 3) (mp 21) 4) (mp 22) 5)))), (m0, .inr (5, [.int (nI (tw + 1)), .int 3, .ref kO, .ref lO, .int 0, .int (nI ak), .int (nI se), .ref sC, .ref sW, .ref sD, .int 23, .ref pG, .int iw9, .int 3, .ref wO, .ref fO, .ref mO, .ref cO, .long sn, .ref th, .int ik, .int (nI kt), .int (nI ku), .int (nI ks), .ref kK, .ref kL, .ref kC, .ref kW, .ref kD, .long hh])), (pG, .inl (cy 1, 26, .inl (fun j => nI (mp j))))] H := hP
                                                          have hD : va_D A [(kO, .inl (cy 0, 3, .inl (fun j => nI ((va_up (va_up (va_up mk 0 (kn (mp 0))) 1 (kn (mp 8))) 2 (kn (mp 16))) j)))), (lO, .inl (cy 0, 3, .inl (upd (upd (upd ml 0 (pk1 (pk1 (pk1 (pk1 (pk1 (pk1 0 (mp 1) 0) (mp 2) 1) (mp 3) 2) (mp 4) 3) (mp 5) 4) (mp 6) 5)) 1 (pk1 (pk1 (pk1 (pk1 (pk1 (pk1 0 (mp 9) 0) (mp 10) 1) (mp 11) 2) (mp 12) 3) (mp 13) 4) (mp 14) 5)) 2 (pk1 (pk1 (pk1 (pk1 (pk1 (pk1 0 (mp 17) 0) (mp 18) 1) (mp 19) 2) (mp 20) 3) (mp 21) 4) (mp 22) 5)))), (m0, .inr (5, [.int (nI (tw + 1)), .int 3, .ref kO, .ref lO, .int 0, .int (nI ak), .int (nI se), .ref sC, .ref sW, .ref sD, .int 23, .ref pG, .int iw9, .int 3, .ref wO, .ref fO, .ref mO, .ref cO, .long sn, .ref th, .int ik, .int (nI kt), .int (nI ku), .int (nI ks), .ref kK, .ref kL, .ref kC, .ref kW, .ref kD, .long hh])), (pG, .inl (cy 1, 26, .inl (fun j => nI (mp j))))] := hD
                                                          refine lv_aload_n hx hb dX5_tower_122 rfl (lv_at hl 2 rfl) ?_
                                                          refine lv_iconst (v := 0) hx hb dX5_tower_123 (by decide) ?_
                                                          refine va_put (D := D) (ci := 5) (v := .int 0) (ty := .int) (C := RX5) (T := TX5) (N := 30) hx hb hts hw_X5 tyX5 tyX5_ok nmX5 hown hK hP hD hS 2 rfl rfl 6 (by decide) f_97 (fun _ h9 => h9) rfl (tyX5_ok 6 (by decide)) rfl rfl (Nat.le_of_ble_eq_true rfl) dX5_tower_124 (fun H locs hP hD hS => ?_)
                                                          have hP : va_P D vwCl [(kO, .inl (cy 0, 3, .inl (fun j => nI ((va_up (va_up (va_up mk 0 (kn (mp 0))) 1 (kn (mp 8))) 2 (kn (mp 16))) j)))), (lO, .inl (cy 0, 3, .inl (upd (upd (upd ml 0 (pk1 (pk1 (pk1 (pk1 (pk1 (pk1 0 (mp 1) 0) (mp 2) 1) (mp 3) 2) (mp 4) 3) (mp 5) 4) (mp 6) 5)) 1 (pk1 (pk1 (pk1 (pk1 (pk1 (pk1 0 (mp 9) 0) (mp 10) 1) (mp 11) 2) (mp 12) 3) (mp 13) 4) (mp 14) 5)) 2 (pk1 (pk1 (pk1 (pk1 (pk1 (pk1 0 (mp 17) 0) (mp 18) 1) (mp 19) 2) (mp 20) 3) (mp 21) 4) (mp 22) 5)))), (m0, .inr (5, [.int (nI (tw + 1)), .int 3, .ref kO, .ref lO, .int 0, .int (nI ak), .int 0, .ref sC, .ref sW, .ref sD, .int 23, .ref pG, .int iw9, .int 3, .ref wO, .ref fO, .ref mO, .ref cO, .long sn, .ref th, .int ik, .int (nI kt), .int (nI ku), .int (nI ks), .ref kK, .ref kL, .ref kC, .ref kW, .ref kD, .long hh])), (pG, .inl (cy 1, 26, .inl (fun j => nI (mp j))))] H := hP
                                                          have hD : va_D A [(kO, .inl (cy 0, 3, .inl (fun j => nI ((va_up (va_up (va_up mk 0 (kn (mp 0))) 1 (kn (mp 8))) 2 (kn (mp 16))) j)))), (lO, .inl (cy 0, 3, .inl (upd (upd (upd ml 0 (pk1 (pk1 (pk1 (pk1 (pk1 (pk1 0 (mp 1) 0) (mp 2) 1) (mp 3) 2) (mp 4) 3) (mp 5) 4) (mp 6) 5)) 1 (pk1 (pk1 (pk1 (pk1 (pk1 (pk1 0 (mp 9) 0) (mp 10) 1) (mp 11) 2) (mp 12) 3) (mp 13) 4) (mp 14) 5)) 2 (pk1 (pk1 (pk1 (pk1 (pk1 (pk1 0 (mp 17) 0) (mp 18) 1) (mp 19) 2) (mp 20) 3) (mp 21) 4) (mp 22) 5)))), (m0, .inr (5, [.int (nI (tw + 1)), .int 3, .ref kO, .ref lO, .int 0, .int (nI ak), .int 0, .ref sC, .ref sW, .ref sD, .int 23, .ref pG, .int iw9, .int 3, .ref wO, .ref fO, .ref mO, .ref cO, .long sn, .ref th, .int ik, .int (nI kt), .int (nI ku), .int (nI ks), .ref kK, .ref kL, .ref kC, .ref kW, .ref kD, .long hh])), (pG, .inl (cy 1, 26, .inl (fun j => nI (mp j))))] := hD
                                                          refine lv_aload_n hx hb dX5_tower_127 rfl (lv_at hl 2 rfl) ?_
                                                          refine lv_iconst (v := 0) hx hb dX5_tower_128 (by decide) ?_
                                                          refine va_put (D := D) (ci := 5) (v := .int 0) (ty := .int) (C := RX5) (T := TX5) (N := 30) hx hb hts hw_X5 tyX5 tyX5_ok nmX5 hown hK hP hD hS 2 rfl rfl 10 (by decide) f_63 (fun _ h9 => h9) rfl (tyX5_ok 10 (by decide)) rfl rfl (Nat.le_of_ble_eq_true rfl) dX5_tower_129 (fun H locs hP hD hS => ?_)
                                                          have hP : va_P D vwCl [(kO, .inl (cy 0, 3, .inl (fun j => nI ((va_up (va_up (va_up mk 0 (kn (mp 0))) 1 (kn (mp 8))) 2 (kn (mp 16))) j)))), (lO, .inl (cy 0, 3, .inl (upd (upd (upd ml 0 (pk1 (pk1 (pk1 (pk1 (pk1 (pk1 0 (mp 1) 0) (mp 2) 1) (mp 3) 2) (mp 4) 3) (mp 5) 4) (mp 6) 5)) 1 (pk1 (pk1 (pk1 (pk1 (pk1 (pk1 0 (mp 9) 0) (mp 10) 1) (mp 11) 2) (mp 12) 3) (mp 13) 4) (mp 14) 5)) 2 (pk1 (pk1 (pk1 (pk1 (pk1 (pk1 0 (mp 17) 0) (mp 18) 1) (mp 19) 2) (mp 20) 3) (mp 21) 4) (mp 22) 5)))), (m0, .inr (5, [.int (nI (tw + 1)), .int 3, .ref kO, .ref lO, .int 0, .int (nI ak), .int 0, .ref sC, .ref sW, .ref sD, .int 0, .ref pG, .int iw9, .int 3, .ref wO, .ref fO, .ref mO, .ref cO, .long sn, .ref th, .int ik, .int (nI kt), .int (nI ku), .int (nI ks), .ref kK, .ref kL, .ref kC, .ref kW, .ref kD, .long hh])), (pG, .inl (cy 1, 26, .inl (fun j => nI (mp j))))] H := hP
                                                          have hD : va_D A [(kO, .inl (cy 0, 3, .inl (fun j => nI ((va_up (va_up (va_up mk 0 (kn (mp 0))) 1 (kn (mp 8))) 2 (kn (mp 16))) j)))), (lO, .inl (cy 0, 3, .inl (upd (upd (upd ml 0 (pk1 (pk1 (pk1 (pk1 (pk1 (pk1 0 (mp 1) 0) (mp 2) 1) (mp 3) 2) (mp 4) 3) (mp 5) 4) (mp 6) 5)) 1 (pk1 (pk1 (pk1 (pk1 (pk1 (pk1 0 (mp 9) 0) (mp 10) 1) (mp 11) 2) (mp 12) 3) (mp 13) 4) (mp 14) 5)) 2 (pk1 (pk1 (pk1 (pk1 (pk1 (pk1 0 (mp 17) 0) (mp 18) 1) (mp 19) 2) (mp 20) 3) (mp 21) 4) (mp 22) 5)))), (m0, .inr (5, [.int (nI (tw + 1)), .int 3, .ref kO, .ref lO, .int 0, .int (nI ak), .int 0, .ref sC, .ref sW, .ref sD, .int 0, .ref pG, .int iw9, .int 3, .ref wO, .ref fO, .ref mO, .ref cO, .long sn, .ref th, .int ik, .int (nI kt), .int (nI ku), .int (nI ks), .ref kK, .ref kL, .ref kC, .ref kW, .ref kD, .long hh])), (pG, .inl (cy 1, 26, .inl (fun j => nI (mp j))))] := hD
                                                          refine lv_aload_n hx hb dX5_tower_132 rfl (lv_at hl 2 rfl) ?_
                                                          refine va_get (D := D) (ci := 5) (v := .int 3) (C := RX5) (T := TX5) (N := 30) hx hb hts hw_X5 hown hK hP 2 rfl rfl 1 (by decide) f_88 (fun _ h9 => h9) rfl dX5_tower_133 ?_
                                                          have hP9 := hP.sub (ws' := [(m0, .inr (5, [.int (nI (tw + 1)), .int (nI 3), .ref kO, .ref lO, .int (nI 0), .int (nI ak), .int (nI 0), .ref sC, .ref sW, .ref sD, .int (nI 0), .ref pG, .int iw9, .int (nI 3), .ref wO, .ref fO, .ref mO, .ref cO, .long sn, .ref th, .int ik, .int (nI kt), .int (nI ku), .int (nI ks), .ref kK, .ref kL, .ref kC, .ref kW, .ref kD, .long hh])), (pG, .inl (cy 1, 26, .inl (fun j => nI (mp j)))), (kO, .inl (cy 0, 3, .inl (fun j => nI ((va_up (va_up (va_up mk 0 (kn (mp 0))) 1 (kn (mp 8))) 2 (kn (mp 16))) j)))), (lO, .inl (cy 0, 3, .inl (upd (upd (upd ml 0 (pk1 (pk1 (pk1 (pk1 (pk1 (pk1 0 (mp 1) 0) (mp 2) 1) (mp 3) 2) (mp 4) 3) (mp 5) 4) (mp 6) 5)) 1 (pk1 (pk1 (pk1 (pk1 (pk1 (pk1 0 (mp 9) 0) (mp 10) 1) (mp 11) 2) (mp 12) 3) (mp 13) 4) (mp 14) 5)) 2 (pk1 (pk1 (pk1 (pk1 (pk1 (pk1 0 (mp 17) 0) (mp 18) 1) (mp 19) 2) (mp 20) 3) (mp 21) 4) (mp 22) 5))))]) [2, 3, 0, 1] rfl
                                                          have hD9 := hD.sub (ws' := [(m0, .inr (5, [.int (nI (tw + 1)), .int (nI 3), .ref kO, .ref lO, .int (nI 0), .int (nI ak), .int (nI 0), .ref sC, .ref sW, .ref sD, .int (nI 0), .ref pG, .int iw9, .int (nI 3), .ref wO, .ref fO, .ref mO, .ref cO, .long sn, .ref th, .int ik, .int (nI kt), .int (nI ku), .int (nI ks), .ref kK, .ref kL, .ref kC, .ref kW, .ref kD, .long hh])), (pG, .inl (cy 1, 26, .inl (fun j => nI (mp j)))), (kO, .inl (cy 0, 3, .inl (fun j => nI ((va_up (va_up (va_up mk 0 (kn (mp 0))) 1 (kn (mp 8))) 2 (kn (mp 16))) j)))), (lO, .inl (cy 0, 3, .inl (upd (upd (upd ml 0 (pk1 (pk1 (pk1 (pk1 (pk1 (pk1 0 (mp 1) 0) (mp 2) 1) (mp 3) 2) (mp 4) 3) (mp 5) 4) (mp 6) 5)) 1 (pk1 (pk1 (pk1 (pk1 (pk1 (pk1 0 (mp 9) 0) (mp 10) 1) (mp 11) 2) (mp 12) 3) (mp 13) 4) (mp 14) 5)) 2 (pk1 (pk1 (pk1 (pk1 (pk1 (pk1 0 (mp 17) 0) (mp 18) 1) (mp 19) 2) (mp 20) 3) (mp 21) 4) (mp 22) 5))))]) [2, 3, 0, 1] (by decide +kernel) rfl
                                                          exact W.iret (v := 3) hx hb hr (fun t9 ht9 hW9 => ⟨⟨3, [(m0, .inr (5, [.int (nI (tw + 1)), .int (nI 3), .ref kO, .ref lO, .int (nI 0), .int (nI ak), .int (nI 0), .ref sC, .ref sW, .ref sD, .int (nI 0), .ref pG, .int iw9, .int (nI 3), .ref wO, .ref fO, .ref mO, .ref cO, .long sn, .ref th, .int ik, .int (nI kt), .int (nI ku), .int (nI ks), .ref kK, .ref kL, .ref kC, .ref kW, .ref kD, .long hh])), (pG, .inl (cy 1, 26, .inl (fun j => nI (mp j)))), (kO, .inl (cy 0, 3, .inl (fun j => nI ((va_up (va_up (va_up mk 0 (kn (mp 0))) 1 (kn (mp 8))) 2 (kn (mp 16))) j)))), (lO, .inl (cy 0, 3, .inl (upd (upd (upd ml 0 (pk1 (pk1 (pk1 (pk1 (pk1 (pk1 0 (mp 1) 0) (mp 2) 1) (mp 3) 2) (mp 4) 3) (mp 5) 4) (mp 6) 5)) 1 (pk1 (pk1 (pk1 (pk1 (pk1 (pk1 0 (mp 9) 0) (mp 10) 1) (mp 11) 2) (mp 12) 3) (mp 13) 4) (mp 14) 5)) 2 (pk1 (pk1 (pk1 (pk1 (pk1 (pk1 0 (mp 17) 0) (mp 18) 1) (mp 19) 2) (mp 20) 3) (mp 21) 4) (mp 22) 5))))], rfl, ⟨iw9, 3, 3, 0, (tw + 1), 0, 0, (va_up (va_up (va_up mk 0 (kn (mp 0))) 1 (kn (mp 8))) 2 (kn (mp 16))), (upd (upd (upd ml 0 (pk1 (pk1 (pk1 (pk1 (pk1 (pk1 0 (mp 1) 0) (mp 2) 1) (mp 3) 2) (mp 4) 3) (mp 5) 4) (mp 6) 5)) 1 (pk1 (pk1 (pk1 (pk1 (pk1 (pk1 0 (mp 9) 0) (mp 10) 1) (mp 11) 2) (mp 12) 3) (mp 13) 4) (mp 14) 5)) 2 (pk1 (pk1 (pk1 (pk1 (pk1 (pk1 0 (mp 17) 0) (mp 18) 1) (mp 19) 2) (mp 20) 3) (mp 21) 4) (mp 22) 5)), rfl, (Or.inr ⟨3, by decide, rfl, hfm, rfl, rfl, rfl, rfl, rfl, rfl, (fun j => by simp only [va_up]; split; exact Or.inr (kn5 _); split; exact Or.inr (kn5 _); split; exact Or.inr (kn5 _); exact Or.inl rfl)⟩), (fun z9 h9 hz9 => by rcases hz9 with rfl | rfl; exact absurd h9 (by decide); exact ⟨rfl, rfl⟩)⟩, by rw [ht9]; exact hP9, hD9⟩, hS.F ht9⟩) hS.2.2 dX5_tower_136
                                                        · exact absurd c_30 (by decide)
                                                      · exact absurd c_63 (by decide)
                                      · exact absurd c_63 (by decide)
                      · exact absurd c_63 (by decide)
    · exact absurd hw9 c_9
  · refine lv_bipush (v := (-103)) hx hb dX5_tower_12 (by decide) ?_
    have hP9 := hP.sub (ws' := [(m0, .inr (5, [.int (nI tw), .int (nI cb), .ref kO, .ref lO, .int (nI tu), .int (nI ak), .int (nI se), .ref sC, .ref sW, .ref sD, .int (nI pl), .ref pG, .int iw9, .int (nI nc9), .ref wO, .ref fO, .ref mO, .ref cO, .long sn, .ref th, .int ik, .int (nI kt), .int (nI ku), .int (nI ks), .ref kK, .ref kL, .ref kC, .ref kW, .ref kD, .long hh])), (pG, .inl (cy 1, 26, .inl (fun j => nI (mp j)))), (kO, .inl (cy 0, 3, .inl (fun j => nI (mk j)))), (lO, .inl (cy 0, 3, .inl ml))]) [2, 3, 0, 1] rfl
    have hD9 := hD.sub (ws' := [(m0, .inr (5, [.int (nI tw), .int (nI cb), .ref kO, .ref lO, .int (nI tu), .int (nI ak), .int (nI se), .ref sC, .ref sW, .ref sD, .int (nI pl), .ref pG, .int iw9, .int (nI nc9), .ref wO, .ref fO, .ref mO, .ref cO, .long sn, .ref th, .int ik, .int (nI kt), .int (nI ku), .int (nI ks), .ref kK, .ref kL, .ref kC, .ref kW, .ref kD, .long hh])), (pG, .inl (cy 1, 26, .inl (fun j => nI (mp j)))), (kO, .inl (cy 0, 3, .inl (fun j => nI (mk j)))), (lO, .inl (cy 0, 3, .inl ml))]) [2, 3, 0, 1] (by decide +kernel) rfl
    exact W.iret (v := (-103)) hx hb hr (fun t9 ht9 hW9 => ⟨⟨(-103), [(m0, .inr (5, [.int (nI tw), .int (nI cb), .ref kO, .ref lO, .int (nI tu), .int (nI ak), .int (nI se), .ref sC, .ref sW, .ref sD, .int (nI pl), .ref pG, .int iw9, .int (nI nc9), .ref wO, .ref fO, .ref mO, .ref cO, .long sn, .ref th, .int ik, .int (nI kt), .int (nI ku), .int (nI ks), .ref kK, .ref kL, .ref kC, .ref kW, .ref kD, .long hh])), (pG, .inl (cy 1, 26, .inl (fun j => nI (mp j)))), (kO, .inl (cy 0, 3, .inl (fun j => nI (mk j)))), (lO, .inl (cy 0, 3, .inl ml))], rfl, ⟨iw9, nc9, cb, tu, tw, se, pl, mk, ml, rfl, (Or.inl ⟨rfl, rfl, rfl, rfl, rfl, rfl, rfl, rfl, e9, hfm, rd_no hrw c_9⟩), (fun z9 h9 hz9 => by rcases hz9 with rfl | rfl <;> exact absurd h9 (by decide))⟩, by rw [ht9]; exact hP9, hD9⟩, hS.F ht9⟩) hS.2.2 dX5_tower_14
