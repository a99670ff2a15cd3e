def q_X2_clashesOn (cy : Nat → ClassId) (h0 : Nat) (ar : Nat) (c0 : Nat) (r0 : Nat) (c1 : Nat) (r1 : Nat) (c2 : Nat) (r2 : Nat) (sz : Nat) (tn : Int32) (sn : Int32) (k0 : Int32) (s0 : Int32) (k1 : Int32) (s1 : Int32) (k2 : Int32) (s2 : Int32) (f0 : Nat → Int32) (f1 : Nat → Int32) (f2 : Nat → Int32) (w : Nat) : Int32 → va_W → Prop := fun (r : Int32) (u : va_W) => u = [(h0, .inr (2, [.int (nI sz), .int tn, .int sn, .ref ar])), (ar, .inl (cy 2, 3, .inr (.inr (.inr (.inr (va_up (va_up (va_up (fun _ => none) 0 (some c0)) 1 (some c1)) 2 (some c2))))))), (c0, .inr (0, [.int k0, .int s0, .ref r0])), (r0, .inl (cy 0, 6, .inl f0)), (c1, .inr (0, [.int k1, .int s1, .ref r1])), (r1, .inl (cy 0, 6, .inl f1)), (c2, .inr (0, [.int k2, .int s2, .ref r2])), (r2, .inl (cy 0, 6, .inl f2))] ∧ r = nI (clOn sz f0 f1 f2 (2 + w))
set_option maxHeartbeats 4000000 in
set_option maxRecDepth 100000 in
theorem g_X2_clashesOn (l : Launch) (D : va_G) (cy : Nat → ClassId) (zz : Nat) (h0 : Nat) (ar : Nat) (c0 : Nat) (r0 : Nat) (c1 : Nat) (r1 : Nat) (c2 : Nat) (r2 : Nat) (sz : Nat) (tn : Int32) (sn : Int32) (k0 : Int32) (s0 : Int32) (k1 : Int32) (s1 : Int32) (k2 : Int32) (s2 : Int32) (f0 : Nat → Int32) (f1 : Nat → Int32) (f2 : Nat → Int32) (w : Nat) (hsz : sz = 0 ∨ sz = 2 ∨ sz = 3) (hw : w < 4) : Met l yX2_clashesOn wsX2_clashesOn ({ frames := 0, cells := 0, slots := 0, locals := 0 } : Room) (va_Pc [.ref h0, .int (nI w)] (cpre D cy [(h0, .inr (2, [.int (nI sz), .int tn, .int sn, .ref ar])), (ar, .inl (cy 2, 3, .inr (.inr (.inr (.inr (va_up (va_up (va_up (fun _ => none) 0 (some c0)) 1 (some c1)) 2 (some c2))))))), (c0, .inr (0, [.int k0, .int s0, .ref r0])), (r0, .inl (cy 0, 6, .inl f0)), (c1, .inr (0, [.int k1, .int s1, .ref r1])), (r1, .inl (cy 0, 6, .inl f1)), (c2, .inr (0, [.int k2, .int s2, .ref r2])), (r2, .inl (cy 0, 6, .inl f2))] zz)) (va_Qi (q_X2_clashesOn cy h0 ar c0 r0 c1 r1 c2 r2 sz tn sn k0 s0 k1 s1 k2 s2 f0 f1 f2 w) (cpost D (va_A [(h0, .inr (2, [.int (nI sz), .int tn, .int sn, .ref ar])), (ar, .inl (cy 2, 3, .inr (.inr (.inr (.inr (va_up (va_up (va_up (fun _ => none) 0 (some c0)) 1 (some c1)) 2 (some c2))))))), (c0, .inr (0, [.int k0, .int s0, .ref r0])), (r0, .inl (cy 0, 6, .inl f0)), (c1, .inr (0, [.int k1, .int s1, .ref r1])), (r1, .inl (cy 0, 6, .inl f1)), (c2, .inr (0, [.int k2, .int s2, .ref r2])), (r2, .inl (cy 0, 6, .inl f2))] zz)) (va_A [(h0, .inr (2, [.int (nI sz), .int tn, .int sn, .ref ar])), (ar, .inl (cy 2, 3, .inr (.inr (.inr (.inr (va_up (va_up (va_up (fun _ => none) 0 (some c0)) 1 (some c1)) 2 (some c2))))))), (c0, .inr (0, [.int k0, .int s0, .ref r0])), (r0, .inl (cy 0, 6, .inl f0)), (c1, .inr (0, [.int k1, .int s1, .ref r1])), (r1, .inl (cy 0, 6, .inl f1)), (c2, .inr (0, [.int k2, .int s2, .ref r2])), (r2, .inl (cy 0, 6, .inl f2))] zz)) 0 0 (va_A [(h0, .inr (2, [.int (nI sz), .int tn, .int sn, .ref ar])), (ar, .inl (cy 2, 3, .inr (.inr (.inr (.inr (va_up (va_up (va_up (fun _ => none) 0 (some c0)) 1 (some c1)) 2 (some c2))))))), (c0, .inr (0, [.int k0, .int s0, .ref r0])), (r0, .inl (cy 0, 6, .inl f0)), (c1, .inr (0, [.int k1, .int s1, .ref r1])), (r1, .inl (cy 0, 6, .inl f1)), (c2, .inr (0, [.int k2, .int s2, .ref r2])), (r2, .inl (cy 0, 6, .inl f2))] zz) := by
  refine Met.ofW (cc := cX2_clashesOn) (maxL := 6) (ret := (some .int)) (by decide) rfl ?_
  intro p e s m args below meth c s₁ B hml hv
  obtain ⟨rfl, hsz, hP, hD0, hX⟩ := hv
  have hx := B.exec
  have hb := B.bytes
  have hr := B.returns
  have hts := atoms_spec (ws := wsX2_clashesOn) B.pre
  have hown : s.vm.findClass RX2 = some m.cls := findClass_of_methodNamed B.named
  have hlocks := B.notSynchronized
  subst hsz
  have hD := hD0.self (sz := s.heap.size)
  generalize hAe : va_A [(h0, .inr (2, [.int (nI sz), .int tn, .int sn, .ref ar])), (ar, .inl (cy 2, 3, .inr (.inr (.inr (.inr (va_up (va_up (va_up (fun _ => none) 0 (some c0)) 1 (some c1)) 2 (some c2))))))), (c0, .inr (0, [.int k0, .int s0, .ref r0])), (r0, .inl (cy 0, 6, .inl f0)), (c1, .inr (0, [.int k1, .int s1, .ref r1])), (r1, .inl (cy 0, 6, .inl f1)), (c2, .inr (0, [.int k2, .int s2, .ref r2])), (r2, .inl (cy 0, 6, .inl f2))] s.heap.size = A at hD hX ⊢
  have hA : ∀ q : Nat, s.heap.size ≤ q → A q := fun q h => by rw [← hAe]; exact Or.inr h
  obtain ⟨H, hH⟩ : ∃ H : Heap, H = s.heap := ⟨_, rfl⟩
  have hS : va_S A s.heap H [] := hH ▸ va_S.rf
  have hK := hX.1
  have hP : va_P D vwCl [(h0, .inr (2, [.int (nI sz), .int tn, .int sn, .ref ar])), (ar, .inl (cy 2, 3, .inr (.inr (.inr (.inr (va_up (va_up (va_up (fun _ => none) 0 (some c0)) 1 (some c1)) 2 (some c2))))))), (c0, .inr (0, [.int k0, .int s0, .ref r0])), (r0, .inl (cy 0, 6, .inl f0)), (c1, .inr (0, [.int k1, .int s1, .ref r1])), (r1, .inl (cy 0, 6, .inl f1)), (c2, .inr (0, [.int k2, .int s2, .ref r2])), (r2, .inl (cy 0, 6, .inl f2))] H := hH ▸ hP
  rw [← hH]
  have hw_X0 : ∀ w ∈ wsX00, w ∈ wsX2_clashesOn := chX0 (by decide +kernel)
  have hw_X2 : ∀ w ∈ wsX20, w ∈ wsX2_clashesOn := chX2 (by decide +kernel)
  have f_18 := hts (.fieldLink RX2 18 "CubeTower$Tower" "size" "I") (inC wa_717 (by decide +kernel))
  have f_12 := hts (.fieldLink RX2 12 "CubeTower$Tower" "cubes" "[LCubeTower$Cube;") (inC wa_70 (by decide +kernel))
  have f_35 := hts (.fieldLink RX2 35 "CubeTower$Cube" "colours" "[I") (inC wa_906 (by decide +kernel))
  have hl := lv_entry ([.ref h0, .int (nI w)]) (n := 6) (Nat.le_of_ble_eq_true rfl)
  rw [lg_entry_eq]
  generalize (lg_sl ([.ref h0, .int (nI w)]) ++ List.replicate (6 - (lg_sl ([.ref h0, .int (nI w)])).length) Slot.unset).toArray = ls at hl ⊢
  have hl : lv_has ls 6 [(0, .ref h0), (1, .int (nI w))] := hl
  rcases hsz with rfl | rfl | rfl
  · have hP : va_P D vwCl [(h0, .inr (2, [.int 0, .int tn, .int sn, .ref ar])), (ar, .inl (cy 2, 3, .inr (.inr (.inr (.inr (va_up (va_up (va_up (fun _ => none) 0 (some c0)) 1 (some c1)) 2 (some c2))))))), (c0, .inr (0, [.int k0, .int s0, .ref r0])), (r0, .inl (cy 0, 6, .inl f0)), (c1, .inr (0, [.int k1, .int s1, .ref r1])), (r1, .inl (cy 0, 6, .inl f1)), (c2, .inr (0, [.int k2, .int s2, .ref r2])), (r2, .inl (cy 0, 6, .inl f2))] H := hP
    have hD : va_D A [(h0, .inr (2, [.int 0, .int tn, .int sn, .ref ar])), (ar, .inl (cy 2, 3, .inr (.inr (.inr (.inr (va_up (va_up (va_up (fun _ => none) 0 (some c0)) 1 (some c1)) 2 (some c2))))))), (c0, .inr (0, [.int k0, .int s0, .ref r0])), (r0, .inl (cy 0, 6, .inl f0)), (c1, .inr (0, [.int k1, .int s1, .ref r1])), (r1, .inl (cy 0, 6, .inl f1)), (c2, .inr (0, [.int k2, .int s2, .ref r2])), (r2, .inl (cy 0, 6, .inl f2))] := hD
    refine lv_iconst (v := 2) hx hb dX2_clashesOn_0 (by decide) ?_
    refine lv_iload_n hx hb dX2_clashesOn_1 rfl (lv_at hl 1 rfl) ?_
    refine lv_iadd hx hb dX2_clashesOn_2 ?_
    refine lv_topi (fun y1 ey1 => ?_)
    obtain rfl : y1 = nI (2 + w) := ey1.trans ((nIa 2 w))
    refine lv_istore_n (lv' := [(2, .int (nI (2 + w))), (0, .ref h0), (1, .int (nI w))]) hx hb dX2_clashesOn_3 rfl hl (by decide) rfl (fun ls hl => ?_)
    refine lv_iconst (v := 0) hx hb dX2_clashesOn_4 (by decide) ?_
    refine lv_istore_n (lv' := [(3, .int 0), (2, .int (nI (2 + w))), (0, .ref h0), (1, .int (nI w))]) hx hb dX2_clashesOn_5 rfl hl (by decide) rfl (fun ls hl => ?_)
    refine lv_iconst (v := 1) hx hb dX2_clashesOn_6 (by decide) ?_
    refine lv_istore (lv' := [(4, .int 1), (3, .int 0), (2, .int (nI (2 + w))), (0, .ref h0), (1, .int (nI w))]) hx hb dX2_clashesOn_7 hl (by decide) rfl (fun ls hl => ?_)
    refine lv_iload hx hb dX2_clashesOn_9 (lv_at hl 0 rfl) ?_
    refine lv_aload_n hx hb dX2_clashesOn_11 rfl (lv_at hl 3 rfl) ?_
    refine va_get (D := D) (ci := 2) (v := .int 0) (C := RX2) (T := TX2) (N := 4) hx hb hts hw_X2 hown hK hP 0 rfl rfl 0 (by decide) f_18 (fun _ h9 => h9) rfl dX2_clashesOn_12 ?_
    refine lv_icmp_ge (tgt := 76) hx hb dX2_clashesOn_15 (by decide) (fun c_15 => ?_) (fun c_15 => ?_)
    · refine lv_iload_n hx hb dX2_clashesOn_76 rfl (lv_at hl 1 rfl) ?_
      have hP9 := hP.sub (ws' := [(h0, .inr (2, [.int (nI 0), .int tn, .int sn, .ref ar])), (ar, .inl (cy 2, 3, .inr (.inr (.inr (.inr (va_up (va_up (va_up (fun _ => none) 0 (some c0)) 1 (some c1)) 2 (some c2))))))), (c0, .inr (0, [.int k0, .int s0, .ref r0])), (r0, .inl (cy 0, 6, .inl f0)), (c1, .inr (0, [.int k1, .int s1, .ref r1])), (r1, .inl (cy 0, 6, .inl f1)), (c2, .inr (0, [.int k2, .int s2, .ref r2])), (r2, .inl (cy 0, 6, .inl f2))]) [0, 1, 2, 3, 4, 5, 6, 7] rfl
      have hD9 := hD.sub (ws' := [(h0, .inr (2, [.int (nI 0), .int tn, .int sn, .ref ar])), (ar, .inl (cy 2, 3, .inr (.inr (.inr (.inr (va_up (va_up (va_up (fun _ => none) 0 (some c0)) 1 (some c1)) 2 (some c2))))))), (c0, .inr (0, [.int k0, .int s0, .ref r0])), (r0, .inl (cy 0, 6, .inl f0)), (c1, .inr (0, [.int k1, .int s1, .ref r1])), (r1, .inl (cy 0, 6, .inl f1)), (c2, .inr (0, [.int k2, .int s2, .ref r2])), (r2, .inl (cy 0, 6, .inl f2))]) [0, 1, 2, 3, 4, 5, 6, 7] (by decide +kernel) rfl
      exact W.iret (v := 0) hx hb hr (fun t9 ht9 hW9 => ⟨⟨0, [(h0, .inr (2, [.int (nI 0), .int tn, .int sn, .ref ar])), (ar, .inl (cy 2, 3, .inr (.inr (.inr (.inr (va_up (va_up (va_up (fun _ => none) 0 (some c0)) 1 (some c1)) 2 (some c2))))))), (c0, .inr (0, [.int k0, .int s0, .ref r0])), (r0, .inl (cy 0, 6, .inl f0)), (c1, .inr (0, [.int k1, .int s1, .ref r1])), (r1, .inl (cy 0, 6, .inl f1)), (c2, .inr (0, [.int k2, .int s2, .ref r2])), (r2, .inl (cy 0, 6, .inl f2))], rfl, ⟨rfl, rfl⟩, by rw [ht9]; exact hP9, hD9⟩, hS.F ht9⟩) hS.2.2 dX2_clashesOn_77
    · exact absurd c_15 (by decide)
  · have hP : va_P D vwCl [(h0, .inr (2, [.int 2, .int tn, .int sn, .ref ar])), (ar, .inl (cy 2, 3, .inr (.inr (.inr (.inr (va_up (va_up (va_up (fun _ => none) 0 (some c0)) 1 (some c1)) 2 (some c2))))))), (c0, .inr (0, [.int k0, .int s0, .ref r0])), (r0, .inl (cy 0, 6, .inl f0)), (c1, .inr (0, [.int k1, .int s1, .ref r1])), (r1, .inl (cy 0, 6, .inl f1)), (c2, .inr (0, [.int k2, .int s2, .ref r2])), (r2, .inl (cy 0, 6, .inl f2))] H := hP
    have hD : va_D A [(h0, .inr (2, [.int 2, .int tn, .int sn, .ref ar])), (ar, .inl (cy 2, 3, .inr (.inr (.inr (.inr (va_up (va_up (va_up (fun _ => none) 0 (some c0)) 1 (some c1)) 2 (some c2))))))), (c0, .inr (0, [.int k0, .int s0, .ref r0])), (r0, .inl (cy 0, 6, .inl f0)), (c1, .inr (0, [.int k1, .int s1, .ref r1])), (r1, .inl (cy 0, 6, .inl f1)), (c2, .inr (0, [.int k2, .int s2, .ref r2])), (r2, .inl (cy 0, 6, .inl f2))] := hD
    refine lv_iconst (v := 2) hx hb dX2_clashesOn_0 (by decide) ?_
    refine lv_iload_n hx hb dX2_clashesOn_1 rfl (lv_at hl 1 rfl) ?_
    refine lv_iadd hx hb dX2_clashesOn_2 ?_
    refine lv_topi (fun y2 ey2 => ?_)
    obtain rfl : y2 = nI (2 + w) := ey2.trans ((nIa 2 w))
    refine lv_istore_n (lv' := [(2, .int (nI (2 + w))), (0, .ref h0), (1, .int (nI w))]) hx hb dX2_clashesOn_3 rfl hl (by decide) rfl (fun ls hl => ?_)
    refine lv_iconst (v := 0) hx hb dX2_clashesOn_4 (by decide) ?_
    refine lv_istore_n (lv' := [(3, .int 0), (2, .int (nI (2 + w))), (0, .ref h0), (1, .int (nI w))]) hx hb dX2_clashesOn_5 rfl hl (by decide) rfl (fun ls hl => ?_)
    refine lv_iconst (v := 1) hx hb dX2_clashesOn_6 (by decide) ?_
    refine lv_istore (lv' := [(4, .int 1), (3, .int 0), (2, .int (nI (2 + w))), (0, .ref h0), (1, .int (nI w))]) hx hb dX2_clashesOn_7 hl (by decide) rfl (fun ls hl => ?_)
    refine lv_iload hx hb dX2_clashesOn_9 (lv_at hl 0 rfl) ?_
    refine lv_aload_n hx hb dX2_clashesOn_11 rfl (lv_at hl 3 rfl) ?_
    refine va_get (D := D) (ci := 2) (v := .int 2) (C := RX2) (T := TX2) (N := 4) hx hb hts hw_X2 hown hK hP 0 rfl rfl 0 (by decide) f_18 (fun _ h9 => h9) rfl dX2_clashesOn_12 ?_
    refine lv_icmp_ge (tgt := 76) hx hb dX2_clashesOn_15 (by decide) (fun c_15 => ?_) (fun c_15 => ?_)
    · exact absurd c_15 (by decide)
    · refine lv_iload hx hb dX2_clashesOn_18 (lv_at hl 0 rfl) ?_
      refine lv_iconst (v := 3) hx hb dX2_clashesOn_20 (by decide) ?_
      refine lv_icmp_ge (tgt := 76) hx hb dX2_clashesOn_21 (by decide) (fun c_21 => ?_) (fun c_21 => ?_)
      · exact absurd c_21 (by decide)
      · refine lv_iconst (v := 0) hx hb dX2_clashesOn_24 (by decide) ?_
        refine lv_istore (lv' := [(5, .int 0), (4, .int 1), (3, .int 0), (2, .int (nI (2 + w))), (0, .ref h0), (1, .int (nI w))]) hx hb dX2_clashesOn_25 hl (by decide) rfl (fun ls hl => ?_)
        refine lv_iload hx hb dX2_clashesOn_27 (lv_at hl 0 rfl) ?_
        refine lv_iload hx hb dX2_clashesOn_29 (lv_at hl 1 rfl) ?_
        refine lv_icmp_ge (tgt := 70) hx hb dX2_clashesOn_31 (by decide) (fun c_31 => ?_) (fun c_31 => ?_)
        · exact absurd c_31 (by decide)
        · refine lv_aload_n hx hb dX2_clashesOn_34 rfl (lv_at hl 4 rfl) ?_
          refine va_get (D := D) (ci := 2) (v := .ref ar) (C := RX2) (T := TX2) (N := 4) hx hb hts hw_X2 hown hK hP 0 rfl rfl 3 (by decide) f_12 (fun _ h9 => h9) rfl dX2_clashesOn_35 ?_
          refine lv_iload hx hb dX2_clashesOn_38 (lv_at hl 1 rfl) ?_
          refine va_aldq hx hb hK hP 1 2 rfl rfl (vi_c (by decide +kernel)) dX2_clashesOn_40 ?_
          refine kq (a := c1) (rfl) ?_
          refine va_get (D := D) (ci := 0) (v := .ref r1) (C := RX0) (T := TX0) (N := 3) hx hb hts hw_X0 hown hK hP 4 rfl rfl 2 (by decide) f_35 (fun _ h9 => h9) rfl dX2_clashesOn_41 ?_
          refine lv_iload_n hx hb dX2_clashesOn_44 rfl (lv_at hl 3 rfl) ?_
          refine va_iald hx hb hK hP 5 0 rfl rfl (nI_in (by omega) (by decide)) dX2_clashesOn_45 ?_
          refine lv_topi (fun y3 ey3 => ?_)
          obtain rfl : y3 = f1 (2 + w) := ey3.trans (congrArg f1 (nI_clamp (by omega)))
          refine lv_aload_n hx hb dX2_clashesOn_46 rfl (lv_at hl 4 rfl) ?_
          refine va_get (D := D) (ci := 2) (v := .ref ar) (C := RX2) (T := TX2) (N := 4) hx hb hts hw_X2 hown hK hP 0 rfl rfl 3 (by decide) f_12 (fun _ h9 => h9) rfl dX2_clashesOn_47 ?_
          refine lv_iload hx hb dX2_clashesOn_50 (lv_at hl 0 rfl) ?_
          refine va_aldq hx hb hK hP 1 2 rfl rfl (vi_c (by decide +kernel)) dX2_clashesOn_52 ?_
          refine kq (a := c0) (rfl) ?_
          refine va_get (D := D) (ci := 0) (v := .ref r0) (C := RX0) (T := TX0) (N := 3) hx hb hts hw_X0 hown hK hP 2 rfl rfl 2 (by decide) f_35 (fun _ h9 => h9) rfl dX2_clashesOn_53 ?_
          refine lv_iload_n hx hb dX2_clashesOn_56 rfl (lv_at hl 3 rfl) ?_
          refine va_iald hx hb hK hP 3 0 rfl rfl (nI_in (by omega) (by decide)) dX2_clashesOn_57 ?_
          refine lv_topi (fun y4 ey4 => ?_)
          obtain rfl : y4 = f0 (2 + w) := ey4.trans (congrArg f0 (nI_clamp (by omega)))
          refine lv_icmp_ne (tgt := 64) hx hb dX2_clashesOn_58 (by decide) (fun c_58_0 => ?_) (fun c_58_0 => ?_)
          · refine lv_iinc (v := 1) (lv' := [(5, .int 1), (4, .int 1), (3, .int 0), (2, .int (nI (2 + w))), (0, .ref h0), (1, .int (nI w))]) hx hb dX2_clashesOn_64 hl (k := 0) rfl (by decide) (by decide) rfl (fun ls hl => ?_)
            refine lv_goto (tgt := 27) hx hb dX2_clashesOn_67 (by decide) ?_
            refine lv_iload hx hb dX2_clashesOn_27 (lv_at hl 0 rfl) ?_
            refine lv_iload hx hb dX2_clashesOn_29 (lv_at hl 1 rfl) ?_
            refine lv_icmp_ge (tgt := 70) hx hb dX2_clashesOn_31 (by decide) (fun c_31 => ?_) (fun c_31 => ?_)
            · refine lv_iinc (v := 2) (lv' := [(4, .int 2), (5, .int 1), (3, .int 0), (2, .int (nI (2 + w))), (0, .ref h0), (1, .int (nI w))]) hx hb dX2_clashesOn_70 hl (k := 1) rfl (by decide) (by decide) rfl (fun ls hl => ?_)
              refine lv_goto (tgt := 9) hx hb dX2_clashesOn_73 (by decide) ?_
              refine lv_iload hx hb dX2_clashesOn_9 (lv_at hl 0 rfl) ?_
              refine lv_aload_n hx hb dX2_clashesOn_11 rfl (lv_at hl 4 rfl) ?_
              refine va_get (D := D) (ci := 2) (v := .int 2) (C := RX2) (T := TX2) (N := 4) hx hb hts hw_X2 hown hK hP 0 rfl rfl 0 (by decide) f_18 (fun _ h9 => h9) rfl dX2_clashesOn_12 ?_
              refine lv_icmp_ge (tgt := 76) hx hb dX2_clashesOn_15 (by decide) (fun c_15 => ?_) (fun c_15 => ?_)
              · refine lv_iload_n hx hb dX2_clashesOn_76 rfl (lv_at hl 2 rfl) ?_
                have hP9 := hP.sub (ws' := [(h0, .inr (2, [.int (nI 2), .int tn, .int sn, .ref ar])), (ar, .inl (cy 2, 3, .inr (.inr (.inr (.inr (va_up (va_up (va_up (fun _ => none) 0 (some c0)) 1 (some c1)) 2 (some c2))))))), (c0, .inr (0, [.int k0, .int s0, .ref r0])), (r0, .inl (cy 0, 6, .inl f0)), (c1, .inr (0, [.int k1, .int s1, .ref r1])), (r1, .inl (cy 0, 6, .inl f1)), (c2, .inr (0, [.int k2, .int s2, .ref r2])), (r2, .inl (cy 0, 6, .inl f2))]) [0, 1, 2, 3, 4, 5, 6, 7] rfl
                have hD9 := hD.sub (ws' := [(h0, .inr (2, [.int (nI 2), .int tn, .int sn, .ref ar])), (ar, .inl (cy 2, 3, .inr (.inr (.inr (.inr (va_up (va_up (va_up (fun _ => none) 0 (some c0)) 1 (some c1)) 2 (some c2))))))), (c0, .inr (0, [.int k0, .int s0, .ref r0])), (r0, .inl (cy 0, 6, .inl f0)), (c1, .inr (0, [.int k1, .int s1, .ref r1])), (r1, .inl (cy 0, 6, .inl f1)), (c2, .inr (0, [.int k2, .int s2, .ref r2])), (r2, .inl (cy 0, 6, .inl f2))]) [0, 1, 2, 3, 4, 5, 6, 7] (by decide +kernel) rfl
                exact W.iret (v := 0) hx hb hr (fun t9 ht9 hW9 => ⟨⟨0, [(h0, .inr (2, [.int (nI 2), .int tn, .int sn, .ref ar])), (ar, .inl (cy 2, 3, .inr (.inr (.inr (.inr (va_up (va_up (va_up (fun _ => none) 0 (some c0)) 1 (some c1)) 2 (some c2))))))), (c0, .inr (0, [.int k0, .int s0, .ref r0])), (r0, .inl (cy 0, 6, .inl f0)), (c1, .inr (0, [.int k1, .int s1, .ref r1])), (r1, .inl (cy 0, 6, .inl f1)), (c2, .inr (0, [.int k2, .int s2, .ref r2])), (r2, .inl (cy 0, 6, .inl f2))], rfl, ⟨rfl, (congrArg nI (show 0 = eqn (f1 (2 + w)) (f0 (2 + w)) by rw [eqn0 c_58_0]))⟩, by rw [ht9]; exact hP9, hD9⟩, hS.F ht9⟩) hS.2.2 dX2_clashesOn_77
              · exact absurd c_15 (by decide)
            · exact absurd c_31 (by decide)
          · refine lv_iinc (v := 1) (lv' := [(3, .int 1), (5, .int 0), (4, .int 1), (2, .int (nI (2 + w))), (0, .ref h0), (1, .int (nI w))]) hx hb dX2_clashesOn_61 hl (k := 2) rfl (by decide) (by decide) rfl (fun ls hl => ?_)
            refine lv_iinc (v := 1) (lv' := [(5, .int 1), (3, .int 1), (4, .int 1), (2, .int (nI (2 + w))), (0, .ref h0), (1, .int (nI w))]) hx hb dX2_clashesOn_64 hl (k := 1) rfl (by decide) (by decide) rfl (fun ls hl => ?_)
            refine lv_goto (tgt := 27) hx hb dX2_clashesOn_67 (by decide) ?_
            refine lv_iload hx hb dX2_clashesOn_27 (lv_at hl 0 rfl) ?_
            refine lv_iload hx hb dX2_clashesOn_29 (lv_at hl 2 rfl) ?_
            refine lv_icmp_ge (tgt := 70) hx hb dX2_clashesOn_31 (by decide) (fun c_31 => ?_) (fun c_31 => ?_)
            · refine lv_iinc (v := 2) (lv' := [(4, .int 2), (5, .int 1), (3, .int 1), (2, .int (nI (2 + w))), (0, .ref h0), (1, .int (nI w))]) hx hb dX2_clashesOn_70 hl (k := 2) rfl (by decide) (by decide) rfl (fun ls hl => ?_)
              refine lv_goto (tgt := 9) hx hb dX2_clashesOn_73 (by decide) ?_
              refine lv_iload hx hb dX2_clashesOn_9 (lv_at hl 0 rfl) ?_
              refine lv_aload_n hx hb dX2_clashesOn_11 rfl (lv_at hl 4 rfl) ?_
              refine va_get (D := D) (ci := 2) (v := .int 2) (C := RX2) (T := TX2) (N := 4) hx hb hts hw_X2 hown hK hP 0 rfl rfl 0 (by decide) f_18 (fun _ h9 => h9) rfl dX2_clashesOn_12 ?_
              refine lv_icmp_ge (tgt := 76) hx hb dX2_clashesOn_15 (by decide) (fun c_15 => ?_) (fun c_15 => ?_)
              · refine lv_iload_n hx hb dX2_clashesOn_76 rfl (lv_at hl 2 rfl) ?_
                have hP9 := hP.sub (ws' := [(h0, .inr (2, [.int (nI 2), .int tn, .int sn, .ref ar])), (ar, .inl (cy 2, 3, .inr (.inr (.inr (.inr (va_up (va_up (va_up (fun _ => none) 0 (some c0)) 1 (some c1)) 2 (some c2))))))), (c0, .inr (0, [.int k0, .int s0, .ref r0])), (r0, .inl (cy 0, 6, .inl f0)), (c1, .inr (0, [.int k1, .int s1, .ref r1])), (r1, .inl (cy 0, 6, .inl f1)), (c2, .inr (0, [.int k2, .int s2, .ref r2])), (r2, .inl (cy 0, 6, .inl f2))]) [0, 1, 2, 3, 4, 5, 6, 7] rfl
                have hD9 := hD.sub (ws' := [(h0, .inr (2, [.int (nI 2), .int tn, .int sn, .ref ar])), (ar, .inl (cy 2, 3, .inr (.inr (.inr (.inr (va_up (va_up (va_up (fun _ => none) 0 (some c0)) 1 (some c1)) 2 (some c2))))))), (c0, .inr (0, [.int k0, .int s0, .ref r0])), (r0, .inl (cy 0, 6, .inl f0)), (c1, .inr (0, [.int k1, .int s1, .ref r1])), (r1, .inl (cy 0, 6, .inl f1)), (c2, .inr (0, [.int k2, .int s2, .ref r2])), (r2, .inl (cy 0, 6, .inl f2))]) [0, 1, 2, 3, 4, 5, 6, 7] (by decide +kernel) rfl
                exact W.iret (v := 1) hx hb hr (fun t9 ht9 hW9 => ⟨⟨1, [(h0, .inr (2, [.int (nI 2), .int tn, .int sn, .ref ar])), (ar, .inl (cy 2, 3, .inr (.inr (.inr (.inr (va_up (va_up (va_up (fun _ => none) 0 (some c0)) 1 (some c1)) 2 (some c2))))))), (c0, .inr (0, [.int k0, .int s0, .ref r0])), (r0, .inl (cy 0, 6, .inl f0)), (c1, .inr (0, [.int k1, .int s1, .ref r1])), (r1, .inl (cy 0, 6, .inl f1)), (c2, .inr (0, [.int k2, .int s2, .ref r2])), (r2, .inl (cy 0, 6, .inl f2))], rfl, ⟨rfl, (congrArg nI (show 1 = eqn (f1 (2 + w)) (f0 (2 + w)) by rw [eqn1 c_58_0]))⟩, by rw [ht9]; exact hP9, hD9⟩, hS.F ht9⟩) hS.2.2 dX2_clashesOn_77
              · exact absurd c_15 (by decide)
            · exact absurd c_31 (by decide)
  · have hP : va_P D vwCl [(h0, .inr (2, [.int 3, .int tn, .int sn, .ref ar])), (ar, .inl (cy 2, 3, .inr (.inr (.inr (.inr (va_up (va_up (va_up (fun _ => none) 0 (some c0)) 1 (some c1)) 2 (some c2))))))), (c0, .inr (0, [.int k0, .int s0, .ref r0])), (r0, .inl (cy 0, 6, .inl f0)), (c1, .inr (0, [.int k1, .int s1, .ref r1])), (r1, .inl (cy 0, 6, .inl f1)), (c2, .inr (0, [.int k2, .int s2, .ref r2])), (r2, .inl (cy 0, 6, .inl f2))] H := hP
    have hD : va_D A [(h0, .inr (2, [.int 3, .int tn, .int sn, .ref ar])), (ar, .inl (cy 2, 3, .inr (.inr (.inr (.inr (va_up (va_up (va_up (fun _ => none) 0 (some c0)) 1 (some c1)) 2 (some c2))))))), (c0, .inr (0, [.int k0, .int s0, .ref r0])), (r0, .inl (cy 0, 6, .inl f0)), (c1, .inr (0, [.int k1, .int s1, .ref r1])), (r1, .inl (cy 0, 6, .inl f1)), (c2, .inr (0, [.int k2, .int s2, .ref r2])), (r2, .inl (cy 0, 6, .inl f2))] := hD
    refine lv_iconst (v := 2) hx hb dX2_clashesOn_0 (by decide) ?_
    refine lv_iload_n hx hb dX2_clashesOn_1 rfl (lv_at hl 1 rfl) ?_
    refine lv_iadd hx hb dX2_clashesOn_2 ?_
    refine lv_topi (fun y5 ey5 => ?_)
    obtain rfl : y5 = nI (2 + w) := ey5.trans ((nIa 2 w))
    refine lv_istore_n (lv' := [(2, .int (nI (2 + w))), (0, .ref h0), (1, .int (nI w))]) hx hb dX2_clashesOn_3 rfl hl (by decide) rfl (fun ls hl => ?_)
    refine lv_iconst (v := 0) hx hb dX2_clashesOn_4 (by decide) ?_
    refine lv_istore_n (lv' := [(3, .int 0), (2, .int (nI (2 + w))), (0, .ref h0), (1, .int (nI w))]) hx hb dX2_clashesOn_5 rfl hl (by decide) rfl (fun ls hl => ?_)
    refine lv_iconst (v := 1) hx hb dX2_clashesOn_6 (by decide) ?_
    refine lv_istore (lv' := [(4, .int 1), (3, .int 0), (2, .int (nI (2 + w))), (0, .ref h0), (1, .int (nI w))]) hx hb dX2_clashesOn_7 hl (by decide) rfl (fun ls hl => ?_)
    refine lv_iload hx hb dX2_clashesOn_9 (lv_at hl 0 rfl) ?_
    refine lv_aload_n hx hb dX2_clashesOn_11 rfl (lv_at hl 3 rfl) ?_
    refine va_get (D := D) (ci := 2) (v := .int 3) (C := RX2) (T := TX2) (N := 4) hx hb hts hw_X2 hown hK hP 0 rfl rfl 0 (by decide) f_18 (fun _ h9 => h9) rfl dX2_clashesOn_12 ?_
    refine lv_icmp_ge (tgt := 76) hx hb dX2_clashesOn_15 (by decide) (fun c_15 => ?_) (fun c_15 => ?_)
    · exact absurd c_15 (by decide)
    · refine lv_iload hx hb dX2_clashesOn_18 (lv_at hl 0 rfl) ?_
      refine lv_iconst (v := 3) hx hb dX2_clashesOn_20 (by decide) ?_
      refine lv_icmp_ge (tgt := 76) hx hb dX2_clashesOn_21 (by decide) (fun c_21 => ?_) (fun c_21 => ?_)
      · exact absurd c_21 (by decide)
      · refine lv_iconst (v := 0) hx hb dX2_clashesOn_24 (by decide) ?_
        refine lv_istore (lv' := [(5, .int 0), (4, .int 1), (3, .int 0), (2, .int (nI (2 + w))), (0, .ref h0), (1, .int (nI w))]) hx hb dX2_clashesOn_25 hl (by decide) rfl (fun ls hl => ?_)
        refine lv_iload hx hb dX2_clashesOn_27 (lv_at hl 0 rfl) ?_
        refine lv_iload hx hb dX2_clashesOn_29 (lv_at hl 1 rfl) ?_
        refine lv_icmp_ge (tgt := 70) hx hb dX2_clashesOn_31 (by decide) (fun c_31 => ?_) (fun c_31 => ?_)
        · exact absurd c_31 (by decide)
        · refine lv_aload_n hx hb dX2_clashesOn_34 rfl (lv_at hl 4 rfl) ?_
          refine va_get (D := D) (ci := 2) (v := .ref ar) (C := RX2) (T := TX2) (N := 4) hx hb hts hw_X2 hown hK hP 0 rfl rfl 3 (by decide) f_12 (fun _ h9 => h9) rfl dX2_clashesOn_35 ?_
          refine lv_iload hx hb dX2_clashesOn_38 (lv_at hl 1 rfl) ?_
          refine va_aldq hx hb hK hP 1 2 rfl rfl (vi_c (by decide +kernel)) dX2_clashesOn_40 ?_
          refine kq (a := c1) (rfl) ?_
          refine va_get (D := D) (ci := 0) (v := .ref r1) (C := RX0) (T := TX0) (N := 3) hx hb hts hw_X0 hown hK hP 4 rfl rfl 2 (by decide) f_35 (fun _ h9 => h9) rfl dX2_clashesOn_41 ?_
          refine lv_iload_n hx hb dX2_clashesOn_44 rfl (lv_at hl 3 rfl) ?_
          refine va_iald hx hb hK hP 5 0 rfl rfl (nI_in (by omega) (by decide)) dX2_clashesOn_45 ?_
          refine lv_topi (fun y6 ey6 => ?_)
          obtain rfl : y6 = f1 (2 + w) := ey6.trans (congrArg f1 (nI_clamp (by omega)))
          refine lv_aload_n hx hb dX2_clashesOn_46 rfl (lv_at hl 4 rfl) ?_
          refine va_get (D := D) (ci := 2) (v := .ref ar) (C := RX2) (T := TX2) (N := 4) hx hb hts hw_X2 hown hK hP 0 rfl rfl 3 (by decide) f_12 (fun _ h9 => h9) rfl dX2_clashesOn_47 ?_
          refine lv_iload hx hb dX2_clashesOn_50 (lv_at hl 0 rfl) ?_
          refine va_aldq hx hb hK hP 1 2 rfl rfl (vi_c (by decide +kernel)) dX2_clashesOn_52 ?_
          refine kq (a := c0) (rfl) ?_
          refine va_get (D := D) (ci := 0) (v := .ref r0) (C := RX0) (T := TX0) (N := 3) hx hb hts hw_X0 hown hK hP 2 rfl rfl 2 (by decide) f_35 (fun _ h9 => h9) rfl dX2_clashesOn_53 ?_
          refine lv_iload_n hx hb dX2_clashesOn_56 rfl (lv_at hl 3 rfl) ?_
          refine va_iald hx hb hK hP 3 0 rfl rfl (nI_in (by omega) (by decide)) dX2_clashesOn_57 ?_
          refine lv_topi (fun y7 ey7 => ?_)
          obtain rfl : y7 = f0 (2 + w) := ey7.trans (congrArg f0 (nI_clamp (by omega)))
          refine lv_icmp_ne (tgt := 64) hx hb dX2_clashesOn_58 (by decide) (fun c_58_0 => ?_) (fun c_58_0 => ?_)
          · refine lv_iinc (v := 1) (lv' := [(5, .int 1), (4, .int 1), (3, .int 0), (2, .int (nI (2 + w))), (0, .ref h0), (1, .int (nI w))]) hx hb dX2_clashesOn_64 hl (k := 0) rfl (by decide) (by decide) rfl (fun ls hl => ?_)
            refine lv_goto (tgt := 27) hx hb dX2_clashesOn_67 (by decide) ?_
            refine lv_iload hx hb dX2_clashesOn_27 (lv_at hl 0 rfl) ?_
            refine lv_iload hx hb dX2_clashesOn_29 (lv_at hl 1 rfl) ?_
            refine lv_icmp_ge (tgt := 70) hx hb dX2_clashesOn_31 (by decide) (fun c_31 => ?_) (fun c_31 => ?_)
            · refine lv_iinc (v := 2) (lv' := [(4, .int 2), (5, .int 1), (3, .int 0), (2, .int (nI (2 + w))), (0, .ref h0), (1, .int (nI w))]) hx hb dX2_clashesOn_70 hl (k := 1) rfl (by decide) (by decide) rfl (fun ls hl => ?_)
              refine lv_goto (tgt := 9) hx hb dX2_clashesOn_73 (by decide) ?_
              refine lv_iload hx hb dX2_clashesOn_9 (lv_at hl 0 rfl) ?_
              refine lv_aload_n hx hb dX2_clashesOn_11 rfl (lv_at hl 4 rfl) ?_
              refine va_get (D := D) (ci := 2) (v := .int 3) (C := RX2) (T := TX2) (N := 4) hx hb hts hw_X2 hown hK hP 0 rfl rfl 0 (by decide) f_18 (fun _ h9 => h9) rfl dX2_clashesOn_12 ?_
              refine lv_icmp_ge (tgt := 76) hx hb dX2_clashesOn_15 (by decide) (fun c_15 => ?_) (fun c_15 => ?_)
              · exact absurd c_15 (by decide)
              · refine lv_iload hx hb dX2_clashesOn_18 (lv_at hl 0 rfl) ?_
                refine lv_iconst (v := 3) hx hb dX2_clashesOn_20 (by decide) ?_
                refine lv_icmp_ge (tgt := 76) hx hb dX2_clashesOn_21 (by decide) (fun c_21 => ?_) (fun c_21 => ?_)
                · exact absurd c_21 (by decide)
                · refine lv_iconst (v := 0) hx hb dX2_clashesOn_24 (by decide) ?_
                  refine lv_istore (lv' := [(5, .int 0), (4, .int 2), (3, .int 0), (2, .int (nI (2 + w))), (0, .ref h0), (1, .int (nI w))]) hx hb dX2_clashesOn_25 hl (by decide) rfl (fun ls hl => ?_)
                  refine lv_iload hx hb dX2_clashesOn_27 (lv_at hl 0 rfl) ?_
                  refine lv_iload hx hb dX2_clashesOn_29 (lv_at hl 1 rfl) ?_
                  refine lv_icmp_ge (tgt := 70) hx hb dX2_clashesOn_31 (by decide) (fun c_31 => ?_) (fun c_31 => ?_)
                  · exact absurd c_31 (by decide)
                  · refine lv_aload_n hx hb dX2_clashesOn_34 rfl (lv_at hl 4 rfl) ?_
                    refine va_get (D := D) (ci := 2) (v := .ref ar) (C := RX2) (T := TX2) (N := 4) hx hb hts hw_X2 hown hK hP 0 rfl rfl 3 (by decide) f_12 (fun _ h9 => h9) rfl dX2_clashesOn_35 ?_
                    refine lv_iload hx hb dX2_clashesOn_38 (lv_at hl 1 rfl) ?_
                    refine va_aldq hx hb hK hP 1 2 rfl rfl (vi_c (by decide +kernel)) dX2_clashesOn_40 ?_
                    refine kq (a := c2) (rfl) ?_
                    refine va_get (D := D) (ci := 0) (v := .ref r2) (C := RX0) (T := TX0) (N := 3) hx hb hts hw_X0 hown hK hP 6 rfl rfl 2 (by decide) f_35 (fun _ h9 => h9) rfl dX2_clashesOn_41 ?_
                    refine lv_iload_n hx hb dX2_clashesOn_44 rfl (lv_at hl 3 rfl) ?_
                    refine va_iald hx hb hK hP 7 0 rfl rfl (nI_in (by omega) (by decide)) dX2_clashesOn_45 ?_
                    refine lv_topi (fun y8 ey8 => ?_)
                    obtain rfl : y8 = f2 (2 + w) := ey8.trans (congrArg f2 (nI_clamp (by omega)))
                    refine lv_aload_n hx hb dX2_clashesOn_46 rfl (lv_at hl 4 rfl) ?_
                    refine va_get (D := D) (ci := 2) (v := .ref ar) (C := RX2) (T := TX2) (N := 4) hx hb hts hw_X2 hown hK hP 0 rfl rfl 3 (by decide) f_12 (fun _ h9 => h9) rfl dX2_clashesOn_47 ?_
                    refine lv_iload hx hb dX2_clashesOn_50 (lv_at hl 0 rfl) ?_
                    refine va_aldq hx hb hK hP 1 2 rfl rfl (vi_c (by decide +kernel)) dX2_clashesOn_52 ?_
                    refine kq (a := c0) (rfl) ?_
                    refine va_get (D := D) (ci := 0) (v := .ref r0) (C := RX0) (T := TX0) (N := 3) hx hb hts hw_X0 hown hK hP 2 rfl rfl 2 (by decide) f_35 (fun _ h9 => h9) rfl dX2_clashesOn_53 ?_
                    refine lv_iload_n hx hb dX2_clashesOn_56 rfl (lv_at hl 3 rfl) ?_
                    refine va_iald hx hb hK hP 3 0 rfl rfl (nI_in (by omega) (by decide)) dX2_clashesOn_57 ?_
                    refine lv_topi (fun y9 ey9 => ?_)
                    obtain rfl : y9 = f0 (2 + w) := ey9.trans (congrArg f0 (nI_clamp (by omega)))
                    refine lv_icmp_ne (tgt := 64) hx hb dX2_clashesOn_58 (by decide) (fun c_58_1 => ?_) (fun c_58_1 => ?_)
                    · refine lv_iinc (v := 1) (lv' := [(5, .int 1), (4, .int 2), (3, .int 0), (2, .int (nI (2 + w))), (0, .ref h0), (1, .int (nI w))]) hx hb dX2_clashesOn_64 hl (k := 0) rfl (by decide) (by decide) rfl (fun ls hl => ?_)
                      refine lv_goto (tgt := 27) hx hb dX2_clashesOn_67 (by decide) ?_
                      refine lv_iload hx hb dX2_clashesOn_27 (lv_at hl 0 rfl) ?_
                      refine lv_iload hx hb dX2_clashesOn_29 (lv_at hl 1 rfl) ?_
                      refine lv_icmp_ge (tgt := 70) hx hb dX2_clashesOn_31 (by decide) (fun c_31 => ?_) (fun c_31 => ?_)
                      · exact absurd c_31 (by decide)
                      · refine lv_aload_n hx hb dX2_clashesOn_34 rfl (lv_at hl 4 rfl) ?_
                        refine va_get (D := D) (ci := 2) (v := .ref ar) (C := RX2) (T := TX2) (N := 4) hx hb hts hw_X2 hown hK hP 0 rfl rfl 3 (by decide) f_12 (fun _ h9 => h9) rfl dX2_clashesOn_35 ?_
                        refine lv_iload hx hb dX2_clashesOn_38 (lv_at hl 1 rfl) ?_
                        refine va_aldq hx hb hK hP 1 2 rfl rfl (vi_c (by decide +kernel)) dX2_clashesOn_40 ?_
                        refine kq (a := c2) (rfl) ?_
                        refine va_get (D := D) (ci := 0) (v := .ref r2) (C := RX0) (T := TX0) (N := 3) hx hb hts hw_X0 hown hK hP 6 rfl rfl 2 (by decide) f_35 (fun _ h9 => h9) rfl dX2_clashesOn_41 ?_
                        refine lv_iload_n hx hb dX2_clashesOn_44 rfl (lv_at hl 3 rfl) ?_
                        refine va_iald hx hb hK hP 7 0 rfl rfl (nI_in (by omega) (by decide)) dX2_clashesOn_45 ?_
                        refine lv_topi (fun y10 ey10 => ?_)
                        obtain rfl : y10 = f2 (2 + w) := ey10.trans (congrArg f2 (nI_clamp (by omega)))
                        refine lv_aload_n hx hb dX2_clashesOn_46 rfl (lv_at hl 4 rfl) ?_
                        refine va_get (D := D) (ci := 2) (v := .ref ar) (C := RX2) (T := TX2) (N := 4) hx hb hts hw_X2 hown hK hP 0 rfl rfl 3 (by decide) f_12 (fun _ h9 => h9) rfl dX2_clashesOn_47 ?_
                        refine lv_iload hx hb dX2_clashesOn_50 (lv_at hl 0 rfl) ?_
                        refine va_aldq hx hb hK hP 1 2 rfl rfl (vi_c (by decide +kernel)) dX2_clashesOn_52 ?_
                        refine kq (a := c1) (rfl) ?_
                        refine va_get (D := D) (ci := 0) (v := .ref r1) (C := RX0) (T := TX0) (N := 3) hx hb hts hw_X0 hown hK hP 4 rfl rfl 2 (by decide) f_35 (fun _ h9 => h9) rfl dX2_clashesOn_53 ?_
                        refine lv_iload_n hx hb dX2_clashesOn_56 rfl (lv_at hl 3 rfl) ?_
                        refine va_iald hx hb hK hP 5 0 rfl rfl (nI_in (by omega) (by decide)) dX2_clashesOn_57 ?_
                        refine lv_topi (fun y11 ey11 => ?_)
                        obtain rfl : y11 = f1 (2 + w) := ey11.trans (congrArg f1 (nI_clamp (by omega)))
                        refine lv_icmp_ne (tgt := 64) hx hb dX2_clashesOn_58 (by decide) (fun c_58_2 => ?_) (fun c_58_2 => ?_)
                        · refine lv_iinc (v := 2) (lv' := [(5, .int 2), (4, .int 2), (3, .int 0), (2, .int (nI (2 + w))), (0, .ref h0), (1, .int (nI w))]) hx hb dX2_clashesOn_64 hl (k := 0) rfl (by decide) (by decide) rfl (fun ls hl => ?_)
                          refine lv_goto (tgt := 27) hx hb dX2_clashesOn_67 (by decide) ?_
                          refine lv_iload hx hb dX2_clashesOn_27 (lv_at hl 0 rfl) ?_
                          refine lv_iload hx hb dX2_clashesOn_29 (lv_at hl 1 rfl) ?_
                          refine lv_icmp_ge (tgt := 70) hx hb dX2_clashesOn_31 (by decide) (fun c_31 => ?_) (fun c_31 => ?_)
                          · refine lv_iinc (v := 3) (lv' := [(4, .int 3), (5, .int 2), (3, .int 0), (2, .int (nI (2 + w))), (0, .ref h0), (1, .int (nI w))]) hx hb dX2_clashesOn_70 hl (k := 1) rfl (by decide) (by decide) rfl (fun ls hl => ?_)
                            refine lv_goto (tgt := 9) hx hb dX2_clashesOn_73 (by decide) ?_
                            refine lv_iload hx hb dX2_clashesOn_9 (lv_at hl 0 rfl) ?_
                            refine lv_aload_n hx hb dX2_clashesOn_11 rfl (lv_at hl 4 rfl) ?_
                            refine va_get (D := D) (ci := 2) (v := .int 3) (C := RX2) (T := TX2) (N := 4) hx hb hts hw_X2 hown hK hP 0 rfl rfl 0 (by decide) f_18 (fun _ h9 => h9) rfl dX2_clashesOn_12 ?_
                            refine lv_icmp_ge (tgt := 76) hx hb dX2_clashesOn_15 (by decide) (fun c_15 => ?_) (fun c_15 => ?_)
                            · refine lv_iload_n hx hb dX2_clashesOn_76 rfl (lv_at hl 2 rfl) ?_
                              have hP9 := hP.sub (ws' := [(h0, .inr (2, [.int (nI 3), .int tn, .int sn, .ref ar])), (ar, .inl (cy 2, 3, .inr (.inr (.inr (.inr (va_up (va_up (va_up (fun _ => none) 0 (some c0)) 1 (some c1)) 2 (some c2))))))), (c0, .inr (0, [.int k0, .int s0, .ref r0])), (r0, .inl (cy 0, 6, .inl f0)), (c1, .inr (0, [.int k1, .int s1, .ref r1])), (r1, .inl (cy 0, 6, .inl f1)), (c2, .inr (0, [.int k2, .int s2, .ref r2])), (r2, .inl (cy 0, 6, .inl f2))]) [0, 1, 2, 3, 4, 5, 6, 7] rfl
                              have hD9 := hD.sub (ws' := [(h0, .inr (2, [.int (nI 3), .int tn, .int sn, .ref ar])), (ar, .inl (cy 2, 3, .inr (.inr (.inr (.inr (va_up (va_up (va_up (fun _ => none) 0 (some c0)) 1 (some c1)) 2 (some c2))))))), (c0, .inr (0, [.int k0, .int s0, .ref r0])), (r0, .inl (cy 0, 6, .inl f0)), (c1, .inr (0, [.int k1, .int s1, .ref r1])), (r1, .inl (cy 0, 6, .inl f1)), (c2, .inr (0, [.int k2, .int s2, .ref r2])), (r2, .inl (cy 0, 6, .inl f2))]) [0, 1, 2, 3, 4, 5, 6, 7] (by decide +kernel) rfl
                              exact W.iret (v := 0) hx hb hr (fun t9 ht9 hW9 => ⟨⟨0, [(h0, .inr (2, [.int (nI 3), .int tn, .int sn, .ref ar])), (ar, .inl (cy 2, 3, .inr (.inr (.inr (.inr (va_up (va_up (va_up (fun _ => none) 0 (some c0)) 1 (some c1)) 2 (some c2))))))), (c0, .inr (0, [.int k0, .int s0, .ref r0])), (r0, .inl (cy 0, 6, .inl f0)), (c1, .inr (0, [.int k1, .int s1, .ref r1])), (r1, .inl (cy 0, 6, .inl f1)), (c2, .inr (0, [.int k2, .int s2, .ref r2])), (r2, .inl (cy 0, 6, .inl f2))], rfl, ⟨rfl, (congrArg nI (show 0 = eqn (f1 (2 + w)) (f0 (2 + w)) + eqn (f2 (2 + w)) (f0 (2 + w)) + eqn (f2 (2 + w)) (f1 (2 + w)) by rw [eqn0 c_58_0, eqn0 c_58_1, eqn0 c_58_2]))⟩, by rw [ht9]; exact hP9, hD9⟩, hS.F ht9⟩) hS.2.2 dX2_clashesOn_77
                            · exact absurd c_15 (by decide)
                          · exact absurd c_31 (by decide)
                        · refine lv_iinc (v := 1) (lv' := [(3, .int 1), (5, .int 1), (4, .int 2), (2, .int (nI (2 + w))), (0, .ref h0), (1, .int (nI w))]) hx hb dX2_clashesOn_61 hl (k := 2) rfl (by decide) (by decide) rfl (fun ls hl => ?_)
                          refine lv_iinc (v := 2) (lv' := [(5, .int 2), (3, .int 1), (4, .int 2), (2, .int (nI (2 + w))), (0, .ref h0), (1, .int (nI w))]) hx hb dX2_clashesOn_64 hl (k := 1) rfl (by decide) (by decide) rfl (fun ls hl => ?_)
                          refine lv_goto (tgt := 27) hx hb dX2_clashesOn_67 (by decide) ?_
                          refine lv_iload hx hb dX2_clashesOn_27 (lv_at hl 0 rfl) ?_
                          refine lv_iload hx hb dX2_clashesOn_29 (lv_at hl 2 rfl) ?_
                          refine lv_icmp_ge (tgt := 70) hx hb dX2_clashesOn_31 (by decide) (fun c_31 => ?_) (fun c_31 => ?_)
                          · refine lv_iinc (v := 3) (lv' := [(4, .int 3), (5, .int 2), (3, .int 1), (2, .int (nI (2 + w))), (0, .ref h0), (1, .int (nI w))]) hx hb dX2_clashesOn_70 hl (k := 2) rfl (by decide) (by decide) rfl (fun ls hl => ?_)
                            refine lv_goto (tgt := 9) hx hb dX2_clashesOn_73 (by decide) ?_
                            refine lv_iload hx hb dX2_clashesOn_9 (lv_at hl 0 rfl) ?_
                            refine lv_aload_n hx hb dX2_clashesOn_11 rfl (lv_at hl 4 rfl) ?_
                            refine va_get (D := D) (ci := 2) (v := .int 3) (C := RX2) (T := TX2) (N := 4) hx hb hts hw_X2 hown hK hP 0 rfl rfl 0 (by decide) f_18 (fun _ h9 => h9) rfl dX2_clashesOn_12 ?_
                            refine lv_icmp_ge (tgt := 76) hx hb dX2_clashesOn_15 (by decide) (fun c_15 => ?_) (fun c_15 => ?_)
                            · refine lv_iload_n hx hb dX2_clashesOn_76 rfl (lv_at hl 2 rfl) ?_
                              have hP9 := hP.sub (ws' := [(h0, .inr (2, [.int (nI 3), .int tn, .int sn, .ref ar])), (ar, .inl (cy 2, 3, .inr (.inr (.inr (.inr (va_up (va_up (va_up (fun _ => none) 0 (some c0)) 1 (some c1)) 2 (some c2))))))), (c0, .inr (0, [.int k0, .int s0, .ref r0])), (r0, .inl (cy 0, 6, .inl f0)), (c1, .inr (0, [.int k1, .int s1, .ref r1])), (r1, .inl (cy 0, 6, .inl f1)), (c2, .inr (0, [.int k2, .int s2, .ref r2])), (r2, .inl (cy 0, 6, .inl f2))]) [0, 1, 2, 3, 4, 5, 6, 7] rfl
                              have hD9 := hD.sub (ws' := [(h0, .inr (2, [.int (nI 3), .int tn, .int sn, .ref ar])), (ar, .inl (cy 2, 3, .inr (.inr (.inr (.inr (va_up (va_up (va_up (fun _ => none) 0 (some c0)) 1 (some c1)) 2 (some c2))))))), (c0, .inr (0, [.int k0, .int s0, .ref r0])), (r0, .inl (cy 0, 6, .inl f0)), (c1, .inr (0, [.int k1, .int s1, .ref r1])), (r1, .inl (cy 0, 6, .inl f1)), (c2, .inr (0, [.int k2, .int s2, .ref r2])), (r2, .inl (cy 0, 6, .inl f2))]) [0, 1, 2, 3, 4, 5, 6, 7] (by decide +kernel) rfl
                              exact W.iret (v := 1) hx hb hr (fun t9 ht9 hW9 => ⟨⟨1, [(h0, .inr (2, [.int (nI 3), .int tn, .int sn, .ref ar])), (ar, .inl (cy 2, 3, .inr (.inr (.inr (.inr (va_up (va_up (va_up (fun _ => none) 0 (some c0)) 1 (some c1)) 2 (some c2))))))), (c0, .inr (0, [.int k0, .int s0, .ref r0])), (r0, .inl (cy 0, 6, .inl f0)), (c1, .inr (0, [.int k1, .int s1, .ref r1])), (r1, .inl (cy 0, 6, .inl f1)), (c2, .inr (0, [.int k2, .int s2, .ref r2])), (r2, .inl (cy 0, 6, .inl f2))], rfl, ⟨rfl, (congrArg nI (show 1 = eqn (f1 (2 + w)) (f0 (2 + w)) + eqn (f2 (2 + w)) (f0 (2 + w)) + eqn (f2 (2 + w)) (f1 (2 + w)) by rw [eqn0 c_58_0, eqn0 c_58_1, eqn1 c_58_2]))⟩, by rw [ht9]; exact hP9, hD9⟩, hS.F ht9⟩) hS.2.2 dX2_clashesOn_77
                            · exact absurd c_15 (by decide)
                          · exact absurd c_31 (by decide)
                    · refine lv_iinc (v := 1) (lv' := [(3, .int 1), (5, .int 0), (4, .int 2), (2, .int (nI (2 + w))), (0, .ref h0), (1, .int (nI w))]) hx hb dX2_clashesOn_61 hl (k := 2) rfl (by decide) (by decide) rfl (fun ls hl => ?_)
                      refine lv_iinc (v := 1) (lv' := [(5, .int 1), (3, .int 1), (4, .int 2), (2, .int (nI (2 + w))), (0, .ref h0), (1, .int (nI w))]) hx hb dX2_clashesOn_64 hl (k := 1) rfl (by decide) (by decide) rfl (fun ls hl => ?_)
                      refine lv_goto (tgt := 27) hx hb dX2_clashesOn_67 (by decide) ?_
                      refine lv_iload hx hb dX2_clashesOn_27 (lv_at hl 0 rfl) ?_
                      refine lv_iload hx hb dX2_clashesOn_29 (lv_at hl 2 rfl) ?_
                      refine lv_icmp_ge (tgt := 70) hx hb dX2_clashesOn_31 (by decide) (fun c_31 => ?_) (fun c_31 => ?_)
                      · exact absurd c_31 (by decide)
                      · refine lv_aload_n hx hb dX2_clashesOn_34 rfl (lv_at hl 4 rfl) ?_
                        refine va_get (D := D) (ci := 2) (v := .ref ar) (C := RX2) (T := TX2) (N := 4) hx hb hts hw_X2 hown hK hP 0 rfl rfl 3 (by decide) f_12 (fun _ h9 => h9) rfl dX2_clashesOn_35 ?_
                        refine lv_iload hx hb dX2_clashesOn_38 (lv_at hl 2 rfl) ?_
                        refine va_aldq hx hb hK hP 1 2 rfl rfl (vi_c (by decide +kernel)) dX2_clashesOn_40 ?_
                        refine kq (a := c2) (rfl) ?_
                        refine va_get (D := D) (ci := 0) (v := .ref r2) (C := RX0) (T := TX0) (N := 3) hx hb hts hw_X0 hown hK hP 6 rfl rfl 2 (by decide) f_35 (fun _ h9 => h9) rfl dX2_clashesOn_41 ?_
                        refine lv_iload_n hx hb dX2_clashesOn_44 rfl (lv_at hl 3 rfl) ?_
                        refine va_iald hx hb hK hP 7 0 rfl rfl (nI_in (by omega) (by decide)) dX2_clashesOn_45 ?_
                        refine lv_topi (fun y12 ey12 => ?_)
                        obtain rfl : y12 = f2 (2 + w) := ey12.trans (congrArg f2 (nI_clamp (by omega)))
                        refine lv_aload_n hx hb dX2_clashesOn_46 rfl (lv_at hl 4 rfl) ?_
                        refine va_get (D := D) (ci := 2) (v := .ref ar) (C := RX2) (T := TX2) (N := 4) hx hb hts hw_X2 hown hK hP 0 rfl rfl 3 (by decide) f_12 (fun _ h9 => h9) rfl dX2_clashesOn_47 ?_
                        refine lv_iload hx hb dX2_clashesOn_50 (lv_at hl 0 rfl) ?_
                        refine va_aldq hx hb hK hP 1 2 rfl rfl (vi_c (by decide +kernel)) dX2_clashesOn_52 ?_
                        refine kq (a := c1) (rfl) ?_
                        refine va_get (D := D) (ci := 0) (v := .ref r1) (C := RX0) (T := TX0) (N := 3) hx hb hts hw_X0 hown hK hP 4 rfl rfl 2 (by decide) f_35 (fun _ h9 => h9) rfl dX2_clashesOn_53 ?_
                        refine lv_iload_n hx hb dX2_clashesOn_56 rfl (lv_at hl 3 rfl) ?_
                        refine va_iald hx hb hK hP 5 0 rfl rfl (nI_in (by omega) (by decide)) dX2_clashesOn_57 ?_
                        refine lv_topi (fun y13 ey13 => ?_)
                        obtain rfl : y13 = f1 (2 + w) := ey13.trans (congrArg f1 (nI_clamp (by omega)))
                        refine lv_icmp_ne (tgt := 64) hx hb dX2_clashesOn_58 (by decide) (fun c_58_2 => ?_) (fun c_58_2 => ?_)
                        · refine lv_iinc (v := 2) (lv' := [(5, .int 2), (3, .int 1), (4, .int 2), (2, .int (nI (2 + w))), (0, .ref h0), (1, .int (nI w))]) hx hb dX2_clashesOn_64 hl (k := 0) rfl (by decide) (by decide) rfl (fun ls hl => ?_)
                          refine lv_goto (tgt := 27) hx hb dX2_clashesOn_67 (by decide) ?_
                          refine lv_iload hx hb dX2_clashesOn_27 (lv_at hl 0 rfl) ?_
                          refine lv_iload hx hb dX2_clashesOn_29 (lv_at hl 2 rfl) ?_
                          refine lv_icmp_ge (tgt := 70) hx hb dX2_clashesOn_31 (by decide) (fun c_31 => ?_) (fun c_31 => ?_)
                          · refine lv_iinc (v := 3) (lv' := [(4, .int 3), (5, .int 2), (3, .int 1), (2, .int (nI (2 + w))), (0, .ref h0), (1, .int (nI w))]) hx hb dX2_clashesOn_70 hl (k := 2) rfl (by decide) (by decide) rfl (fun ls hl => ?_)
                            refine lv_goto (tgt := 9) hx hb dX2_clashesOn_73 (by decide) ?_
                            refine lv_iload hx hb dX2_clashesOn_9 (lv_at hl 0 rfl) ?_
                            refine lv_aload_n hx hb dX2_clashesOn_11 rfl (lv_at hl 4 rfl) ?_
                            refine va_get (D := D) (ci := 2) (v := .int 3) (C := RX2) (T := TX2) (N := 4) hx hb hts hw_X2 hown hK hP 0 rfl rfl 0 (by decide) f_18 (fun _ h9 => h9) rfl dX2_clashesOn_12 ?_
                            refine lv_icmp_ge (tgt := 76) hx hb dX2_clashesOn_15 (by decide) (fun c_15 => ?_) (fun c_15 => ?_)
                            · refine lv_iload_n hx hb dX2_clashesOn_76 rfl (lv_at hl 2 rfl) ?_
                              have hP9 := hP.sub (ws' := [(h0, .inr (2, [.int (nI 3), .int tn, .int sn, .ref ar])), (ar, .inl (cy 2, 3, .inr (.inr (.inr (.inr (va_up (va_up (va_up (fun _ => none) 0 (some c0)) 1 (some c1)) 2 (some c2))))))), (c0, .inr (0, [.int k0, .int s0, .ref r0])), (r0, .inl (cy 0, 6, .inl f0)), (c1, .inr (0, [.int k1, .int s1, .ref r1])), (r1, .inl (cy 0, 6, .inl f1)), (c2, .inr (0, [.int k2, .int s2, .ref r2])), (r2, .inl (cy 0, 6, .inl f2))]) [0, 1, 2, 3, 4, 5, 6, 7] rfl
                              have hD9 := hD.sub (ws' := [(h0, .inr (2, [.int (nI 3), .int tn, .int sn, .ref ar])), (ar, .inl (cy 2, 3, .inr (.inr (.inr (.inr (va_up (va_up (va_up (fun _ => none) 0 (some c0)) 1 (some c1)) 2 (some c2))))))), (c0, .inr (0, [.int k0, .int s0, .ref r0])), (r0, .inl (cy 0, 6, .inl f0)), (c1, .inr (0, [.int k1, .int s1, .ref r1])), (r1, .inl (cy 0, 6, .inl f1)), (c2, .inr (0, [.int k2, .int s2, .ref r2])), (r2, .inl (cy 0, 6, .inl f2))]) [0, 1, 2, 3, 4, 5, 6, 7] (by decide +kernel) rfl
                              exact W.iret (v := 1) hx hb hr (fun t9 ht9 hW9 => ⟨⟨1, [(h0, .inr (2, [.int (nI 3), .int tn, .int sn, .ref ar])), (ar, .inl (cy 2, 3, .inr (.inr (.inr (.inr (va_up (va_up (va_up (fun _ => none) 0 (some c0)) 1 (some c1)) 2 (some c2))))))), (c0, .inr (0, [.int k0, .int s0, .ref r0])), (r0, .inl (cy 0, 6, .inl f0)), (c1, .inr (0, [.int k1, .int s1, .ref r1])), (r1, .inl (cy 0, 6, .inl f1)), (c2, .inr (0, [.int k2, .int s2, .ref r2])), (r2, .inl (cy 0, 6, .inl f2))], rfl, ⟨rfl, (congrArg nI (show 1 = eqn (f1 (2 + w)) (f0 (2 + w)) + eqn (f2 (2 + w)) (f0 (2 + w)) + eqn (f2 (2 + w)) (f1 (2 + w)) by rw [eqn0 c_58_0, eqn1 c_58_1, eqn0 c_58_2]))⟩, by rw [ht9]; exact hP9, hD9⟩, hS.F ht9⟩) hS.2.2 dX2_clashesOn_77
                            · exact absurd c_15 (by decide)
                          · exact absurd c_31 (by decide)
                        · refine lv_iinc (v := 2) (lv' := [(3, .int 2), (5, .int 1), (4, .int 2), (2, .int (nI (2 + w))), (0, .ref h0), (1, .int (nI w))]) hx hb dX2_clashesOn_61 hl (k := 1) rfl (by decide) (by decide) rfl (fun ls hl => ?_)
                          refine lv_iinc (v := 2) (lv' := [(5, .int 2), (3, .int 2), (4, .int 2), (2, .int (nI (2 + w))), (0, .ref h0), (1, .int (nI w))]) hx hb dX2_clashesOn_64 hl (k := 1) rfl (by decide) (by decide) rfl (fun ls hl => ?_)
                          refine lv_goto (tgt := 27) hx hb dX2_clashesOn_67 (by decide) ?_
                          refine lv_iload hx hb dX2_clashesOn_27 (lv_at hl 0 rfl) ?_
                          refine lv_iload hx hb dX2_clashesOn_29 (lv_at hl 2 rfl) ?_
                          refine lv_icmp_ge (tgt := 70) hx hb dX2_clashesOn_31 (by decide) (fun c_31 => ?_) (fun c_31 => ?_)
                          · refine lv_iinc (v := 3) (lv' := [(4, .int 3), (5, .int 2), (3, .int 2), (2, .int (nI (2 + w))), (0, .ref h0), (1, .int (nI w))]) hx hb dX2_clashesOn_70 hl (k := 2) rfl (by decide) (by decide) rfl (fun ls hl => ?_)
                            refine lv_goto (tgt := 9) hx hb dX2_clashesOn_73 (by decide) ?_
                            refine lv_iload hx hb dX2_clashesOn_9 (lv_at hl 0 rfl) ?_
                            refine lv_aload_n hx hb dX2_clashesOn_11 rfl (lv_at hl 4 rfl) ?_
                            refine va_get (D := D) (ci := 2) (v := .int 3) (C := RX2) (T := TX2) (N := 4) hx hb hts hw_X2 hown hK hP 0 rfl rfl 0 (by decide) f_18 (fun _ h9 => h9) rfl dX2_clashesOn_12 ?_
                            refine lv_icmp_ge (tgt := 76) hx hb dX2_clashesOn_15 (by decide) (fun c_15 => ?_) (fun c_15 => ?_)
                            · refine lv_iload_n hx hb dX2_clashesOn_76 rfl (lv_at hl 2 rfl) ?_
                              have hP9 := hP.sub (ws' := [(h0, .inr (2, [.int (nI 3), .int tn, .int sn, .ref ar])), (ar, .inl (cy 2, 3, .inr (.inr (.inr (.inr (va_up (va_up (va_up (fun _ => none) 0 (some c0)) 1 (some c1)) 2 (some c2))))))), (c0, .inr (0, [.int k0, .int s0, .ref r0])), (r0, .inl (cy 0, 6, .inl f0)), (c1, .inr (0, [.int k1, .int s1, .ref r1])), (r1, .inl (cy 0, 6, .inl f1)), (c2, .inr (0, [.int k2, .int s2, .ref r2])), (r2, .inl (cy 0, 6, .inl f2))]) [0, 1, 2, 3, 4, 5, 6, 7] rfl
                              have hD9 := hD.sub (ws' := [(h0, .inr (2, [.int (nI 3), .int tn, .int sn, .ref ar])), (ar, .inl (cy 2, 3, .inr (.inr (.inr (.inr (va_up (va_up (va_up (fun _ => none) 0 (some c0)) 1 (some c1)) 2 (some c2))))))), (c0, .inr (0, [.int k0, .int s0, .ref r0])), (r0, .inl (cy 0, 6, .inl f0)), (c1, .inr (0, [.int k1, .int s1, .ref r1])), (r1, .inl (cy 0, 6, .inl f1)), (c2, .inr (0, [.int k2, .int s2, .ref r2])), (r2, .inl (cy 0, 6, .inl f2))]) [0, 1, 2, 3, 4, 5, 6, 7] (by decide +kernel) rfl
                              exact W.iret (v := 2) hx hb hr (fun t9 ht9 hW9 => ⟨⟨2, [(h0, .inr (2, [.int (nI 3), .int tn, .int sn, .ref ar])), (ar, .inl (cy 2, 3, .inr (.inr (.inr (.inr (va_up (va_up (va_up (fun _ => none) 0 (some c0)) 1 (some c1)) 2 (some c2))))))), (c0, .inr (0, [.int k0, .int s0, .ref r0])), (r0, .inl (cy 0, 6, .inl f0)), (c1, .inr (0, [.int k1, .int s1, .ref r1])), (r1, .inl (cy 0, 6, .inl f1)), (c2, .inr (0, [.int k2, .int s2, .ref r2])), (r2, .inl (cy 0, 6, .inl f2))], rfl, ⟨rfl, (congrArg nI (show 2 = eqn (f1 (2 + w)) (f0 (2 + w)) + eqn (f2 (2 + w)) (f0 (2 + w)) + eqn (f2 (2 + w)) (f1 (2 + w)) by rw [eqn0 c_58_0, eqn1 c_58_1, eqn1 c_58_2]))⟩, by rw [ht9]; exact hP9, hD9⟩, hS.F ht9⟩) hS.2.2 dX2_clashesOn_77
                            · exact absurd c_15 (by decide)
                          · exact absurd c_31 (by decide)
            · exact absurd c_31 (by decide)
          · refine lv_iinc (v := 1) (lv' := [(3, .int 1), (5, .int 0), (4, .int 1), (2, .int (nI (2 + w))), (0, .ref h0), (1, .int (nI w))]) hx hb dX2_clashesOn_61 hl (k := 2) rfl (by decide) (by decide) rfl (fun ls hl => ?_)
            refine lv_iinc (v := 1) (lv' := [(5, .int 1), (3, .int 1), (4, .int 1), (2, .int (nI (2 + w))), (0, .ref h0), (1, .int (nI w))]) hx hb dX2_clashesOn_64 hl (k := 1) rfl (by decide) (by decide) rfl (fun ls hl => ?_)
            refine lv_goto (tgt := 27) hx hb dX2_clashesOn_67 (by decide) ?_
            refine lv_iload hx hb dX2_clashesOn_27 (lv_at hl 0 rfl) ?_
            refine lv_iload hx hb dX2_clashesOn_29 (lv_at hl 2 rfl) ?_
            refine lv_icmp_ge (tgt := 70) hx hb dX2_clashesOn_31 (by decide) (fun c_31 => ?_) (fun c_31 => ?_)
            · refine lv_iinc (v := 2) (lv' := [(4, .int 2), (5, .int 1), (3, .int 1), (2, .int (nI (2 + w))), (0, .ref h0), (1, .int (nI w))]) hx hb dX2_clashesOn_70 hl (k := 2) rfl (by decide) (by decide) rfl (fun ls hl => ?_)
              refine lv_goto (tgt := 9) hx hb dX2_clashesOn_73 (by decide) ?_
              refine lv_iload hx hb dX2_clashesOn_9 (lv_at hl 0 rfl) ?_
              refine lv_aload_n hx hb dX2_clashesOn_11 rfl (lv_at hl 4 rfl) ?_
              refine va_get (D := D) (ci := 2) (v := .int 3) (C := RX2) (T := TX2) (N := 4) hx hb hts hw_X2 hown hK hP 0 rfl rfl 0 (by decide) f_18 (fun _ h9 => h9) rfl dX2_clashesOn_12 ?_
              refine lv_icmp_ge (tgt := 76) hx hb dX2_clashesOn_15 (by decide) (fun c_15 => ?_) (fun c_15 => ?_)
              · exact absurd c_15 (by decide)
              · refine lv_iload hx hb dX2_clashesOn_18 (lv_at hl 0 rfl) ?_
                refine lv_iconst (v := 3) hx hb dX2_clashesOn_20 (by decide) ?_
                refine lv_icmp_ge (tgt := 76) hx hb dX2_clashesOn_21 (by decide) (fun c_21 => ?_) (fun c_21 => ?_)
                · exact absurd c_21 (by decide)
                · refine lv_iconst (v := 0) hx hb dX2_clashesOn_24 (by decide) ?_
                  refine lv_istore (lv' := [(5, .int 0), (4, .int 2), (3, .int 1), (2, .int (nI (2 + w))), (0, .ref h0), (1, .int (nI w))]) hx hb dX2_clashesOn_25 hl (by decide) rfl (fun ls hl => ?_)
                  refine lv_iload hx hb dX2_clashesOn_27 (lv_at hl 0 rfl) ?_
                  refine lv_iload hx hb dX2_clashesOn_29 (lv_at hl 1 rfl) ?_
                  refine lv_icmp_ge (tgt := 70) hx hb dX2_clashesOn_31 (by decide) (fun c_31 => ?_) (fun c_31 => ?_)
                  · exact absurd c_31 (by decide)
                  · refine lv_aload_n hx hb dX2_clashesOn_34 rfl (lv_at hl 4 rfl) ?_
                    refine va_get (D := D) (ci := 2) (v := .ref ar) (C := RX2) (T := TX2) (N := 4) hx hb hts hw_X2 hown hK hP 0 rfl rfl 3 (by decide) f_12 (fun _ h9 => h9) rfl dX2_clashesOn_35 ?_
                    refine lv_iload hx hb dX2_clashesOn_38 (lv_at hl 1 rfl) ?_
                    refine va_aldq hx hb hK hP 1 2 rfl rfl (vi_c (by decide +kernel)) dX2_clashesOn_40 ?_
                    refine kq (a := c2) (rfl) ?_
                    refine va_get (D := D) (ci := 0) (v := .ref r2) (C := RX0) (T := TX0) (N := 3) hx hb hts hw_X0 hown hK hP 6 rfl rfl 2 (by decide) f_35 (fun _ h9 => h9) rfl dX2_clashesOn_41 ?_
                    refine lv_iload_n hx hb dX2_clashesOn_44 rfl (lv_at hl 3 rfl) ?_
                    refine va_iald hx hb hK hP 7 0 rfl rfl (nI_in (by omega) (by decide)) dX2_clashesOn_45 ?_
                    refine lv_topi (fun y14 ey14 => ?_)
                    obtain rfl : y14 = f2 (2 + w) := ey14.trans (congrArg f2 (nI_clamp (by omega)))
                    refine lv_aload_n hx hb dX2_clashesOn_46 rfl (lv_at hl 4 rfl) ?_
                    refine va_get (D := D) (ci := 2) (v := .ref ar) (C := RX2) (T := TX2) (N := 4) hx hb hts hw_X2 hown hK hP 0 rfl rfl 3 (by decide) f_12 (fun _ h9 => h9) rfl dX2_clashesOn_47 ?_
                    refine lv_iload hx hb dX2_clashesOn_50 (lv_at hl 0 rfl) ?_
                    refine va_aldq hx hb hK hP 1 2 rfl rfl (vi_c (by decide +kernel)) dX2_clashesOn_52 ?_
                    refine kq (a := c0) (rfl) ?_
                    refine va_get (D := D) (ci := 0) (v := .ref r0) (C := RX0) (T := TX0) (N := 3) hx hb hts hw_X0 hown hK hP 2 rfl rfl 2 (by decide) f_35 (fun _ h9 => h9) rfl dX2_clashesOn_53 ?_
                    refine lv_iload_n hx hb dX2_clashesOn_56 rfl (lv_at hl 3 rfl) ?_
                    refine va_iald hx hb hK hP 3 0 rfl rfl (nI_in (by omega) (by decide)) dX2_clashesOn_57 ?_
                    refine lv_topi (fun y15 ey15 => ?_)
                    obtain rfl : y15 = f0 (2 + w) := ey15.trans (congrArg f0 (nI_clamp (by omega)))
                    refine lv_icmp_ne (tgt := 64) hx hb dX2_clashesOn_58 (by decide) (fun c_58_1 => ?_) (fun c_58_1 => ?_)
                    · refine lv_iinc (v := 1) (lv' := [(5, .int 1), (4, .int 2), (3, .int 1), (2, .int (nI (2 + w))), (0, .ref h0), (1, .int (nI w))]) hx hb dX2_clashesOn_64 hl (k := 0) rfl (by decide) (by decide) rfl (fun ls hl => ?_)
                      refine lv_goto (tgt := 27) hx hb dX2_clashesOn_67 (by decide) ?_
                      refine lv_iload hx hb dX2_clashesOn_27 (lv_at hl 0 rfl) ?_
                      refine lv_iload hx hb dX2_clashesOn_29 (lv_at hl 1 rfl) ?_
                      refine lv_icmp_ge (tgt := 70) hx hb dX2_clashesOn_31 (by decide) (fun c_31 => ?_) (fun c_31 => ?_)
                      · exact absurd c_31 (by decide)
                      · refine lv_aload_n hx hb dX2_clashesOn_34 rfl (lv_at hl 4 rfl) ?_
                        refine va_get (D := D) (ci := 2) (v := .ref ar) (C := RX2) (T := TX2) (N := 4) hx hb hts hw_X2 hown hK hP 0 rfl rfl 3 (by decide) f_12 (fun _ h9 => h9) rfl dX2_clashesOn_35 ?_
                        refine lv_iload hx hb dX2_clashesOn_38 (lv_at hl 1 rfl) ?_
                        refine va_aldq hx hb hK hP 1 2 rfl rfl (vi_c (by decide +kernel)) dX2_clashesOn_40 ?_
                        refine kq (a := c2) (rfl) ?_
                        refine va_get (D := D) (ci := 0) (v := .ref r2) (C := RX0) (T := TX0) (N := 3) hx hb hts hw_X0 hown hK hP 6 rfl rfl 2 (by decide) f_35 (fun _ h9 => h9) rfl dX2_clashesOn_41 ?_
                        refine lv_iload_n hx hb dX2_clashesOn_44 rfl (lv_at hl 3 rfl) ?_
                        refine va_iald hx hb hK hP 7 0 rfl rfl (nI_in (by omega) (by decide)) dX2_clashesOn_45 ?_
                        refine lv_topi (fun y16 ey16 => ?_)
                        obtain rfl : y16 = f2 (2 + w) := ey16.trans (congrArg f2 (nI_clamp (by omega)))
                        refine lv_aload_n hx hb dX2_clashesOn_46 rfl (lv_at hl 4 rfl) ?_
                        refine va_get (D := D) (ci := 2) (v := .ref ar) (C := RX2) (T := TX2) (N := 4) hx hb hts hw_X2 hown hK hP 0 rfl rfl 3 (by decide) f_12 (fun _ h9 => h9) rfl dX2_clashesOn_47 ?_
                        refine lv_iload hx hb dX2_clashesOn_50 (lv_at hl 0 rfl) ?_
                        refine va_aldq hx hb hK hP 1 2 rfl rfl (vi_c (by decide +kernel)) dX2_clashesOn_52 ?_
                        refine kq (a := c1) (rfl) ?_
                        refine va_get (D := D) (ci := 0) (v := .ref r1) (C := RX0) (T := TX0) (N := 3) hx hb hts hw_X0 hown hK hP 4 rfl rfl 2 (by decide) f_35 (fun _ h9 => h9) rfl dX2_clashesOn_53 ?_
                        refine lv_iload_n hx hb dX2_clashesOn_56 rfl (lv_at hl 3 rfl) ?_
                        refine va_iald hx hb hK hP 5 0 rfl rfl (nI_in (by omega) (by decide)) dX2_clashesOn_57 ?_
                        refine lv_topi (fun y17 ey17 => ?_)
                        obtain rfl : y17 = f1 (2 + w) := ey17.trans (congrArg f1 (nI_clamp (by omega)))
                        refine lv_icmp_ne (tgt := 64) hx hb dX2_clashesOn_58 (by decide) (fun c_58_2 => ?_) (fun c_58_2 => ?_)
                        · refine lv_iinc (v := 2) (lv' := [(5, .int 2), (4, .int 2), (3, .int 1), (2, .int (nI (2 + w))), (0, .ref h0), (1, .int (nI w))]) hx hb dX2_clashesOn_64 hl (k := 0) rfl (by decide) (by decide) rfl (fun ls hl => ?_)
                          refine lv_goto (tgt := 27) hx hb dX2_clashesOn_67 (by decide) ?_
                          refine lv_iload hx hb dX2_clashesOn_27 (lv_at hl 0 rfl) ?_
                          refine lv_iload hx hb dX2_clashesOn_29 (lv_at hl 1 rfl) ?_
                          refine lv_icmp_ge (tgt := 70) hx hb dX2_clashesOn_31 (by decide) (fun c_31 => ?_) (fun c_31 => ?_)
                          · refine lv_iinc (v := 3) (lv' := [(4, .int 3), (5, .int 2), (3, .int 1), (2, .int (nI (2 + w))), (0, .ref h0), (1, .int (nI w))]) hx hb dX2_clashesOn_70 hl (k := 1) rfl (by decide) (by decide) rfl (fun ls hl => ?_)
                            refine lv_goto (tgt := 9) hx hb dX2_clashesOn_73 (by decide) ?_
                            refine lv_iload hx hb dX2_clashesOn_9 (lv_at hl 0 rfl) ?_
                            refine lv_aload_n hx hb dX2_clashesOn_11 rfl (lv_at hl 4 rfl) ?_
                            refine va_get (D := D) (ci := 2) (v := .int 3) (C := RX2) (T := TX2) (N := 4) hx hb hts hw_X2 hown hK hP 0 rfl rfl 0 (by decide) f_18 (fun _ h9 => h9) rfl dX2_clashesOn_12 ?_
                            refine lv_icmp_ge (tgt := 76) hx hb dX2_clashesOn_15 (by decide) (fun c_15 => ?_) (fun c_15 => ?_)
                            · refine lv_iload_n hx hb dX2_clashesOn_76 rfl (lv_at hl 2 rfl) ?_
                              have hP9 := hP.sub (ws' := [(h0, .inr (2, [.int (nI 3), .int tn, .int sn, .ref ar])), (ar, .inl (cy 2, 3, .inr (.inr (.inr (.inr (va_up (va_up (va_up (fun _ => none) 0 (some c0)) 1 (some c1)) 2 (some c2))))))), (c0, .inr (0, [.int k0, .int s0, .ref r0])), (r0, .inl (cy 0, 6, .inl f0)), (c1, .inr (0, [.int k1, .int s1, .ref r1])), (r1, .inl (cy 0, 6, .inl f1)), (c2, .inr (0, [.int k2, .int s2, .ref r2])), (r2, .inl (cy 0, 6, .inl f2))]) [0, 1, 2, 3, 4, 5, 6, 7] rfl
                              have hD9 := hD.sub (ws' := [(h0, .inr (2, [.int (nI 3), .int tn, .int sn, .ref ar])), (ar, .inl (cy 2, 3, .inr (.inr (.inr (.inr (va_up (va_up (va_up (fun _ => none) 0 (some c0)) 1 (some c1)) 2 (some c2))))))), (c0, .inr (0, [.int k0, .int s0, .ref r0])), (r0, .inl (cy 0, 6, .inl f0)), (c1, .inr (0, [.int k1, .int s1, .ref r1])), (r1, .inl (cy 0, 6, .inl f1)), (c2, .inr (0, [.int k2, .int s2, .ref r2])), (r2, .inl (cy 0, 6, .inl f2))]) [0, 1, 2, 3, 4, 5, 6, 7] (by decide +kernel) rfl
                              exact W.iret (v := 1) hx hb hr (fun t9 ht9 hW9 => ⟨⟨1, [(h0, .inr (2, [.int (nI 3), .int tn, .int sn, .ref ar])), (ar, .inl (cy 2, 3, .inr (.inr (.inr (.inr (va_up (va_up (va_up (fun _ => none) 0 (some c0)) 1 (some c1)) 2 (some c2))))))), (c0, .inr (0, [.int k0, .int s0, .ref r0])), (r0, .inl (cy 0, 6, .inl f0)), (c1, .inr (0, [.int k1, .int s1, .ref r1])), (r1, .inl (cy 0, 6, .inl f1)), (c2, .inr (0, [.int k2, .int s2, .ref r2])), (r2, .inl (cy 0, 6, .inl f2))], rfl, ⟨rfl, (congrArg nI (show 1 = eqn (f1 (2 + w)) (f0 (2 + w)) + eqn (f2 (2 + w)) (f0 (2 + w)) + eqn (f2 (2 + w)) (f1 (2 + w)) by rw [eqn1 c_58_0, eqn0 c_58_1, eqn0 c_58_2]))⟩, by rw [ht9]; exact hP9, hD9⟩, hS.F ht9⟩) hS.2.2 dX2_clashesOn_77
                            · exact absurd c_15 (by decide)
                          · exact absurd c_31 (by decide)
                        · refine lv_iinc (v := 2) (lv' := [(3, .int 2), (5, .int 1), (4, .int 2), (2, .int (nI (2 + w))), (0, .ref h0), (1, .int (nI w))]) hx hb dX2_clashesOn_61 hl (k := 2) rfl (by decide) (by decide) rfl (fun ls hl => ?_)
                          refine lv_iinc (v := 2) (lv' := [(5, .int 2), (3, .int 2), (4, .int 2), (2, .int (nI (2 + w))), (0, .ref h0), (1, .int (nI w))]) hx hb dX2_clashesOn_64 hl (k := 1) rfl (by decide) (by decide) rfl (fun ls hl => ?_)
                          refine lv_goto (tgt := 27) hx hb dX2_clashesOn_67 (by decide) ?_
                          refine lv_iload hx hb dX2_clashesOn_27 (lv_at hl 0 rfl) ?_
                          refine lv_iload hx hb dX2_clashesOn_29 (lv_at hl 2 rfl) ?_
                          refine lv_icmp_ge (tgt := 70) hx hb dX2_clashesOn_31 (by decide) (fun c_31 => ?_) (fun c_31 => ?_)
                          · refine lv_iinc (v := 3) (lv' := [(4, .int 3), (5, .int 2), (3, .int 2), (2, .int (nI (2 + w))), (0, .ref h0), (1, .int (nI w))]) hx hb dX2_clashesOn_70 hl (k := 2) rfl (by decide) (by decide) rfl (fun ls hl => ?_)
                            refine lv_goto (tgt := 9) hx hb dX2_clashesOn_73 (by decide) ?_
                            refine lv_iload hx hb dX2_clashesOn_9 (lv_at hl 0 rfl) ?_
                            refine lv_aload_n hx hb dX2_clashesOn_11 rfl (lv_at hl 4 rfl) ?_
                            refine va_get (D := D) (ci := 2) (v := .int 3) (C := RX2) (T := TX2) (N := 4) hx hb hts hw_X2 hown hK hP 0 rfl rfl 0 (by decide) f_18 (fun _ h9 => h9) rfl dX2_clashesOn_12 ?_
                            refine lv_icmp_ge (tgt := 76) hx hb dX2_clashesOn_15 (by decide) (fun c_15 => ?_) (fun c_15 => ?_)
                            · refine lv_iload_n hx hb dX2_clashesOn_76 rfl (lv_at hl 2 rfl) ?_
                              have hP9 := hP.sub (ws' := [(h0, .inr (2, [.int (nI 3), .int tn, .int sn, .ref ar])), (ar, .inl (cy 2, 3, .inr (.inr (.inr (.inr (va_up (va_up (va_up (fun _ => none) 0 (some c0)) 1 (some c1)) 2 (some c2))))))), (c0, .inr (0, [.int k0, .int s0, .ref r0])), (r0, .inl (cy 0, 6, .inl f0)), (c1, .inr (0, [.int k1, .int s1, .ref r1])), (r1, .inl (cy 0, 6, .inl f1)), (c2, .inr (0, [.int k2, .int s2, .ref r2])), (r2, .inl (cy 0, 6, .inl f2))]) [0, 1, 2, 3, 4, 5, 6, 7] rfl
                              have hD9 := hD.sub (ws' := [(h0, .inr (2, [.int (nI 3), .int tn, .int sn, .ref ar])), (ar, .inl (cy 2, 3, .inr (.inr (.inr (.inr (va_up (va_up (va_up (fun _ => none) 0 (some c0)) 1 (some c1)) 2 (some c2))))))), (c0, .inr (0, [.int k0, .int s0, .ref r0])), (r0, .inl (cy 0, 6, .inl f0)), (c1, .inr (0, [.int k1, .int s1, .ref r1])), (r1, .inl (cy 0, 6, .inl f1)), (c2, .inr (0, [.int k2, .int s2, .ref r2])), (r2, .inl (cy 0, 6, .inl f2))]) [0, 1, 2, 3, 4, 5, 6, 7] (by decide +kernel) rfl
                              exact W.iret (v := 2) hx hb hr (fun t9 ht9 hW9 => ⟨⟨2, [(h0, .inr (2, [.int (nI 3), .int tn, .int sn, .ref ar])), (ar, .inl (cy 2, 3, .inr (.inr (.inr (.inr (va_up (va_up (va_up (fun _ => none) 0 (some c0)) 1 (some c1)) 2 (some c2))))))), (c0, .inr (0, [.int k0, .int s0, .ref r0])), (r0, .inl (cy 0, 6, .inl f0)), (c1, .inr (0, [.int k1, .int s1, .ref r1])), (r1, .inl (cy 0, 6, .inl f1)), (c2, .inr (0, [.int k2, .int s2, .ref r2])), (r2, .inl (cy 0, 6, .inl f2))], rfl, ⟨rfl, (congrArg nI (show 2 = eqn (f1 (2 + w)) (f0 (2 + w)) + eqn (f2 (2 + w)) (f0 (2 + w)) + eqn (f2 (2 + w)) (f1 (2 + w)) by rw [eqn1 c_58_0, eqn0 c_58_1, eqn1 c_58_2]))⟩, by rw [ht9]; exact hP9, hD9⟩, hS.F ht9⟩) hS.2.2 dX2_clashesOn_77
                            · exact absurd c_15 (by decide)
                          · exact absurd c_31 (by decide)
                    · refine lv_iinc (v := 2) (lv' := [(3, .int 2), (5, .int 0), (4, .int 2), (2, .int (nI (2 + w))), (0, .ref h0), (1, .int (nI w))]) hx hb dX2_clashesOn_61 hl (k := 2) rfl (by decide) (by decide) rfl (fun ls hl => ?_)
                      refine lv_iinc (v := 1) (lv' := [(5, .int 1), (3, .int 2), (4, .int 2), (2, .int (nI (2 + w))), (0, .ref h0), (1, .int (nI w))]) hx hb dX2_clashesOn_64 hl (k := 1) rfl (by decide) (by decide) rfl (fun ls hl => ?_)
                      refine lv_goto (tgt := 27) hx hb dX2_clashesOn_67 (by decide) ?_
                      refine lv_iload hx hb dX2_clashesOn_27 (lv_at hl 0 rfl) ?_
                      refine lv_iload hx hb dX2_clashesOn_29 (lv_at hl 2 rfl) ?_
                      refine lv_icmp_ge (tgt := 70) hx hb dX2_clashesOn_31 (by decide) (fun c_31 => ?_) (fun c_31 => ?_)
                      · exact absurd c_31 (by decide)
                      · refine lv_aload_n hx hb dX2_clashesOn_34 rfl (lv_at hl 4 rfl) ?_
                        refine va_get (D := D) (ci := 2) (v := .ref ar) (C := RX2) (T := TX2) (N := 4) hx hb hts hw_X2 hown hK hP 0 rfl rfl 3 (by decide) f_12 (fun _ h9 => h9) rfl dX2_clashesOn_35 ?_
                        refine lv_iload hx hb dX2_clashesOn_38 (lv_at hl 2 rfl) ?_
                        refine va_aldq hx hb hK hP 1 2 rfl rfl (vi_c (by decide +kernel)) dX2_clashesOn_40 ?_
                        refine kq (a := c2) (rfl) ?_
                        refine va_get (D := D) (ci := 0) (v := .ref r2) (C := RX0) (T := TX0) (N := 3) hx hb hts hw_X0 hown hK hP 6 rfl rfl 2 (by decide) f_35 (fun _ h9 => h9) rfl dX2_clashesOn_41 ?_
                        refine lv_iload_n hx hb dX2_clashesOn_44 rfl (lv_at hl 3 rfl) ?_
                        refine va_iald hx hb hK hP 7 0 rfl rfl (nI_in (by omega) (by decide)) dX2_clashesOn_45 ?_
                        refine lv_topi (fun y18 ey18 => ?_)
                        obtain rfl : y18 = f2 (2 + w) := ey18.trans (congrArg f2 (nI_clamp (by omega)))
                        refine lv_aload_n hx hb dX2_clashesOn_46 rfl (lv_at hl 4 rfl) ?_
                        refine va_get (D := D) (ci := 2) (v := .ref ar) (C := RX2) (T := TX2) (N := 4) hx hb hts hw_X2 hown hK hP 0 rfl rfl 3 (by decide) f_12 (fun _ h9 => h9) rfl dX2_clashesOn_47 ?_
                        refine lv_iload hx hb dX2_clashesOn_50 (lv_at hl 0 rfl) ?_
                        refine va_aldq hx hb hK hP 1 2 rfl rfl (vi_c (by decide +kernel)) dX2_clashesOn_52 ?_
                        refine kq (a := c1) (rfl) ?_
                        refine va_get (D := D) (ci := 0) (v := .ref r1) (C := RX0) (T := TX0) (N := 3) hx hb hts hw_X0 hown hK hP 4 rfl rfl 2 (by decide) f_35 (fun _ h9 => h9) rfl dX2_clashesOn_53 ?_
                        refine lv_iload_n hx hb dX2_clashesOn_56 rfl (lv_at hl 3 rfl) ?_
                        refine va_iald hx hb hK hP 5 0 rfl rfl (nI_in (by omega) (by decide)) dX2_clashesOn_57 ?_
                        refine lv_topi (fun y19 ey19 => ?_)
                        obtain rfl : y19 = f1 (2 + w) := ey19.trans (congrArg f1 (nI_clamp (by omega)))
                        refine lv_icmp_ne (tgt := 64) hx hb dX2_clashesOn_58 (by decide) (fun c_58_2 => ?_) (fun c_58_2 => ?_)
                        · refine lv_iinc (v := 2) (lv' := [(5, .int 2), (3, .int 2), (4, .int 2), (2, .int (nI (2 + w))), (0, .ref h0), (1, .int (nI w))]) hx hb dX2_clashesOn_64 hl (k := 0) rfl (by decide) (by decide) rfl (fun ls hl => ?_)
                          refine lv_goto (tgt := 27) hx hb dX2_clashesOn_67 (by decide) ?_
                          refine lv_iload hx hb dX2_clashesOn_27 (lv_at hl 0 rfl) ?_
                          refine lv_iload hx hb dX2_clashesOn_29 (lv_at hl 2 rfl) ?_
                          refine lv_icmp_ge (tgt := 70) hx hb dX2_clashesOn_31 (by decide) (fun c_31 => ?_) (fun c_31 => ?_)
                          · refine lv_iinc (v := 3) (lv' := [(4, .int 3), (5, .int 2), (3, .int 2), (2, .int (nI (2 + w))), (0, .ref h0), (1, .int (nI w))]) hx hb dX2_clashesOn_70 hl (k := 2) rfl (by decide) (by decide) rfl (fun ls hl => ?_)
                            refine lv_goto (tgt := 9) hx hb dX2_clashesOn_73 (by decide) ?_
                            refine lv_iload hx hb dX2_clashesOn_9 (lv_at hl 0 rfl) ?_
                            refine lv_aload_n hx hb dX2_clashesOn_11 rfl (lv_at hl 4 rfl) ?_
                            refine va_get (D := D) (ci := 2) (v := .int 3) (C := RX2) (T := TX2) (N := 4) hx hb hts hw_X2 hown hK hP 0 rfl rfl 0 (by decide) f_18 (fun _ h9 => h9) rfl dX2_clashesOn_12 ?_
                            refine lv_icmp_ge (tgt := 76) hx hb dX2_clashesOn_15 (by decide) (fun c_15 => ?_) (fun c_15 => ?_)
                            · refine lv_iload_n hx hb dX2_clashesOn_76 rfl (lv_at hl 2 rfl) ?_
                              have hP9 := hP.sub (ws' := [(h0, .inr (2, [.int (nI 3), .int tn, .int sn, .ref ar])), (ar, .inl (cy 2, 3, .inr (.inr (.inr (.inr (va_up (va_up (va_up (fun _ => none) 0 (some c0)) 1 (some c1)) 2 (some c2))))))), (c0, .inr (0, [.int k0, .int s0, .ref r0])), (r0, .inl (cy 0, 6, .inl f0)), (c1, .inr (0, [.int k1, .int s1, .ref r1])), (r1, .inl (cy 0, 6, .inl f1)), (c2, .inr (0, [.int k2, .int s2, .ref r2])), (r2, .inl (cy 0, 6, .inl f2))]) [0, 1, 2, 3, 4, 5, 6, 7] rfl
                              have hD9 := hD.sub (ws' := [(h0, .inr (2, [.int (nI 3), .int tn, .int sn, .ref ar])), (ar, .inl (cy 2, 3, .inr (.inr (.inr (.inr (va_up (va_up (va_up (fun _ => none) 0 (some c0)) 1 (some c1)) 2 (some c2))))))), (c0, .inr (0, [.int k0, .int s0, .ref r0])), (r0, .inl (cy 0, 6, .inl f0)), (c1, .inr (0, [.int k1, .int s1, .ref r1])), (r1, .inl (cy 0, 6, .inl f1)), (c2, .inr (0, [.int k2, .int s2, .ref r2])), (r2, .inl (cy 0, 6, .inl f2))]) [0, 1, 2, 3, 4, 5, 6, 7] (by decide +kernel) rfl
                              exact W.iret (v := 2) hx hb hr (fun t9 ht9 hW9 => ⟨⟨2, [(h0, .inr (2, [.int (nI 3), .int tn, .int sn, .ref ar])), (ar, .inl (cy 2, 3, .inr (.inr (.inr (.inr (va_up (va_up (va_up (fun _ => none) 0 (some c0)) 1 (some c1)) 2 (some c2))))))), (c0, .inr (0, [.int k0, .int s0, .ref r0])), (r0, .inl (cy 0, 6, .inl f0)), (c1, .inr (0, [.int k1, .int s1, .ref r1])), (r1, .inl (cy 0, 6, .inl f1)), (c2, .inr (0, [.int k2, .int s2, .ref r2])), (r2, .inl (cy 0, 6, .inl f2))], rfl, ⟨rfl, (congrArg nI (show 2 = eqn (f1 (2 + w)) (f0 (2 + w)) + eqn (f2 (2 + w)) (f0 (2 + w)) + eqn (f2 (2 + w)) (f1 (2 + w)) by rw [eqn1 c_58_0, eqn1 c_58_1, eqn0 c_58_2]))⟩, by rw [ht9]; exact hP9, hD9⟩, hS.F ht9⟩) hS.2.2 dX2_clashesOn_77
                            · exact absurd c_15 (by decide)
                          · exact absurd c_31 (by decide)
                        · refine lv_iinc (v := 3) (lv' := [(3, .int 3), (5, .int 1), (4, .int 2), (2, .int (nI (2 + w))), (0, .ref h0), (1, .int (nI w))]) hx hb dX2_clashesOn_61 hl (k := 1) rfl (by decide) (by decide) rfl (fun ls hl => ?_)
                          refine lv_iinc (v := 2) (lv' := [(5, .int 2), (3, .int 3), (4, .int 2), (2, .int (nI (2 + w))), (0, .ref h0), (1, .int (nI w))]) hx hb dX2_clashesOn_64 hl (k := 1) rfl (by decide) (by decide) rfl (fun ls hl => ?_)
                          refine lv_goto (tgt := 27) hx hb dX2_clashesOn_67 (by decide) ?_
                          refine lv_iload hx hb dX2_clashesOn_27 (lv_at hl 0 rfl) ?_
                          refine lv_iload hx hb dX2_clashesOn_29 (lv_at hl 2 rfl) ?_
                          refine lv_icmp_ge (tgt := 70) hx hb dX2_clashesOn_31 (by decide) (fun c_31 => ?_) (fun c_31 => ?_)
                          · refine lv_iinc (v := 3) (lv' := [(4, .int 3), (5, .int 2), (3, .int 3), (2, .int (nI (2 + w))), (0, .ref h0), (1, .int (nI w))]) hx hb dX2_clashesOn_70 hl (k := 2) rfl (by decide) (by decide) rfl (fun ls hl => ?_)
                            refine lv_goto (tgt := 9) hx hb dX2_clashesOn_73 (by decide) ?_
                            refine lv_iload hx hb dX2_clashesOn_9 (lv_at hl 0 rfl) ?_
                            refine lv_aload_n hx hb dX2_clashesOn_11 rfl (lv_at hl 4 rfl) ?_
                            refine va_get (D := D) (ci := 2) (v := .int 3) (C := RX2) (T := TX2) (N := 4) hx hb hts hw_X2 hown hK hP 0 rfl rfl 0 (by decide) f_18 (fun _ h9 => h9) rfl dX2_clashesOn_12 ?_
                            refine lv_icmp_ge (tgt := 76) hx hb dX2_clashesOn_15 (by decide) (fun c_15 => ?_) (fun c_15 => ?_)
                            · refine lv_iload_n hx hb dX2_clashesOn_76 rfl (lv_at hl 2 rfl) ?_
                              have hP9 := hP.sub (ws' := [(h0, .inr (2, [.int (nI 3), .int tn, .int sn, .ref ar])), (ar, .inl (cy 2, 3, .inr (.inr (.inr (.inr (va_up (va_up (va_up (fun _ => none) 0 (some c0)) 1 (some c1)) 2 (some c2))))))), (c0, .inr (0, [.int k0, .int s0, .ref r0])), (r0, .inl (cy 0, 6, .inl f0)), (c1, .inr (0, [.int k1, .int s1, .ref r1])), (r1, .inl (cy 0, 6, .inl f1)), (c2, .inr (0, [.int k2, .int s2, .ref r2])), (r2, .inl (cy 0, 6, .inl f2))]) [0, 1, 2, 3, 4, 5, 6, 7] rfl
                              have hD9 := hD.sub (ws' := [(h0, .inr (2, [.int (nI 3), .int tn, .int sn, .ref ar])), (ar, .inl (cy 2, 3, .inr (.inr (.inr (.inr (va_up (va_up (va_up (fun _ => none) 0 (some c0)) 1 (some c1)) 2 (some c2))))))), (c0, .inr (0, [.int k0, .int s0, .ref r0])), (r0, .inl (cy 0, 6, .inl f0)), (c1, .inr (0, [.int k1, .int s1, .ref r1])), (r1, .inl (cy 0, 6, .inl f1)), (c2, .inr (0, [.int k2, .int s2, .ref r2])), (r2, .inl (cy 0, 6, .inl f2))]) [0, 1, 2, 3, 4, 5, 6, 7] (by decide +kernel) rfl
                              exact W.iret (v := 3) hx hb hr (fun t9 ht9 hW9 => ⟨⟨3, [(h0, .inr (2, [.int (nI 3), .int tn, .int sn, .ref ar])), (ar, .inl (cy 2, 3, .inr (.inr (.inr (.inr (va_up (va_up (va_up (fun _ => none) 0 (some c0)) 1 (some c1)) 2 (some c2))))))), (c0, .inr (0, [.int k0, .int s0, .ref r0])), (r0, .inl (cy 0, 6, .inl f0)), (c1, .inr (0, [.int k1, .int s1, .ref r1])), (r1, .inl (cy 0, 6, .inl f1)), (c2, .inr (0, [.int k2, .int s2, .ref r2])), (r2, .inl (cy 0, 6, .inl f2))], rfl, ⟨rfl, (congrArg nI (show 3 = eqn (f1 (2 + w)) (f0 (2 + w)) + eqn (f2 (2 + w)) (f0 (2 + w)) + eqn (f2 (2 + w)) (f1 (2 + w)) by rw [eqn1 c_58_0, eqn1 c_58_1, eqn1 c_58_2]))⟩, by rw [ht9]; exact hP9, hD9⟩, hS.F ht9⟩) hS.2.2 dX2_clashesOn_77
                            · exact absurd c_15 (by decide)
                          · exact absurd c_31 (by decide)
            · exact absurd c_31 (by decide)
def q_X2_clashes (cy : Nat → ClassId) (h0 : Nat) (ar : Nat) (c0 : Nat) (r0 : Nat) (c1 : Nat) (r1 : Nat) (c2 : Nat) (r2 : Nat) (sz : Nat) (tn : Int32) (sn : Int32) (k0 : Int32) (s0 : Int32) (k1 : Int32) (s1 : Int32) (k2 : Int32) (s2 : Int32) (f0 : Nat → Int32) (f1 : Nat → Int32) (f2 : Nat → Int32) : Int32 → va_W → Prop := fun (r : Int32) (u : va_W) => u = [(h0, .inr (2, [.int (nI sz), .int tn, .int sn, .ref ar])), (ar, .inl (cy 2, 3, .inr (.inr (.inr (.inr (va_up (va_up (va_up (fun _ => none) 0 (some c0)) 1 (some c1)) 2 (some c2))))))), (c0, .inr (0, [.int k0, .int s0, .ref r0])), (r0, .inl (cy 0, 6, .inl f0)), (c1, .inr (0, [.int k1, .int s1, .ref r1])), (r1, .inl (cy 0, 6, .inl f1)), (c2, .inr (0, [.int k2, .int s2, .ref r2])), (r2, .inl (cy 0, 6, .inl f2))] ∧ r = nI (clAll sz f0 f1 f2)
set_option maxHeartbeats 4000000 in
set_option maxRecDepth 100000 in
theorem g_X2_clashes (l : Launch) (D : va_G) (cy : Nat → ClassId) (zz : Nat) (h0 : Nat) (ar : Nat) (c0 : Nat) (r0 : Nat) (c1 : Nat) (r1 : Nat) (c2 : Nat) (r2 : Nat) (sz : Nat) (tn : Int32) (sn : Int32) (k0 : Int32) (s0 : Int32) (k1 : Int32) (s1 : Int32) (k2 : Int32) (s2 : Int32) (f0 : Nat → Int32) (f1 : Nat → Int32) (f2 : Nat → Int32) (hsz : sz = 0 ∨ sz = 2 ∨ sz = 3) : Met l yX2_clashes wsX2_clashes ({ frames := 1, cells := 0, slots := 0, locals := 25 } : Room) (va_Pc [.ref h0] (cpre D cy [(h0, .inr (2, [.int (nI sz), .int tn, .int sn, .ref ar])), (ar, .inl (cy 2, 3, .inr (.inr (.inr (.inr (va_up (va_up (va_up (fun _ => none) 0 (some c0)) 1 (some c1)) 2 (some c2))))))), (c0, .inr (0, [.int k0, .int s0, .ref r0])), (r0, .inl (cy 0, 6, .inl f0)), (c1, .inr (0, [.int k1, .int s1, .ref r1])), (r1, .inl (cy 0, 6, .inl f1)), (c2, .inr (0, [.int k2, .int s2, .ref r2])), (r2, .inl (cy 0, 6, .inl f2))] zz)) (va_Qi (q_X2_clashes cy h0 ar c0 r0 c1 r1 c2 r2 sz tn sn k0 s0 k1 s1 k2 s2 f0 f1 f2) (cpost D (va_A [(h0, .inr (2, [.int (nI sz), .int tn, .int sn, .ref ar])), (ar, .inl (cy 2, 3, .inr (.inr (.inr (.inr (va_up (va_up (va_up (fun _ => none) 0 (some c0)) 1 (some c1)) 2 (some c2))))))), (c0, .inr (0, [.int k0, .int s0, .ref r0])), (r0, .inl (cy 0, 6, .inl f0)), (c1, .inr (0, [.int k1, .int s1, .ref r1])), (r1, .inl (cy 0, 6, .inl f1)), (c2, .inr (0, [.int k2, .int s2, .ref r2])), (r2, .inl (cy 0, 6, .inl f2))] zz)) (va_A [(h0, .inr (2, [.int (nI sz), .int tn, .int sn, .ref ar])), (ar, .inl (cy 2, 3, .inr (.inr (.inr (.inr (va_up (va_up (va_up (fun _ => none) 0 (some c0)) 1 (some c1)) 2 (some c2))))))), (c0, .inr (0, [.int k0, .int s0, .ref r0])), (r0, .inl (cy 0, 6, .inl f0)), (c1, .inr (0, [.int k1, .int s1, .ref r1])), (r1, .inl (cy 0, 6, .inl f1)), (c2, .inr (0, [.int k2, .int s2, .ref r2])), (r2, .inl (cy 0, 6, .inl f2))] zz)) 0 0 (va_A [(h0, .inr (2, [.int (nI sz), .int tn, .int sn, .ref ar])), (ar, .inl (cy 2, 3, .inr (.inr (.inr (.inr (va_up (va_up (va_up (fun _ => none) 0 (some c0)) 1 (some c1)) 2 (some c2))))))), (c0, .inr (0, [.int k0, .int s0, .ref r0])), (r0, .inl (cy 0, 6, .inl f0)), (c1, .inr (0, [.int k1, .int s1, .ref r1])), (r1, .inl (cy 0, 6, .inl f1)), (c2, .inr (0, [.int k2, .int s2, .ref r2])), (r2, .inl (cy 0, 6, .inl f2))] zz) := by
  refine Met.ofW (cc := cX2_clashes) (maxL := 3) (ret := (some .int)) (by decide) rfl ?_
  intro p e s m args below meth c s₁ B hml hv
  obtain ⟨rfl, hsz, hP, hD0, hX⟩ := hv
  have hx := B.exec
  have hb := B.bytes
  have hr := B.returns
  have hts := atoms_spec (ws := wsX2_clashes) B.pre
  have hown : s.vm.findClass RX2 = some m.cls := findClass_of_methodNamed B.named
  have hlocks := B.notSynchronized
  subst hsz
  have hD := hD0.self (sz := s.heap.size)
  generalize hAe : va_A [(h0, .inr (2, [.int (nI sz), .int tn, .int sn, .ref ar])), (ar, .inl (cy 2, 3, .inr (.inr (.inr (.inr (va_up (va_up (va_up (fun _ => none) 0 (some c0)) 1 (some c1)) 2 (some c2))))))), (c0, .inr (0, [.int k0, .int s0, .ref r0])), (r0, .inl (cy 0, 6, .inl f0)), (c1, .inr (0, [.int k1, .int s1, .ref r1])), (r1, .inl (cy 0, 6, .inl f1)), (c2, .inr (0, [.int k2, .int s2, .ref r2])), (r2, .inl (cy 0, 6, .inl f2))] s.heap.size = A at hD hX ⊢
  have hA : ∀ q : Nat, s.heap.size ≤ q → A q := fun q h => by rw [← hAe]; exact Or.inr h
  obtain ⟨H, hH⟩ : ∃ H : Heap, H = s.heap := ⟨_, rfl⟩
  have hS : va_S A s.heap H [] := hH ▸ va_S.rf
  have hK := hX.1
  have hP : va_P D vwCl [(h0, .inr (2, [.int (nI sz), .int tn, .int sn, .ref ar])), (ar, .inl (cy 2, 3, .inr (.inr (.inr (.inr (va_up (va_up (va_up (fun _ => none) 0 (some c0)) 1 (some c1)) 2 (some c2))))))), (c0, .inr (0, [.int k0, .int s0, .ref r0])), (r0, .inl (cy 0, 6, .inl f0)), (c1, .inr (0, [.int k1, .int s1, .ref r1])), (r1, .inl (cy 0, 6, .inl f1)), (c2, .inr (0, [.int k2, .int s2, .ref r2])), (r2, .inl (cy 0, 6, .inl f2))] H := hH ▸ hP
  rw [← hH]
  have hl := lv_entry ([.ref h0]) (n := 3) (Nat.le_of_ble_eq_true rfl)
  rw [lg_entry_eq]
  generalize (lg_sl ([.ref h0]) ++ List.replicate (3 - (lg_sl ([.ref h0])).length) Slot.unset).toArray = ls at hl ⊢
  have hl : lv_has ls 3 [(0, .ref h0)] := hl
  refine lv_iconst (v := 0) hx hb dX2_clashes_0 (by decide) ?_
  refine lv_istore_n (lv' := [(1, .int 0), (0, .ref h0)]) hx hb dX2_clashes_1 rfl hl (by decide) rfl (fun ls hl => ?_)
  refine lv_iconst (v := 0) hx hb dX2_clashes_2 (by decide) ?_
  refine lv_istore_n (lv' := [(2, .int 0), (1, .int 0), (0, .ref h0)]) hx hb dX2_clashes_3 rfl hl (by decide) rfl (fun ls hl => ?_)
  refine lv_iload_n hx hb dX2_clashes_4 rfl (lv_at hl 0 rfl) ?_
  refine lv_iconst (v := 4) hx hb dX2_clashes_5 (by decide) ?_
  refine lv_icmp_ge (tgt := 23) hx hb dX2_clashes_6 (by decide) (fun c_6 => ?_) (fun c_6 => ?_)
  · exact absurd c_6 (by decide)
  · refine lv_iload_n hx hb dX2_clashes_9 rfl (lv_at hl 1 rfl) ?_
    refine lv_aload_n hx hb dX2_clashes_10 rfl (lv_at hl 2 rfl) ?_
    refine lv_iload_n hx hb dX2_clashes_11 rfl (lv_at hl 0 rfl) ?_
    refine kc_i (wc := [(h0, .inr (2, [.int (nI sz), .int tn, .int sn, .ref ar])), (ar, .inl (cy 2, 3, .inr (.inr (.inr (.inr (va_up (va_up (va_up (fun _ => none) 0 (some c0)) 1 (some c1)) 2 (some c2))))))), (c0, .inr (0, [.int k0, .int s0, .ref r0])), (r0, .inl (cy 0, 6, .inl f0)), (c1, .inr (0, [.int k1, .int s1, .ref r1])), (r1, .inl (cy 0, 6, .inl f1)), (c2, .inr (0, [.int k2, .int s2, .ref r2])), (r2, .inl (cy 0, 6, .inl f2))]) (wr := []) (va_runV (As := [.int 0]) (rest := [.int 0]) ⟨hx, hb, hml, hown, hts⟩ (g_X2_clashesOn l D cy H.size h0 ar c0 r0 c1 r1 c2 r2 sz tn sn k0 s0 k1 s1 k2 s2 f0 f1 f2 0 hsz (by decide)) (cwV 1 hts gX2_clashes_X2_clashesOn rfl rfl rfl hdc_X2_clashesOn ⟨Nat.le_of_ble_eq_true rfl, Nat.le_of_ble_eq_true rfl⟩) (cpre_V (wc := [(h0, .inr (2, [.int (nI sz), .int tn, .int sn, .ref ar])), (ar, .inl (cy 2, 3, .inr (.inr (.inr (.inr (va_up (va_up (va_up (fun _ => none) 0 (some c0)) 1 (some c1)) 2 (some c2))))))), (c0, .inr (0, [.int k0, .int s0, .ref r0])), (r0, .inl (cy 0, 6, .inl f0)), (c1, .inr (0, [.int k1, .int s1, .ref r1])), (r1, .inl (cy 0, 6, .inl f1)), (c2, .inr (0, [.int k2, .int s2, .ref r2])), (r2, .inl (cy 0, 6, .inl f2))]) 0 2 rfl rfl hX hP hD hS hA [0, 1, 2, 3, 4, 5, 6, 7] (by decide +kernel) rfl) rfl rfl hl.1 rfl (lv_room (Nat.le_of_ble_eq_true rfl)) dX2_clashes_12 ⟨Nat.le_of_ble_eq_true rfl, Nat.le_of_ble_eq_true rfl⟩) hP hD hS hA [0, 1, 2, 3, 4, 5, 6, 7] [] rfl rfl (by decide +kernel) (by decide +kernel) (fun ro u1 H locs hw hP hD hS => ?_)
    obtain ⟨hu, hro⟩ := hw
    subst hu
    have hP : va_P D vwCl [(h0, .inr (2, [.int (nI sz), .int tn, .int sn, .ref ar])), (ar, .inl (cy 2, 3, .inr (.inr (.inr (.inr (va_up (va_up (va_up (fun _ => none) 0 (some c0)) 1 (some c1)) 2 (some c2))))))), (c0, .inr (0, [.int k0, .int s0, .ref r0])), (r0, .inl (cy 0, 6, .inl f0)), (c1, .inr (0, [.int k1, .int s1, .ref r1])), (r1, .inl (cy 0, 6, .inl f1)), (c2, .inr (0, [.int k2, .int s2, .ref r2])), (r2, .inl (cy 0, 6, .inl f2))] H := hP
    have hD : va_D A [(h0, .inr (2, [.int (nI sz), .int tn, .int sn, .ref ar])), (ar, .inl (cy 2, 3, .inr (.inr (.inr (.inr (va_up (va_up (va_up (fun _ => none) 0 (some c0)) 1 (some c1)) 2 (some c2))))))), (c0, .inr (0, [.int k0, .int s0, .ref r0])), (r0, .inl (cy 0, 6, .inl f0)), (c1, .inr (0, [.int k1, .int s1, .ref r1])), (r1, .inl (cy 0, 6, .inl f1)), (c2, .inr (0, [.int k2, .int s2, .ref r2])), (r2, .inl (cy 0, 6, .inl f2))] := hD
    subst hro
    refine lv_iadd hx hb dX2_clashes_15 ?_
    refine lv_topi (fun y2 ey2 => ?_)
    obtain rfl : y2 = nI (clOn sz f0 f1 f2 (2 + 0)) := ey2.trans (Int32.zero_add _)
    refine lv_istore_n (lv' := [(1, .int (nI (clOn sz f0 f1 f2 (2 + 0)))), (2, .int 0), (0, .ref h0)]) hx hb dX2_clashes_16 rfl hl (by decide) rfl (fun ls hl => ?_)
    refine lv_iinc (v := 1) (lv' := [(2, .int 1), (1, .int (nI (clOn sz f0 f1 f2 (2 + 0)))), (0, .ref h0)]) hx hb dX2_clashes_17 hl (k := 1) rfl (by decide) (by decide) rfl (fun ls hl => ?_)
    refine lv_goto (tgt := 4) hx hb dX2_clashes_20 (by decide) ?_
    refine lv_iload_n hx hb dX2_clashes_4 rfl (lv_at hl 0 rfl) ?_
    refine lv_iconst (v := 4) hx hb dX2_clashes_5 (by decide) ?_
    refine lv_icmp_ge (tgt := 23) hx hb dX2_clashes_6 (by decide) (fun c_6 => ?_) (fun c_6 => ?_)
    · exact absurd c_6 (by decide)
    · refine lv_iload_n hx hb dX2_clashes_9 rfl (lv_at hl 1 rfl) ?_
      refine lv_aload_n hx hb dX2_clashes_10 rfl (lv_at hl 2 rfl) ?_
      refine lv_iload_n hx hb dX2_clashes_11 rfl (lv_at hl 0 rfl) ?_
      refine kc_i (wc := [(h0, .inr (2, [.int (nI sz), .int tn, .int sn, .ref ar])), (ar, .inl (cy 2, 3, .inr (.inr (.inr (.inr (va_up (va_up (va_up (fun _ => none) 0 (some c0)) 1 (some c1)) 2 (some c2))))))), (c0, .inr (0, [.int k0, .int s0, .ref r0])), (r0, .inl (cy 0, 6, .inl f0)), (c1, .inr (0, [.int k1, .int s1, .ref r1])), (r1, .inl (cy 0, 6, .inl f1)), (c2, .inr (0, [.int k2, .int s2, .ref r2])), (r2, .inl (cy 0, 6, .inl f2))]) (wr := []) (va_runV (As := [.int 1]) (rest := [.int (nI (clOn sz f0 f1 f2 (2 + 0)))]) ⟨hx, hb, hml, hown, hts⟩ (g_X2_clashesOn l D cy H.size h0 ar c0 r0 c1 r1 c2 r2 sz tn sn k0 s0 k1 s1 k2 s2 f0 f1 f2 1 hsz (by decide)) (cwV 1 hts gX2_clashes_X2_clashesOn rfl rfl rfl hdc_X2_clashesOn ⟨Nat.le_of_ble_eq_true rfl, Nat.le_of_ble_eq_true rfl⟩) (cpre_V (wc := [(h0, .inr (2, [.int (nI sz), .int tn, .int sn, .ref ar])), (ar, .inl (cy 2, 3, .inr (.inr (.inr (.inr (va_up (va_up (va_up (fun _ => none) 0 (some c0)) 1 (some c1)) 2 (some c2))))))), (c0, .inr (0, [.int k0, .int s0, .ref r0])), (r0, .inl (cy 0, 6, .inl f0)), (c1, .inr (0, [.int k1, .int s1, .ref r1])), (r1, .inl (cy 0, 6, .inl f1)), (c2, .inr (0, [.int k2, .int s2, .ref r2])), (r2, .inl (cy 0, 6, .inl f2))]) 0 2 rfl rfl hX hP hD hS hA [0, 1, 2, 3, 4, 5, 6, 7] (by decide +kernel) rfl) rfl rfl hl.1 rfl (lv_room (Nat.le_of_ble_eq_true rfl)) dX2_clashes_12 ⟨Nat.le_of_ble_eq_true rfl, Nat.le_of_ble_eq_true rfl⟩) hP hD hS hA [0, 1, 2, 3, 4, 5, 6, 7] [] rfl rfl (by decide +kernel) (by decide +kernel) (fun ro u3 H locs hw hP hD hS => ?_)
      obtain ⟨hu, hro⟩ := hw
      subst hu
      have hP : va_P D vwCl [(h0, .inr (2, [.int (nI sz), .int tn, .int sn, .ref ar])), (ar, .inl (cy 2, 3, .inr (.inr (.inr (.inr (va_up (va_up (va_up (fun _ => none) 0 (some c0)) 1 (some c1)) 2 (some c2))))))), (c0, .inr (0, [.int k0, .int s0, .ref r0])), (r0, .inl (cy 0, 6, .inl f0)), (c1, .inr (0, [.int k1, .int s1, .ref r1])), (r1, .inl (cy 0, 6, .inl f1)), (c2, .inr (0, [.int k2, .int s2, .ref r2])), (r2, .inl (cy 0, 6, .inl f2))] H := hP
      have hD : va_D A [(h0, .inr (2, [.int (nI sz), .int tn, .int sn, .ref ar])), (ar, .inl (cy 2, 3, .inr (.inr (.inr (.inr (va_up (va_up (va_up (fun _ => none) 0 (some c0)) 1 (some c1)) 2 (some c2))))))), (c0, .inr (0, [.int k0, .int s0, .ref r0])), (r0, .inl (cy 0, 6, .inl f0)), (c1, .inr (0, [.int k1, .int s1, .ref r1])), (r1, .inl (cy 0, 6, .inl f1)), (c2, .inr (0, [.int k2, .int s2, .ref r2])), (r2, .inl (cy 0, 6, .inl f2))] := hD
      subst hro
      refine lv_iadd hx hb dX2_clashes_15 ?_
      refine lv_topi (fun y4 ey4 => ?_)
      obtain rfl : y4 = nI (clOn sz f0 f1 f2 (2 + 0) + clOn sz f0 f1 f2 (2 + 1)) := ey4.trans (nIa _ _)
      refine lv_istore_n (lv' := [(1, .int (nI (clOn sz f0 f1 f2 (2 + 0) + clOn sz f0 f1 f2 (2 + 1)))), (2, .int 1), (0, .ref h0)]) hx hb dX2_clashes_16 rfl hl (by decide) rfl (fun ls hl => ?_)
      refine lv_iinc (v := 2) (lv' := [(2, .int 2), (1, .int (nI (clOn sz f0 f1 f2 (2 + 0) + clOn sz f0 f1 f2 (2 + 1)))), (0, .ref h0)]) hx hb dX2_clashes_17 hl (k := 1) rfl (by decide) (by decide) rfl (fun ls hl => ?_)
      refine lv_goto (tgt := 4) hx hb dX2_clashes_20 (by decide) ?_
      refine lv_iload_n hx hb dX2_clashes_4 rfl (lv_at hl 0 rfl) ?_
      refine lv_iconst (v := 4) hx hb dX2_clashes_5 (by decide) ?_
      refine lv_icmp_ge (tgt := 23) hx hb dX2_clashes_6 (by decide) (fun c_6 => ?_) (fun c_6 => ?_)
      · exact absurd c_6 (by decide)
      · refine lv_iload_n hx hb dX2_clashes_9 rfl (lv_at hl 1 rfl) ?_
        refine lv_aload_n hx hb dX2_clashes_10 rfl (lv_at hl 2 rfl) ?_
        refine lv_iload_n hx hb dX2_clashes_11 rfl (lv_at hl 0 rfl) ?_
        refine kc_i (wc := [(h0, .inr (2, [.int (nI sz), .int tn, .int sn, .ref ar])), (ar, .inl (cy 2, 3, .inr (.inr (.inr (.inr (va_up (va_up (va_up (fun _ => none) 0 (some c0)) 1 (some c1)) 2 (some c2))))))), (c0, .inr (0, [.int k0, .int s0, .ref r0])), (r0, .inl (cy 0, 6, .inl f0)), (c1, .inr (0, [.int k1, .int s1, .ref r1])), (r1, .inl (cy 0, 6, .inl f1)), (c2, .inr (0, [.int k2, .int s2, .ref r2])), (r2, .inl (cy 0, 6, .inl f2))]) (wr := []) (va_runV (As := [.int 2]) (rest := [.int (nI (clOn sz f0 f1 f2 (2 + 0) + clOn sz f0 f1 f2 (2 + 1)))]) ⟨hx, hb, hml, hown, hts⟩ (g_X2_clashesOn l D cy H.size h0 ar c0 r0 c1 r1 c2 r2 sz tn sn k0 s0 k1 s1 k2 s2 f0 f1 f2 2 hsz (by decide)) (cwV 1 hts gX2_clashes_X2_clashesOn rfl rfl rfl hdc_X2_clashesOn ⟨Nat.le_of_ble_eq_true rfl, Nat.le_of_ble_eq_true rfl⟩) (cpre_V (wc := [(h0, .inr (2, [.int (nI sz), .int tn, .int sn, .ref ar])), (ar, .inl (cy 2, 3, .inr (.inr (.inr (.inr (va_up (va_up (va_up (fun _ => none) 0 (some c0)) 1 (some c1)) 2 (some c2))))))), (c0, .inr (0, [.int k0, .int s0, .ref r0])), (r0, .inl (cy 0, 6, .inl f0)), (c1, .inr (0, [.int k1, .int s1, .ref r1])), (r1, .inl (cy 0, 6, .inl f1)), (c2, .inr (0, [.int k2, .int s2, .ref r2])), (r2, .inl (cy 0, 6, .inl f2))]) 0 2 rfl rfl hX hP hD hS hA [0, 1, 2, 3, 4, 5, 6, 7] (by decide +kernel) rfl) rfl rfl hl.1 rfl (lv_room (Nat.le_of_ble_eq_true rfl)) dX2_clashes_12 ⟨Nat.le_of_ble_eq_true rfl, Nat.le_of_ble_eq_true rfl⟩) hP hD hS hA [0, 1, 2, 3, 4, 5, 6, 7] [] rfl rfl (by decide +kernel) (by decide +kernel) (fun ro u5 H locs hw hP hD hS => ?_)
        obtain ⟨hu, hro⟩ := hw
        subst hu
        have hP : va_P D vwCl [(h0, .inr (2, [.int (nI sz), .int tn, .int sn, .ref ar])), (ar, .inl (cy 2, 3, .inr (.inr (.inr (.inr (va_up (va_up (va_up (fun _ => none) 0 (some c0)) 1 (some c1)) 2 (some c2))))))), (c0, .inr (0, [.int k0, .int s0, .ref r0])), (r0, .inl (cy 0, 6, .inl f0)), (c1, .inr (0, [.int k1, .int s1, .ref r1])), (r1, .inl (cy 0, 6, .inl f1)), (c2, .inr (0, [.int k2, .int s2, .ref r2])), (r2, .inl (cy 0, 6, .inl f2))] H := hP
        have hD : va_D A [(h0, .inr (2, [.int (nI sz), .int tn, .int sn, .ref ar])), (ar, .inl (cy 2, 3, .inr (.inr (.inr (.inr (va_up (va_up (va_up (fun _ => none) 0 (some c0)) 1 (some c1)) 2 (some c2))))))), (c0, .inr (0, [.int k0, .int s0, .ref r0])), (r0, .inl (cy 0, 6, .inl f0)), (c1, .inr (0, [.int k1, .int s1, .ref r1])), (r1, .inl (cy 0, 6, .inl f1)), (c2, .inr (0, [.int k2, .int s2, .ref r2])), (r2, .inl (cy 0, 6, .inl f2))] := hD
        subst hro
        refine lv_iadd hx hb dX2_clashes_15 ?_
        refine lv_topi (fun y6 ey6 => ?_)
        obtain rfl : y6 = nI (clOn sz f0 f1 f2 (2 + 0) + clOn sz f0 f1 f2 (2 + 1) + clOn sz f0 f1 f2 (2 + 2)) := ey6.trans (nIa _ _)
        refine lv_istore_n (lv' := [(1, .int (nI (clOn sz f0 f1 f2 (2 + 0) + clOn sz f0 f1 f2 (2 + 1) + clOn sz f0 f1 f2 (2 + 2)))), (2, .int 2), (0, .ref h0)]) hx hb dX2_clashes_16 rfl hl (by decide) rfl (fun ls hl => ?_)
        refine lv_iinc (v := 3) (lv' := [(2, .int 3), (1, .int (nI (clOn sz f0 f1 f2 (2 + 0) + clOn sz f0 f1 f2 (2 + 1) + clOn sz f0 f1 f2 (2 + 2)))), (0, .ref h0)]) hx hb dX2_clashes_17 hl (k := 1) rfl (by decide) (by decide) rfl (fun ls hl => ?_)
        refine lv_goto (tgt := 4) hx hb dX2_clashes_20 (by decide) ?_
        refine lv_iload_n hx hb dX2_clashes_4 rfl (lv_at hl 0 rfl) ?_
        refine lv_iconst (v := 4) hx hb dX2_clashes_5 (by decide) ?_
        refine lv_icmp_ge (tgt := 23) hx hb dX2_clashes_6 (by decide) (fun c_6 => ?_) (fun c_6 => ?_)
        · exact absurd c_6 (by decide)
        · refine lv_iload_n hx hb dX2_clashes_9 rfl (lv_at hl 1 rfl) ?_
          refine lv_aload_n hx hb dX2_clashes_10 rfl (lv_at hl 2 rfl) ?_
          refine lv_iload_n hx hb dX2_clashes_11 rfl (lv_at hl 0 rfl) ?_
          refine kc_i (wc := [(h0, .inr (2, [.int (nI sz), .int tn, .int sn, .ref ar])), (ar, .inl (cy 2, 3, .inr (.inr (.inr (.inr (va_up (va_up (va_up (fun _ => none) 0 (some c0)) 1 (some c1)) 2 (some c2))))))), (c0, .inr (0, [.int k0, .int s0, .ref r0])), (r0, .inl (cy 0, 6, .inl f0)), (c1, .inr (0, [.int k1, .int s1, .ref r1])), (r1, .inl (cy 0, 6, .inl f1)), (c2, .inr (0, [.int k2, .int s2, .ref r2])), (r2, .inl (cy 0, 6, .inl f2))]) (wr := []) (va_runV (As := [.int 3]) (rest := [.int (nI (clOn sz f0 f1 f2 (2 + 0) + clOn sz f0 f1 f2 (2 + 1) + clOn sz f0 f1 f2 (2 + 2)))]) ⟨hx, hb, hml, hown, hts⟩ (g_X2_clashesOn l D cy H.size h0 ar c0 r0 c1 r1 c2 r2 sz tn sn k0 s0 k1 s1 k2 s2 f0 f1 f2 3 hsz (by decide)) (cwV 1 hts gX2_clashes_X2_clashesOn rfl rfl rfl hdc_X2_clashesOn ⟨Nat.le_of_ble_eq_true rfl, Nat.le_of_ble_eq_true rfl⟩) (cpre_V (wc := [(h0, .inr (2, [.int (nI sz), .int tn, .int sn, .ref ar])), (ar, .inl (cy 2, 3, .inr (.inr (.inr (.inr (va_up (va_up (va_up (fun _ => none) 0 (some c0)) 1 (some c1)) 2 (some c2))))))), (c0, .inr (0, [.int k0, .int s0, .ref r0])), (r0, .inl (cy 0, 6, .inl f0)), (c1, .inr (0, [.int k1, .int s1, .ref r1])), (r1, .inl (cy 0, 6, .inl f1)), (c2, .inr (0, [.int k2, .int s2, .ref r2])), (r2, .inl (cy 0, 6, .inl f2))]) 0 2 rfl rfl hX hP hD hS hA [0, 1, 2, 3, 4, 5, 6, 7] (by decide +kernel) rfl) rfl rfl hl.1 rfl (lv_room (Nat.le_of_ble_eq_true rfl)) dX2_clashes_12 ⟨Nat.le_of_ble_eq_true rfl, Nat.le_of_ble_eq_true rfl⟩) hP hD hS hA [0, 1, 2, 3, 4, 5, 6, 7] [] rfl rfl (by decide +kernel) (by decide +kernel) (fun ro u7 H locs hw hP hD hS => ?_)
          obtain ⟨hu, hro⟩ := hw
          subst hu
          have hP : va_P D vwCl [(h0, .inr (2, [.int (nI sz), .int tn, .int sn, .ref ar])), (ar, .inl (cy 2, 3, .inr (.inr (.inr (.inr (va_up (va_up (va_up (fun _ => none) 0 (some c0)) 1 (some c1)) 2 (some c2))))))), (c0, .inr (0, [.int k0, .int s0, .ref r0])), (r0, .inl (cy 0, 6, .inl f0)), (c1, .inr (0, [.int k1, .int s1, .ref r1])), (r1, .inl (cy 0, 6, .inl f1)), (c2, .inr (0, [.int k2, .int s2, .ref r2])), (r2, .inl (cy 0, 6, .inl f2))] H := hP
          have hD : va_D A [(h0, .inr (2, [.int (nI sz), .int tn, .int sn, .ref ar])), (ar, .inl (cy 2, 3, .inr (.inr (.inr (.inr (va_up (va_up (va_up (fun _ => none) 0 (some c0)) 1 (some c1)) 2 (some c2))))))), (c0, .inr (0, [.int k0, .int s0, .ref r0])), (r0, .inl (cy 0, 6, .inl f0)), (c1, .inr (0, [.int k1, .int s1, .ref r1])), (r1, .inl (cy 0, 6, .inl f1)), (c2, .inr (0, [.int k2, .int s2, .ref r2])), (r2, .inl (cy 0, 6, .inl f2))] := hD
          subst hro
          refine lv_iadd hx hb dX2_clashes_15 ?_
          refine lv_topi (fun y8 ey8 => ?_)
          obtain rfl : y8 = nI (clOn sz f0 f1 f2 (2 + 0) + clOn sz f0 f1 f2 (2 + 1) + clOn sz f0 f1 f2 (2 + 2) + clOn sz f0 f1 f2 (2 + 3)) := ey8.trans (nIa _ _)
          refine lv_istore_n (lv' := [(1, .int (nI (clOn sz f0 f1 f2 (2 + 0) + clOn sz f0 f1 f2 (2 + 1) + clOn sz f0 f1 f2 (2 + 2) + clOn sz f0 f1 f2 (2 + 3)))), (2, .int 3), (0, .ref h0)]) hx hb dX2_clashes_16 rfl hl (by decide) rfl (fun ls hl => ?_)
          refine lv_iinc (v := 4) (lv' := [(2, .int 4), (1, .int (nI (clOn sz f0 f1 f2 (2 + 0) + clOn sz f0 f1 f2 (2 + 1) + clOn sz f0 f1 f2 (2 + 2) + clOn sz f0 f1 f2 (2 + 3)))), (0, .ref h0)]) hx hb dX2_clashes_17 hl (k := 1) rfl (by decide) (by decide) rfl (fun ls hl => ?_)
          refine lv_goto (tgt := 4) hx hb dX2_clashes_20 (by decide) ?_
          refine lv_iload_n hx hb dX2_clashes_4 rfl (lv_at hl 0 rfl) ?_
          refine lv_iconst (v := 4) hx hb dX2_clashes_5 (by decide) ?_
          refine lv_icmp_ge (tgt := 23) hx hb dX2_clashes_6 (by decide) (fun c_6 => ?_) (fun c_6 => ?_)
          · refine lv_iload_n hx hb dX2_clashes_23 rfl (lv_at hl 1 rfl) ?_
            have hP9 := hP.sub (ws' := [(h0, .inr (2, [.int (nI sz), .int tn, .int sn, .ref ar])), (ar, .inl (cy 2, 3, .inr (.inr (.inr (.inr (va_up (va_up (va_up (fun _ => none) 0 (some c0)) 1 (some c1)) 2 (some c2))))))), (c0, .inr (0, [.int k0, .int s0, .ref r0])), (r0, .inl (cy 0, 6, .inl f0)), (c1, .inr (0, [.int k1, .int s1, .ref r1])), (r1, .inl (cy 0, 6, .inl f1)), (c2, .inr (0, [.int k2, .int s2, .ref r2])), (r2, .inl (cy 0, 6, .inl f2))]) [0, 1, 2, 3, 4, 5, 6, 7] rfl
            have hD9 := hD.sub (ws' := [(h0, .inr (2, [.int (nI sz), .int tn, .int sn, .ref ar])), (ar, .inl (cy 2, 3, .inr (.inr (.inr (.inr (va_up (va_up (va_up (fun _ => none) 0 (some c0)) 1 (some c1)) 2 (some c2))))))), (c0, .inr (0, [.int k0, .int s0, .ref r0])), (r0, .inl (cy 0, 6, .inl f0)), (c1, .inr (0, [.int k1, .int s1, .ref r1])), (r1, .inl (cy 0, 6, .inl f1)), (c2, .inr (0, [.int k2, .int s2, .ref r2])), (r2, .inl (cy 0, 6, .inl f2))]) [0, 1, 2, 3, 4, 5, 6, 7] (by decide +kernel) rfl
            exact W.iret (v := nI (clOn sz f0 f1 f2 (2 + 0) + clOn sz f0 f1 f2 (2 + 1) + clOn sz f0 f1 f2 (2 + 2) + clOn sz f0 f1 f2 (2 + 3))) hx hb hr (fun t9 ht9 hW9 => ⟨⟨nI (clOn sz f0 f1 f2 (2 + 0) + clOn sz f0 f1 f2 (2 + 1) + clOn sz f0 f1 f2 (2 + 2) + clOn sz f0 f1 f2 (2 + 3)), [(h0, .inr (2, [.int (nI sz), .int tn, .int sn, .ref ar])), (ar, .inl (cy 2, 3, .inr (.inr (.inr (.inr (va_up (va_up (va_up (fun _ => none) 0 (some c0)) 1 (some c1)) 2 (some c2))))))), (c0, .inr (0, [.int k0, .int s0, .ref r0])), (r0, .inl (cy 0, 6, .inl f0)), (c1, .inr (0, [.int k1, .int s1, .ref r1])), (r1, .inl (cy 0, 6, .inl f1)), (c2, .inr (0, [.int k2, .int s2, .ref r2])), (r2, .inl (cy 0, 6, .inl f2))], rfl, ⟨rfl, rfl⟩, by rw [ht9]; exact hP9, hD9⟩, hS.F ht9⟩) hS.2.2 dX2_clashes_24
          · exact absurd c_6 (by decide)
def q_X2_goodWalls (cy : Nat → ClassId) (h0 : Nat) (ar : Nat) (c0 : Nat) (r0 : Nat) (c1 : Nat) (r1 : Nat) (c2 : Nat) (r2 : Nat) (sz : Nat) (tn : Int32) (sn : Int32) (k0 : Int32) (s0 : Int32) (k1 : Int32) (s1 : Int32) (k2 : Int32) (s2 : Int32) (f0 : Nat → Int32) (f1 : Nat → Int32) (f2 : Nat → Int32) : Int32 → va_W → Prop := fun (r : Int32) (u : va_W) => u = [(h0, .inr (2, [.int (nI sz), .int tn, .int sn, .ref ar])), (ar, .inl (cy 2, 3, .inr (.inr (.inr (.inr (va_up (va_up (va_up (fun _ => none) 0 (some c0)) 1 (some c1)) 2 (some c2))))))), (c0, .inr (0, [.int k0, .int s0, .ref r0])), (r0, .inl (cy 0, 6, .inl f0)), (c1, .inr (0, [.int k1, .int s1, .ref r1])), (r1, .inl (cy 0, 6, .inl f1)), (c2, .inr (0, [.int k2, .int s2, .ref r2])), (r2, .inl (cy 0, 6, .inl f2))] ∧ r = nI (gwAll sz f0 f1 f2)
set_option maxHeartbeats 4000000 in
set_option maxRecDepth 100000 in
theorem g_X2_goodWalls (l : Launch) (D : va_G) (cy : Nat → ClassId) (zz : Nat) (h0 : Nat) (ar : Nat) (c0 : Nat) (r0 : Nat) (c1 : Nat) (r1 : Nat) (c2 : Nat) (r2 : Nat) (sz : Nat) (tn : Int32) (sn : Int32) (k0 : Int32) (s0 : Int32) (k1 : Int32) (s1 : Int32) (k2 : Int32) (s2 : Int32) (f0 : Nat → Int32) (f1 : Nat → Int32) (f2 : Nat → Int32) (hsz : sz = 0 ∨ sz = 2 ∨ sz = 3) : Met l yX2_goodWalls wsX2_goodWalls ({ frames := 1, cells := 0, slots := 0, locals := 25 } : Room) (va_Pc [.ref h0] (cpre D cy [(h0, .inr (2, [.int (nI sz), .int tn, .int sn, .ref ar])), (ar, .inl (cy 2, 3, .inr (.inr (.inr (.inr (va_up (va_up (va_up (fun _ => none) 0 (some c0)) 1 (some c1)) 2 (some c2))))))), (c0, .inr (0, [.int k0, .int s0, .ref r0])), (r0, .inl (cy 0, 6, .inl f0)), (c1, .inr (0, [.int k1, .int s1, .ref r1])), (r1, .inl (cy 0, 6, .inl f1)), (c2, .inr (0, [.int k2, .int s2, .ref r2])), (r2, .inl (cy 0, 6, .inl f2))] zz)) (va_Qi (q_X2_goodWalls cy h0 ar c0 r0 c1 r1 c2 r2 sz tn sn k0 s0 k1 s1 k2 s2 f0 f1 f2) (cpost D (va_A [(h0, .inr (2, [.int (nI sz), .int tn, .int sn, .ref ar])), (ar, .inl (cy 2, 3, .inr (.inr (.inr (.inr (va_up (va_up (va_up (fun _ => none) 0 (some c0)) 1 (some c1)) 2 (some c2))))))), (c0, .inr (0, [.int k0, .int s0, .ref r0])), (r0, .inl (cy 0, 6, .inl f0)), (c1, .inr (0, [.int k1, .int s1, .ref r1])), (r1, .inl (cy 0, 6, .inl f1)), (c2, .inr (0, [.int k2, .int s2, .ref r2])), (r2, .inl (cy 0, 6, .inl f2))] zz)) (va_A [(h0, .inr (2, [.int (nI sz), .int tn, .int sn, .ref ar])), (ar, .inl (cy 2, 3, .inr (.inr (.inr (.inr (va_up (va_up (va_up (fun _ => none) 0 (some c0)) 1 (some c1)) 2 (some c2))))))), (c0, .inr (0, [.int k0, .int s0, .ref r0])), (r0, .inl (cy 0, 6, .inl f0)), (c1, .inr (0, [.int k1, .int s1, .ref r1])), (r1, .inl (cy 0, 6, .inl f1)), (c2, .inr (0, [.int k2, .int s2, .ref r2])), (r2, .inl (cy 0, 6, .inl f2))] zz)) 0 0 (va_A [(h0, .inr (2, [.int (nI sz), .int tn, .int sn, .ref ar])), (ar, .inl (cy 2, 3, .inr (.inr (.inr (.inr (va_up (va_up (va_up (fun _ => none) 0 (some c0)) 1 (some c1)) 2 (some c2))))))), (c0, .inr (0, [.int k0, .int s0, .ref r0])), (r0, .inl (cy 0, 6, .inl f0)), (c1, .inr (0, [.int k1, .int s1, .ref r1])), (r1, .inl (cy 0, 6, .inl f1)), (c2, .inr (0, [.int k2, .int s2, .ref r2])), (r2, .inl (cy 0, 6, .inl f2))] zz) := by
  refine Met.ofW (cc := cX2_goodWalls) (maxL := 3) (ret := (some .int)) (by decide) rfl ?_
  intro p e s m args below meth c s₁ B hml hv
  obtain ⟨rfl, hsz, hP, hD0, hX⟩ := hv
  have hx := B.exec
  have hb := B.bytes
  have hr := B.returns
  have hts := atoms_spec (ws := wsX2_goodWalls) B.pre
  have hown : s.vm.findClass RX2 = some m.cls := findClass_of_methodNamed B.named
  have hlocks := B.notSynchronized
  subst hsz
  have hD := hD0.self (sz := s.heap.size)
  generalize hAe : va_A [(h0, .inr (2, [.int (nI sz), .int tn, .int sn, .ref ar])), (ar, .inl (cy 2, 3, .inr (.inr (.inr (.inr (va_up (va_up (va_up (fun _ => none) 0 (some c0)) 1 (some c1)) 2 (some c2))))))), (c0, .inr (0, [.int k0, .int s0, .ref r0])), (r0, .inl (cy 0, 6, .inl f0)), (c1, .inr (0, [.int k1, .int s1, .ref r1])), (r1, .inl (cy 0, 6, .inl f1)), (c2, .inr (0, [.int k2, .int s2, .ref r2])), (r2, .inl (cy 0, 6, .inl f2))] s.heap.size = A at hD hX ⊢
  have hA : ∀ q : Nat, s.heap.size ≤ q → A q := fun q h => by rw [← hAe]; exact Or.inr h
  obtain ⟨H, hH⟩ : ∃ H : Heap, H = s.heap := ⟨_, rfl⟩
  have hS : va_S A s.heap H [] := hH ▸ va_S.rf
  have hK := hX.1
  have hP : va_P D vwCl [(h0, .inr (2, [.int (nI sz), .int tn, .int sn, .ref ar])), (ar, .inl (cy 2, 3, .inr (.inr (.inr (.inr (va_up (va_up (va_up (fun _ => none) 0 (some c0)) 1 (some c1)) 2 (some c2))))))), (c0, .inr (0, [.int k0, .int s0, .ref r0])), (r0, .inl (cy 0, 6, .inl f0)), (c1, .inr (0, [.int k1, .int s1, .ref r1])), (r1, .inl (cy 0, 6, .inl f1)), (c2, .inr (0, [.int k2, .int s2, .ref r2])), (r2, .inl (cy 0, 6, .inl f2))] H := hH ▸ hP
  rw [← hH]
  have hw_X2 : ∀ w ∈ wsX20, w ∈ wsX2_goodWalls := chX2 (by decide +kernel)
  have f_18 := hts (.fieldLink RX2 18 "CubeTower$Tower" "size" "I") (inC wa_717 (by decide +kernel))
  have hl := lv_entry ([.ref h0]) (n := 3) (Nat.le_of_ble_eq_true rfl)
  rw [lg_entry_eq]
  generalize (lg_sl ([.ref h0]) ++ List.replicate (3 - (lg_sl ([.ref h0])).length) Slot.unset).toArray = ls at hl ⊢
  have hl : lv_has ls 3 [(0, .ref h0)] := hl
  rcases hsz with rfl | rfl | rfl
  · have hP : va_P D vwCl [(h0, .inr (2, [.int 0, .int tn, .int sn, .ref ar])), (ar, .inl (cy 2, 3, .inr (.inr (.inr (.inr (va_up (va_up (va_up (fun _ => none) 0 (some c0)) 1 (some c1)) 2 (some c2))))))), (c0, .inr (0, [.int k0, .int s0, .ref r0])), (r0, .inl (cy 0, 6, .inl f0)), (c1, .inr (0, [.int k1, .int s1, .ref r1])), (r1, .inl (cy 0, 6, .inl f1)), (c2, .inr (0, [.int k2, .int s2, .ref r2])), (r2, .inl (cy 0, 6, .inl f2))] H := hP
    have hD : va_D A [(h0, .inr (2, [.int 0, .int tn, .int sn, .ref ar])), (ar, .inl (cy 2, 3, .inr (.inr (.inr (.inr (va_up (va_up (va_up (fun _ => none) 0 (some c0)) 1 (some c1)) 2 (some c2))))))), (c0, .inr (0, [.int k0, .int s0, .ref r0])), (r0, .inl (cy 0, 6, .inl f0)), (c1, .inr (0, [.int k1, .int s1, .ref r1])), (r1, .inl (cy 0, 6, .inl f1)), (c2, .inr (0, [.int k2, .int s2, .ref r2])), (r2, .inl (cy 0, 6, .inl f2))] := hD
    refine lv_iconst (v := 0) hx hb dX2_goodWalls_0 (by decide) ?_
    refine lv_istore_n (lv' := [(1, .int 0), (0, .ref h0)]) hx hb dX2_goodWalls_1 rfl hl (by decide) rfl (fun ls hl => ?_)
    refine lv_iconst (v := 0) hx hb dX2_goodWalls_2 (by decide) ?_
    refine lv_istore_n (lv' := [(2, .int 0), (1, .int 0), (0, .ref h0)]) hx hb dX2_goodWalls_3 rfl hl (by decide) rfl (fun ls hl => ?_)
    refine lv_iload_n hx hb dX2_goodWalls_4 rfl (lv_at hl 0 rfl) ?_
    refine lv_iconst (v := 4) hx hb dX2_goodWalls_5 (by decide) ?_
    refine lv_icmp_ge (tgt := 33) hx hb dX2_goodWalls_6 (by decide) (fun c_6 => ?_) (fun c_6 => ?_)
    · exact absurd c_6 (by decide)
    · refine lv_aload_n hx hb dX2_goodWalls_9 rfl (lv_at hl 2 rfl) ?_
      refine va_get (D := D) (ci := 2) (v := .int 0) (C := RX2) (T := TX2) (N := 4) hx hb hts hw_X2 hown hK hP 0 rfl rfl 0 (by decide) f_18 (fun _ h9 => h9) rfl dX2_goodWalls_10 ?_
      refine lv_if_le (tgt := 33) hx hb dX2_goodWalls_13 (by decide) (fun c_13 => ?_) (fun c_13 => ?_)
      · refine lv_iload_n hx hb dX2_goodWalls_33 rfl (lv_at hl 1 rfl) ?_
        have hP9 := hP.sub (ws' := [(h0, .inr (2, [.int (nI 0), .int tn, .int sn, .ref ar])), (ar, .inl (cy 2, 3, .inr (.inr (.inr (.inr (va_up (va_up (va_up (fun _ => none) 0 (some c0)) 1 (some c1)) 2 (some c2))))))), (c0, .inr (0, [.int k0, .int s0, .ref r0])), (r0, .inl (cy 0, 6, .inl f0)), (c1, .inr (0, [.int k1, .int s1, .ref r1])), (r1, .inl (cy 0, 6, .inl f1)), (c2, .inr (0, [.int k2, .int s2, .ref r2])), (r2, .inl (cy 0, 6, .inl f2))]) [0, 1, 2, 3, 4, 5, 6, 7] rfl
        have hD9 := hD.sub (ws' := [(h0, .inr (2, [.int (nI 0), .int tn, .int sn, .ref ar])), (ar, .inl (cy 2, 3, .inr (.inr (.inr (.inr (va_up (va_up (va_up (fun _ => none) 0 (some c0)) 1 (some c1)) 2 (some c2))))))), (c0, .inr (0, [.int k0, .int s0, .ref r0])), (r0, .inl (cy 0, 6, .inl f0)), (c1, .inr (0, [.int k1, .int s1, .ref r1])), (r1, .inl (cy 0, 6, .inl f1)), (c2, .inr (0, [.int k2, .int s2, .ref r2])), (r2, .inl (cy 0, 6, .inl f2))]) [0, 1, 2, 3, 4, 5, 6, 7] (by decide +kernel) rfl
        exact W.iret (v := 0) hx hb hr (fun t9 ht9 hW9 => ⟨⟨0, [(h0, .inr (2, [.int (nI 0), .int tn, .int sn, .ref ar])), (ar, .inl (cy 2, 3, .inr (.inr (.inr (.inr (va_up (va_up (va_up (fun _ => none) 0 (some c0)) 1 (some c1)) 2 (some c2))))))), (c0, .inr (0, [.int k0, .int s0, .ref r0])), (r0, .inl (cy 0, 6, .inl f0)), (c1, .inr (0, [.int k1, .int s1, .ref r1])), (r1, .inl (cy 0, 6, .inl f1)), (c2, .inr (0, [.int k2, .int s2, .ref r2])), (r2, .inl (cy 0, 6, .inl f2))], rfl, ⟨rfl, rfl⟩, by rw [ht9]; exact hP9, hD9⟩, hS.F ht9⟩) hS.2.2 dX2_goodWalls_34
      · exact absurd c_13 (by decide)
  · have hP : va_P D vwCl [(h0, .inr (2, [.int 2, .int tn, .int sn, .ref ar])), (ar, .inl (cy 2, 3, .inr (.inr (.inr (.inr (va_up (va_up (va_up (fun _ => none) 0 (some c0)) 1 (some c1)) 2 (some c2))))))), (c0, .inr (0, [.int k0, .int s0, .ref r0])), (r0, .inl (cy 0, 6, .inl f0)), (c1, .inr (0, [.int k1, .int s1, .ref r1])), (r1, .inl (cy 0, 6, .inl f1)), (c2, .inr (0, [.int k2, .int s2, .ref r2])), (r2, .inl (cy 0, 6, .inl f2))] H := hP
    have hD : va_D A [(h0, .inr (2, [.int 2, .int tn, .int sn, .ref ar])), (ar, .inl (cy 2, 3, .inr (.inr (.inr (.inr (va_up (va_up (va_up (fun _ => none) 0 (some c0)) 1 (some c1)) 2 (some c2))))))), (c0, .inr (0, [.int k0, .int s0, .ref r0])), (r0, .inl (cy 0, 6, .inl f0)), (c1, .inr (0, [.int k1, .int s1, .ref r1])), (r1, .inl (cy 0, 6, .inl f1)), (c2, .inr (0, [.int k2, .int s2, .ref r2])), (r2, .inl (cy 0, 6, .inl f2))] := hD
    refine lv_iconst (v := 0) hx hb dX2_goodWalls_0 (by decide) ?_
    refine lv_istore_n (lv' := [(1, .int 0), (0, .ref h0)]) hx hb dX2_goodWalls_1 rfl hl (by decide) rfl (fun ls hl => ?_)
    refine lv_iconst (v := 0) hx hb dX2_goodWalls_2 (by decide) ?_
    refine lv_istore_n (lv' := [(2, .int 0), (1, .int 0), (0, .ref h0)]) hx hb dX2_goodWalls_3 rfl hl (by decide) rfl (fun ls hl => ?_)
    refine lv_iload_n hx hb dX2_goodWalls_4 rfl (lv_at hl 0 rfl) ?_
    refine lv_iconst (v := 4) hx hb dX2_goodWalls_5 (by decide) ?_
    refine lv_icmp_ge (tgt := 33) hx hb dX2_goodWalls_6 (by decide) (fun c_6 => ?_) (fun c_6 => ?_)
    · exact absurd c_6 (by decide)
    · refine lv_aload_n hx hb dX2_goodWalls_9 rfl (lv_at hl 2 rfl) ?_
      refine va_get (D := D) (ci := 2) (v := .int 2) (C := RX2) (T := TX2) (N := 4) hx hb hts hw_X2 hown hK hP 0 rfl rfl 0 (by decide) f_18 (fun _ h9 => h9) rfl dX2_goodWalls_10 ?_
      refine lv_if_le (tgt := 33) hx hb dX2_goodWalls_13 (by decide) (fun c_13 => ?_) (fun c_13 => ?_)
      · exact absurd c_13 (by decide)
      · refine lv_aload_n hx hb dX2_goodWalls_16 rfl (lv_at hl 2 rfl) ?_
        refine lv_iload_n hx hb dX2_goodWalls_17 rfl (lv_at hl 0 rfl) ?_
        refine kc_i (wc := [(h0, .inr (2, [.int (nI 2), .int tn, .int sn, .ref ar])), (ar, .inl (cy 2, 3, .inr (.inr (.inr (.inr (va_up (va_up (va_up (fun _ => none) 0 (some c0)) 1 (some c1)) 2 (some c2))))))), (c0, .inr (0, [.int k0, .int s0, .ref r0])), (r0, .inl (cy 0, 6, .inl f0)), (c1, .inr (0, [.int k1, .int s1, .ref r1])), (r1, .inl (cy 0, 6, .inl f1)), (c2, .inr (0, [.int k2, .int s2, .ref r2])), (r2, .inl (cy 0, 6, .inl f2))]) (wr := []) (va_runV (As := [.int 0]) (rest := []) ⟨hx, hb, hml, hown, hts⟩ (g_X2_clashesOn l D cy H.size h0 ar c0 r0 c1 r1 c2 r2 2 tn sn k0 s0 k1 s1 k2 s2 f0 f1 f2 0 (by decide) (by decide)) (cwV 1 hts gX2_goodWalls_X2_clashesOn rfl rfl rfl hdc_X2_clashesOn ⟨Nat.le_of_ble_eq_true rfl, Nat.le_of_ble_eq_true rfl⟩) (cpre_V (wc := [(h0, .inr (2, [.int (nI 2), .int tn, .int sn, .ref ar])), (ar, .inl (cy 2, 3, .inr (.inr (.inr (.inr (va_up (va_up (va_up (fun _ => none) 0 (some c0)) 1 (some c1)) 2 (some c2))))))), (c0, .inr (0, [.int k0, .int s0, .ref r0])), (r0, .inl (cy 0, 6, .inl f0)), (c1, .inr (0, [.int k1, .int s1, .ref r1])), (r1, .inl (cy 0, 6, .inl f1)), (c2, .inr (0, [.int k2, .int s2, .ref r2])), (r2, .inl (cy 0, 6, .inl f2))]) 0 2 rfl rfl hX hP hD hS hA [0, 1, 2, 3, 4, 5, 6, 7] (by decide +kernel) rfl) rfl rfl hl.1 rfl (lv_room (Nat.le_of_ble_eq_true rfl)) dX2_goodWalls_18 ⟨Nat.le_of_ble_eq_true rfl, Nat.le_of_ble_eq_true rfl⟩) hP hD hS hA [0, 1, 2, 3, 4, 5, 6, 7] [] rfl rfl (by decide +kernel) (by decide +kernel) (fun ro u1 H locs hw hP hD hS => ?_)
        obtain ⟨hu, hro⟩ := hw
        subst hu
        have hP : va_P D vwCl [(h0, .inr (2, [.int 2, .int tn, .int sn, .ref ar])), (ar, .inl (cy 2, 3, .inr (.inr (.inr (.inr (va_up (va_up (va_up (fun _ => none) 0 (some c0)) 1 (some c1)) 2 (some c2))))))), (c0, .inr (0, [.int k0, .int s0, .ref r0])), (r0, .inl (cy 0, 6, .inl f0)), (c1, .inr (0, [.int k1, .int s1, .ref r1])), (r1, .inl (cy 0, 6, .inl f1)), (c2, .inr (0, [.int k2, .int s2, .ref r2])), (r2, .inl (cy 0, 6, .inl f2))] H := hP
        have hD : va_D A [(h0, .inr (2, [.int 2, .int tn, .int sn, .ref ar])), (ar, .inl (cy 2, 3, .inr (.inr (.inr (.inr (va_up (va_up (va_up (fun _ => none) 0 (some c0)) 1 (some c1)) 2 (some c2))))))), (c0, .inr (0, [.int k0, .int s0, .ref r0])), (r0, .inl (cy 0, 6, .inl f0)), (c1, .inr (0, [.int k1, .int s1, .ref r1])), (r1, .inl (cy 0, 6, .inl f1)), (c2, .inr (0, [.int k2, .int s2, .ref r2])), (r2, .inl (cy 0, 6, .inl f2))] := hD
        subst hro
        refine lv_if_ne (tgt := 27) hx hb dX2_goodWalls_21 (by decide) (fun c_21_0 => ?_) (fun c_21_0 => ?_)
        · refine lv_iinc (v := 1) (lv' := [(2, .int 1), (1, .int 0), (0, .ref h0)]) hx hb dX2_goodWalls_27 hl (k := 0) rfl (by decide) (by decide) rfl (fun ls hl => ?_)
          refine lv_goto (tgt := 4) hx hb dX2_goodWalls_30 (by decide) ?_
          refine lv_iload_n hx hb dX2_goodWalls_4 rfl (lv_at hl 0 rfl) ?_
          refine lv_iconst (v := 4) hx hb dX2_goodWalls_5 (by decide) ?_
          refine lv_icmp_ge (tgt := 33) hx hb dX2_goodWalls_6 (by decide) (fun c_6 => ?_) (fun c_6 => ?_)
          · exact absurd c_6 (by decide)
          · refine lv_aload_n hx hb dX2_goodWalls_9 rfl (lv_at hl 2 rfl) ?_
            refine va_get (D := D) (ci := 2) (v := .int 2) (C := RX2) (T := TX2) (N := 4) hx hb hts hw_X2 hown hK hP 0 rfl rfl 0 (by decide) f_18 (fun _ h9 => h9) rfl dX2_goodWalls_10 ?_
            refine lv_if_le (tgt := 33) hx hb dX2_goodWalls_13 (by decide) (fun c_13 => ?_) (fun c_13 => ?_)
            · exact absurd c_13 (by decide)
            · refine lv_aload_n hx hb dX2_goodWalls_16 rfl (lv_at hl 2 rfl) ?_
              refine lv_iload_n hx hb dX2_goodWalls_17 rfl (lv_at hl 0 rfl) ?_
              refine kc_i (wc := [(h0, .inr (2, [.int (nI 2), .int tn, .int sn, .ref ar])), (ar, .inl (cy 2, 3, .inr (.inr (.inr (.inr (va_up (va_up (va_up (fun _ => none) 0 (some c0)) 1 (some c1)) 2 (some c2))))))), (c0, .inr (0, [.int k0, .int s0, .ref r0])), (r0, .inl (cy 0, 6, .inl f0)), (c1, .inr (0, [.int k1, .int s1, .ref r1])), (r1, .inl (cy 0, 6, .inl f1)), (c2, .inr (0, [.int k2, .int s2, .ref r2])), (r2, .inl (cy 0, 6, .inl f2))]) (wr := []) (va_runV (As := [.int 1]) (rest := []) ⟨hx, hb, hml, hown, hts⟩ (g_X2_clashesOn l D cy H.size h0 ar c0 r0 c1 r1 c2 r2 2 tn sn k0 s0 k1 s1 k2 s2 f0 f1 f2 1 (by decide) (by decide)) (cwV 1 hts gX2_goodWalls_X2_clashesOn rfl rfl rfl hdc_X2_clashesOn ⟨Nat.le_of_ble_eq_true rfl, Nat.le_of_ble_eq_true rfl⟩) (cpre_V (wc := [(h0, .inr (2, [.int (nI 2), .int tn, .int sn, .ref ar])), (ar, .inl (cy 2, 3, .inr (.inr (.inr (.inr (va_up (va_up (va_up (fun _ => none) 0 (some c0)) 1 (some c1)) 2 (some c2))))))), (c0, .inr (0, [.int k0, .int s0, .ref r0])), (r0, .inl (cy 0, 6, .inl f0)), (c1, .inr (0, [.int k1, .int s1, .ref r1])), (r1, .inl (cy 0, 6, .inl f1)), (c2, .inr (0, [.int k2, .int s2, .ref r2])), (r2, .inl (cy 0, 6, .inl f2))]) 0 2 rfl rfl hX hP hD hS hA [0, 1, 2, 3, 4, 5, 6, 7] (by decide +kernel) rfl) rfl rfl hl.1 rfl (lv_room (Nat.le_of_ble_eq_true rfl)) dX2_goodWalls_18 ⟨Nat.le_of_ble_eq_true rfl, Nat.le_of_ble_eq_true rfl⟩) hP hD hS hA [0, 1, 2, 3, 4, 5, 6, 7] [] rfl rfl (by decide +kernel) (by decide +kernel) (fun ro u2 H locs hw hP hD hS => ?_)
              obtain ⟨hu, hro⟩ := hw
              subst hu
              have hP : va_P D vwCl [(h0, .inr (2, [.int 2, .int tn, .int sn, .ref ar])), (ar, .inl (cy 2, 3, .inr (.inr (.inr (.inr (va_up (va_up (va_up (fun _ => none) 0 (some c0)) 1 (some c1)) 2 (some c2))))))), (c0, .inr (0, [.int k0, .int s0, .ref r0])), (r0, .inl (cy 0, 6, .inl f0)), (c1, .inr (0, [.int k1, .int s1, .ref r1])), (r1, .inl (cy 0, 6, .inl f1)), (c2, .inr (0, [.int k2, .int s2, .ref r2])), (r2, .inl (cy 0, 6, .inl f2))] H := hP
              have hD : va_D A [(h0, .inr (2, [.int 2, .int tn, .int sn, .ref ar])), (ar, .inl (cy 2, 3, .inr (.inr (.inr (.inr (va_up (va_up (va_up (fun _ => none) 0 (some c0)) 1 (some c1)) 2 (some c2))))))), (c0, .inr (0, [.int k0, .int s0, .ref r0])), (r0, .inl (cy 0, 6, .inl f0)), (c1, .inr (0, [.int k1, .int s1, .ref r1])), (r1, .inl (cy 0, 6, .inl f1)), (c2, .inr (0, [.int k2, .int s2, .ref r2])), (r2, .inl (cy 0, 6, .inl f2))] := hD
              subst hro
              refine lv_if_ne (tgt := 27) hx hb dX2_goodWalls_21 (by decide) (fun c_21_1 => ?_) (fun c_21_1 => ?_)
              · refine lv_iinc (v := 2) (lv' := [(2, .int 2), (1, .int 0), (0, .ref h0)]) hx hb dX2_goodWalls_27 hl (k := 0) rfl (by decide) (by decide) rfl (fun ls hl => ?_)
                refine lv_goto (tgt := 4) hx hb dX2_goodWalls_30 (by decide) ?_
                refine lv_iload_n hx hb dX2_goodWalls_4 rfl (lv_at hl 0 rfl) ?_
                refine lv_iconst (v := 4) hx hb dX2_goodWalls_5 (by decide) ?_
                refine lv_icmp_ge (tgt := 33) hx hb dX2_goodWalls_6 (by decide) (fun c_6 => ?_) (fun c_6 => ?_)
                · exact absurd c_6 (by decide)
                · refine lv_aload_n hx hb dX2_goodWalls_9 rfl (lv_at hl 2 rfl) ?_
                  refine va_get (D := D) (ci := 2) (v := .int 2) (C := RX2) (T := TX2) (N := 4) hx hb hts hw_X2 hown hK hP 0 rfl rfl 0 (by decide) f_18 (fun _ h9 => h9) rfl dX2_goodWalls_10 ?_
                  refine lv_if_le (tgt := 33) hx hb dX2_goodWalls_13 (by decide) (fun c_13 => ?_) (fun c_13 => ?_)
                  · exact absurd c_13 (by decide)
                  · refine lv_aload_n hx hb dX2_goodWalls_16 rfl (lv_at hl 2 rfl) ?_
                    refine lv_iload_n hx hb dX2_goodWalls_17 rfl (lv_at hl 0 rfl) ?_
                    refine kc_i (wc := [(h0, .inr (2, [.int (nI 2), .int tn, .int sn, .ref ar])), (ar, .inl (cy 2, 3, .inr (.inr (.inr (.inr (va_up (va_up (va_up (fun _ => none) 0 (some c0)) 1 (some c1)) 2 (some c2))))))), (c0, .inr (0, [.int k0, .int s0, .ref r0])), (r0, .inl (cy 0, 6, .inl f0)), (c1, .inr (0, [.int k1, .int s1, .ref r1])), (r1, .inl (cy 0, 6, .inl f1)), (c2, .inr (0, [.int k2, .int s2, .ref r2])), (r2, .inl (cy 0, 6, .inl f2))]) (wr := []) (va_runV (As := [.int 2]) (rest := []) ⟨hx, hb, hml, hown, hts⟩ (g_X2_clashesOn l D cy H.size h0 ar c0 r0 c1 r1 c2 r2 2 tn sn k0 s0 k1 s1 k2 s2 f0 f1 f2 2 (by decide) (by decide)) (cwV 1 hts gX2_goodWalls_X2_clashesOn rfl rfl rfl hdc_X2_clashesOn ⟨Nat.le_of_ble_eq_true rfl, Nat.le_of_ble_eq_true rfl⟩) (cpre_V (wc := [(h0, .inr (2, [.int (nI 2), .int tn, .int sn, .ref ar])), (ar, .inl (cy 2, 3, .inr (.inr (.inr (.inr (va_up (va_up (va_up (fun _ => none) 0 (some c0)) 1 (some c1)) 2 (some c2))))))), (c0, .inr (0, [.int k0, .int s0, .ref r0])), (r0, .inl (cy 0, 6, .inl f0)), (c1, .inr (0, [.int k1, .int s1, .ref r1])), (r1, .inl (cy 0, 6, .inl f1)), (c2, .inr (0, [.int k2, .int s2, .ref r2])), (r2, .inl (cy 0, 6, .inl f2))]) 0 2 rfl rfl hX hP hD hS hA [0, 1, 2, 3, 4, 5, 6, 7] (by decide +kernel) rfl) rfl rfl hl.1 rfl (lv_room (Nat.le_of_ble_eq_true rfl)) dX2_goodWalls_18 ⟨Nat.le_of_ble_eq_true rfl, Nat.le_of_ble_eq_true rfl⟩) hP hD hS hA [0, 1, 2, 3, 4, 5, 6, 7] [] rfl rfl (by decide +kernel) (by decide +kernel) (fun ro u3 H locs hw hP hD hS => ?_)
                    obtain ⟨hu, hro⟩ := hw
                    subst hu
                    have hP : va_P D vwCl [(h0, .inr (2, [.int 2, .int tn, .int sn, .ref ar])), (ar, .inl (cy 2, 3, .inr (.inr (.inr (.inr (va_up (va_up (va_up (fun _ => none) 0 (some c0)) 1 (some c1)) 2 (some c2))))))), (c0, .inr (0, [.int k0, .int s0, .ref r0])), (r0, .inl (cy 0, 6, .inl f0)), (c1, .inr (0, [.int k1, .int s1, .ref r1])), (r1, .inl (cy 0, 6, .inl f1)), (c2, .inr (0, [.int k2, .int s2, .ref r2])), (r2, .inl (cy 0, 6, .inl f2))] H := hP
                    have hD : va_D A [(h0, .inr (2, [.int 2, .int tn, .int sn, .ref ar])), (ar, .inl (cy 2, 3, .inr (.inr (.inr (.inr (va_up (va_up (va_up (fun _ => none) 0 (some c0)) 1 (some c1)) 2 (some c2))))))), (c0, .inr (0, [.int k0, .int s0, .ref r0])), (r0, .inl (cy 0, 6, .inl f0)), (c1, .inr (0, [.int k1, .int s1, .ref r1])), (r1, .inl (cy 0, 6, .inl f1)), (c2, .inr (0, [.int k2, .int s2, .ref r2])), (r2, .inl (cy 0, 6, .inl f2))] := hD
                    subst hro
                    refine lv_if_ne (tgt := 27) hx hb dX2_goodWalls_21 (by decide) (fun c_21_2 => ?_) (fun c_21_2 => ?_)
                    · refine lv_iinc (v := 3) (lv' := [(2, .int 3), (1, .int 0), (0, .ref h0)]) hx hb dX2_goodWalls_27 hl (k := 0) rfl (by decide) (by decide) rfl (fun ls hl => ?_)
                      refine lv_goto (tgt := 4) hx hb dX2_goodWalls_30 (by decide) ?_
                      refine lv_iload_n hx hb dX2_goodWalls_4 rfl (lv_at hl 0 rfl) ?_
                      refine lv_iconst (v := 4) hx hb dX2_goodWalls_5 (by decide) ?_
                      refine lv_icmp_ge (tgt := 33) hx hb dX2_goodWalls_6 (by decide) (fun c_6 => ?_) (fun c_6 => ?_)
                      · exact absurd c_6 (by decide)
                      · refine lv_aload_n hx hb dX2_goodWalls_9 rfl (lv_at hl 2 rfl) ?_
                        refine va_get (D := D) (ci := 2) (v := .int 2) (C := RX2) (T := TX2) (N := 4) hx hb hts hw_X2 hown hK hP 0 rfl rfl 0 (by decide) f_18 (fun _ h9 => h9) rfl dX2_goodWalls_10 ?_
                        refine lv_if_le (tgt := 33) hx hb dX2_goodWalls_13 (by decide) (fun c_13 => ?_) (fun c_13 => ?_)
                        · exact absurd c_13 (by decide)
                        · refine lv_aload_n hx hb dX2_goodWalls_16 rfl (lv_at hl 2 rfl) ?_
                          refine lv_iload_n hx hb dX2_goodWalls_17 rfl (lv_at hl 0 rfl) ?_
                          refine kc_i (wc := [(h0, .inr (2, [.int (nI 2), .int tn, .int sn, .ref ar])), (ar, .inl (cy 2, 3, .inr (.inr (.inr (.inr (va_up (va_up (va_up (fun _ => none) 0 (some c0)) 1 (some c1)) 2 (some c2))))))), (c0, .inr (0, [.int k0, .int s0, .ref r0])), (r0, .inl (cy 0, 6, .inl f0)), (c1, .inr (0, [.int k1, .int s1, .ref r1])), (r1, .inl (cy 0, 6, .inl f1)), (c2, .inr (0, [.int k2, .int s2, .ref r2])), (r2, .inl (cy 0, 6, .inl f2))]) (wr := []) (va_runV (As := [.int 3]) (rest := []) ⟨hx, hb, hml, hown, hts⟩ (g_X2_clashesOn l D cy H.size h0 ar c0 r0 c1 r1 c2 r2 2 tn sn k0 s0 k1 s1 k2 s2 f0 f1 f2 3 (by decide) (by decide)) (cwV 1 hts gX2_goodWalls_X2_clashesOn rfl rfl rfl hdc_X2_clashesOn ⟨Nat.le_of_ble_eq_true rfl, Nat.le_of_ble_eq_true rfl⟩) (cpre_V (wc := [(h0, .inr (2, [.int (nI 2), .int tn, .int sn, .ref ar])), (ar, .inl (cy 2, 3, .inr (.inr (.inr (.inr (va_up (va_up (va_up (fun _ => none) 0 (some c0)) 1 (some c1)) 2 (some c2))))))), (c0, .inr (0, [.int k0, .int s0, .ref r0])), (r0, .inl (cy 0, 6, .inl f0)), (c1, .inr (0, [.int k1, .int s1, .ref r1])), (r1, .inl (cy 0, 6, .inl f1)), (c2, .inr (0, [.int k2, .int s2, .ref r2])), (r2, .inl (cy 0, 6, .inl f2))]) 0 2 rfl rfl hX hP hD hS hA [0, 1, 2, 3, 4, 5, 6, 7] (by decide +kernel) rfl) rfl rfl hl.1 rfl (lv_room (Nat.le_of_ble_eq_true rfl)) dX2_goodWalls_18 ⟨Nat.le_of_ble_eq_true rfl, Nat.le_of_ble_eq_true rfl⟩) hP hD hS hA [0, 1, 2, 3, 4, 5, 6, 7] [] rfl rfl (by decide +kernel) (by decide +kernel) (fun ro u4 H locs hw hP hD hS => ?_)
                          obtain ⟨hu, hro⟩ := hw
                          subst hu
                          have hP : va_P D vwCl [(h0, .inr (2, [.int 2, .int tn, .int sn, .ref ar])), (ar, .inl (cy 2, 3, .inr (.inr (.inr (.inr (va_up (va_up (va_up (fun _ => none) 0 (some c0)) 1 (some c1)) 2 (some c2))))))), (c0, .inr (0, [.int k0, .int s0, .ref r0])), (r0, .inl (cy 0, 6, .inl f0)), (c1, .inr (0, [.int k1, .int s1, .ref r1])), (r1, .inl (cy 0, 6, .inl f1)), (c2, .inr (0, [.int k2, .int s2, .ref r2])), (r2, .inl (cy 0, 6, .inl f2))] H := hP
                          have hD : va_D A [(h0, .inr (2, [.int 2, .int tn, .int sn, .ref ar])), (ar, .inl (cy 2, 3, .inr (.inr (.inr (.inr (va_up (va_up (va_up (fun _ => none) 0 (some c0)) 1 (some c1)) 2 (some c2))))))), (c0, .inr (0, [.int k0, .int s0, .ref r0])), (r0, .inl (cy 0, 6, .inl f0)), (c1, .inr (0, [.int k1, .int s1, .ref r1])), (r1, .inl (cy 0, 6, .inl f1)), (c2, .inr (0, [.int k2, .int s2, .ref r2])), (r2, .inl (cy 0, 6, .inl f2))] := hD
                          subst hro
                          refine lv_if_ne (tgt := 27) hx hb dX2_goodWalls_21 (by decide) (fun c_21_3 => ?_) (fun c_21_3 => ?_)
                          · refine lv_iinc (v := 4) (lv' := [(2, .int 4), (1, .int 0), (0, .ref h0)]) hx hb dX2_goodWalls_27 hl (k := 0) rfl (by decide) (by decide) rfl (fun ls hl => ?_)
                            refine lv_goto (tgt := 4) hx hb dX2_goodWalls_30 (by decide) ?_
                            refine lv_iload_n hx hb dX2_goodWalls_4 rfl (lv_at hl 0 rfl) ?_
                            refine lv_iconst (v := 4) hx hb dX2_goodWalls_5 (by decide) ?_
                            refine lv_icmp_ge (tgt := 33) hx hb dX2_goodWalls_6 (by decide) (fun c_6 => ?_) (fun c_6 => ?_)
                            · refine lv_iload_n hx hb dX2_goodWalls_33 rfl (lv_at hl 1 rfl) ?_
                              have hP9 := hP.sub (ws' := [(h0, .inr (2, [.int (nI 2), .int tn, .int sn, .ref ar])), (ar, .inl (cy 2, 3, .inr (.inr (.inr (.inr (va_up (va_up (va_up (fun _ => none) 0 (some c0)) 1 (some c1)) 2 (some c2))))))), (c0, .inr (0, [.int k0, .int s0, .ref r0])), (r0, .inl (cy 0, 6, .inl f0)), (c1, .inr (0, [.int k1, .int s1, .ref r1])), (r1, .inl (cy 0, 6, .inl f1)), (c2, .inr (0, [.int k2, .int s2, .ref r2])), (r2, .inl (cy 0, 6, .inl f2))]) [0, 1, 2, 3, 4, 5, 6, 7] rfl
                              have hD9 := hD.sub (ws' := [(h0, .inr (2, [.int (nI 2), .int tn, .int sn, .ref ar])), (ar, .inl (cy 2, 3, .inr (.inr (.inr (.inr (va_up (va_up (va_up (fun _ => none) 0 (some c0)) 1 (some c1)) 2 (some c2))))))), (c0, .inr (0, [.int k0, .int s0, .ref r0])), (r0, .inl (cy 0, 6, .inl f0)), (c1, .inr (0, [.int k1, .int s1, .ref r1])), (r1, .inl (cy 0, 6, .inl f1)), (c2, .inr (0, [.int k2, .int s2, .ref r2])), (r2, .inl (cy 0, 6, .inl f2))]) [0, 1, 2, 3, 4, 5, 6, 7] (by decide +kernel) rfl
                              exact W.iret (v := 0) hx hb hr (fun t9 ht9 hW9 => ⟨⟨0, [(h0, .inr (2, [.int (nI 2), .int tn, .int sn, .ref ar])), (ar, .inl (cy 2, 3, .inr (.inr (.inr (.inr (va_up (va_up (va_up (fun _ => none) 0 (some c0)) 1 (some c1)) 2 (some c2))))))), (c0, .inr (0, [.int k0, .int s0, .ref r0])), (r0, .inl (cy 0, 6, .inl f0)), (c1, .inr (0, [.int k1, .int s1, .ref r1])), (r1, .inl (cy 0, 6, .inl f1)), (c2, .inr (0, [.int k2, .int s2, .ref r2])), (r2, .inl (cy 0, 6, .inl f2))], rfl, ⟨rfl, (congrArg nI (show 0 = g0 2 (clOn 2 f0 f1 f2 (2 + 0)) + g0 2 (clOn 2 f0 f1 f2 (2 + 1)) + g0 2 (clOn 2 f0 f1 f2 (2 + 2)) + g0 2 (clOn 2 f0 f1 f2 (2 + 3)) by rw [g00 (sz := 2) c_21_0, g00 (sz := 2) c_21_1, g00 (sz := 2) c_21_2, g00 (sz := 2) c_21_3]))⟩, by rw [ht9]; exact hP9, hD9⟩, hS.F ht9⟩) hS.2.2 dX2_goodWalls_34
                            · exact absurd c_6 (by decide)
                          · refine lv_iinc (v := 1) (lv' := [(1, .int 1), (2, .int 3), (0, .ref h0)]) hx hb dX2_goodWalls_24 hl (k := 1) rfl (by decide) (by decide) rfl (fun ls hl => ?_)
                            refine lv_iinc (v := 4) (lv' := [(2, .int 4), (1, .int 1), (0, .ref h0)]) hx hb dX2_goodWalls_27 hl (k := 1) rfl (by decide) (by decide) rfl (fun ls hl => ?_)
                            refine lv_goto (tgt := 4) hx hb dX2_goodWalls_30 (by decide) ?_
                            refine lv_iload_n hx hb dX2_goodWalls_4 rfl (lv_at hl 0 rfl) ?_
                            refine lv_iconst (v := 4) hx hb dX2_goodWalls_5 (by decide) ?_
                            refine lv_icmp_ge (tgt := 33) hx hb dX2_goodWalls_6 (by decide) (fun c_6 => ?_) (fun c_6 => ?_)
                            · refine lv_iload_n hx hb dX2_goodWalls_33 rfl (lv_at hl 1 rfl) ?_
                              have hP9 := hP.sub (ws' := [(h0, .inr (2, [.int (nI 2), .int tn, .int sn, .ref ar])), (ar, .inl (cy 2, 3, .inr (.inr (.inr (.inr (va_up (va_up (va_up (fun _ => none) 0 (some c0)) 1 (some c1)) 2 (some c2))))))), (c0, .inr (0, [.int k0, .int s0, .ref r0])), (r0, .inl (cy 0, 6, .inl f0)), (c1, .inr (0, [.int k1, .int s1, .ref r1])), (r1, .inl (cy 0, 6, .inl f1)), (c2, .inr (0, [.int k2, .int s2, .ref r2])), (r2, .inl (cy 0, 6, .inl f2))]) [0, 1, 2, 3, 4, 5, 6, 7] rfl
                              have hD9 := hD.sub (ws' := [(h0, .inr (2, [.int (nI 2), .int tn, .int sn, .ref ar])), (ar, .inl (cy 2, 3, .inr (.inr (.inr (.inr (va_up (va_up (va_up (fun _ => none) 0 (some c0)) 1 (some c1)) 2 (some c2))))))), (c0, .inr (0, [.int k0, .int s0, .ref r0])), (r0, .inl (cy 0, 6, .inl f0)), (c1, .inr (0, [.int k1, .int s1, .ref r1])), (r1, .inl (cy 0, 6, .inl f1)), (c2, .inr (0, [.int k2, .int s2, .ref r2])), (r2, .inl (cy 0, 6, .inl f2))]) [0, 1, 2, 3, 4, 5, 6, 7] (by decide +kernel) rfl
                              exact W.iret (v := 1) hx hb hr (fun t9 ht9 hW9 => ⟨⟨1, [(h0, .inr (2, [.int (nI 2), .int tn, .int sn, .ref ar])), (ar, .inl (cy 2, 3, .inr (.inr (.inr (.inr (va_up (va_up (va_up (fun _ => none) 0 (some c0)) 1 (some c1)) 2 (some c2))))))), (c0, .inr (0, [.int k0, .int s0, .ref r0])), (r0, .inl (cy 0, 6, .inl f0)), (c1, .inr (0, [.int k1, .int s1, .ref r1])), (r1, .inl (cy 0, 6, .inl f1)), (c2, .inr (0, [.int k2, .int s2, .ref r2])), (r2, .inl (cy 0, 6, .inl f2))], rfl, ⟨rfl, (congrArg nI (show 1 = g0 2 (clOn 2 f0 f1 f2 (2 + 0)) + g0 2 (clOn 2 f0 f1 f2 (2 + 1)) + g0 2 (clOn 2 f0 f1 f2 (2 + 2)) + g0 2 (clOn 2 f0 f1 f2 (2 + 3)) by rw [g00 (sz := 2) c_21_0, g00 (sz := 2) c_21_1, g00 (sz := 2) c_21_2, g01 (sz := 2) (by decide) (clOn_le _ _ _ _ _) c_21_3]))⟩, by rw [ht9]; exact hP9, hD9⟩, hS.F ht9⟩) hS.2.2 dX2_goodWalls_34
                            · exact absurd c_6 (by decide)
                    · refine lv_iinc (v := 1) (lv' := [(1, .int 1), (2, .int 2), (0, .ref h0)]) hx hb dX2_goodWalls_24 hl (k := 1) rfl (by decide) (by decide) rfl (fun ls hl => ?_)
                      refine lv_iinc (v := 3) (lv' := [(2, .int 3), (1, .int 1), (0, .ref h0)]) hx hb dX2_goodWalls_27 hl (k := 1) rfl (by decide) (by decide) rfl (fun ls hl => ?_)
                      refine lv_goto (tgt := 4) hx hb dX2_goodWalls_30 (by decide) ?_
                      refine lv_iload_n hx hb dX2_goodWalls_4 rfl (lv_at hl 0 rfl) ?_
                      refine lv_iconst (v := 4) hx hb dX2_goodWalls_5 (by decide) ?_
                      refine lv_icmp_ge (tgt := 33) hx hb dX2_goodWalls_6 (by decide) (fun c_6 => ?_) (fun c_6 => ?_)
                      · exact absurd c_6 (by decide)
                      · refine lv_aload_n hx hb dX2_goodWalls_9 rfl (lv_at hl 2 rfl) ?_
                        refine va_get (D := D) (ci := 2) (v := .int 2) (C := RX2) (T := TX2) (N := 4) hx hb hts hw_X2 hown hK hP 0 rfl rfl 0 (by decide) f_18 (fun _ h9 => h9) rfl dX2_goodWalls_10 ?_
                        refine lv_if_le (tgt := 33) hx hb dX2_goodWalls_13 (by decide) (fun c_13 => ?_) (fun c_13 => ?_)
                        · exact absurd c_13 (by decide)
                        · refine lv_aload_n hx hb dX2_goodWalls_16 rfl (lv_at hl 2 rfl) ?_
                          refine lv_iload_n hx hb dX2_goodWalls_17 rfl (lv_at hl 0 rfl) ?_
                          refine kc_i (wc := [(h0, .inr (2, [.int (nI 2), .int tn, .int sn, .ref ar])), (ar, .inl (cy 2, 3, .inr (.inr (.inr (.inr (va_up (va_up (va_up (fun _ => none) 0 (some c0)) 1 (some c1)) 2 (some c2))))))), (c0, .inr (0, [.int k0, .int s0, .ref r0])), (r0, .inl (cy 0, 6, .inl f0)), (c1, .inr (0, [.int k1, .int s1, .ref r1])), (r1, .inl (cy 0, 6, .inl f1)), (c2, .inr (0, [.int k2, .int s2, .ref r2])), (r2, .inl (cy 0, 6, .inl f2))]) (wr := []) (va_runV (As := [.int 3]) (rest := []) ⟨hx, hb, hml, hown, hts⟩ (g_X2_clashesOn l D cy H.size h0 ar c0 r0 c1 r1 c2 r2 2 tn sn k0 s0 k1 s1 k2 s2 f0 f1 f2 3 (by decide) (by decide)) (cwV 1 hts gX2_goodWalls_X2_clashesOn rfl rfl rfl hdc_X2_clashesOn ⟨Nat.le_of_ble_eq_true rfl, Nat.le_of_ble_eq_true rfl⟩) (cpre_V (wc := [(h0, .inr (2, [.int (nI 2), .int tn, .int sn, .ref ar])), (ar, .inl (cy 2, 3, .inr (.inr (.inr (.inr (va_up (va_up (va_up (fun _ => none) 0 (some c0)) 1 (some c1)) 2 (some c2))))))), (c0, .inr (0, [.int k0, .int s0, .ref r0])), (r0, .inl (cy 0, 6, .inl f0)), (c1, .inr (0, [.int k1, .int s1, .ref r1])), (r1, .inl (cy 0, 6, .inl f1)), (c2, .inr (0, [.int k2, .int s2, .ref r2])), (r2, .inl (cy 0, 6, .inl f2))]) 0 2 rfl rfl hX hP hD hS hA [0, 1, 2, 3, 4, 5, 6, 7] (by decide +kernel) rfl) rfl rfl hl.1 rfl (lv_room (Nat.le_of_ble_eq_true rfl)) dX2_goodWalls_18 ⟨Nat.le_of_ble_eq_true rfl, Nat.le_of_ble_eq_true rfl⟩) hP hD hS hA [0, 1, 2, 3, 4, 5, 6, 7] [] rfl rfl (by decide +kernel) (by decide +kernel) (fun ro u5 H locs hw hP hD hS => ?_)
                          obtain ⟨hu, hro⟩ := hw
                          subst hu
                          have hP : va_P D vwCl [(h0, .inr (2, [.int 2, .int tn, .int sn, .ref ar])), (ar, .inl (cy 2, 3, .inr (.inr (.inr (.inr (va_up (va_up (va_up (fun _ => none) 0 (some c0)) 1 (some c1)) 2 (some c2))))))), (c0, .inr (0, [.int k0, .int s0, .ref r0])), (r0, .inl (cy 0, 6, .inl f0)), (c1, .inr (0, [.int k1, .int s1, .ref r1])), (r1, .inl (cy 0, 6, .inl f1)), (c2, .inr (0, [.int k2, .int s2, .ref r2])), (r2, .inl (cy 0, 6, .inl f2))] H := hP
                          have hD : va_D A [(h0, .inr (2, [.int 2, .int tn, .int sn, .ref ar])), (ar, .inl (cy 2, 3, .inr (.inr (.inr (.inr (va_up (va_up (va_up (fun _ => none) 0 (some c0)) 1 (some c1)) 2 (some c2))))))), (c0, .inr (0, [.int k0, .int s0, .ref r0])), (r0, .inl (cy 0, 6, .inl f0)), (c1, .inr (0, [.int k1, .int s1, .ref r1])), (r1, .inl (cy 0, 6, .inl f1)), (c2, .inr (0, [.int k2, .int s2, .ref r2])), (r2, .inl (cy 0, 6, .inl f2))] := hD
                          subst hro
                          refine lv_if_ne (tgt := 27) hx hb dX2_goodWalls_21 (by decide) (fun c_21_3 => ?_) (fun c_21_3 => ?_)
                          · refine lv_iinc (v := 4) (lv' := [(2, .int 4), (1, .int 1), (0, .ref h0)]) hx hb dX2_goodWalls_27 hl (k := 0) rfl (by decide) (by decide) rfl (fun ls hl => ?_)
                            refine lv_goto (tgt := 4) hx hb dX2_goodWalls_30 (by decide) ?_
                            refine lv_iload_n hx hb dX2_goodWalls_4 rfl (lv_at hl 0 rfl) ?_
                            refine lv_iconst (v := 4) hx hb dX2_goodWalls_5 (by decide) ?_
                            refine lv_icmp_ge (tgt := 33) hx hb dX2_goodWalls_6 (by decide) (fun c_6 => ?_) (fun c_6 => ?_)
                            · refine lv_iload_n hx hb dX2_goodWalls_33 rfl (lv_at hl 1 rfl) ?_
                              have hP9 := hP.sub (ws' := [(h0, .inr (2, [.int (nI 2), .int tn, .int sn, .ref ar])), (ar, .inl (cy 2, 3, .inr (.inr (.inr (.inr (va_up (va_up (va_up (fun _ => none) 0 (some c0)) 1 (some c1)) 2 (some c2))))))), (c0, .inr (0, [.int k0, .int s0, .ref r0])), (r0, .inl (cy 0, 6, .inl f0)), (c1, .inr (0, [.int k1, .int s1, .ref r1])), (r1, .inl (cy 0, 6, .inl f1)), (c2, .inr (0, [.int k2, .int s2, .ref r2])), (r2, .inl (cy 0, 6, .inl f2))]) [0, 1, 2, 3, 4, 5, 6, 7] rfl
                              have hD9 := hD.sub (ws' := [(h0, .inr (2, [.int (nI 2), .int tn, .int sn, .ref ar])), (ar, .inl (cy 2, 3, .inr (.inr (.inr (.inr (va_up (va_up (va_up (fun _ => none) 0 (some c0)) 1 (some c1)) 2 (some c2))))))), (c0, .inr (0, [.int k0, .int s0, .ref r0])), (r0, .inl (cy 0, 6, .inl f0)), (c1, .inr (0, [.int k1, .int s1, .ref r1])), (r1, .inl (cy 0, 6, .inl f1)), (c2, .inr (0, [.int k2, .int s2, .ref r2])), (r2, .inl (cy 0, 6, .inl f2))]) [0, 1, 2, 3, 4, 5, 6, 7] (by decide +kernel) rfl
                              exact W.iret (v := 1) hx hb hr (fun t9 ht9 hW9 => ⟨⟨1, [(h0, .inr (2, [.int (nI 2), .int tn, .int sn, .ref ar])), (ar, .inl (cy 2, 3, .inr (.inr (.inr (.inr (va_up (va_up (va_up (fun _ => none) 0 (some c0)) 1 (some c1)) 2 (some c2))))))), (c0, .inr (0, [.int k0, .int s0, .ref r0])), (r0, .inl (cy 0, 6, .inl f0)), (c1, .inr (0, [.int k1, .int s1, .ref r1])), (r1, .inl (cy 0, 6, .inl f1)), (c2, .inr (0, [.int k2, .int s2, .ref r2])), (r2, .inl (cy 0, 6, .inl f2))], rfl, ⟨rfl, (congrArg nI (show 1 = g0 2 (clOn 2 f0 f1 f2 (2 + 0)) + g0 2 (clOn 2 f0 f1 f2 (2 + 1)) + g0 2 (clOn 2 f0 f1 f2 (2 + 2)) + g0 2 (clOn 2 f0 f1 f2 (2 + 3)) by rw [g00 (sz := 2) c_21_0, g00 (sz := 2) c_21_1, g01 (sz := 2) (by decide) (clOn_le _ _ _ _ _) c_21_2, g00 (sz := 2) c_21_3]))⟩, by rw [ht9]; exact hP9, hD9⟩, hS.F ht9⟩) hS.2.2 dX2_goodWalls_34
                            · exact absurd c_6 (by decide)
                          · refine lv_iinc (v := 2) (lv' := [(1, .int 2), (2, .int 3), (0, .ref h0)]) hx hb dX2_goodWalls_24 hl (k := 1) rfl (by decide) (by decide) rfl (fun ls hl => ?_)
                            refine lv_iinc (v := 4) (lv' := [(2, .int 4), (1, .int 2), (0, .ref h0)]) hx hb dX2_goodWalls_27 hl (k := 1) rfl (by decide) (by decide) rfl (fun ls hl => ?_)
                            refine lv_goto (tgt := 4) hx hb dX2_goodWalls_30 (by decide) ?_
                            refine lv_iload_n hx hb dX2_goodWalls_4 rfl (lv_at hl 0 rfl) ?_
                            refine lv_iconst (v := 4) hx hb dX2_goodWalls_5 (by decide) ?_
                            refine lv_icmp_ge (tgt := 33) hx hb dX2_goodWalls_6 (by decide) (fun c_6 => ?_) (fun c_6 => ?_)
                            · refine lv_iload_n hx hb dX2_goodWalls_33 rfl (lv_at hl 1 rfl) ?_
                              have hP9 := hP.sub (ws' := [(h0, .inr (2, [.int (nI 2), .int tn, .int sn, .ref ar])), (ar, .inl (cy 2, 3, .inr (.inr (.inr (.inr (va_up (va_up (va_up (fun _ => none) 0 (some c0)) 1 (some c1)) 2 (some c2))))))), (c0, .inr (0, [.int k0, .int s0, .ref r0])), (r0, .inl (cy 0, 6, .inl f0)), (c1, .inr (0, [.int k1, .int s1, .ref r1])), (r1, .inl (cy 0, 6, .inl f1)), (c2, .inr (0, [.int k2, .int s2, .ref r2])), (r2, .inl (cy 0, 6, .inl f2))]) [0, 1, 2, 3, 4, 5, 6, 7] rfl
                              have hD9 := hD.sub (ws' := [(h0, .inr (2, [.int (nI 2), .int tn, .int sn, .ref ar])), (ar, .inl (cy 2, 3, .inr (.inr (.inr (.inr (va_up (va_up (va_up (fun _ => none) 0 (some c0)) 1 (some c1)) 2 (some c2))))))), (c0, .inr (0, [.int k0, .int s0, .ref r0])), (r0, .inl (cy 0, 6, .inl f0)), (c1, .inr (0, [.int k1, .int s1, .ref r1])), (r1, .inl (cy 0, 6, .inl f1)), (c2, .inr (0, [.int k2, .int s2, .ref r2])), (r2, .inl (cy 0, 6, .inl f2))]) [0, 1, 2, 3, 4, 5, 6, 7] (by decide +kernel) rfl
                              exact W.iret (v := 2) hx hb hr (fun t9 ht9 hW9 => ⟨⟨2, [(h0, .inr (2, [.int (nI 2), .int tn, .int sn, .ref ar])), (ar, .inl (cy 2, 3, .inr (.inr (.inr (.inr (va_up (va_up (va_up (fun _ => none) 0 (some c0)) 1 (some c1)) 2 (some c2))))))), (c0, .inr (0, [.int k0, .int s0, .ref r0])), (r0, .inl (cy 0, 6, .inl f0)), (c1, .inr (0, [.int k1, .int s1, .ref r1])), (r1, .inl (cy 0, 6, .inl f1)), (c2, .inr (0, [.int k2, .int s2, .ref r2])), (r2, .inl (cy 0, 6, .inl f2))], rfl, ⟨rfl, (congrArg nI (show 2 = g0 2 (clOn 2 f0 f1 f2 (2 + 0)) + g0 2 (clOn 2 f0 f1 f2 (2 + 1)) + g0 2 (clOn 2 f0 f1 f2 (2 + 2)) + g0 2 (clOn 2 f0 f1 f2 (2 + 3)) by rw [g00 (sz := 2) c_21_0, g00 (sz := 2) c_21_1, g01 (sz := 2) (by decide) (clOn_le _ _ _ _ _) c_21_2, g01 (sz := 2) (by decide) (clOn_le _ _ _ _ _) c_21_3]))⟩, by rw [ht9]; exact hP9, hD9⟩, hS.F ht9⟩) hS.2.2 dX2_goodWalls_34
                            · exact absurd c_6 (by decide)
              · refine lv_iinc (v := 1) (lv' := [(1, .int 1), (2, .int 1), (0, .ref h0)]) hx hb dX2_goodWalls_24 hl (k := 1) rfl (by decide) (by decide) rfl (fun ls hl => ?_)
                refine lv_iinc (v := 2) (lv' := [(2, .int 2), (1, .int 1), (0, .ref h0)]) hx hb dX2_goodWalls_27 hl (k := 1) rfl (by decide) (by decide) rfl (fun ls hl => ?_)
                refine lv_goto (tgt := 4) hx hb dX2_goodWalls_30 (by decide) ?_
                refine lv_iload_n hx hb dX2_goodWalls_4 rfl (lv_at hl 0 rfl) ?_
                refine lv_iconst (v := 4) hx hb dX2_goodWalls_5 (by decide) ?_
                refine lv_icmp_ge (tgt := 33) hx hb dX2_goodWalls_6 (by decide) (fun c_6 => ?_) (fun c_6 => ?_)
                · exact absurd c_6 (by decide)
                · refine lv_aload_n hx hb dX2_goodWalls_9 rfl (lv_at hl 2 rfl) ?_
                  refine va_get (D := D) (ci := 2) (v := .int 2) (C := RX2) (T := TX2) (N := 4) hx hb hts hw_X2 hown hK hP 0 rfl rfl 0 (by decide) f_18 (fun _ h9 => h9) rfl dX2_goodWalls_10 ?_
                  refine lv_if_le (tgt := 33) hx hb dX2_goodWalls_13 (by decide) (fun c_13 => ?_) (fun c_13 => ?_)
                  · exact absurd c_13 (by decide)
                  · refine lv_aload_n hx hb dX2_goodWalls_16 rfl (lv_at hl 2 rfl) ?_
                    refine lv_iload_n hx hb dX2_goodWalls_17 rfl (lv_at hl 0 rfl) ?_
                    refine kc_i (wc := [(h0, .inr (2, [.int (nI 2), .int tn, .int sn, .ref ar])), (ar, .inl (cy 2, 3, .inr (.inr (.inr (.inr (va_up (va_up (va_up (fun _ => none) 0 (some c0)) 1 (some c1)) 2 (some c2))))))), (c0, .inr (0, [.int k0, .int s0, .ref r0])), (r0, .inl (cy 0, 6, .inl f0)), (c1, .inr (0, [.int k1, .int s1, .ref r1])), (r1, .inl (cy 0, 6, .inl f1)), (c2, .inr (0, [.int k2, .int s2, .ref r2])), (r2, .inl (cy 0, 6, .inl f2))]) (wr := []) (va_runV (As := [.int 2]) (rest := []) ⟨hx, hb, hml, hown, hts⟩ (g_X2_clashesOn l D cy H.size h0 ar c0 r0 c1 r1 c2 r2 2 tn sn k0 s0 k1 s1 k2 s2 f0 f1 f2 2 (by decide) (by decide)) (cwV 1 hts gX2_goodWalls_X2_clashesOn rfl rfl rfl hdc_X2_clashesOn ⟨Nat.le_of_ble_eq_true rfl, Nat.le_of_ble_eq_true rfl⟩) (cpre_V (wc := [(h0, .inr (2, [.int (nI 2), .int tn, .int sn, .ref ar])), (ar, .inl (cy 2, 3, .inr (.inr (.inr (.inr (va_up (va_up (va_up (fun _ => none) 0 (some c0)) 1 (some c1)) 2 (some c2))))))), (c0, .inr (0, [.int k0, .int s0, .ref r0])), (r0, .inl (cy 0, 6, .inl f0)), (c1, .inr (0, [.int k1, .int s1, .ref r1])), (r1, .inl (cy 0, 6, .inl f1)), (c2, .inr (0, [.int k2, .int s2, .ref r2])), (r2, .inl (cy 0, 6, .inl f2))]) 0 2 rfl rfl hX hP hD hS hA [0, 1, 2, 3, 4, 5, 6, 7] (by decide +kernel) rfl) rfl rfl hl.1 rfl (lv_room (Nat.le_of_ble_eq_true rfl)) dX2_goodWalls_18 ⟨Nat.le_of_ble_eq_true rfl, Nat.le_of_ble_eq_true rfl⟩) hP hD hS hA [0, 1, 2, 3, 4, 5, 6, 7] [] rfl rfl (by decide +kernel) (by decide +kernel) (fun ro u6 H locs hw hP hD hS => ?_)
                    obtain ⟨hu, hro⟩ := hw
                    subst hu
                    have hP : va_P D vwCl [(h0, .inr (2, [.int 2, .int tn, .int sn, .ref ar])), (ar, .inl (cy 2, 3, .inr (.inr (.inr (.inr (va_up (va_up (va_up (fun _ => none) 0 (some c0)) 1 (some c1)) 2 (some c2))))))), (c0, .inr (0, [.int k0, .int s0, .ref r0])), (r0, .inl (cy 0, 6, .inl f0)), (c1, .inr (0, [.int k1, .int s1, .ref r1])), (r1, .inl (cy 0, 6, .inl f1)), (c2, .inr (0, [.int k2, .int s2, .ref r2])), (r2, .inl (cy 0, 6, .inl f2))] H := hP
                    have hD : va_D A [(h0, .inr (2, [.int 2, .int tn, .int sn, .ref ar])), (ar, .inl (cy 2, 3, .inr (.inr (.inr (.inr (va_up (va_up (va_up (fun _ => none) 0 (some c0)) 1 (some c1)) 2 (some c2))))))), (c0, .inr (0, [.int k0, .int s0, .ref r0])), (r0, .inl (cy 0, 6, .inl f0)), (c1, .inr (0, [.int k1, .int s1, .ref r1])), (r1, .inl (cy 0, 6, .inl f1)), (c2, .inr (0, [.int k2, .int s2, .ref r2])), (r2, .inl (cy 0, 6, .inl f2))] := hD
                    subst hro
                    refine lv_if_ne (tgt := 27) hx hb dX2_goodWalls_21 (by decide) (fun c_21_2 => ?_) (fun c_21_2 => ?_)
                    · refine lv_iinc (v := 3) (lv' := [(2, .int 3), (1, .int 1), (0, .ref h0)]) hx hb dX2_goodWalls_27 hl (k := 0) rfl (by decide) (by decide) rfl (fun ls hl => ?_)
                      refine lv_goto (tgt := 4) hx hb dX2_goodWalls_30 (by decide) ?_
                      refine lv_iload_n hx hb dX2_goodWalls_4 rfl (lv_at hl 0 rfl) ?_
                      refine lv_iconst (v := 4) hx hb dX2_goodWalls_5 (by decide) ?_
                      refine lv_icmp_ge (tgt := 33) hx hb dX2_goodWalls_6 (by decide) (fun c_6 => ?_) (fun c_6 => ?_)
                      · exact absurd c_6 (by decide)
                      · refine lv_aload_n hx hb dX2_goodWalls_9 rfl (lv_at hl 2 rfl) ?_
                        refine va_get (D := D) (ci := 2) (v := .int 2) (C := RX2) (T := TX2) (N := 4) hx hb hts hw_X2 hown hK hP 0 rfl rfl 0 (by decide) f_18 (fun _ h9 => h9) rfl dX2_goodWalls_10 ?_
                        refine lv_if_le (tgt := 33) hx hb dX2_goodWalls_13 (by decide) (fun c_13 => ?_) (fun c_13 => ?_)
                        · exact absurd c_13 (by decide)
                        · refine lv_aload_n hx hb dX2_goodWalls_16 rfl (lv_at hl 2 rfl) ?_
                          refine lv_iload_n hx hb dX2_goodWalls_17 rfl (lv_at hl 0 rfl) ?_
                          refine kc_i (wc := [(h0, .inr (2, [.int (nI 2), .int tn, .int sn, .ref ar])), (ar, .inl (cy 2, 3, .inr (.inr (.inr (.inr (va_up (va_up (va_up (fun _ => none) 0 (some c0)) 1 (some c1)) 2 (some c2))))))), (c0, .inr (0, [.int k0, .int s0, .ref r0])), (r0, .inl (cy 0, 6, .inl f0)), (c1, .inr (0, [.int k1, .int s1, .ref r1])), (r1, .inl (cy 0, 6, .inl f1)), (c2, .inr (0, [.int k2, .int s2, .ref r2])), (r2, .inl (cy 0, 6, .inl f2))]) (wr := []) (va_runV (As := [.int 3]) (rest := []) ⟨hx, hb, hml, hown, hts⟩ (g_X2_clashesOn l D cy H.size h0 ar c0 r0 c1 r1 c2 r2 2 tn sn k0 s0 k1 s1 k2 s2 f0 f1 f2 3 (by decide) (by decide)) (cwV 1 hts gX2_goodWalls_X2_clashesOn rfl rfl rfl hdc_X2_clashesOn ⟨Nat.le_of_ble_eq_true rfl, Nat.le_of_ble_eq_true rfl⟩) (cpre_V (wc := [(h0, .inr (2, [.int (nI 2), .int tn, .int sn, .ref ar])), (ar, .inl (cy 2, 3, .inr (.inr (.inr (.inr (va_up (va_up (va_up (fun _ => none) 0 (some c0)) 1 (some c1)) 2 (some c2))))))), (c0, .inr (0, [.int k0, .int s0, .ref r0])), (r0, .inl (cy 0, 6, .inl f0)), (c1, .inr (0, [.int k1, .int s1, .ref r1])), (r1, .inl (cy 0, 6, .inl f1)), (c2, .inr (0, [.int k2, .int s2, .ref r2])), (r2, .inl (cy 0, 6, .inl f2))]) 0 2 rfl rfl hX hP hD hS hA [0, 1, 2, 3, 4, 5, 6, 7] (by decide +kernel) rfl) rfl rfl hl.1 rfl (lv_room (Nat.le_of_ble_eq_true rfl)) dX2_goodWalls_18 ⟨Nat.le_of_ble_eq_true rfl, Nat.le_of_ble_eq_true rfl⟩) hP hD hS hA [0, 1, 2, 3, 4, 5, 6, 7] [] rfl rfl (by decide +kernel) (by decide +kernel) (fun ro u7 H locs hw hP hD hS => ?_)
                          obtain ⟨hu, hro⟩ := hw
                          subst hu
                          have hP : va_P D vwCl [(h0, .inr (2, [.int 2, .int tn, .int sn, .ref ar])), (ar, .inl (cy 2, 3, .inr (.inr (.inr (.inr (va_up (va_up (va_up (fun _ => none) 0 (some c0)) 1 (some c1)) 2 (some c2))))))), (c0, .inr (0, [.int k0, .int s0, .ref r0])), (r0, .inl (cy 0, 6, .inl f0)), (c1, .inr (0, [.int k1, .int s1, .ref r1])), (r1, .inl (cy 0, 6, .inl f1)), (c2, .inr (0, [.int k2, .int s2, .ref r2])), (r2, .inl (cy 0, 6, .inl f2))] H := hP
                          have hD : va_D A [(h0, .inr (2, [.int 2, .int tn, .int sn, .ref ar])), (ar, .inl (cy 2, 3, .inr (.inr (.inr (.inr (va_up (va_up (va_up (fun _ => none) 0 (some c0)) 1 (some c1)) 2 (some c2))))))), (c0, .inr (0, [.int k0, .int s0, .ref r0])), (r0, .inl (cy 0, 6, .inl f0)), (c1, .inr (0, [.int k1, .int s1, .ref r1])), (r1, .inl (cy 0, 6, .inl f1)), (c2, .inr (0, [.int k2, .int s2, .ref r2])), (r2, .inl (cy 0, 6, .inl f2))] := hD
                          subst hro
                          refine lv_if_ne (tgt := 27) hx hb dX2_goodWalls_21 (by decide) (fun c_21_3 => ?_) (fun c_21_3 => ?_)
                          · refine lv_iinc (v := 4) (lv' := [(2, .int 4), (1, .int 1), (0, .ref h0)]) hx hb dX2_goodWalls_27 hl (k := 0) rfl (by decide) (by decide) rfl (fun ls hl => ?_)
                            refine lv_goto (tgt := 4) hx hb dX2_goodWalls_30 (by decide) ?_
                            refine lv_iload_n hx hb dX2_goodWalls_4 rfl (lv_at hl 0 rfl) ?_
                            refine lv_iconst (v := 4) hx hb dX2_goodWalls_5 (by decide) ?_
                            refine lv_icmp_ge (tgt := 33) hx hb dX2_goodWalls_6 (by decide) (fun c_6 => ?_) (fun c_6 => ?_)
                            · refine lv_iload_n hx hb dX2_goodWalls_33 rfl (lv_at hl 1 rfl) ?_
                              have hP9 := hP.sub (ws' := [(h0, .inr (2, [.int (nI 2), .int tn, .int sn, .ref ar])), (ar, .inl (cy 2, 3, .inr (.inr (.inr (.inr (va_up (va_up (va_up (fun _ => none) 0 (some c0)) 1 (some c1)) 2 (some c2))))))), (c0, .inr (0, [.int k0, .int s0, .ref r0])), (r0, .inl (cy 0, 6, .inl f0)), (c1, .inr (0, [.int k1, .int s1, .ref r1])), (r1, .inl (cy 0, 6, .inl f1)), (c2, .inr (0, [.int k2, .int s2, .ref r2])), (r2, .inl (cy 0, 6, .inl f2))]) [0, 1, 2, 3, 4, 5, 6, 7] rfl
                              have hD9 := hD.sub (ws' := [(h0, .inr (2, [.int (nI 2), .int tn, .int sn, .ref ar])), (ar, .inl (cy 2, 3, .inr (.inr (.inr (.inr (va_up (va_up (va_up (fun _ => none) 0 (some c0)) 1 (some c1)) 2 (some c2))))))), (c0, .inr (0, [.int k0, .int s0, .ref r0])), (r0, .inl (cy 0, 6, .inl f0)), (c1, .inr (0, [.int k1, .int s1, .ref r1])), (r1, .inl (cy 0, 6, .inl f1)), (c2, .inr (0, [.int k2, .int s2, .ref r2])), (r2, .inl (cy 0, 6, .inl f2))]) [0, 1, 2, 3, 4, 5, 6, 7] (by decide +kernel) rfl
                              exact W.iret (v := 1) hx hb hr (fun t9 ht9 hW9 => ⟨⟨1, [(h0, .inr (2, [.int (nI 2), .int tn, .int sn, .ref ar])), (ar, .inl (cy 2, 3, .inr (.inr (.inr (.inr (va_up (va_up (va_up (fun _ => none) 0 (some c0)) 1 (some c1)) 2 (some c2))))))), (c0, .inr (0, [.int k0, .int s0, .ref r0])), (r0, .inl (cy 0, 6, .inl f0)), (c1, .inr (0, [.int k1, .int s1, .ref r1])), (r1, .inl (cy 0, 6, .inl f1)), (c2, .inr (0, [.int k2, .int s2, .ref r2])), (r2, .inl (cy 0, 6, .inl f2))], rfl, ⟨rfl, (congrArg nI (show 1 = g0 2 (clOn 2 f0 f1 f2 (2 + 0)) + g0 2 (clOn 2 f0 f1 f2 (2 + 1)) + g0 2 (clOn 2 f0 f1 f2 (2 + 2)) + g0 2 (clOn 2 f0 f1 f2 (2 + 3)) by rw [g00 (sz := 2) c_21_0, g01 (sz := 2) (by decide) (clOn_le _ _ _ _ _) c_21_1, g00 (sz := 2) c_21_2, g00 (sz := 2) c_21_3]))⟩, by rw [ht9]; exact hP9, hD9⟩, hS.F ht9⟩) hS.2.2 dX2_goodWalls_34
                            · exact absurd c_6 (by decide)
                          · refine lv_iinc (v := 2) (lv' := [(1, .int 2), (2, .int 3), (0, .ref h0)]) hx hb dX2_goodWalls_24 hl (k := 1) rfl (by decide) (by decide) rfl (fun ls hl => ?_)
                            refine lv_iinc (v := 4) (lv' := [(2, .int 4), (1, .int 2), (0, .ref h0)]) hx hb dX2_goodWalls_27 hl (k := 1) rfl (by decide) (by decide) rfl (fun ls hl => ?_)
                            refine lv_goto (tgt := 4) hx hb dX2_goodWalls_30 (by decide) ?_
                            refine lv_iload_n hx hb dX2_goodWalls_4 rfl (lv_at hl 0 rfl) ?_
                            refine lv_iconst (v := 4) hx hb dX2_goodWalls_5 (by decide) ?_
                            refine lv_icmp_ge (tgt := 33) hx hb dX2_goodWalls_6 (by decide) (fun c_6 => ?_) (fun c_6 => ?_)
                            · refine lv_iload_n hx hb dX2_goodWalls_33 rfl (lv_at hl 1 rfl) ?_
                              have hP9 := hP.sub (ws' := [(h0, .inr (2, [.int (nI 2), .int tn, .int sn, .ref ar])), (ar, .inl (cy 2, 3, .inr (.inr (.inr (.inr (va_up (va_up (va_up (fun _ => none) 0 (some c0)) 1 (some c1)) 2 (some c2))))))), (c0, .inr (0, [.int k0, .int s0, .ref r0])), (r0, .inl (cy 0, 6, .inl f0)), (c1, .inr (0, [.int k1, .int s1, .ref r1])), (r1, .inl (cy 0, 6, .inl f1)), (c2, .inr (0, [.int k2, .int s2, .ref r2])), (r2, .inl (cy 0, 6, .inl f2))]) [0, 1, 2, 3, 4, 5, 6, 7] rfl
                              have hD9 := hD.sub (ws' := [(h0, .inr (2, [.int (nI 2), .int tn, .int sn, .ref ar])), (ar, .inl (cy 2, 3, .inr (.inr (.inr (.inr (va_up (va_up (va_up (fun _ => none) 0 (some c0)) 1 (some c1)) 2 (some c2))))))), (c0, .inr (0, [.int k0, .int s0, .ref r0])), (r0, .inl (cy 0, 6, .inl f0)), (c1, .inr (0, [.int k1, .int s1, .ref r1])), (r1, .inl (cy 0, 6, .inl f1)), (c2, .inr (0, [.int k2, .int s2, .ref r2])), (r2, .inl (cy 0, 6, .inl f2))]) [0, 1, 2, 3, 4, 5, 6, 7] (by decide +kernel) rfl
                              exact W.iret (v := 2) hx hb hr (fun t9 ht9 hW9 => ⟨⟨2, [(h0, .inr (2, [.int (nI 2), .int tn, .int sn, .ref ar])), (ar, .inl (cy 2, 3, .inr (.inr (.inr (.inr (va_up (va_up (va_up (fun _ => none) 0 (some c0)) 1 (some c1)) 2 (some c2))))))), (c0, .inr (0, [.int k0, .int s0, .ref r0])), (r0, .inl (cy 0, 6, .inl f0)), (c1, .inr (0, [.int k1, .int s1, .ref r1])), (r1, .inl (cy 0, 6, .inl f1)), (c2, .inr (0, [.int k2, .int s2, .ref r2])), (r2, .inl (cy 0, 6, .inl f2))], rfl, ⟨rfl, (congrArg nI (show 2 = g0 2 (clOn 2 f0 f1 f2 (2 + 0)) + g0 2 (clOn 2 f0 f1 f2 (2 + 1)) + g0 2 (clOn 2 f0 f1 f2 (2 + 2)) + g0 2 (clOn 2 f0 f1 f2 (2 + 3)) by rw [g00 (sz := 2) c_21_0, g01 (sz := 2) (by decide) (clOn_le _ _ _ _ _) c_21_1, g00 (sz := 2) c_21_2, g01 (sz := 2) (by decide) (clOn_le _ _ _ _ _) c_21_3]))⟩, by rw [ht9]; exact hP9, hD9⟩, hS.F ht9⟩) hS.2.2 dX2_goodWalls_34
                            · exact absurd c_6 (by decide)
                    · refine lv_iinc (v := 2) (lv' := [(1, .int 2), (2, .int 2), (0, .ref h0)]) hx hb dX2_goodWalls_24 hl (k := 1) rfl (by decide) (by decide) rfl (fun ls hl => ?_)
                      refine lv_iinc (v := 3) (lv' := [(2, .int 3), (1, .int 2), (0, .ref h0)]) hx hb dX2_goodWalls_27 hl (k := 1) rfl (by decide) (by decide) rfl (fun ls hl => ?_)
                      refine lv_goto (tgt := 4) hx hb dX2_goodWalls_30 (by decide) ?_
                      refine lv_iload_n hx hb dX2_goodWalls_4 rfl (lv_at hl 0 rfl) ?_
                      refine lv_iconst (v := 4) hx hb dX2_goodWalls_5 (by decide) ?_
                      refine lv_icmp_ge (tgt := 33) hx hb dX2_goodWalls_6 (by decide) (fun c_6 => ?_) (fun c_6 => ?_)
                      · exact absurd c_6 (by decide)
                      · refine lv_aload_n hx hb dX2_goodWalls_9 rfl (lv_at hl 2 rfl) ?_
                        refine va_get (D := D) (ci := 2) (v := .int 2) (C := RX2) (T := TX2) (N := 4) hx hb hts hw_X2 hown hK hP 0 rfl rfl 0 (by decide) f_18 (fun _ h9 => h9) rfl dX2_goodWalls_10 ?_
                        refine lv_if_le (tgt := 33) hx hb dX2_goodWalls_13 (by decide) (fun c_13 => ?_) (fun c_13 => ?_)
                        · exact absurd c_13 (by decide)
                        · refine lv_aload_n hx hb dX2_goodWalls_16 rfl (lv_at hl 2 rfl) ?_
                          refine lv_iload_n hx hb dX2_goodWalls_17 rfl (lv_at hl 0 rfl) ?_
                          refine kc_i (wc := [(h0, .inr (2, [.int (nI 2), .int tn, .int sn, .ref ar])), (ar, .inl (cy 2, 3, .inr (.inr (.inr (.inr (va_up (va_up (va_up (fun _ => none) 0 (some c0)) 1 (some c1)) 2 (some c2))))))), (c0, .inr (0, [.int k0, .int s0, .ref r0])), (r0, .inl (cy 0, 6, .inl f0)), (c1, .inr (0, [.int k1, .int s1, .ref r1])), (r1, .inl (cy 0, 6, .inl f1)), (c2, .inr (0, [.int k2, .int s2, .ref r2])), (r2, .inl (cy 0, 6, .inl f2))]) (wr := []) (va_runV (As := [.int 3]) (rest := []) ⟨hx, hb, hml, hown, hts⟩ (g_X2_clashesOn l D cy H.size h0 ar c0 r0 c1 r1 c2 r2 2 tn sn k0 s0 k1 s1 k2 s2 f0 f1 f2 3 (by decide) (by decide)) (cwV 1 hts gX2_goodWalls_X2_clashesOn rfl rfl rfl hdc_X2_clashesOn ⟨Nat.le_of_ble_eq_true rfl, Nat.le_of_ble_eq_true rfl⟩) (cpre_V (wc := [(h0, .inr (2, [.int (nI 2), .int tn, .int sn, .ref ar])), (ar, .inl (cy 2, 3, .inr (.inr (.inr (.inr (va_up (va_up (va_up (fun _ => none) 0 (some c0)) 1 (some c1)) 2 (some c2))))))), (c0, .inr (0, [.int k0, .int s0, .ref r0])), (r0, .inl (cy 0, 6, .inl f0)), (c1, .inr (0, [.int k1, .int s1, .ref r1])), (r1, .inl (cy 0, 6, .inl f1)), (c2, .inr (0, [.int k2, .int s2, .ref r2])), (r2, .inl (cy 0, 6, .inl f2))]) 0 2 rfl rfl hX hP hD hS hA [0, 1, 2, 3, 4, 5, 6, 7] (by decide +kernel) rfl) rfl rfl hl.1 rfl (lv_room (Nat.le_of_ble_eq_true rfl)) dX2_goodWalls_18 ⟨Nat.le_of_ble_eq_true rfl, Nat.le_of_ble_eq_true rfl⟩) hP hD hS hA [0, 1, 2, 3, 4, 5, 6, 7] [] rfl rfl (by decide +kernel) (by decide +kernel) (fun ro u8 H locs hw hP hD hS => ?_)
                          obtain ⟨hu, hro⟩ := hw
                          subst hu
                          have hP : va_P D vwCl [(h0, .inr (2, [.int 2, .int tn, .int sn, .ref ar])), (ar, .inl (cy 2, 3, .inr (.inr (.inr (.inr (va_up (va_up (va_up (fun _ => none) 0 (some c0)) 1 (some c1)) 2 (some c2))))))), (c0, .inr (0, [.int k0, .int s0, .ref r0])), (r0, .inl (cy 0, 6, .inl f0)), (c1, .inr (0, [.int k1, .int s1, .ref r1])), (r1, .inl (cy 0, 6, .inl f1)), (c2, .inr (0, [.int k2, .int s2, .ref r2])), (r2, .inl (cy 0, 6, .inl f2))] H := hP
                          have hD : va_D A [(h0, .inr (2, [.int 2, .int tn, .int sn, .ref ar])), (ar, .inl (cy 2, 3, .inr (.inr (.inr (.inr (va_up (va_up (va_up (fun _ => none) 0 (some c0)) 1 (some c1)) 2 (some c2))))))), (c0, .inr (0, [.int k0, .int s0, .ref r0])), (r0, .inl (cy 0, 6, .inl f0)), (c1, .inr (0, [.int k1, .int s1, .ref r1])), (r1, .inl (cy 0, 6, .inl f1)), (c2, .inr (0, [.int k2, .int s2, .ref r2])), (r2, .inl (cy 0, 6, .inl f2))] := hD
                          subst hro
                          refine lv_if_ne (tgt := 27) hx hb dX2_goodWalls_21 (by decide) (fun c_21_3 => ?_) (fun c_21_3 => ?_)
                          · refine lv_iinc (v := 4) (lv' := [(2, .int 4), (1, .int 2), (0, .ref h0)]) hx hb dX2_goodWalls_27 hl (k := 0) rfl (by decide) (by decide) rfl (fun ls hl => ?_)
                            refine lv_goto (tgt := 4) hx hb dX2_goodWalls_30 (by decide) ?_
                            refine lv_iload_n hx hb dX2_goodWalls_4 rfl (lv_at hl 0 rfl) ?_
                            refine lv_iconst (v := 4) hx hb dX2_goodWalls_5 (by decide) ?_
                            refine lv_icmp_ge (tgt := 33) hx hb dX2_goodWalls_6 (by decide) (fun c_6 => ?_) (fun c_6 => ?_)
                            · refine lv_iload_n hx hb dX2_goodWalls_33 rfl (lv_at hl 1 rfl) ?_
                              have hP9 := hP.sub (ws' := [(h0, .inr (2, [.int (nI 2), .int tn, .int sn, .ref ar])), (ar, .inl (cy 2, 3, .inr (.inr (.inr (.inr (va_up (va_up (va_up (fun _ => none) 0 (some c0)) 1 (some c1)) 2 (some c2))))))), (c0, .inr (0, [.int k0, .int s0, .ref r0])), (r0, .inl (cy 0, 6, .inl f0)), (c1, .inr (0, [.int k1, .int s1, .ref r1])), (r1, .inl (cy 0, 6, .inl f1)), (c2, .inr (0, [.int k2, .int s2, .ref r2])), (r2, .inl (cy 0, 6, .inl f2))]) [0, 1, 2, 3, 4, 5, 6, 7] rfl
                              have hD9 := hD.sub (ws' := [(h0, .inr (2, [.int (nI 2), .int tn, .int sn, .ref ar])), (ar, .inl (cy 2, 3, .inr (.inr (.inr (.inr (va_up (va_up (va_up (fun _ => none) 0 (some c0)) 1 (some c1)) 2 (some c2))))))), (c0, .inr (0, [.int k0, .int s0, .ref r0])), (r0, .inl (cy 0, 6, .inl f0)), (c1, .inr (0, [.int k1, .int s1, .ref r1])), (r1, .inl (cy 0, 6, .inl f1)), (c2, .inr (0, [.int k2, .int s2, .ref r2])), (r2, .inl (cy 0, 6, .inl f2))]) [0, 1, 2, 3, 4, 5, 6, 7] (by decide +kernel) rfl
                              exact W.iret (v := 2) hx hb hr (fun t9 ht9 hW9 => ⟨⟨2, [(h0, .inr (2, [.int (nI 2), .int tn, .int sn, .ref ar])), (ar, .inl (cy 2, 3, .inr (.inr (.inr (.inr (va_up (va_up (va_up (fun _ => none) 0 (some c0)) 1 (some c1)) 2 (some c2))))))), (c0, .inr (0, [.int k0, .int s0, .ref r0])), (r0, .inl (cy 0, 6, .inl f0)), (c1, .inr (0, [.int k1, .int s1, .ref r1])), (r1, .inl (cy 0, 6, .inl f1)), (c2, .inr (0, [.int k2, .int s2, .ref r2])), (r2, .inl (cy 0, 6, .inl f2))], rfl, ⟨rfl, (congrArg nI (show 2 = g0 2 (clOn 2 f0 f1 f2 (2 + 0)) + g0 2 (clOn 2 f0 f1 f2 (2 + 1)) + g0 2 (clOn 2 f0 f1 f2 (2 + 2)) + g0 2 (clOn 2 f0 f1 f2 (2 + 3)) by rw [g00 (sz := 2) c_21_0, g01 (sz := 2) (by decide) (clOn_le _ _ _ _ _) c_21_1, g01 (sz := 2) (by decide) (clOn_le _ _ _ _ _) c_21_2, g00 (sz := 2) c_21_3]))⟩, by rw [ht9]; exact hP9, hD9⟩, hS.F ht9⟩) hS.2.2 dX2_goodWalls_34
                            · exact absurd c_6 (by decide)
                          · refine lv_iinc (v := 3) (lv' := [(1, .int 3), (2, .int 3), (0, .ref h0)]) hx hb dX2_goodWalls_24 hl (k := 1) rfl (by decide) (by decide) rfl (fun ls hl => ?_)
                            refine lv_iinc (v := 4) (lv' := [(2, .int 4), (1, .int 3), (0, .ref h0)]) hx hb dX2_goodWalls_27 hl (k := 1) rfl (by decide) (by decide) rfl (fun ls hl => ?_)
                            refine lv_goto (tgt := 4) hx hb dX2_goodWalls_30 (by decide) ?_
                            refine lv_iload_n hx hb dX2_goodWalls_4 rfl (lv_at hl 0 rfl) ?_
                            refine lv_iconst (v := 4) hx hb dX2_goodWalls_5 (by decide) ?_
                            refine lv_icmp_ge (tgt := 33) hx hb dX2_goodWalls_6 (by decide) (fun c_6 => ?_) (fun c_6 => ?_)
                            · refine lv_iload_n hx hb dX2_goodWalls_33 rfl (lv_at hl 1 rfl) ?_
                              have hP9 := hP.sub (ws' := [(h0, .inr (2, [.int (nI 2), .int tn, .int sn, .ref ar])), (ar, .inl (cy 2, 3, .inr (.inr (.inr (.inr (va_up (va_up (va_up (fun _ => none) 0 (some c0)) 1 (some c1)) 2 (some c2))))))), (c0, .inr (0, [.int k0, .int s0, .ref r0])), (r0, .inl (cy 0, 6, .inl f0)), (c1, .inr (0, [.int k1, .int s1, .ref r1])), (r1, .inl (cy 0, 6, .inl f1)), (c2, .inr (0, [.int k2, .int s2, .ref r2])), (r2, .inl (cy 0, 6, .inl f2))]) [0, 1, 2, 3, 4, 5, 6, 7] rfl
                              have hD9 := hD.sub (ws' := [(h0, .inr (2, [.int (nI 2), .int tn, .int sn, .ref ar])), (ar, .inl (cy 2, 3, .inr (.inr (.inr (.inr (va_up (va_up (va_up (fun _ => none) 0 (some c0)) 1 (some c1)) 2 (some c2))))))), (c0, .inr (0, [.int k0, .int s0, .ref r0])), (r0, .inl (cy 0, 6, .inl f0)), (c1, .inr (0, [.int k1, .int s1, .ref r1])), (r1, .inl (cy 0, 6, .inl f1)), (c2, .inr (0, [.int k2, .int s2, .ref r2])), (r2, .inl (cy 0, 6, .inl f2))]) [0, 1, 2, 3, 4, 5, 6, 7] (by decide +kernel) rfl
                              exact W.iret (v := 3) hx hb hr (fun t9 ht9 hW9 => ⟨⟨3, [(h0, .inr (2, [.int (nI 2), .int tn, .int sn, .ref ar])), (ar, .inl (cy 2, 3, .inr (.inr (.inr (.inr (va_up (va_up (va_up (fun _ => none) 0 (some c0)) 1 (some c1)) 2 (some c2))))))), (c0, .inr (0, [.int k0, .int s0, .ref r0])), (r0, .inl (cy 0, 6, .inl f0)), (c1, .inr (0, [.int k1, .int s1, .ref r1])), (r1, .inl (cy 0, 6, .inl f1)), (c2, .inr (0, [.int k2, .int s2, .ref r2])), (r2, .inl (cy 0, 6, .inl f2))], rfl, ⟨rfl, (congrArg nI (show 3 = g0 2 (clOn 2 f0 f1 f2 (2 + 0)) + g0 2 (clOn 2 f0 f1 f2 (2 + 1)) + g0 2 (clOn 2 f0 f1 f2 (2 + 2)) + g0 2 (clOn 2 f0 f1 f2 (2 + 3)) by rw [g00 (sz := 2) c_21_0, g01 (sz := 2) (by decide) (clOn_le _ _ _ _ _) c_21_1, g01 (sz := 2) (by decide) (clOn_le _ _ _ _ _) c_21_2, g01 (sz := 2) (by decide) (clOn_le _ _ _ _ _) c_21_3]))⟩, by rw [ht9]; exact hP9, hD9⟩, hS.F ht9⟩) hS.2.2 dX2_goodWalls_34
                            · exact absurd c_6 (by decide)
        · refine lv_iinc (v := 1) (lv' := [(1, .int 1), (2, .int 0), (0, .ref h0)]) hx hb dX2_goodWalls_24 hl (k := 1) rfl (by decide) (by decide) rfl (fun ls hl => ?_)
          refine lv_iinc (v := 1) (lv' := [(2, .int 1), (1, .int 1), (0, .ref h0)]) hx hb dX2_goodWalls_27 hl (k := 1) rfl (by decide) (by decide) rfl (fun ls hl => ?_)
          refine lv_goto (tgt := 4) hx hb dX2_goodWalls_30 (by decide) ?_
          refine lv_iload_n hx hb dX2_goodWalls_4 rfl (lv_at hl 0 rfl) ?_
          refine lv_iconst (v := 4) hx hb dX2_goodWalls_5 (by decide) ?_
          refine lv_icmp_ge (tgt := 33) hx hb dX2_goodWalls_6 (by decide) (fun c_6 => ?_) (fun c_6 => ?_)
          · exact absurd c_6 (by decide)
          · refine lv_aload_n hx hb dX2_goodWalls_9 rfl (lv_at hl 2 rfl) ?_
            refine va_get (D := D) (ci := 2) (v := .int 2) (C := RX2) (T := TX2) (N := 4) hx hb hts hw_X2 hown hK hP 0 rfl rfl 0 (by decide) f_18 (fun _ h9 => h9) rfl dX2_goodWalls_10 ?_
            refine lv_if_le (tgt := 33) hx hb dX2_goodWalls_13 (by decide) (fun c_13 => ?_) (fun c_13 => ?_)
            · exact absurd c_13 (by decide)
            · refine lv_aload_n hx hb dX2_goodWalls_16 rfl (lv_at hl 2 rfl) ?_
              refine lv_iload_n hx hb dX2_goodWalls_17 rfl (lv_at hl 0 rfl) ?_
              refine kc_i (wc := [(h0, .inr (2, [.int (nI 2), .int tn, .int sn, .ref ar])), (ar, .inl (cy 2, 3, .inr (.inr (.inr (.inr (va_up (va_up (va_up (fun _ => none) 0 (some c0)) 1 (some c1)) 2 (some c2))))))), (c0, .inr (0, [.int k0, .int s0, .ref r0])), (r0, .inl (cy 0, 6, .inl f0)), (c1, .inr (0, [.int k1, .int s1, .ref r1])), (r1, .inl (cy 0, 6, .inl f1)), (c2, .inr (0, [.int k2, .int s2, .ref r2])), (r2, .inl (cy 0, 6, .inl f2))]) (wr := []) (va_runV (As := [.int 1]) (rest := []) ⟨hx, hb, hml, hown, hts⟩ (g_X2_clashesOn l D cy H.size h0 ar c0 r0 c1 r1 c2 r2 2 tn sn k0 s0 k1 s1 k2 s2 f0 f1 f2 1 (by decide) (by decide)) (cwV 1 hts gX2_goodWalls_X2_clashesOn rfl rfl rfl hdc_X2_clashesOn ⟨Nat.le_of_ble_eq_true rfl, Nat.le_of_ble_eq_true rfl⟩) (cpre_V (wc := [(h0, .inr (2, [.int (nI 2), .int tn, .int sn, .ref ar])), (ar, .inl (cy 2, 3, .inr (.inr (.inr (.inr (va_up (va_up (va_up (fun _ => none) 0 (some c0)) 1 (some c1)) 2 (some c2))))))), (c0, .inr (0, [.int k0, .int s0, .ref r0])), (r0, .inl (cy 0, 6, .inl f0)), (c1, .inr (0, [.int k1, .int s1, .ref r1])), (r1, .inl (cy 0, 6, .inl f1)), (c2, .inr (0, [.int k2, .int s2, .ref r2])), (r2, .inl (cy 0, 6, .inl f2))]) 0 2 rfl rfl hX hP hD hS hA [0, 1, 2, 3, 4, 5, 6, 7] (by decide +kernel) rfl) rfl rfl hl.1 rfl (lv_room (Nat.le_of_ble_eq_true rfl)) dX2_goodWalls_18 ⟨Nat.le_of_ble_eq_true rfl, Nat.le_of_ble_eq_true rfl⟩) hP hD hS hA [0, 1, 2, 3, 4, 5, 6, 7] [] rfl rfl (by decide +kernel) (by decide +kernel) (fun ro u9 H locs hw hP hD hS => ?_)
              obtain ⟨hu, hro⟩ := hw
              subst hu
              have hP : va_P D vwCl [(h0, .inr (2, [.int 2, .int tn, .int sn, .ref ar])), (ar, .inl (cy 2, 3, .inr (.inr (.inr (.inr (va_up (va_up (va_up (fun _ => none) 0 (some c0)) 1 (some c1)) 2 (some c2))))))), (c0, .inr (0, [.int k0, .int s0, .ref r0])), (r0, .inl (cy 0, 6, .inl f0)), (c1, .inr (0, [.int k1, .int s1, .ref r1])), (r1, .inl (cy 0, 6, .inl f1)), (c2, .inr (0, [.int k2, .int s2, .ref r2])), (r2, .inl (cy 0, 6, .inl f2))] H := hP
              have hD : va_D A [(h0, .inr (2, [.int 2, .int tn, .int sn, .ref ar])), (ar, .inl (cy 2, 3, .inr (.inr (.inr (.inr (va_up (va_up (va_up (fun _ => none) 0 (some c0)) 1 (some c1)) 2 (some c2))))))), (c0, .inr (0, [.int k0, .int s0, .ref r0])), (r0, .inl (cy 0, 6, .inl f0)), (c1, .inr (0, [.int k1, .int s1, .ref r1])), (r1, .inl (cy 0, 6, .inl f1)), (c2, .inr (0, [.int k2, .int s2, .ref r2])), (r2, .inl (cy 0, 6, .inl f2))] := hD
              subst hro
              refine lv_if_ne (tgt := 27) hx hb dX2_goodWalls_21 (by decide) (fun c_21_1 => ?_) (fun c_21_1 => ?_)
              · refine lv_iinc (v := 2) (lv' := [(2, .int 2), (1, .int 1), (0, .ref h0)]) hx hb dX2_goodWalls_27 hl (k := 0) rfl (by decide) (by decide) rfl (fun ls hl => ?_)
                refine lv_goto (tgt := 4) hx hb dX2_goodWalls_30 (by decide) ?_
                refine lv_iload_n hx hb dX2_goodWalls_4 rfl (lv_at hl 0 rfl) ?_
                refine lv_iconst (v := 4) hx hb dX2_goodWalls_5 (by decide) ?_
                refine lv_icmp_ge (tgt := 33) hx hb dX2_goodWalls_6 (by decide) (fun c_6 => ?_) (fun c_6 => ?_)
                · exact absurd c_6 (by decide)
                · refine lv_aload_n hx hb dX2_goodWalls_9 rfl (lv_at hl 2 rfl) ?_
                  refine va_get (D := D) (ci := 2) (v := .int 2) (C := RX2) (T := TX2) (N := 4) hx hb hts hw_X2 hown hK hP 0 rfl rfl 0 (by decide) f_18 (fun _ h9 => h9) rfl dX2_goodWalls_10 ?_
                  refine lv_if_le (tgt := 33) hx hb dX2_goodWalls_13 (by decide) (fun c_13 => ?_) (fun c_13 => ?_)
                  · exact absurd c_13 (by decide)
                  · refine lv_aload_n hx hb dX2_goodWalls_16 rfl (lv_at hl 2 rfl) ?_
                    refine lv_iload_n hx hb dX2_goodWalls_17 rfl (lv_at hl 0 rfl) ?_
                    refine kc_i (wc := [(h0, .inr (2, [.int (nI 2), .int tn, .int sn, .ref ar])), (ar, .inl (cy 2, 3, .inr (.inr (.inr (.inr (va_up (va_up (va_up (fun _ => none) 0 (some c0)) 1 (some c1)) 2 (some c2))))))), (c0, .inr (0, [.int k0, .int s0, .ref r0])), (r0, .inl (cy 0, 6, .inl f0)), (c1, .inr (0, [.int k1, .int s1, .ref r1])), (r1, .inl (cy 0, 6, .inl f1)), (c2, .inr (0, [.int k2, .int s2, .ref r2])), (r2, .inl (cy 0, 6, .inl f2))]) (wr := []) (va_runV (As := [.int 2]) (rest := []) ⟨hx, hb, hml, hown, hts⟩ (g_X2_clashesOn l D cy H.size h0 ar c0 r0 c1 r1 c2 r2 2 tn sn k0 s0 k1 s1 k2 s2 f0 f1 f2 2 (by decide) (by decide)) (cwV 1 hts gX2_goodWalls_X2_clashesOn rfl rfl rfl hdc_X2_clashesOn ⟨Nat.le_of_ble_eq_true rfl, Nat.le_of_ble_eq_true rfl⟩) (cpre_V (wc := [(h0, .inr (2, [.int (nI 2), .int tn, .int sn, .ref ar])), (ar, .inl (cy 2, 3, .inr (.inr (.inr (.inr (va_up (va_up (va_up (fun _ => none) 0 (some c0)) 1 (some c1)) 2 (some c2))))))), (c0, .inr (0, [.int k0, .int s0, .ref r0])), (r0, .inl (cy 0, 6, .inl f0)), (c1, .inr (0, [.int k1, .int s1, .ref r1])), (r1, .inl (cy 0, 6, .inl f1)), (c2, .inr (0, [.int k2, .int s2, .ref r2])), (r2, .inl (cy 0, 6, .inl f2))]) 0 2 rfl rfl hX hP hD hS hA [0, 1, 2, 3, 4, 5, 6, 7] (by decide +kernel) rfl) rfl rfl hl.1 rfl (lv_room (Nat.le_of_ble_eq_true rfl)) dX2_goodWalls_18 ⟨Nat.le_of_ble_eq_true rfl, Nat.le_of_ble_eq_true rfl⟩) hP hD hS hA [0, 1, 2, 3, 4, 5, 6, 7] [] rfl rfl (by decide +kernel) (by decide +kernel) (fun ro u10 H locs hw hP hD hS => ?_)
                    obtain ⟨hu, hro⟩ := hw
                    subst hu
                    have hP : va_P D vwCl [(h0, .inr (2, [.int 2, .int tn, .int sn, .ref ar])), (ar, .inl (cy 2, 3, .inr (.inr (.inr (.inr (va_up (va_up (va_up (fun _ => none) 0 (some c0)) 1 (some c1)) 2 (some c2))))))), (c0, .inr (0, [.int k0, .int s0, .ref r0])), (r0, .inl (cy 0, 6, .inl f0)), (c1, .inr (0, [.int k1, .int s1, .ref r1])), (r1, .inl (cy 0, 6, .inl f1)), (c2, .inr (0, [.int k2, .int s2, .ref r2])), (r2, .inl (cy 0, 6, .inl f2))] H := hP
                    have hD : va_D A [(h0, .inr (2, [.int 2, .int tn, .int sn, .ref ar])), (ar, .inl (cy 2, 3, .inr (.inr (.inr (.inr (va_up (va_up (va_up (fun _ => none) 0 (some c0)) 1 (some c1)) 2 (some c2))))))), (c0, .inr (0, [.int k0, .int s0, .ref r0])), (r0, .inl (cy 0, 6, .inl f0)), (c1, .inr (0, [.int k1, .int s1, .ref r1])), (r1, .inl (cy 0, 6, .inl f1)), (c2, .inr (0, [.int k2, .int s2, .ref r2])), (r2, .inl (cy 0, 6, .inl f2))] := hD
                    subst hro
                    refine lv_if_ne (tgt := 27) hx hb dX2_goodWalls_21 (by decide) (fun c_21_2 => ?_) (fun c_21_2 => ?_)
                    · refine lv_iinc (v := 3) (lv' := [(2, .int 3), (1, .int 1), (0, .ref h0)]) hx hb dX2_goodWalls_27 hl (k := 0) rfl (by decide) (by decide) rfl (fun ls hl => ?_)
                      refine lv_goto (tgt := 4) hx hb dX2_goodWalls_30 (by decide) ?_
                      refine lv_iload_n hx hb dX2_goodWalls_4 rfl (lv_at hl 0 rfl) ?_
                      refine lv_iconst (v := 4) hx hb dX2_goodWalls_5 (by decide) ?_
                      refine lv_icmp_ge (tgt := 33) hx hb dX2_goodWalls_6 (by decide) (fun c_6 => ?_) (fun c_6 => ?_)
                      · exact absurd c_6 (by decide)
                      · refine lv_aload_n hx hb dX2_goodWalls_9 rfl (lv_at hl 2 rfl) ?_
                        refine va_get (D := D) (ci := 2) (v := .int 2) (C := RX2) (T := TX2) (N := 4) hx hb hts hw_X2 hown hK hP 0 rfl rfl 0 (by decide) f_18 (fun _ h9 => h9) rfl dX2_goodWalls_10 ?_
                        refine lv_if_le (tgt := 33) hx hb dX2_goodWalls_13 (by decide) (fun c_13 => ?_) (fun c_13 => ?_)
                        · exact absurd c_13 (by decide)
                        · refine lv_aload_n hx hb dX2_goodWalls_16 rfl (lv_at hl 2 rfl) ?_
                          refine lv_iload_n hx hb dX2_goodWalls_17 rfl (lv_at hl 0 rfl) ?_
                          refine kc_i (wc := [(h0, .inr (2, [.int (nI 2), .int tn, .int sn, .ref ar])), (ar, .inl (cy 2, 3, .inr (.inr (.inr (.inr (va_up (va_up (va_up (fun _ => none) 0 (some c0)) 1 (some c1)) 2 (some c2))))))), (c0, .inr (0, [.int k0, .int s0, .ref r0])), (r0, .inl (cy 0, 6, .inl f0)), (c1, .inr (0, [.int k1, .int s1, .ref r1])), (r1, .inl (cy 0, 6, .inl f1)), (c2, .inr (0, [.int k2, .int s2, .ref r2])), (r2, .inl (cy 0, 6, .inl f2))]) (wr := []) (va_runV (As := [.int 3]) (rest := []) ⟨hx, hb, hml, hown, hts⟩ (g_X2_clashesOn l D cy H.size h0 ar c0 r0 c1 r1 c2 r2 2 tn sn k0 s0 k1 s1 k2 s2 f0 f1 f2 3 (by decide) (by decide)) (cwV 1 hts gX2_goodWalls_X2_clashesOn rfl rfl rfl hdc_X2_clashesOn ⟨Nat.le_of_ble_eq_true rfl, Nat.le_of_ble_eq_true rfl⟩) (cpre_V (wc := [(h0, .inr (2, [.int (nI 2), .int tn, .int sn, .ref ar])), (ar, .inl (cy 2, 3, .inr (.inr (.inr (.inr (va_up (va_up (va_up (fun _ => none) 0 (some c0)) 1 (some c1)) 2 (some c2))))))), (c0, .inr (0, [.int k0, .int s0, .ref r0])), (r0, .inl (cy 0, 6, .inl f0)), (c1, .inr (0, [.int k1, .int s1, .ref r1])), (r1, .inl (cy 0, 6, .inl f1)), (c2, .inr (0, [.int k2, .int s2, .ref r2])), (r2, .inl (cy 0, 6, .inl f2))]) 0 2 rfl rfl hX hP hD hS hA [0, 1, 2, 3, 4, 5, 6, 7] (by decide +kernel) rfl) rfl rfl hl.1 rfl (lv_room (Nat.le_of_ble_eq_true rfl)) dX2_goodWalls_18 ⟨Nat.le_of_ble_eq_true rfl, Nat.le_of_ble_eq_true rfl⟩) hP hD hS hA [0, 1, 2, 3, 4, 5, 6, 7] [] rfl rfl (by decide +kernel) (by decide +kernel) (fun ro u11 H locs hw hP hD hS => ?_)
                          obtain ⟨hu, hro⟩ := hw
                          subst hu
                          have hP : va_P D vwCl [(h0, .inr (2, [.int 2, .int tn, .int sn, .ref ar])), (ar, .inl (cy 2, 3, .inr (.inr (.inr (.inr (va_up (va_up (va_up (fun _ => none) 0 (some c0)) 1 (some c1)) 2 (some c2))))))), (c0, .inr (0, [.int k0, .int s0, .ref r0])), (r0, .inl (cy 0, 6, .inl f0)), (c1, .inr (0, [.int k1, .int s1, .ref r1])), (r1, .inl (cy 0, 6, .inl f1)), (c2, .inr (0, [.int k2, .int s2, .ref r2])), (r2, .inl (cy 0, 6, .inl f2))] H := hP
                          have hD : va_D A [(h0, .inr (2, [.int 2, .int tn, .int sn, .ref ar])), (ar, .inl (cy 2, 3, .inr (.inr (.inr (.inr (va_up (va_up (va_up (fun _ => none) 0 (some c0)) 1 (some c1)) 2 (some c2))))))), (c0, .inr (0, [.int k0, .int s0, .ref r0])), (r0, .inl (cy 0, 6, .inl f0)), (c1, .inr (0, [.int k1, .int s1, .ref r1])), (r1, .inl (cy 0, 6, .inl f1)), (c2, .inr (0, [.int k2, .int s2, .ref r2])), (r2, .inl (cy 0, 6, .inl f2))] := hD
                          subst hro
                          refine lv_if_ne (tgt := 27) hx hb dX2_goodWalls_21 (by decide) (fun c_21_3 => ?_) (fun c_21_3 => ?_)
                          · refine lv_iinc (v := 4) (lv' := [(2, .int 4), (1, .int 1), (0, .ref h0)]) hx hb dX2_goodWalls_27 hl (k := 0) rfl (by decide) (by decide) rfl (fun ls hl => ?_)
                            refine lv_goto (tgt := 4) hx hb dX2_goodWalls_30 (by decide) ?_
                            refine lv_iload_n hx hb dX2_goodWalls_4 rfl (lv_at hl 0 rfl) ?_
                            refine lv_iconst (v := 4) hx hb dX2_goodWalls_5 (by decide) ?_
                            refine lv_icmp_ge (tgt := 33) hx hb dX2_goodWalls_6 (by decide) (fun c_6 => ?_) (fun c_6 => ?_)
                            · refine lv_iload_n hx hb dX2_goodWalls_33 rfl (lv_at hl 1 rfl) ?_
                              have hP9 := hP.sub (ws' := [(h0, .inr (2, [.int (nI 2), .int tn, .int sn, .ref ar])), (ar, .inl (cy 2, 3, .inr (.inr (.inr (.inr (va_up (va_up (va_up (fun _ => none) 0 (some c0)) 1 (some c1)) 2 (some c2))))))), (c0, .inr (0, [.int k0, .int s0, .ref r0])), (r0, .inl (cy 0, 6, .inl f0)), (c1, .inr (0, [.int k1, .int s1, .ref r1])), (r1, .inl (cy 0, 6, .inl f1)), (c2, .inr (0, [.int k2, .int s2, .ref r2])), (r2, .inl (cy 0, 6, .inl f2))]) [0, 1, 2, 3, 4, 5, 6, 7] rfl
                              have hD9 := hD.sub (ws' := [(h0, .inr (2, [.int (nI 2), .int tn, .int sn, .ref ar])), (ar, .inl (cy 2, 3, .inr (.inr (.inr (.inr (va_up (va_up (va_up (fun _ => none) 0 (some c0)) 1 (some c1)) 2 (some c2))))))), (c0, .inr (0, [.int k0, .int s0, .ref r0])), (r0, .inl (cy 0, 6, .inl f0)), (c1, .inr (0, [.int k1, .int s1, .ref r1])), (r1, .inl (cy 0, 6, .inl f1)), (c2, .inr (0, [.int k2, .int s2, .ref r2])), (r2, .inl (cy 0, 6, .inl f2))]) [0, 1, 2, 3, 4, 5, 6, 7] (by decide +kernel) rfl
                              exact W.iret (v := 1) hx hb hr (fun t9 ht9 hW9 => ⟨⟨1, [(h0, .inr (2, [.int (nI 2), .int tn, .int sn, .ref ar])), (ar, .inl (cy 2, 3, .inr (.inr (.inr (.inr (va_up (va_up (va_up (fun _ => none) 0 (some c0)) 1 (some c1)) 2 (some c2))))))), (c0, .inr (0, [.int k0, .int s0, .ref r0])), (r0, .inl (cy 0, 6, .inl f0)), (c1, .inr (0, [.int k1, .int s1, .ref r1])), (r1, .inl (cy 0, 6, .inl f1)), (c2, .inr (0, [.int k2, .int s2, .ref r2])), (r2, .inl (cy 0, 6, .inl f2))], rfl, ⟨rfl, (congrArg nI (show 1 = g0 2 (clOn 2 f0 f1 f2 (2 + 0)) + g0 2 (clOn 2 f0 f1 f2 (2 + 1)) + g0 2 (clOn 2 f0 f1 f2 (2 + 2)) + g0 2 (clOn 2 f0 f1 f2 (2 + 3)) by rw [g01 (sz := 2) (by decide) (clOn_le _ _ _ _ _) c_21_0, g00 (sz := 2) c_21_1, g00 (sz := 2) c_21_2, g00 (sz := 2) c_21_3]))⟩, by rw [ht9]; exact hP9, hD9⟩, hS.F ht9⟩) hS.2.2 dX2_goodWalls_34
                            · exact absurd c_6 (by decide)
                          · refine lv_iinc (v := 2) (lv' := [(1, .int 2), (2, .int 3), (0, .ref h0)]) hx hb dX2_goodWalls_24 hl (k := 1) rfl (by decide) (by decide) rfl (fun ls hl => ?_)
                            refine lv_iinc (v := 4) (lv' := [(2, .int 4), (1, .int 2), (0, .ref h0)]) hx hb dX2_goodWalls_27 hl (k := 1) rfl (by decide) (by decide) rfl (fun ls hl => ?_)
                            refine lv_goto (tgt := 4) hx hb dX2_goodWalls_30 (by decide) ?_
                            refine lv_iload_n hx hb dX2_goodWalls_4 rfl (lv_at hl 0 rfl) ?_
                            refine lv_iconst (v := 4) hx hb dX2_goodWalls_5 (by decide) ?_
                            refine lv_icmp_ge (tgt := 33) hx hb dX2_goodWalls_6 (by decide) (fun c_6 => ?_) (fun c_6 => ?_)
                            · refine lv_iload_n hx hb dX2_goodWalls_33 rfl (lv_at hl 1 rfl) ?_
                              have hP9 := hP.sub (ws' := [(h0, .inr (2, [.int (nI 2), .int tn, .int sn, .ref ar])), (ar, .inl (cy 2, 3, .inr (.inr (.inr (.inr (va_up (va_up (va_up (fun _ => none) 0 (some c0)) 1 (some c1)) 2 (some c2))))))), (c0, .inr (0, [.int k0, .int s0, .ref r0])), (r0, .inl (cy 0, 6, .inl f0)), (c1, .inr (0, [.int k1, .int s1, .ref r1])), (r1, .inl (cy 0, 6, .inl f1)), (c2, .inr (0, [.int k2, .int s2, .ref r2])), (r2, .inl (cy 0, 6, .inl f2))]) [0, 1, 2, 3, 4, 5, 6, 7] rfl
                              have hD9 := hD.sub (ws' := [(h0, .inr (2, [.int (nI 2), .int tn, .int sn, .ref ar])), (ar, .inl (cy 2, 3, .inr (.inr (.inr (.inr (va_up (va_up (va_up (fun _ => none) 0 (some c0)) 1 (some c1)) 2 (some c2))))))), (c0, .inr (0, [.int k0, .int s0, .ref r0])), (r0, .inl (cy 0, 6, .inl f0)), (c1, .inr (0, [.int k1, .int s1, .ref r1])), (r1, .inl (cy 0, 6, .inl f1)), (c2, .inr (0, [.int k2, .int s2, .ref r2])), (r2, .inl (cy 0, 6, .inl f2))]) [0, 1, 2, 3, 4, 5, 6, 7] (by decide +kernel) rfl
                              exact W.iret (v := 2) hx hb hr (fun t9 ht9 hW9 => ⟨⟨2, [(h0, .inr (2, [.int (nI 2), .int tn, .int sn, .ref ar])), (ar, .inl (cy 2, 3, .inr (.inr (.inr (.inr (va_up (va_up (va_up (fun _ => none) 0 (some c0)) 1 (some c1)) 2 (some c2))))))), (c0, .inr (0, [.int k0, .int s0, .ref r0])), (r0, .inl (cy 0, 6, .inl f0)), (c1, .inr (0, [.int k1, .int s1, .ref r1])), (r1, .inl (cy 0, 6, .inl f1)), (c2, .inr (0, [.int k2, .int s2, .ref r2])), (r2, .inl (cy 0, 6, .inl f2))], rfl, ⟨rfl, (congrArg nI (show 2 = g0 2 (clOn 2 f0 f1 f2 (2 + 0)) + g0 2 (clOn 2 f0 f1 f2 (2 + 1)) + g0 2 (clOn 2 f0 f1 f2 (2 + 2)) + g0 2 (clOn 2 f0 f1 f2 (2 + 3)) by rw [g01 (sz := 2) (by decide) (clOn_le _ _ _ _ _) c_21_0, g00 (sz := 2) c_21_1, g00 (sz := 2) c_21_2, g01 (sz := 2) (by decide) (clOn_le _ _ _ _ _) c_21_3]))⟩, by rw [ht9]; exact hP9, hD9⟩, hS.F ht9⟩) hS.2.2 dX2_goodWalls_34
                            · exact absurd c_6 (by decide)
                    · refine lv_iinc (v := 2) (lv' := [(1, .int 2), (2, .int 2), (0, .ref h0)]) hx hb dX2_goodWalls_24 hl (k := 1) rfl (by decide) (by decide) rfl (fun ls hl => ?_)
                      refine lv_iinc (v := 3) (lv' := [(2, .int 3), (1, .int 2), (0, .ref h0)]) hx hb dX2_goodWalls_27 hl (k := 1) rfl (by decide) (by decide) rfl (fun ls hl => ?_)
                      refine lv_goto (tgt := 4) hx hb dX2_goodWalls_30 (by decide) ?_
                      refine lv_iload_n hx hb dX2_goodWalls_4 rfl (lv_at hl 0 rfl) ?_
                      refine lv_iconst (v := 4) hx hb dX2_goodWalls_5 (by decide) ?_
                      refine lv_icmp_ge (tgt := 33) hx hb dX2_goodWalls_6 (by decide) (fun c_6 => ?_) (fun c_6 => ?_)
                      · exact absurd c_6 (by decide)
                      · refine lv_aload_n hx hb dX2_goodWalls_9 rfl (lv_at hl 2 rfl) ?_
                        refine va_get (D := D) (ci := 2) (v := .int 2) (C := RX2) (T := TX2) (N := 4) hx hb hts hw_X2 hown hK hP 0 rfl rfl 0 (by decide) f_18 (fun _ h9 => h9) rfl dX2_goodWalls_10 ?_
                        refine lv_if_le (tgt := 33) hx hb dX2_goodWalls_13 (by decide) (fun c_13 => ?_) (fun c_13 => ?_)
                        · exact absurd c_13 (by decide)
                        · refine lv_aload_n hx hb dX2_goodWalls_16 rfl (lv_at hl 2 rfl) ?_
                          refine lv_iload_n hx hb dX2_goodWalls_17 rfl (lv_at hl 0 rfl) ?_
                          refine kc_i (wc := [(h0, .inr (2, [.int (nI 2), .int tn, .int sn, .ref ar])), (ar, .inl (cy 2, 3, .inr (.inr (.inr (.inr (va_up (va_up (va_up (fun _ => none) 0 (some c0)) 1 (some c1)) 2 (some c2))))))), (c0, .inr (0, [.int k0, .int s0, .ref r0])), (r0, .inl (cy 0, 6, .inl f0)), (c1, .inr (0, [.int k1, .int s1, .ref r1])), (r1, .inl (cy 0, 6, .inl f1)), (c2, .inr (0, [.int k2, .int s2, .ref r2])), (r2, .inl (cy 0, 6, .inl f2))]) (wr := []) (va_runV (As := [.int 3]) (rest := []) ⟨hx, hb, hml, hown, hts⟩ (g_X2_clashesOn l D cy H.size h0 ar c0 r0 c1 r1 c2 r2 2 tn sn k0 s0 k1 s1 k2 s2 f0 f1 f2 3 (by decide) (by decide)) (cwV 1 hts gX2_goodWalls_X2_clashesOn rfl rfl rfl hdc_X2_clashesOn ⟨Nat.le_of_ble_eq_true rfl, Nat.le_of_ble_eq_true rfl⟩) (cpre_V (wc := [(h0, .inr (2, [.int (nI 2), .int tn, .int sn, .ref ar])), (ar, .inl (cy 2, 3, .inr (.inr (.inr (.inr (va_up (va_up (va_up (fun _ => none) 0 (some c0)) 1 (some c1)) 2 (some c2))))))), (c0, .inr (0, [.int k0, .int s0, .ref r0])), (r0, .inl (cy 0, 6, .inl f0)), (c1, .inr (0, [.int k1, .int s1, .ref r1])), (r1, .inl (cy 0, 6, .inl f1)), (c2, .inr (0, [.int k2, .int s2, .ref r2])), (r2, .inl (cy 0, 6, .inl f2))]) 0 2 rfl rfl hX hP hD hS hA [0, 1, 2, 3, 4, 5, 6, 7] (by decide +kernel) rfl) rfl rfl hl.1 rfl (lv_room (Nat.le_of_ble_eq_true rfl)) dX2_goodWalls_18 ⟨Nat.le_of_ble_eq_true rfl, Nat.le_of_ble_eq_true rfl⟩) hP hD hS hA [0, 1, 2, 3, 4, 5, 6, 7] [] rfl rfl (by decide +kernel) (by decide +kernel) (fun ro u12 H locs hw hP hD hS => ?_)
                          obtain ⟨hu, hro⟩ := hw
                          subst hu
                          have hP : va_P D vwCl [(h0, .inr (2, [.int 2, .int tn, .int sn, .ref ar])), (ar, .inl (cy 2, 3, .inr (.inr (.inr (.inr (va_up (va_up (va_up (fun _ => none) 0 (some c0)) 1 (some c1)) 2 (some c2))))))), (c0, .inr (0, [.int k0, .int s0, .ref r0])), (r0, .inl (cy 0, 6, .inl f0)), (c1, .inr (0, [.int k1, .int s1, .ref r1])), (r1, .inl (cy 0, 6, .inl f1)), (c2, .inr (0, [.int k2, .int s2, .ref r2])), (r2, .inl (cy 0, 6, .inl f2))] H := hP
                          have hD : va_D A [(h0, .inr (2, [.int 2, .int tn, .int sn, .ref ar])), (ar, .inl (cy 2, 3, .inr (.inr (.inr (.inr (va_up (va_up (va_up (fun _ => none) 0 (some c0)) 1 (some c1)) 2 (some c2))))))), (c0, .inr (0, [.int k0, .int s0, .ref r0])), (r0, .inl (cy 0, 6, .inl f0)), (c1, .inr (0, [.int k1, .int s1, .ref r1])), (r1, .inl (cy 0, 6, .inl f1)), (c2, .inr (0, [.int k2, .int s2, .ref r2])), (r2, .inl (cy 0, 6, .inl f2))] := hD
                          subst hro
                          refine lv_if_ne (tgt := 27) hx hb dX2_goodWalls_21 (by decide) (fun c_21_3 => ?_) (fun c_21_3 => ?_)
                          · refine lv_iinc (v := 4) (lv' := [(2, .int 4), (1, .int 2), (0, .ref h0)]) hx hb dX2_goodWalls_27 hl (k := 0) rfl (by decide) (by decide) rfl (fun ls hl => ?_)
                            refine lv_goto (tgt := 4) hx hb dX2_goodWalls_30 (by decide) ?_
                            refine lv_iload_n hx hb dX2_goodWalls_4 rfl (lv_at hl 0 rfl) ?_
                            refine lv_iconst (v := 4) hx hb dX2_goodWalls_5 (by decide) ?_
                            refine lv_icmp_ge (tgt := 33) hx hb dX2_goodWalls_6 (by decide) (fun c_6 => ?_) (fun c_6 => ?_)
                            · refine lv_iload_n hx hb dX2_goodWalls_33 rfl (lv_at hl 1 rfl) ?_
                              have hP9 := hP.sub (ws' := [(h0, .inr (2, [.int (nI 2), .int tn, .int sn, .ref ar])), (ar, .inl (cy 2, 3, .inr (.inr (.inr (.inr (va_up (va_up (va_up (fun _ => none) 0 (some c0)) 1 (some c1)) 2 (some c2))))))), (c0, .inr (0, [.int k0, .int s0, .ref r0])), (r0, .inl (cy 0, 6, .inl f0)), (c1, .inr (0, [.int k1, .int s1, .ref r1])), (r1, .inl (cy 0, 6, .inl f1)), (c2, .inr (0, [.int k2, .int s2, .ref r2])), (r2, .inl (cy 0, 6, .inl f2))]) [0, 1, 2, 3, 4, 5, 6, 7] rfl
                              have hD9 := hD.sub (ws' := [(h0, .inr (2, [.int (nI 2), .int tn, .int sn, .ref ar])), (ar, .inl (cy 2, 3, .inr (.inr (.inr (.inr (va_up (va_up (va_up (fun _ => none) 0 (some c0)) 1 (some c1)) 2 (some c2))))))), (c0, .inr (0, [.int k0, .int s0, .ref r0])), (r0, .inl (cy 0, 6, .inl f0)), (c1, .inr (0, [.int k1, .int s1, .ref r1])), (r1, .inl (cy 0, 6, .inl f1)), (c2, .inr (0, [.int k2, .int s2, .ref r2])), (r2, .inl (cy 0, 6, .inl f2))]) [0, 1, 2, 3, 4, 5, 6, 7] (by decide +kernel) rfl
                              exact W.iret (v := 2) hx hb hr (fun t9 ht9 hW9 => ⟨⟨2, [(h0, .inr (2, [.int (nI 2), .int tn, .int sn, .ref ar])), (ar, .inl (cy 2, 3, .inr (.inr (.inr (.inr (va_up (va_up (va_up (fun _ => none) 0 (some c0)) 1 (some c1)) 2 (some c2))))))), (c0, .inr (0, [.int k0, .int s0, .ref r0])), (r0, .inl (cy 0, 6, .inl f0)), (c1, .inr (0, [.int k1, .int s1, .ref r1])), (r1, .inl (cy 0, 6, .inl f1)), (c2, .inr (0, [.int k2, .int s2, .ref r2])), (r2, .inl (cy 0, 6, .inl f2))], rfl, ⟨rfl, (congrArg nI (show 2 = g0 2 (clOn 2 f0 f1 f2 (2 + 0)) + g0 2 (clOn 2 f0 f1 f2 (2 + 1)) + g0 2 (clOn 2 f0 f1 f2 (2 + 2)) + g0 2 (clOn 2 f0 f1 f2 (2 + 3)) by rw [g01 (sz := 2) (by decide) (clOn_le _ _ _ _ _) c_21_0, g00 (sz := 2) c_21_1, g01 (sz := 2) (by decide) (clOn_le _ _ _ _ _) c_21_2, g00 (sz := 2) c_21_3]))⟩, by rw [ht9]; exact hP9, hD9⟩, hS.F ht9⟩) hS.2.2 dX2_goodWalls_34
                            · exact absurd c_6 (by decide)
                          · refine lv_iinc (v := 3) (lv' := [(1, .int 3), (2, .int 3), (0, .ref h0)]) hx hb dX2_goodWalls_24 hl (k := 1) rfl (by decide) (by decide) rfl (fun ls hl => ?_)
                            refine lv_iinc (v := 4) (lv' := [(2, .int 4), (1, .int 3), (0, .ref h0)]) hx hb dX2_goodWalls_27 hl (k := 1) rfl (by decide) (by decide) rfl (fun ls hl => ?_)
                            refine lv_goto (tgt := 4) hx hb dX2_goodWalls_30 (by decide) ?_
                            refine lv_iload_n hx hb dX2_goodWalls_4 rfl (lv_at hl 0 rfl) ?_
                            refine lv_iconst (v := 4) hx hb dX2_goodWalls_5 (by decide) ?_
                            refine lv_icmp_ge (tgt := 33) hx hb dX2_goodWalls_6 (by decide) (fun c_6 => ?_) (fun c_6 => ?_)
                            · refine lv_iload_n hx hb dX2_goodWalls_33 rfl (lv_at hl 1 rfl) ?_
                              have hP9 := hP.sub (ws' := [(h0, .inr (2, [.int (nI 2), .int tn, .int sn, .ref ar])), (ar, .inl (cy 2, 3, .inr (.inr (.inr (.inr (va_up (va_up (va_up (fun _ => none) 0 (some c0)) 1 (some c1)) 2 (some c2))))))), (c0, .inr (0, [.int k0, .int s0, .ref r0])), (r0, .inl (cy 0, 6, .inl f0)), (c1, .inr (0, [.int k1, .int s1, .ref r1])), (r1, .inl (cy 0, 6, .inl f1)), (c2, .inr (0, [.int k2, .int s2, .ref r2])), (r2, .inl (cy 0, 6, .inl f2))]) [0, 1, 2, 3, 4, 5, 6, 7] rfl
                              have hD9 := hD.sub (ws' := [(h0, .inr (2, [.int (nI 2), .int tn, .int sn, .ref ar])), (ar, .inl (cy 2, 3, .inr (.inr (.inr (.inr (va_up (va_up (va_up (fun _ => none) 0 (some c0)) 1 (some c1)) 2 (some c2))))))), (c0, .inr (0, [.int k0, .int s0, .ref r0])), (r0, .inl (cy 0, 6, .inl f0)), (c1, .inr (0, [.int k1, .int s1, .ref r1])), (r1, .inl (cy 0, 6, .inl f1)), (c2, .inr (0, [.int k2, .int s2, .ref r2])), (r2, .inl (cy 0, 6, .inl f2))]) [0, 1, 2, 3, 4, 5, 6, 7] (by decide +kernel) rfl
                              exact W.iret (v := 3) hx hb hr (fun t9 ht9 hW9 => ⟨⟨3, [(h0, .inr (2, [.int (nI 2), .int tn, .int sn, .ref ar])), (ar, .inl (cy 2, 3, .inr (.inr (.inr (.inr (va_up (va_up (va_up (fun _ => none) 0 (some c0)) 1 (some c1)) 2 (some c2))))))), (c0, .inr (0, [.int k0, .int s0, .ref r0])), (r0, .inl (cy 0, 6, .inl f0)), (c1, .inr (0, [.int k1, .int s1, .ref r1])), (r1, .inl (cy 0, 6, .inl f1)), (c2, .inr (0, [.int k2, .int s2, .ref r2])), (r2, .inl (cy 0, 6, .inl f2))], rfl, ⟨rfl, (congrArg nI (show 3 = g0 2 (clOn 2 f0 f1 f2 (2 + 0)) + g0 2 (clOn 2 f0 f1 f2 (2 + 1)) + g0 2 (clOn 2 f0 f1 f2 (2 + 2)) + g0 2 (clOn 2 f0 f1 f2 (2 + 3)) by rw [g01 (sz := 2) (by decide) (clOn_le _ _ _ _ _) c_21_0, g00 (sz := 2) c_21_1, g01 (sz := 2) (by decide) (clOn_le _ _ _ _ _) c_21_2, g01 (sz := 2) (by decide) (clOn_le _ _ _ _ _) c_21_3]))⟩, by rw [ht9]; exact hP9, hD9⟩, hS.F ht9⟩) hS.2.2 dX2_goodWalls_34
                            · exact absurd c_6 (by decide)
              · refine lv_iinc (v := 2) (lv' := [(1, .int 2), (2, .int 1), (0, .ref h0)]) hx hb dX2_goodWalls_24 hl (k := 1) rfl (by decide) (by decide) rfl (fun ls hl => ?_)
                refine lv_iinc (v := 2) (lv' := [(2, .int 2), (1, .int 2), (0, .ref h0)]) hx hb dX2_goodWalls_27 hl (k := 1) rfl (by decide) (by decide) rfl (fun ls hl => ?_)
                refine lv_goto (tgt := 4) hx hb dX2_goodWalls_30 (by decide) ?_
                refine lv_iload_n hx hb dX2_goodWalls_4 rfl (lv_at hl 0 rfl) ?_
                refine lv_iconst (v := 4) hx hb dX2_goodWalls_5 (by decide) ?_
                refine lv_icmp_ge (tgt := 33) hx hb dX2_goodWalls_6 (by decide) (fun c_6 => ?_) (fun c_6 => ?_)
                · exact absurd c_6 (by decide)
                · refine lv_aload_n hx hb dX2_goodWalls_9 rfl (lv_at hl 2 rfl) ?_
                  refine va_get (D := D) (ci := 2) (v := .int 2) (C := RX2) (T := TX2) (N := 4) hx hb hts hw_X2 hown hK hP 0 rfl rfl 0 (by decide) f_18 (fun _ h9 => h9) rfl dX2_goodWalls_10 ?_
                  refine lv_if_le (tgt := 33) hx hb dX2_goodWalls_13 (by decide) (fun c_13 => ?_) (fun c_13 => ?_)
                  · exact absurd c_13 (by decide)
                  · refine lv_aload_n hx hb dX2_goodWalls_16 rfl (lv_at hl 2 rfl) ?_
                    refine lv_iload_n hx hb dX2_goodWalls_17 rfl (lv_at hl 0 rfl) ?_
                    refine kc_i (wc := [(h0, .inr (2, [.int (nI 2), .int tn, .int sn, .ref ar])), (ar, .inl (cy 2, 3, .inr (.inr (.inr (.inr (va_up (va_up (va_up (fun _ => none) 0 (some c0)) 1 (some c1)) 2 (some c2))))))), (c0, .inr (0, [.int k0, .int s0, .ref r0])), (r0, .inl (cy 0, 6, .inl f0)), (c1, .inr (0, [.int k1, .int s1, .ref r1])), (r1, .inl (cy 0, 6, .inl f1)), (c2, .inr (0, [.int k2, .int s2, .ref r2])), (r2, .inl (cy 0, 6, .inl f2))]) (wr := []) (va_runV (As := [.int 2]) (rest := []) ⟨hx, hb, hml, hown, hts⟩ (g_X2_clashesOn l D cy H.size h0 ar c0 r0 c1 r1 c2 r2 2 tn sn k0 s0 k1 s1 k2 s2 f0 f1 f2 2 (by decide) (by decide)) (cwV 1 hts gX2_goodWalls_X2_clashesOn rfl rfl rfl hdc_X2_clashesOn ⟨Nat.le_of_ble_eq_true rfl, Nat.le_of_ble_eq_true rfl⟩) (cpre_V (wc := [(h0, .inr (2, [.int (nI 2), .int tn, .int sn, .ref ar])), (ar, .inl (cy 2, 3, .inr (.inr (.inr (.inr (va_up (va_up (va_up (fun _ => none) 0 (some c0)) 1 (some c1)) 2 (some c2))))))), (c0, .inr (0, [.int k0, .int s0, .ref r0])), (r0, .inl (cy 0, 6, .inl f0)), (c1, .inr (0, [.int k1, .int s1, .ref r1])), (r1, .inl (cy 0, 6, .inl f1)), (c2, .inr (0, [.int k2, .int s2, .ref r2])), (r2, .inl (cy 0, 6, .inl f2))]) 0 2 rfl rfl hX hP hD hS hA [0, 1, 2, 3, 4, 5, 6, 7] (by decide +kernel) rfl) rfl rfl hl.1 rfl (lv_room (Nat.le_of_ble_eq_true rfl)) dX2_goodWalls_18 ⟨Nat.le_of_ble_eq_true rfl, Nat.le_of_ble_eq_true rfl⟩) hP hD hS hA [0, 1, 2, 3, 4, 5, 6, 7] [] rfl rfl (by decide +kernel) (by decide +kernel) (fun ro u13 H locs hw hP hD hS => ?_)
                    obtain ⟨hu, hro⟩ := hw
                    subst hu
                    have hP : va_P D vwCl [(h0, .inr (2, [.int 2, .int tn, .int sn, .ref ar])), (ar, .inl (cy 2, 3, .inr (.inr (.inr (.inr (va_up (va_up (va_up (fun _ => none) 0 (some c0)) 1 (some c1)) 2 (some c2))))))), (c0, .inr (0, [.int k0, .int s0, .ref r0])), (r0, .inl (cy 0, 6, .inl f0)), (c1, .inr (0, [.int k1, .int s1, .ref r1])), (r1, .inl (cy 0, 6, .inl f1)), (c2, .inr (0, [.int k2, .int s2, .ref r2])), (r2, .inl (cy 0, 6, .inl f2))] H := hP
                    have hD : va_D A [(h0, .inr (2, [.int 2, .int tn, .int sn, .ref ar])), (ar, .inl (cy 2, 3, .inr (.inr (.inr (.inr (va_up (va_up (va_up (fun _ => none) 0 (some c0)) 1 (some c1)) 2 (some c2))))))), (c0, .inr (0, [.int k0, .int s0, .ref r0])), (r0, .inl (cy 0, 6, .inl f0)), (c1, .inr (0, [.int k1, .int s1, .ref r1])), (r1, .inl (cy 0, 6, .inl f1)), (c2, .inr (0, [.int k2, .int s2, .ref r2])), (r2, .inl (cy 0, 6, .inl f2))] := hD
                    subst hro
                    refine lv_if_ne (tgt := 27) hx hb dX2_goodWalls_21 (by decide) (fun c_21_2 => ?_) (fun c_21_2 => ?_)
                    · refine lv_iinc (v := 3) (lv' := [(2, .int 3), (1, .int 2), (0, .ref h0)]) hx hb dX2_goodWalls_27 hl (k := 0) rfl (by decide) (by decide) rfl (fun ls hl => ?_)
                      refine lv_goto (tgt := 4) hx hb dX2_goodWalls_30 (by decide) ?_
                      refine lv_iload_n hx hb dX2_goodWalls_4 rfl (lv_at hl 0 rfl) ?_
                      refine lv_iconst (v := 4) hx hb dX2_goodWalls_5 (by decide) ?_
                      refine lv_icmp_ge (tgt := 33) hx hb dX2_goodWalls_6 (by decide) (fun c_6 => ?_) (fun c_6 => ?_)
                      · exact absurd c_6 (by decide)
                      · refine lv_aload_n hx hb dX2_goodWalls_9 rfl (lv_at hl 2 rfl) ?_
                        refine va_get (D := D) (ci := 2) (v := .int 2) (C := RX2) (T := TX2) (N := 4) hx hb hts hw_X2 hown hK hP 0 rfl rfl 0 (by decide) f_18 (fun _ h9 => h9) rfl dX2_goodWalls_10 ?_
                        refine lv_if_le (tgt := 33) hx hb dX2_goodWalls_13 (by decide) (fun c_13 => ?_) (fun c_13 => ?_)
                        · exact absurd c_13 (by decide)
                        · refine lv_aload_n hx hb dX2_goodWalls_16 rfl (lv_at hl 2 rfl) ?_
                          refine lv_iload_n hx hb dX2_goodWalls_17 rfl (lv_at hl 0 rfl) ?_
                          refine kc_i (wc := [(h0, .inr (2, [.int (nI 2), .int tn, .int sn, .ref ar])), (ar, .inl (cy 2, 3, .inr (.inr (.inr (.inr (va_up (va_up (va_up (fun _ => none) 0 (some c0)) 1 (some c1)) 2 (some c2))))))), (c0, .inr (0, [.int k0, .int s0, .ref r0])), (r0, .inl (cy 0, 6, .inl f0)), (c1, .inr (0, [.int k1, .int s1, .ref r1])), (r1, .inl (cy 0, 6, .inl f1)), (c2, .inr (0, [.int k2, .int s2, .ref r2])), (r2, .inl (cy 0, 6, .inl f2))]) (wr := []) (va_runV (As := [.int 3]) (rest := []) ⟨hx, hb, hml, hown, hts⟩ (g_X2_clashesOn l D cy H.size h0 ar c0 r0 c1 r1 c2 r2 2 tn sn k0 s0 k1 s1 k2 s2 f0 f1 f2 3 (by decide) (by decide)) (cwV 1 hts gX2_goodWalls_X2_clashesOn rfl rfl rfl hdc_X2_clashesOn ⟨Nat.le_of_ble_eq_true rfl, Nat.le_of_ble_eq_true rfl⟩) (cpre_V (wc := [(h0, .inr (2, [.int (nI 2), .int tn, .int sn, .ref ar])), (ar, .inl (cy 2, 3, .inr (.inr (.inr (.inr (va_up (va_up (va_up (fun _ => none) 0 (some c0)) 1 (some c1)) 2 (some c2))))))), (c0, .inr (0, [.int k0, .int s0, .ref r0])), (r0, .inl (cy 0, 6, .inl f0)), (c1, .inr (0, [.int k1, .int s1, .ref r1])), (r1, .inl (cy 0, 6, .inl f1)), (c2, .inr (0, [.int k2, .int s2, .ref r2])), (r2, .inl (cy 0, 6, .inl f2))]) 0 2 rfl rfl hX hP hD hS hA [0, 1, 2, 3, 4, 5, 6, 7] (by decide +kernel) rfl) rfl rfl hl.1 rfl (lv_room (Nat.le_of_ble_eq_true rfl)) dX2_goodWalls_18 ⟨Nat.le_of_ble_eq_true rfl, Nat.le_of_ble_eq_true rfl⟩) hP hD hS hA [0, 1, 2, 3, 4, 5, 6, 7] [] rfl rfl (by decide +kernel) (by decide +kernel) (fun ro u14 H locs hw hP hD hS => ?_)
                          obtain ⟨hu, hro⟩ := hw
                          subst hu
                          have hP : va_P D vwCl [(h0, .inr (2, [.int 2, .int tn, .int sn, .ref ar])), (ar, .inl (cy 2, 3, .inr (.inr (.inr (.inr (va_up (va_up (va_up (fun _ => none) 0 (some c0)) 1 (some c1)) 2 (some c2))))))), (c0, .inr (0, [.int k0, .int s0, .ref r0])), (r0, .inl (cy 0, 6, .inl f0)), (c1, .inr (0, [.int k1, .int s1, .ref r1])), (r1, .inl (cy 0, 6, .inl f1)), (c2, .inr (0, [.int k2, .int s2, .ref r2])), (r2, .inl (cy 0, 6, .inl f2))] H := hP
                          have hD : va_D A [(h0, .inr (2, [.int 2, .int tn, .int sn, .ref ar])), (ar, .inl (cy 2, 3, .inr (.inr (.inr (.inr (va_up (va_up (va_up (fun _ => none) 0 (some c0)) 1 (some c1)) 2 (some c2))))))), (c0, .inr (0, [.int k0, .int s0, .ref r0])), (r0, .inl (cy 0, 6, .inl f0)), (c1, .inr (0, [.int k1, .int s1, .ref r1])), (r1, .inl (cy 0, 6, .inl f1)), (c2, .inr (0, [.int k2, .int s2, .ref r2])), (r2, .inl (cy 0, 6, .inl f2))] := hD
                          subst hro
                          refine lv_if_ne (tgt := 27) hx hb dX2_goodWalls_21 (by decide) (fun c_21_3 => ?_) (fun c_21_3 => ?_)
                          · refine lv_iinc (v := 4) (lv' := [(2, .int 4), (1, .int 2), (0, .ref h0)]) hx hb dX2_goodWalls_27 hl (k := 0) rfl (by decide) (by decide) rfl (fun ls hl => ?_)
                            refine lv_goto (tgt := 4) hx hb dX2_goodWalls_30 (by decide) ?_
                            refine lv_iload_n hx hb dX2_goodWalls_4 rfl (lv_at hl 0 rfl) ?_
                            refine lv_iconst (v := 4) hx hb dX2_goodWalls_5 (by decide) ?_
                            refine lv_icmp_ge (tgt := 33) hx hb dX2_goodWalls_6 (by decide) (fun c_6 => ?_) (fun c_6 => ?_)
                            · refine lv_iload_n hx hb dX2_goodWalls_33 rfl (lv_at hl 1 rfl) ?_
                              have hP9 := hP.sub (ws' := [(h0, .inr (2, [.int (nI 2), .int tn, .int sn, .ref ar])), (ar, .inl (cy 2, 3, .inr (.inr (.inr (.inr (va_up (va_up (va_up (fun _ => none) 0 (some c0)) 1 (some c1)) 2 (some c2))))))), (c0, .inr (0, [.int k0, .int s0, .ref r0])), (r0, .inl (cy 0, 6, .inl f0)), (c1, .inr (0, [.int k1, .int s1, .ref r1])), (r1, .inl (cy 0, 6, .inl f1)), (c2, .inr (0, [.int k2, .int s2, .ref r2])), (r2, .inl (cy 0, 6, .inl f2))]) [0, 1, 2, 3, 4, 5, 6, 7] rfl
                              have hD9 := hD.sub (ws' := [(h0, .inr (2, [.int (nI 2), .int tn, .int sn, .ref ar])), (ar, .inl (cy 2, 3, .inr (.inr (.inr (.inr (va_up (va_up (va_up (fun _ => none) 0 (some c0)) 1 (some c1)) 2 (some c2))))))), (c0, .inr (0, [.int k0, .int s0, .ref r0])), (r0, .inl (cy 0, 6, .inl f0)), (c1, .inr (0, [.int k1, .int s1, .ref r1])), (r1, .inl (cy 0, 6, .inl f1)), (c2, .inr (0, [.int k2, .int s2, .ref r2])), (r2, .inl (cy 0, 6, .inl f2))]) [0, 1, 2, 3, 4, 5, 6, 7] (by decide +kernel) rfl
                              exact W.iret (v := 2) hx hb hr (fun t9 ht9 hW9 => ⟨⟨2, [(h0, .inr (2, [.int (nI 2), .int tn, .int sn, .ref ar])), (ar, .inl (cy 2, 3, .inr (.inr (.inr (.inr (va_up (va_up (va_up (fun _ => none) 0 (some c0)) 1 (some c1)) 2 (some c2))))))), (c0, .inr (0, [.int k0, .int s0, .ref r0])), (r0, .inl (cy 0, 6, .inl f0)), (c1, .inr (0, [.int k1, .int s1, .ref r1])), (r1, .inl (cy 0, 6, .inl f1)), (c2, .inr (0, [.int k2, .int s2, .ref r2])), (r2, .inl (cy 0, 6, .inl f2))], rfl, ⟨rfl, (congrArg nI (show 2 = g0 2 (clOn 2 f0 f1 f2 (2 + 0)) + g0 2 (clOn 2 f0 f1 f2 (2 + 1)) + g0 2 (clOn 2 f0 f1 f2 (2 + 2)) + g0 2 (clOn 2 f0 f1 f2 (2 + 3)) by rw [g01 (sz := 2) (by decide) (clOn_le _ _ _ _ _) c_21_0, g01 (sz := 2) (by decide) (clOn_le _ _ _ _ _) c_21_1, g00 (sz := 2) c_21_2, g00 (sz := 2) c_21_3]))⟩, by rw [ht9]; exact hP9, hD9⟩, hS.F ht9⟩) hS.2.2 dX2_goodWalls_34
                            · exact absurd c_6 (by decide)
                          · refine lv_iinc (v := 3) (lv' := [(1, .int 3), (2, .int 3), (0, .ref h0)]) hx hb dX2_goodWalls_24 hl (k := 1) rfl (by decide) (by decide) rfl (fun ls hl => ?_)
                            refine lv_iinc (v := 4) (lv' := [(2, .int 4), (1, .int 3), (0, .ref h0)]) hx hb dX2_goodWalls_27 hl (k := 1) rfl (by decide) (by decide) rfl (fun ls hl => ?_)
                            refine lv_goto (tgt := 4) hx hb dX2_goodWalls_30 (by decide) ?_
                            refine lv_iload_n hx hb dX2_goodWalls_4 rfl (lv_at hl 0 rfl) ?_
                            refine lv_iconst (v := 4) hx hb dX2_goodWalls_5 (by decide) ?_
                            refine lv_icmp_ge (tgt := 33) hx hb dX2_goodWalls_6 (by decide) (fun c_6 => ?_) (fun c_6 => ?_)
                            · refine lv_iload_n hx hb dX2_goodWalls_33 rfl (lv_at hl 1 rfl) ?_
                              have hP9 := hP.sub (ws' := [(h0, .inr (2, [.int (nI 2), .int tn, .int sn, .ref ar])), (ar, .inl (cy 2, 3, .inr (.inr (.inr (.inr (va_up (va_up (va_up (fun _ => none) 0 (some c0)) 1 (some c1)) 2 (some c2))))))), (c0, .inr (0, [.int k0, .int s0, .ref r0])), (r0, .inl (cy 0, 6, .inl f0)), (c1, .inr (0, [.int k1, .int s1, .ref r1])), (r1, .inl (cy 0, 6, .inl f1)), (c2, .inr (0, [.int k2, .int s2, .ref r2])), (r2, .inl (cy 0, 6, .inl f2))]) [0, 1, 2, 3, 4, 5, 6, 7] rfl
                              have hD9 := hD.sub (ws' := [(h0, .inr (2, [.int (nI 2), .int tn, .int sn, .ref ar])), (ar, .inl (cy 2, 3, .inr (.inr (.inr (.inr (va_up (va_up (va_up (fun _ => none) 0 (some c0)) 1 (some c1)) 2 (some c2))))))), (c0, .inr (0, [.int k0, .int s0, .ref r0])), (r0, .inl (cy 0, 6, .inl f0)), (c1, .inr (0, [.int k1, .int s1, .ref r1])), (r1, .inl (cy 0, 6, .inl f1)), (c2, .inr (0, [.int k2, .int s2, .ref r2])), (r2, .inl (cy 0, 6, .inl f2))]) [0, 1, 2, 3, 4, 5, 6, 7] (by decide +kernel) rfl
                              exact W.iret (v := 3) hx hb hr (fun t9 ht9 hW9 => ⟨⟨3, [(h0, .inr (2, [.int (nI 2), .int tn, .int sn, .ref ar])), (ar, .inl (cy 2, 3, .inr (.inr (.inr (.inr (va_up (va_up (va_up (fun _ => none) 0 (some c0)) 1 (some c1)) 2 (some c2))))))), (c0, .inr (0, [.int k0, .int s0, .ref r0])), (r0, .inl (cy 0, 6, .inl f0)), (c1, .inr (0, [.int k1, .int s1, .ref r1])), (r1, .inl (cy 0, 6, .inl f1)), (c2, .inr (0, [.int k2, .int s2, .ref r2])), (r2, .inl (cy 0, 6, .inl f2))], rfl, ⟨rfl, (congrArg nI (show 3 = g0 2 (clOn 2 f0 f1 f2 (2 + 0)) + g0 2 (clOn 2 f0 f1 f2 (2 + 1)) + g0 2 (clOn 2 f0 f1 f2 (2 + 2)) + g0 2 (clOn 2 f0 f1 f2 (2 + 3)) by rw [g01 (sz := 2) (by decide) (clOn_le _ _ _ _ _) c_21_0, g01 (sz := 2) (by decide) (clOn_le _ _ _ _ _) c_21_1, g00 (sz := 2) c_21_2, g01 (sz := 2) (by decide) (clOn_le _ _ _ _ _) c_21_3]))⟩, by rw [ht9]; exact hP9, hD9⟩, hS.F ht9⟩) hS.2.2 dX2_goodWalls_34
                            · exact absurd c_6 (by decide)
                    · refine lv_iinc (v := 3) (lv' := [(1, .int 3), (2, .int 2), (0, .ref h0)]) hx hb dX2_goodWalls_24 hl (k := 1) rfl (by decide) (by decide) rfl (fun ls hl => ?_)
                      refine lv_iinc (v := 3) (lv' := [(2, .int 3), (1, .int 3), (0, .ref h0)]) hx hb dX2_goodWalls_27 hl (k := 1) rfl (by decide) (by decide) rfl (fun ls hl => ?_)
                      refine lv_goto (tgt := 4) hx hb dX2_goodWalls_30 (by decide) ?_
                      refine lv_iload_n hx hb dX2_goodWalls_4 rfl (lv_at hl 0 rfl) ?_
                      refine lv_iconst (v := 4) hx hb dX2_goodWalls_5 (by decide) ?_
                      refine lv_icmp_ge (tgt := 33) hx hb dX2_goodWalls_6 (by decide) (fun c_6 => ?_) (fun c_6 => ?_)
                      · exact absurd c_6 (by decide)
                      · refine lv_aload_n hx hb dX2_goodWalls_9 rfl (lv_at hl 2 rfl) ?_
                        refine va_get (D := D) (ci := 2) (v := .int 2) (C := RX2) (T := TX2) (N := 4) hx hb hts hw_X2 hown hK hP 0 rfl rfl 0 (by decide) f_18 (fun _ h9 => h9) rfl dX2_goodWalls_10 ?_
                        refine lv_if_le (tgt := 33) hx hb dX2_goodWalls_13 (by decide) (fun c_13 => ?_) (fun c_13 => ?_)
                        · exact absurd c_13 (by decide)
                        · refine lv_aload_n hx hb dX2_goodWalls_16 rfl (lv_at hl 2 rfl) ?_
                          refine lv_iload_n hx hb dX2_goodWalls_17 rfl (lv_at hl 0 rfl) ?_
                          refine kc_i (wc := [(h0, .inr (2, [.int (nI 2), .int tn, .int sn, .ref ar])), (ar, .inl (cy 2, 3, .inr (.inr (.inr (.inr (va_up (va_up (va_up (fun _ => none) 0 (some c0)) 1 (some c1)) 2 (some c2))))))), (c0, .inr (0, [.int k0, .int s0, .ref r0])), (r0, .inl (cy 0, 6, .inl f0)), (c1, .inr (0, [.int k1, .int s1, .ref r1])), (r1, .inl (cy 0, 6, .inl f1)), (c2, .inr (0, [.int k2, .int s2, .ref r2])), (r2, .inl (cy 0, 6, .inl f2))]) (wr := []) (va_runV (As := [.int 3]) (rest := []) ⟨hx, hb, hml, hown, hts⟩ (g_X2_clashesOn l D cy H.size h0 ar c0 r0 c1 r1 c2 r2 2 tn sn k0 s0 k1 s1 k2 s2 f0 f1 f2 3 (by decide) (by decide)) (cwV 1 hts gX2_goodWalls_X2_clashesOn rfl rfl rfl hdc_X2_clashesOn ⟨Nat.le_of_ble_eq_true rfl, Nat.le_of_ble_eq_true rfl⟩) (cpre_V (wc := [(h0, .inr (2, [.int (nI 2), .int tn, .int sn, .ref ar])), (ar, .inl (cy 2, 3, .inr (.inr (.inr (.inr (va_up (va_up (va_up (fun _ => none) 0 (some c0)) 1 (some c1)) 2 (some c2))))))), (c0, .inr (0, [.int k0, .int s0, .ref r0])), (r0, .inl (cy 0, 6, .inl f0)), (c1, .inr (0, [.int k1, .int s1, .ref r1])), (r1, .inl (cy 0, 6, .inl f1)), (c2, .inr (0, [.int k2, .int s2, .ref r2])), (r2, .inl (cy 0, 6, .inl f2))]) 0 2 rfl rfl hX hP hD hS hA [0, 1, 2, 3, 4, 5, 6, 7] (by decide +kernel) rfl) rfl rfl hl.1 rfl (lv_room (Nat.le_of_ble_eq_true rfl)) dX2_goodWalls_18 ⟨Nat.le_of_ble_eq_true rfl, Nat.le_of_ble_eq_true rfl⟩) hP hD hS hA [0, 1, 2, 3, 4, 5, 6, 7] [] rfl rfl (by decide +kernel) (by decide +kernel) (fun ro u15 H locs hw hP hD hS => ?_)
                          obtain ⟨hu, hro⟩ := hw
                          subst hu
                          have hP : va_P D vwCl [(h0, .inr (2, [.int 2, .int tn, .int sn, .ref ar])), (ar, .inl (cy 2, 3, .inr (.inr (.inr (.inr (va_up (va_up (va_up (fun _ => none) 0 (some c0)) 1 (some c1)) 2 (some c2))))))), (c0, .inr (0, [.int k0, .int s0, .ref r0])), (r0, .inl (cy 0, 6, .inl f0)), (c1, .inr (0, [.int k1, .int s1, .ref r1])), (r1, .inl (cy 0, 6, .inl f1)), (c2, .inr (0, [.int k2, .int s2, .ref r2])), (r2, .inl (cy 0, 6, .inl f2))] H := hP
                          have hD : va_D A [(h0, .inr (2, [.int 2, .int tn, .int sn, .ref ar])), (ar, .inl (cy 2, 3, .inr (.inr (.inr (.inr (va_up (va_up (va_up (fun _ => none) 0 (some c0)) 1 (some c1)) 2 (some c2))))))), (c0, .inr (0, [.int k0, .int s0, .ref r0])), (r0, .inl (cy 0, 6, .inl f0)), (c1, .inr (0, [.int k1, .int s1, .ref r1])), (r1, .inl (cy 0, 6, .inl f1)), (c2, .inr (0, [.int k2, .int s2, .ref r2])), (r2, .inl (cy 0, 6, .inl f2))] := hD
                          subst hro
                          refine lv_if_ne (tgt := 27) hx hb dX2_goodWalls_21 (by decide) (fun c_21_3 => ?_) (fun c_21_3 => ?_)
                          · refine lv_iinc (v := 4) (lv' := [(2, .int 4), (1, .int 3), (0, .ref h0)]) hx hb dX2_goodWalls_27 hl (k := 0) rfl (by decide) (by decide) rfl (fun ls hl => ?_)
                            refine lv_goto (tgt := 4) hx hb dX2_goodWalls_30 (by decide) ?_
                            refine lv_iload_n hx hb dX2_goodWalls_4 rfl (lv_at hl 0 rfl) ?_
                            refine lv_iconst (v := 4) hx hb dX2_goodWalls_5 (by decide) ?_
                            refine lv_icmp_ge (tgt := 33) hx hb dX2_goodWalls_6 (by decide) (fun c_6 => ?_) (fun c_6 => ?_)
                            · refine lv_iload_n hx hb dX2_goodWalls_33 rfl (lv_at hl 1 rfl) ?_
                              have hP9 := hP.sub (ws' := [(h0, .inr (2, [.int (nI 2), .int tn, .int sn, .ref ar])), (ar, .inl (cy 2, 3, .inr (.inr (.inr (.inr (va_up (va_up (va_up (fun _ => none) 0 (some c0)) 1 (some c1)) 2 (some c2))))))), (c0, .inr (0, [.int k0, .int s0, .ref r0])), (r0, .inl (cy 0, 6, .inl f0)), (c1, .inr (0, [.int k1, .int s1, .ref r1])), (r1, .inl (cy 0, 6, .inl f1)), (c2, .inr (0, [.int k2, .int s2, .ref r2])), (r2, .inl (cy 0, 6, .inl f2))]) [0, 1, 2, 3, 4, 5, 6, 7] rfl
                              have hD9 := hD.sub (ws' := [(h0, .inr (2, [.int (nI 2), .int tn, .int sn, .ref ar])), (ar, .inl (cy 2, 3, .inr (.inr (.inr (.inr (va_up (va_up (va_up (fun _ => none) 0 (some c0)) 1 (some c1)) 2 (some c2))))))), (c0, .inr (0, [.int k0, .int s0, .ref r0])), (r0, .inl (cy 0, 6, .inl f0)), (c1, .inr (0, [.int k1, .int s1, .ref r1])), (r1, .inl (cy 0, 6, .inl f1)), (c2, .inr (0, [.int k2, .int s2, .ref r2])), (r2, .inl (cy 0, 6, .inl f2))]) [0, 1, 2, 3, 4, 5, 6, 7] (by decide +kernel) rfl
                              exact W.iret (v := 3) hx hb hr (fun t9 ht9 hW9 => ⟨⟨3, [(h0, .inr (2, [.int (nI 2), .int tn, .int sn, .ref ar])), (ar, .inl (cy 2, 3, .inr (.inr (.inr (.inr (va_up (va_up (va_up (fun _ => none) 0 (some c0)) 1 (some c1)) 2 (some c2))))))), (c0, .inr (0, [.int k0, .int s0, .ref r0])), (r0, .inl (cy 0, 6, .inl f0)), (c1, .inr (0, [.int k1, .int s1, .ref r1])), (r1, .inl (cy 0, 6, .inl f1)), (c2, .inr (0, [.int k2, .int s2, .ref r2])), (r2, .inl (cy 0, 6, .inl f2))], rfl, ⟨rfl, (congrArg nI (show 3 = g0 2 (clOn 2 f0 f1 f2 (2 + 0)) + g0 2 (clOn 2 f0 f1 f2 (2 + 1)) + g0 2 (clOn 2 f0 f1 f2 (2 + 2)) + g0 2 (clOn 2 f0 f1 f2 (2 + 3)) by rw [g01 (sz := 2) (by decide) (clOn_le _ _ _ _ _) c_21_0, g01 (sz := 2) (by decide) (clOn_le _ _ _ _ _) c_21_1, g01 (sz := 2) (by decide) (clOn_le _ _ _ _ _) c_21_2, g00 (sz := 2) c_21_3]))⟩, by rw [ht9]; exact hP9, hD9⟩, hS.F ht9⟩) hS.2.2 dX2_goodWalls_34
                            · exact absurd c_6 (by decide)
                          · refine lv_iinc (v := 4) (lv' := [(1, .int 4), (2, .int 3), (0, .ref h0)]) hx hb dX2_goodWalls_24 hl (k := 1) rfl (by decide) (by decide) rfl (fun ls hl => ?_)
                            refine lv_iinc (v := 4) (lv' := [(2, .int 4), (1, .int 4), (0, .ref h0)]) hx hb dX2_goodWalls_27 hl (k := 1) rfl (by decide) (by decide) rfl (fun ls hl => ?_)
                            refine lv_goto (tgt := 4) hx hb dX2_goodWalls_30 (by decide) ?_
                            refine lv_iload_n hx hb dX2_goodWalls_4 rfl (lv_at hl 0 rfl) ?_
                            refine lv_iconst (v := 4) hx hb dX2_goodWalls_5 (by decide) ?_
                            refine lv_icmp_ge (tgt := 33) hx hb dX2_goodWalls_6 (by decide) (fun c_6 => ?_) (fun c_6 => ?_)
                            · refine lv_iload_n hx hb dX2_goodWalls_33 rfl (lv_at hl 1 rfl) ?_
                              have hP9 := hP.sub (ws' := [(h0, .inr (2, [.int (nI 2), .int tn, .int sn, .ref ar])), (ar, .inl (cy 2, 3, .inr (.inr (.inr (.inr (va_up (va_up (va_up (fun _ => none) 0 (some c0)) 1 (some c1)) 2 (some c2))))))), (c0, .inr (0, [.int k0, .int s0, .ref r0])), (r0, .inl (cy 0, 6, .inl f0)), (c1, .inr (0, [.int k1, .int s1, .ref r1])), (r1, .inl (cy 0, 6, .inl f1)), (c2, .inr (0, [.int k2, .int s2, .ref r2])), (r2, .inl (cy 0, 6, .inl f2))]) [0, 1, 2, 3, 4, 5, 6, 7] rfl
                              have hD9 := hD.sub (ws' := [(h0, .inr (2, [.int (nI 2), .int tn, .int sn, .ref ar])), (ar, .inl (cy 2, 3, .inr (.inr (.inr (.inr (va_up (va_up (va_up (fun _ => none) 0 (some c0)) 1 (some c1)) 2 (some c2))))))), (c0, .inr (0, [.int k0, .int s0, .ref r0])), (r0, .inl (cy 0, 6, .inl f0)), (c1, .inr (0, [.int k1, .int s1, .ref r1])), (r1, .inl (cy 0, 6, .inl f1)), (c2, .inr (0, [.int k2, .int s2, .ref r2])), (r2, .inl (cy 0, 6, .inl f2))]) [0, 1, 2, 3, 4, 5, 6, 7] (by decide +kernel) rfl
                              exact W.iret (v := 4) hx hb hr (fun t9 ht9 hW9 => ⟨⟨4, [(h0, .inr (2, [.int (nI 2), .int tn, .int sn, .ref ar])), (ar, .inl (cy 2, 3, .inr (.inr (.inr (.inr (va_up (va_up (va_up (fun _ => none) 0 (some c0)) 1 (some c1)) 2 (some c2))))))), (c0, .inr (0, [.int k0, .int s0, .ref r0])), (r0, .inl (cy 0, 6, .inl f0)), (c1, .inr (0, [.int k1, .int s1, .ref r1])), (r1, .inl (cy 0, 6, .inl f1)), (c2, .inr (0, [.int k2, .int s2, .ref r2])), (r2, .inl (cy 0, 6, .inl f2))], rfl, ⟨rfl, (congrArg nI (show 4 = g0 2 (clOn 2 f0 f1 f2 (2 + 0)) + g0 2 (clOn 2 f0 f1 f2 (2 + 1)) + g0 2 (clOn 2 f0 f1 f2 (2 + 2)) + g0 2 (clOn 2 f0 f1 f2 (2 + 3)) by rw [g01 (sz := 2) (by decide) (clOn_le _ _ _ _ _) c_21_0, g01 (sz := 2) (by decide) (clOn_le _ _ _ _ _) c_21_1, g01 (sz := 2) (by decide) (clOn_le _ _ _ _ _) c_21_2, g01 (sz := 2) (by decide) (clOn_le _ _ _ _ _) c_21_3]))⟩, by rw [ht9]; exact hP9, hD9⟩, hS.F ht9⟩) hS.2.2 dX2_goodWalls_34
                            · exact absurd c_6 (by decide)
  · have hP : va_P D vwCl [(h0, .inr (2, [.int 3, .int tn, .int sn, .ref ar])), (ar, .inl (cy 2, 3, .inr (.inr (.inr (.inr (va_up (va_up (va_up (fun _ => none) 0 (some c0)) 1 (some c1)) 2 (some c2))))))), (c0, .inr (0, [.int k0, .int s0, .ref r0])), (r0, .inl (cy 0, 6, .inl f0)), (c1, .inr (0, [.int k1, .int s1, .ref r1])), (r1, .inl (cy 0, 6, .inl f1)), (c2, .inr (0, [.int k2, .int s2, .ref r2])), (r2, .inl (cy 0, 6, .inl f2))] H := hP
    have hD : va_D A [(h0, .inr (2, [.int 3, .int tn, .int sn, .ref ar])), (ar, .inl (cy 2, 3, .inr (.inr (.inr (.inr (va_up (va_up (va_up (fun _ => none) 0 (some c0)) 1 (some c1)) 2 (some c2))))))), (c0, .inr (0, [.int k0, .int s0, .ref r0])), (r0, .inl (cy 0, 6, .inl f0)), (c1, .inr (0, [.int k1, .int s1, .ref r1])), (r1, .inl (cy 0, 6, .inl f1)), (c2, .inr (0, [.int k2, .int s2, .ref r2])), (r2, .inl (cy 0, 6, .inl f2))] := hD
    refine lv_iconst (v := 0) hx hb dX2_goodWalls_0 (by decide) ?_
    refine lv_istore_n (lv' := [(1, .int 0), (0, .ref h0)]) hx hb dX2_goodWalls_1 rfl hl (by decide) rfl (fun ls hl => ?_)
    refine lv_iconst (v := 0) hx hb dX2_goodWalls_2 (by decide) ?_
    refine lv_istore_n (lv' := [(2, .int 0), (1, .int 0), (0, .ref h0)]) hx hb dX2_goodWalls_3 rfl hl (by decide) rfl (fun ls hl => ?_)
    refine lv_iload_n hx hb dX2_goodWalls_4 rfl (lv_at hl 0 rfl) ?_
    refine lv_iconst (v := 4) hx hb dX2_goodWalls_5 (by decide) ?_
    refine lv_icmp_ge (tgt := 33) hx hb dX2_goodWalls_6 (by decide) (fun c_6 => ?_) (fun c_6 => ?_)
    · exact absurd c_6 (by decide)
    · refine lv_aload_n hx hb dX2_goodWalls_9 rfl (lv_at hl 2 rfl) ?_
      refine va_get (D := D) (ci := 2) (v := .int 3) (C := RX2) (T := TX2) (N := 4) hx hb hts hw_X2 hown hK hP 0 rfl rfl 0 (by decide) f_18 (fun _ h9 => h9) rfl dX2_goodWalls_10 ?_
      refine lv_if_le (tgt := 33) hx hb dX2_goodWalls_13 (by decide) (fun c_13 => ?_) (fun c_13 => ?_)
      · exact absurd c_13 (by decide)
      · refine lv_aload_n hx hb dX2_goodWalls_16 rfl (lv_at hl 2 rfl) ?_
        refine lv_iload_n hx hb dX2_goodWalls_17 rfl (lv_at hl 0 rfl) ?_
        refine kc_i (wc := [(h0, .inr (2, [.int (nI 3), .int tn, .int sn, .ref ar])), (ar, .inl (cy 2, 3, .inr (.inr (.inr (.inr (va_up (va_up (va_up (fun _ => none) 0 (some c0)) 1 (some c1)) 2 (some c2))))))), (c0, .inr (0, [.int k0, .int s0, .ref r0])), (r0, .inl (cy 0, 6, .inl f0)), (c1, .inr (0, [.int k1, .int s1, .ref r1])), (r1, .inl (cy 0, 6, .inl f1)), (c2, .inr (0, [.int k2, .int s2, .ref r2])), (r2, .inl (cy 0, 6, .inl f2))]) (wr := []) (va_runV (As := [.int 0]) (rest := []) ⟨hx, hb, hml, hown, hts⟩ (g_X2_clashesOn l D cy H.size h0 ar c0 r0 c1 r1 c2 r2 3 tn sn k0 s0 k1 s1 k2 s2 f0 f1 f2 0 (by decide) (by decide)) (cwV 1 hts gX2_goodWalls_X2_clashesOn rfl rfl rfl hdc_X2_clashesOn ⟨Nat.le_of_ble_eq_true rfl, Nat.le_of_ble_eq_true rfl⟩) (cpre_V (wc := [(h0, .inr (2, [.int (nI 3), .int tn, .int sn, .ref ar])), (ar, .inl (cy 2, 3, .inr (.inr (.inr (.inr (va_up (va_up (va_up (fun _ => none) 0 (some c0)) 1 (some c1)) 2 (some c2))))))), (c0, .inr (0, [.int k0, .int s0, .ref r0])), (r0, .inl (cy 0, 6, .inl f0)), (c1, .inr (0, [.int k1, .int s1, .ref r1])), (r1, .inl (cy 0, 6, .inl f1)), (c2, .inr (0, [.int k2, .int s2, .ref r2])), (r2, .inl (cy 0, 6, .inl f2))]) 0 2 rfl rfl hX hP hD hS hA [0, 1, 2, 3, 4, 5, 6, 7] (by decide +kernel) rfl) rfl rfl hl.1 rfl (lv_room (Nat.le_of_ble_eq_true rfl)) dX2_goodWalls_18 ⟨Nat.le_of_ble_eq_true rfl, Nat.le_of_ble_eq_true rfl⟩) hP hD hS hA [0, 1, 2, 3, 4, 5, 6, 7] [] rfl rfl (by decide +kernel) (by decide +kernel) (fun ro u16 H locs hw hP hD hS => ?_)
        obtain ⟨hu, hro⟩ := hw
        subst hu
        have hP : va_P D vwCl [(h0, .inr (2, [.int 3, .int tn, .int sn, .ref ar])), (ar, .inl (cy 2, 3, .inr (.inr (.inr (.inr (va_up (va_up (va_up (fun _ => none) 0 (some c0)) 1 (some c1)) 2 (some c2))))))), (c0, .inr (0, [.int k0, .int s0, .ref r0])), (r0, .inl (cy 0, 6, .inl f0)), (c1, .inr (0, [.int k1, .int s1, .ref r1])), (r1, .inl (cy 0, 6, .inl f1)), (c2, .inr (0, [.int k2, .int s2, .ref r2])), (r2, .inl (cy 0, 6, .inl f2))] H := hP
        have hD : va_D A [(h0, .inr (2, [.int 3, .int tn, .int sn, .ref ar])), (ar, .inl (cy 2, 3, .inr (.inr (.inr (.inr (va_up (va_up (va_up (fun _ => none) 0 (some c0)) 1 (some c1)) 2 (some c2))))))), (c0, .inr (0, [.int k0, .int s0, .ref r0])), (r0, .inl (cy 0, 6, .inl f0)), (c1, .inr (0, [.int k1, .int s1, .ref r1])), (r1, .inl (cy 0, 6, .inl f1)), (c2, .inr (0, [.int k2, .int s2, .ref r2])), (r2, .inl (cy 0, 6, .inl f2))] := hD
        subst hro
        refine lv_if_ne (tgt := 27) hx hb dX2_goodWalls_21 (by decide) (fun c_21_0 => ?_) (fun c_21_0 => ?_)
        · refine lv_iinc (v := 1) (lv' := [(2, .int 1), (1, .int 0), (0, .ref h0)]) hx hb dX2_goodWalls_27 hl (k := 0) rfl (by decide) (by decide) rfl (fun ls hl => ?_)
          refine lv_goto (tgt := 4) hx hb dX2_goodWalls_30 (by decide) ?_
          refine lv_iload_n hx hb dX2_goodWalls_4 rfl (lv_at hl 0 rfl) ?_
          refine lv_iconst (v := 4) hx hb dX2_goodWalls_5 (by decide) ?_
          refine lv_icmp_ge (tgt := 33) hx hb dX2_goodWalls_6 (by decide) (fun c_6 => ?_) (fun c_6 => ?_)
          · exact absurd c_6 (by decide)
          · refine lv_aload_n hx hb dX2_goodWalls_9 rfl (lv_at hl 2 rfl) ?_
            refine va_get (D := D) (ci := 2) (v := .int 3) (C := RX2) (T := TX2) (N := 4) hx hb hts hw_X2 hown hK hP 0 rfl rfl 0 (by decide) f_18 (fun _ h9 => h9) rfl dX2_goodWalls_10 ?_
            refine lv_if_le (tgt := 33) hx hb dX2_goodWalls_13 (by decide) (fun c_13 => ?_) (fun c_13 => ?_)
            · exact absurd c_13 (by decide)
            · refine lv_aload_n hx hb dX2_goodWalls_16 rfl (lv_at hl 2 rfl) ?_
              refine lv_iload_n hx hb dX2_goodWalls_17 rfl (lv_at hl 0 rfl) ?_
              refine kc_i (wc := [(h0, .inr (2, [.int (nI 3), .int tn, .int sn, .ref ar])), (ar, .inl (cy 2, 3, .inr (.inr (.inr (.inr (va_up (va_up (va_up (fun _ => none) 0 (some c0)) 1 (some c1)) 2 (some c2))))))), (c0, .inr (0, [.int k0, .int s0, .ref r0])), (r0, .inl (cy 0, 6, .inl f0)), (c1, .inr (0, [.int k1, .int s1, .ref r1])), (r1, .inl (cy 0, 6, .inl f1)), (c2, .inr (0, [.int k2, .int s2, .ref r2])), (r2, .inl (cy 0, 6, .inl f2))]) (wr := []) (va_runV (As := [.int 1]) (rest := []) ⟨hx, hb, hml, hown, hts⟩ (g_X2_clashesOn l D cy H.size h0 ar c0 r0 c1 r1 c2 r2 3 tn sn k0 s0 k1 s1 k2 s2 f0 f1 f2 1 (by decide) (by decide)) (cwV 1 hts gX2_goodWalls_X2_clashesOn rfl rfl rfl hdc_X2_clashesOn ⟨Nat.le_of_ble_eq_true rfl, Nat.le_of_ble_eq_true rfl⟩) (cpre_V (wc := [(h0, .inr (2, [.int (nI 3), .int tn, .int sn, .ref ar])), (ar, .inl (cy 2, 3, .inr (.inr (.inr (.inr (va_up (va_up (va_up (fun _ => none) 0 (some c0)) 1 (some c1)) 2 (some c2))))))), (c0, .inr (0, [.int k0, .int s0, .ref r0])), (r0, .inl (cy 0, 6, .inl f0)), (c1, .inr (0, [.int k1, .int s1, .ref r1])), (r1, .inl (cy 0, 6, .inl f1)), (c2, .inr (0, [.int k2, .int s2, .ref r2])), (r2, .inl (cy 0, 6, .inl f2))]) 0 2 rfl rfl hX hP hD hS hA [0, 1, 2, 3, 4, 5, 6, 7] (by decide +kernel) rfl) rfl rfl hl.1 rfl (lv_room (Nat.le_of_ble_eq_true rfl)) dX2_goodWalls_18 ⟨Nat.le_of_ble_eq_true rfl, Nat.le_of_ble_eq_true rfl⟩) hP hD hS hA [0, 1, 2, 3, 4, 5, 6, 7] [] rfl rfl (by decide +kernel) (by decide +kernel) (fun ro u17 H locs hw hP hD hS => ?_)
              obtain ⟨hu, hro⟩ := hw
              subst hu
              have hP : va_P D vwCl [(h0, .inr (2, [.int 3, .int tn, .int sn, .ref ar])), (ar, .inl (cy 2, 3, .inr (.inr (.inr (.inr (va_up (va_up (va_up (fun _ => none) 0 (some c0)) 1 (some c1)) 2 (some c2))))))), (c0, .inr (0, [.int k0, .int s0, .ref r0])), (r0, .inl (cy 0, 6, .inl f0)), (c1, .inr (0, [.int k1, .int s1, .ref r1])), (r1, .inl (cy 0, 6, .inl f1)), (c2, .inr (0, [.int k2, .int s2, .ref r2])), (r2, .inl (cy 0, 6, .inl f2))] H := hP
              have hD : va_D A [(h0, .inr (2, [.int 3, .int tn, .int sn, .ref ar])), (ar, .inl (cy 2, 3, .inr (.inr (.inr (.inr (va_up (va_up (va_up (fun _ => none) 0 (some c0)) 1 (some c1)) 2 (some c2))))))), (c0, .inr (0, [.int k0, .int s0, .ref r0])), (r0, .inl (cy 0, 6, .inl f0)), (c1, .inr (0, [.int k1, .int s1, .ref r1])), (r1, .inl (cy 0, 6, .inl f1)), (c2, .inr (0, [.int k2, .int s2, .ref r2])), (r2, .inl (cy 0, 6, .inl f2))] := hD
              subst hro
              refine lv_if_ne (tgt := 27) hx hb dX2_goodWalls_21 (by decide) (fun c_21_1 => ?_) (fun c_21_1 => ?_)
              · refine lv_iinc (v := 2) (lv' := [(2, .int 2), (1, .int 0), (0, .ref h0)]) hx hb dX2_goodWalls_27 hl (k := 0) rfl (by decide) (by decide) rfl (fun ls hl => ?_)
                refine lv_goto (tgt := 4) hx hb dX2_goodWalls_30 (by decide) ?_
                refine lv_iload_n hx hb dX2_goodWalls_4 rfl (lv_at hl 0 rfl) ?_
                refine lv_iconst (v := 4) hx hb dX2_goodWalls_5 (by decide) ?_
                refine lv_icmp_ge (tgt := 33) hx hb dX2_goodWalls_6 (by decide) (fun c_6 => ?_) (fun c_6 => ?_)
                · exact absurd c_6 (by decide)
                · refine lv_aload_n hx hb dX2_goodWalls_9 rfl (lv_at hl 2 rfl) ?_
                  refine va_get (D := D) (ci := 2) (v := .int 3) (C := RX2) (T := TX2) (N := 4) hx hb hts hw_X2 hown hK hP 0 rfl rfl 0 (by decide) f_18 (fun _ h9 => h9) rfl dX2_goodWalls_10 ?_
                  refine lv_if_le (tgt := 33) hx hb dX2_goodWalls_13 (by decide) (fun c_13 => ?_) (fun c_13 => ?_)
                  · exact absurd c_13 (by decide)
                  · refine lv_aload_n hx hb dX2_goodWalls_16 rfl (lv_at hl 2 rfl) ?_
                    refine lv_iload_n hx hb dX2_goodWalls_17 rfl (lv_at hl 0 rfl) ?_
                    refine kc_i (wc := [(h0, .inr (2, [.int (nI 3), .int tn, .int sn, .ref ar])), (ar, .inl (cy 2, 3, .inr (.inr (.inr (.inr (va_up (va_up (va_up (fun _ => none) 0 (some c0)) 1 (some c1)) 2 (some c2))))))), (c0, .inr (0, [.int k0, .int s0, .ref r0])), (r0, .inl (cy 0, 6, .inl f0)), (c1, .inr (0, [.int k1, .int s1, .ref r1])), (r1, .inl (cy 0, 6, .inl f1)), (c2, .inr (0, [.int k2, .int s2, .ref r2])), (r2, .inl (cy 0, 6, .inl f2))]) (wr := []) (va_runV (As := [.int 2]) (rest := []) ⟨hx, hb, hml, hown, hts⟩ (g_X2_clashesOn l D cy H.size h0 ar c0 r0 c1 r1 c2 r2 3 tn sn k0 s0 k1 s1 k2 s2 f0 f1 f2 2 (by decide) (by decide)) (cwV 1 hts gX2_goodWalls_X2_clashesOn rfl rfl rfl hdc_X2_clashesOn ⟨Nat.le_of_ble_eq_true rfl, Nat.le_of_ble_eq_true rfl⟩) (cpre_V (wc := [(h0, .inr (2, [.int (nI 3), .int tn, .int sn, .ref ar])), (ar, .inl (cy 2, 3, .inr (.inr (.inr (.inr (va_up (va_up (va_up (fun _ => none) 0 (some c0)) 1 (some c1)) 2 (some c2))))))), (c0, .inr (0, [.int k0, .int s0, .ref r0])), (r0, .inl (cy 0, 6, .inl f0)), (c1, .inr (0, [.int k1, .int s1, .ref r1])), (r1, .inl (cy 0, 6, .inl f1)), (c2, .inr (0, [.int k2, .int s2, .ref r2])), (r2, .inl (cy 0, 6, .inl f2))]) 0 2 rfl rfl hX hP hD hS hA [0, 1, 2, 3, 4, 5, 6, 7] (by decide +kernel) rfl) rfl rfl hl.1 rfl (lv_room (Nat.le_of_ble_eq_true rfl)) dX2_goodWalls_18 ⟨Nat.le_of_ble_eq_true rfl, Nat.le_of_ble_eq_true rfl⟩) hP hD hS hA [0, 1, 2, 3, 4, 5, 6, 7] [] rfl rfl (by decide +kernel) (by decide +kernel) (fun ro u18 H locs hw hP hD hS => ?_)
                    obtain ⟨hu, hro⟩ := hw
                    subst hu
                    have hP : va_P D vwCl [(h0, .inr (2, [.int 3, .int tn, .int sn, .ref ar])), (ar, .inl (cy 2, 3, .inr (.inr (.inr (.inr (va_up (va_up (va_up (fun _ => none) 0 (some c0)) 1 (some c1)) 2 (some c2))))))), (c0, .inr (0, [.int k0, .int s0, .ref r0])), (r0, .inl (cy 0, 6, .inl f0)), (c1, .inr (0, [.int k1, .int s1, .ref r1])), (r1, .inl (cy 0, 6, .inl f1)), (c2, .inr (0, [.int k2, .int s2, .ref r2])), (r2, .inl (cy 0, 6, .inl f2))] H := hP
                    have hD : va_D A [(h0, .inr (2, [.int 3, .int tn, .int sn, .ref ar])), (ar, .inl (cy 2, 3, .inr (.inr (.inr (.inr (va_up (va_up (va_up (fun _ => none) 0 (some c0)) 1 (some c1)) 2 (some c2))))))), (c0, .inr (0, [.int k0, .int s0, .ref r0])), (r0, .inl (cy 0, 6, .inl f0)), (c1, .inr (0, [.int k1, .int s1, .ref r1])), (r1, .inl (cy 0, 6, .inl f1)), (c2, .inr (0, [.int k2, .int s2, .ref r2])), (r2, .inl (cy 0, 6, .inl f2))] := hD
                    subst hro
                    refine lv_if_ne (tgt := 27) hx hb dX2_goodWalls_21 (by decide) (fun c_21_2 => ?_) (fun c_21_2 => ?_)
                    · refine lv_iinc (v := 3) (lv' := [(2, .int 3), (1, .int 0), (0, .ref h0)]) hx hb dX2_goodWalls_27 hl (k := 0) rfl (by decide) (by decide) rfl (fun ls hl => ?_)
                      refine lv_goto (tgt := 4) hx hb dX2_goodWalls_30 (by decide) ?_
                      refine lv_iload_n hx hb dX2_goodWalls_4 rfl (lv_at hl 0 rfl) ?_
                      refine lv_iconst (v := 4) hx hb dX2_goodWalls_5 (by decide) ?_
                      refine lv_icmp_ge (tgt := 33) hx hb dX2_goodWalls_6 (by decide) (fun c_6 => ?_) (fun c_6 => ?_)
                      · exact absurd c_6 (by decide)
                      · refine lv_aload_n hx hb dX2_goodWalls_9 rfl (lv_at hl 2 rfl) ?_
                        refine va_get (D := D) (ci := 2) (v := .int 3) (C := RX2) (T := TX2) (N := 4) hx hb hts hw_X2 hown hK hP 0 rfl rfl 0 (by decide) f_18 (fun _ h9 => h9) rfl dX2_goodWalls_10 ?_
                        refine lv_if_le (tgt := 33) hx hb dX2_goodWalls_13 (by decide) (fun c_13 => ?_) (fun c_13 => ?_)
                        · exact absurd c_13 (by decide)
                        · refine lv_aload_n hx hb dX2_goodWalls_16 rfl (lv_at hl 2 rfl) ?_
                          refine lv_iload_n hx hb dX2_goodWalls_17 rfl (lv_at hl 0 rfl) ?_
                          refine kc_i (wc := [(h0, .inr (2, [.int (nI 3), .int tn, .int sn, .ref ar])), (ar, .inl (cy 2, 3, .inr (.inr (.inr (.inr (va_up (va_up (va_up (fun _ => none) 0 (some c0)) 1 (some c1)) 2 (some c2))))))), (c0, .inr (0, [.int k0, .int s0, .ref r0])), (r0, .inl (cy 0, 6, .inl f0)), (c1, .inr (0, [.int k1, .int s1, .ref r1])), (r1, .inl (cy 0, 6, .inl f1)), (c2, .inr (0, [.int k2, .int s2, .ref r2])), (r2, .inl (cy 0, 6, .inl f2))]) (wr := []) (va_runV (As := [.int 3]) (rest := []) ⟨hx, hb, hml, hown, hts⟩ (g_X2_clashesOn l D cy H.size h0 ar c0 r0 c1 r1 c2 r2 3 tn sn k0 s0 k1 s1 k2 s2 f0 f1 f2 3 (by decide) (by decide)) (cwV 1 hts gX2_goodWalls_X2_clashesOn rfl rfl rfl hdc_X2_clashesOn ⟨Nat.le_of_ble_eq_true rfl, Nat.le_of_ble_eq_true rfl⟩) (cpre_V (wc := [(h0, .inr (2, [.int (nI 3), .int tn, .int sn, .ref ar])), (ar, .inl (cy 2, 3, .inr (.inr (.inr (.inr (va_up (va_up (va_up (fun _ => none) 0 (some c0)) 1 (some c1)) 2 (some c2))))))), (c0, .inr (0, [.int k0, .int s0, .ref r0])), (r0, .inl (cy 0, 6, .inl f0)), (c1, .inr (0, [.int k1, .int s1, .ref r1])), (r1, .inl (cy 0, 6, .inl f1)), (c2, .inr (0, [.int k2, .int s2, .ref r2])), (r2, .inl (cy 0, 6, .inl f2))]) 0 2 rfl rfl hX hP hD hS hA [0, 1, 2, 3, 4, 5, 6, 7] (by decide +kernel) rfl) rfl rfl hl.1 rfl (lv_room (Nat.le_of_ble_eq_true rfl)) dX2_goodWalls_18 ⟨Nat.le_of_ble_eq_true rfl, Nat.le_of_ble_eq_true rfl⟩) hP hD hS hA [0, 1, 2, 3, 4, 5, 6, 7] [] rfl rfl (by decide +kernel) (by decide +kernel) (fun ro u19 H locs hw hP hD hS => ?_)
                          obtain ⟨hu, hro⟩ := hw
                          subst hu
                          have hP : va_P D vwCl [(h0, .inr (2, [.int 3, .int tn, .int sn, .ref ar])), (ar, .inl (cy 2, 3, .inr (.inr (.inr (.inr (va_up (va_up (va_up (fun _ => none) 0 (some c0)) 1 (some c1)) 2 (some c2))))))), (c0, .inr (0, [.int k0, .int s0, .ref r0])), (r0, .inl (cy 0, 6, .inl f0)), (c1, .inr (0, [.int k1, .int s1, .ref r1])), (r1, .inl (cy 0, 6, .inl f1)), (c2, .inr (0, [.int k2, .int s2, .ref r2])), (r2, .inl (cy 0, 6, .inl f2))] H := hP
                          have hD : va_D A [(h0, .inr (2, [.int 3, .int tn, .int sn, .ref ar])), (ar, .inl (cy 2, 3, .inr (.inr (.inr (.inr (va_up (va_up (va_up (fun _ => none) 0 (some c0)) 1 (some c1)) 2 (some c2))))))), (c0, .inr (0, [.int k0, .int s0, .ref r0])), (r0, .inl (cy 0, 6, .inl f0)), (c1, .inr (0, [.int k1, .int s1, .ref r1])), (r1, .inl (cy 0, 6, .inl f1)), (c2, .inr (0, [.int k2, .int s2, .ref r2])), (r2, .inl (cy 0, 6, .inl f2))] := hD
                          subst hro
                          refine lv_if_ne (tgt := 27) hx hb dX2_goodWalls_21 (by decide) (fun c_21_3 => ?_) (fun c_21_3 => ?_)
                          · refine lv_iinc (v := 4) (lv' := [(2, .int 4), (1, .int 0), (0, .ref h0)]) hx hb dX2_goodWalls_27 hl (k := 0) rfl (by decide) (by decide) rfl (fun ls hl => ?_)
                            refine lv_goto (tgt := 4) hx hb dX2_goodWalls_30 (by decide) ?_
                            refine lv_iload_n hx hb dX2_goodWalls_4 rfl (lv_at hl 0 rfl) ?_
                            refine lv_iconst (v := 4) hx hb dX2_goodWalls_5 (by decide) ?_
                            refine lv_icmp_ge (tgt := 33) hx hb dX2_goodWalls_6 (by decide) (fun c_6 => ?_) (fun c_6 => ?_)
                            · refine lv_iload_n hx hb dX2_goodWalls_33 rfl (lv_at hl 1 rfl) ?_
                              have hP9 := hP.sub (ws' := [(h0, .inr (2, [.int (nI 3), .int tn, .int sn, .ref ar])), (ar, .inl (cy 2, 3, .inr (.inr (.inr (.inr (va_up (va_up (va_up (fun _ => none) 0 (some c0)) 1 (some c1)) 2 (some c2))))))), (c0, .inr (0, [.int k0, .int s0, .ref r0])), (r0, .inl (cy 0, 6, .inl f0)), (c1, .inr (0, [.int k1, .int s1, .ref r1])), (r1, .inl (cy 0, 6, .inl f1)), (c2, .inr (0, [.int k2, .int s2, .ref r2])), (r2, .inl (cy 0, 6, .inl f2))]) [0, 1, 2, 3, 4, 5, 6, 7] rfl
                              have hD9 := hD.sub (ws' := [(h0, .inr (2, [.int (nI 3), .int tn, .int sn, .ref ar])), (ar, .inl (cy 2, 3, .inr (.inr (.inr (.inr (va_up (va_up (va_up (fun _ => none) 0 (some c0)) 1 (some c1)) 2 (some c2))))))), (c0, .inr (0, [.int k0, .int s0, .ref r0])), (r0, .inl (cy 0, 6, .inl f0)), (c1, .inr (0, [.int k1, .int s1, .ref r1])), (r1, .inl (cy 0, 6, .inl f1)), (c2, .inr (0, [.int k2, .int s2, .ref r2])), (r2, .inl (cy 0, 6, .inl f2))]) [0, 1, 2, 3, 4, 5, 6, 7] (by decide +kernel) rfl
                              exact W.iret (v := 0) hx hb hr (fun t9 ht9 hW9 => ⟨⟨0, [(h0, .inr (2, [.int (nI 3), .int tn, .int sn, .ref ar])), (ar, .inl (cy 2, 3, .inr (.inr (.inr (.inr (va_up (va_up (va_up (fun _ => none) 0 (some c0)) 1 (some c1)) 2 (some c2))))))), (c0, .inr (0, [.int k0, .int s0, .ref r0])), (r0, .inl (cy 0, 6, .inl f0)), (c1, .inr (0, [.int k1, .int s1, .ref r1])), (r1, .inl (cy 0, 6, .inl f1)), (c2, .inr (0, [.int k2, .int s2, .ref r2])), (r2, .inl (cy 0, 6, .inl f2))], rfl, ⟨rfl, (congrArg nI (show 0 = g0 3 (clOn 3 f0 f1 f2 (2 + 0)) + g0 3 (clOn 3 f0 f1 f2 (2 + 1)) + g0 3 (clOn 3 f0 f1 f2 (2 + 2)) + g0 3 (clOn 3 f0 f1 f2 (2 + 3)) by rw [g00 (sz := 3) c_21_0, g00 (sz := 3) c_21_1, g00 (sz := 3) c_21_2, g00 (sz := 3) c_21_3]))⟩, by rw [ht9]; exact hP9, hD9⟩, hS.F ht9⟩) hS.2.2 dX2_goodWalls_34
                            · exact absurd c_6 (by decide)
                          · refine lv_iinc (v := 1) (lv' := [(1, .int 1), (2, .int 3), (0, .ref h0)]) hx hb dX2_goodWalls_24 hl (k := 1) rfl (by decide) (by decide) rfl (fun ls hl => ?_)
                            refine lv_iinc (v := 4) (lv' := [(2, .int 4), (1, .int 1), (0, .ref h0)]) hx hb dX2_goodWalls_27 hl (k := 1) rfl (by decide) (by decide) rfl (fun ls hl => ?_)
                            refine lv_goto (tgt := 4) hx hb dX2_goodWalls_30 (by decide) ?_
                            refine lv_iload_n hx hb dX2_goodWalls_4 rfl (lv_at hl 0 rfl) ?_
                            refine lv_iconst (v := 4) hx hb dX2_goodWalls_5 (by decide) ?_
                            refine lv_icmp_ge (tgt := 33) hx hb dX2_goodWalls_6 (by decide) (fun c_6 => ?_) (fun c_6 => ?_)
                            · refine lv_iload_n hx hb dX2_goodWalls_33 rfl (lv_at hl 1 rfl) ?_
                              have hP9 := hP.sub (ws' := [(h0, .inr (2, [.int (nI 3), .int tn, .int sn, .ref ar])), (ar, .inl (cy 2, 3, .inr (.inr (.inr (.inr (va_up (va_up (va_up (fun _ => none) 0 (some c0)) 1 (some c1)) 2 (some c2))))))), (c0, .inr (0, [.int k0, .int s0, .ref r0])), (r0, .inl (cy 0, 6, .inl f0)), (c1, .inr (0, [.int k1, .int s1, .ref r1])), (r1, .inl (cy 0, 6, .inl f1)), (c2, .inr (0, [.int k2, .int s2, .ref r2])), (r2, .inl (cy 0, 6, .inl f2))]) [0, 1, 2, 3, 4, 5, 6, 7] rfl
                              have hD9 := hD.sub (ws' := [(h0, .inr (2, [.int (nI 3), .int tn, .int sn, .ref ar])), (ar, .inl (cy 2, 3, .inr (.inr (.inr (.inr (va_up (va_up (va_up (fun _ => none) 0 (some c0)) 1 (some c1)) 2 (some c2))))))), (c0, .inr (0, [.int k0, .int s0, .ref r0])), (r0, .inl (cy 0, 6, .inl f0)), (c1, .inr (0, [.int k1, .int s1, .ref r1])), (r1, .inl (cy 0, 6, .inl f1)), (c2, .inr (0, [.int k2, .int s2, .ref r2])), (r2, .inl (cy 0, 6, .inl f2))]) [0, 1, 2, 3, 4, 5, 6, 7] (by decide +kernel) rfl
                              exact W.iret (v := 1) hx hb hr (fun t9 ht9 hW9 => ⟨⟨1, [(h0, .inr (2, [.int (nI 3), .int tn, .int sn, .ref ar])), (ar, .inl (cy 2, 3, .inr (.inr (.inr (.inr (va_up (va_up (va_up (fun _ => none) 0 (some c0)) 1 (some c1)) 2 (some c2))))))), (c0, .inr (0, [.int k0, .int s0, .ref r0])), (r0, .inl (cy 0, 6, .inl f0)), (c1, .inr (0, [.int k1, .int s1, .ref r1])), (r1, .inl (cy 0, 6, .inl f1)), (c2, .inr (0, [.int k2, .int s2, .ref r2])), (r2, .inl (cy 0, 6, .inl f2))], rfl, ⟨rfl, (congrArg nI (show 1 = g0 3 (clOn 3 f0 f1 f2 (2 + 0)) + g0 3 (clOn 3 f0 f1 f2 (2 + 1)) + g0 3 (clOn 3 f0 f1 f2 (2 + 2)) + g0 3 (clOn 3 f0 f1 f2 (2 + 3)) by rw [g00 (sz := 3) c_21_0, g00 (sz := 3) c_21_1, g00 (sz := 3) c_21_2, g01 (sz := 3) (by decide) (clOn_le _ _ _ _ _) c_21_3]))⟩, by rw [ht9]; exact hP9, hD9⟩, hS.F ht9⟩) hS.2.2 dX2_goodWalls_34
                            · exact absurd c_6 (by decide)
                    · refine lv_iinc (v := 1) (lv' := [(1, .int 1), (2, .int 2), (0, .ref h0)]) hx hb dX2_goodWalls_24 hl (k := 1) rfl (by decide) (by decide) rfl (fun ls hl => ?_)
                      refine lv_iinc (v := 3) (lv' := [(2, .int 3), (1, .int 1), (0, .ref h0)]) hx hb dX2_goodWalls_27 hl (k := 1) rfl (by decide) (by decide) rfl (fun ls hl => ?_)
                      refine lv_goto (tgt := 4) hx hb dX2_goodWalls_30 (by decide) ?_
                      refine lv_iload_n hx hb dX2_goodWalls_4 rfl (lv_at hl 0 rfl) ?_
                      refine lv_iconst (v := 4) hx hb dX2_goodWalls_5 (by decide) ?_
                      refine lv_icmp_ge (tgt := 33) hx hb dX2_goodWalls_6 (by decide) (fun c_6 => ?_) (fun c_6 => ?_)
                      · exact absurd c_6 (by decide)
                      · refine lv_aload_n hx hb dX2_goodWalls_9 rfl (lv_at hl 2 rfl) ?_
                        refine va_get (D := D) (ci := 2) (v := .int 3) (C := RX2) (T := TX2) (N := 4) hx hb hts hw_X2 hown hK hP 0 rfl rfl 0 (by decide) f_18 (fun _ h9 => h9) rfl dX2_goodWalls_10 ?_
                        refine lv_if_le (tgt := 33) hx hb dX2_goodWalls_13 (by decide) (fun c_13 => ?_) (fun c_13 => ?_)
                        · exact absurd c_13 (by decide)
                        · refine lv_aload_n hx hb dX2_goodWalls_16 rfl (lv_at hl 2 rfl) ?_
                          refine lv_iload_n hx hb dX2_goodWalls_17 rfl (lv_at hl 0 rfl) ?_
                          refine kc_i (wc := [(h0, .inr (2, [.int (nI 3), .int tn, .int sn, .ref ar])), (ar, .inl (cy 2, 3, .inr (.inr (.inr (.inr (va_up (va_up (va_up (fun _ => none) 0 (some c0)) 1 (some c1)) 2 (some c2))))))), (c0, .inr (0, [.int k0, .int s0, .ref r0])), (r0, .inl (cy 0, 6, .inl f0)), (c1, .inr (0, [.int k1, .int s1, .ref r1])), (r1, .inl (cy 0, 6, .inl f1)), (c2, .inr (0, [.int k2, .int s2, .ref r2])), (r2, .inl (cy 0, 6, .inl f2))]) (wr := []) (va_runV (As := [.int 3]) (rest := []) ⟨hx, hb, hml, hown, hts⟩ (g_X2_clashesOn l D cy H.size h0 ar c0 r0 c1 r1 c2 r2 3 tn sn k0 s0 k1 s1 k2 s2 f0 f1 f2 3 (by decide) (by decide)) (cwV 1 hts gX2_goodWalls_X2_clashesOn rfl rfl rfl hdc_X2_clashesOn ⟨Nat.le_of_ble_eq_true rfl, Nat.le_of_ble_eq_true rfl⟩) (cpre_V (wc := [(h0, .inr (2, [.int (nI 3), .int tn, .int sn, .ref ar])), (ar, .inl (cy 2, 3, .inr (.inr (.inr (.inr (va_up (va_up (va_up (fun _ => none) 0 (some c0)) 1 (some c1)) 2 (some c2))))))), (c0, .inr (0, [.int k0, .int s0, .ref r0])), (r0, .inl (cy 0, 6, .inl f0)), (c1, .inr (0, [.int k1, .int s1, .ref r1])), (r1, .inl (cy 0, 6, .inl f1)), (c2, .inr (0, [.int k2, .int s2, .ref r2])), (r2, .inl (cy 0, 6, .inl f2))]) 0 2 rfl rfl hX hP hD hS hA [0, 1, 2, 3, 4, 5, 6, 7] (by decide +kernel) rfl) rfl rfl hl.1 rfl (lv_room (Nat.le_of_ble_eq_true rfl)) dX2_goodWalls_18 ⟨Nat.le_of_ble_eq_true rfl, Nat.le_of_ble_eq_true rfl⟩) hP hD hS hA [0, 1, 2, 3, 4, 5, 6, 7] [] rfl rfl (by decide +kernel) (by decide +kernel) (fun ro u20 H locs hw hP hD hS => ?_)
                          obtain ⟨hu, hro⟩ := hw
                          subst hu
                          have hP : va_P D vwCl [(h0, .inr (2, [.int 3, .int tn, .int sn, .ref ar])), (ar, .inl (cy 2, 3, .inr (.inr (.inr (.inr (va_up (va_up (va_up (fun _ => none) 0 (some c0)) 1 (some c1)) 2 (some c2))))))), (c0, .inr (0, [.int k0, .int s0, .ref r0])), (r0, .inl (cy 0, 6, .inl f0)), (c1, .inr (0, [.int k1, .int s1, .ref r1])), (r1, .inl (cy 0, 6, .inl f1)), (c2, .inr (0, [.int k2, .int s2, .ref r2])), (r2, .inl (cy 0, 6, .inl f2))] H := hP
                          have hD : va_D A [(h0, .inr (2, [.int 3, .int tn, .int sn, .ref ar])), (ar, .inl (cy 2, 3, .inr (.inr (.inr (.inr (va_up (va_up (va_up (fun _ => none) 0 (some c0)) 1 (some c1)) 2 (some c2))))))), (c0, .inr (0, [.int k0, .int s0, .ref r0])), (r0, .inl (cy 0, 6, .inl f0)), (c1, .inr (0, [.int k1, .int s1, .ref r1])), (r1, .inl (cy 0, 6, .inl f1)), (c2, .inr (0, [.int k2, .int s2, .ref r2])), (r2, .inl (cy 0, 6, .inl f2))] := hD
                          subst hro
                          refine lv_if_ne (tgt := 27) hx hb dX2_goodWalls_21 (by decide) (fun c_21_3 => ?_) (fun c_21_3 => ?_)
                          · refine lv_iinc (v := 4) (lv' := [(2, .int 4), (1, .int 1), (0, .ref h0)]) hx hb dX2_goodWalls_27 hl (k := 0) rfl (by decide) (by decide) rfl (fun ls hl => ?_)
                            refine lv_goto (tgt := 4) hx hb dX2_goodWalls_30 (by decide) ?_
                            refine lv_iload_n hx hb dX2_goodWalls_4 rfl (lv_at hl 0 rfl) ?_
                            refine lv_iconst (v := 4) hx hb dX2_goodWalls_5 (by decide) ?_
                            refine lv_icmp_ge (tgt := 33) hx hb dX2_goodWalls_6 (by decide) (fun c_6 => ?_) (fun c_6 => ?_)
                            · refine lv_iload_n hx hb dX2_goodWalls_33 rfl (lv_at hl 1 rfl) ?_
                              have hP9 := hP.sub (ws' := [(h0, .inr (2, [.int (nI 3), .int tn, .int sn, .ref ar])), (ar, .inl (cy 2, 3, .inr (.inr (.inr (.inr (va_up (va_up (va_up (fun _ => none) 0 (some c0)) 1 (some c1)) 2 (some c2))))))), (c0, .inr (0, [.int k0, .int s0, .ref r0])), (r0, .inl (cy 0, 6, .inl f0)), (c1, .inr (0, [.int k1, .int s1, .ref r1])), (r1, .inl (cy 0, 6, .inl f1)), (c2, .inr (0, [.int k2, .int s2, .ref r2])), (r2, .inl (cy 0, 6, .inl f2))]) [0, 1, 2, 3, 4, 5, 6, 7] rfl
                              have hD9 := hD.sub (ws' := [(h0, .inr (2, [.int (nI 3), .int tn, .int sn, .ref ar])), (ar, .inl (cy 2, 3, .inr (.inr (.inr (.inr (va_up (va_up (va_up (fun _ => none) 0 (some c0)) 1 (some c1)) 2 (some c2))))))), (c0, .inr (0, [.int k0, .int s0, .ref r0])), (r0, .inl (cy 0, 6, .inl f0)), (c1, .inr (0, [.int k1, .int s1, .ref r1])), (r1, .inl (cy 0, 6, .inl f1)), (c2, .inr (0, [.int k2, .int s2, .ref r2])), (r2, .inl (cy 0, 6, .inl f2))]) [0, 1, 2, 3, 4, 5, 6, 7] (by decide +kernel) rfl
                              exact W.iret (v := 1) hx hb hr (fun t9 ht9 hW9 => ⟨⟨1, [(h0, .inr (2, [.int (nI 3), .int tn, .int sn, .ref ar])), (ar, .inl (cy 2, 3, .inr (.inr (.inr (.inr (va_up (va_up (va_up (fun _ => none) 0 (some c0)) 1 (some c1)) 2 (some c2))))))), (c0, .inr (0, [.int k0, .int s0, .ref r0])), (r0, .inl (cy 0, 6, .inl f0)), (c1, .inr (0, [.int k1, .int s1, .ref r1])), (r1, .inl (cy 0, 6, .inl f1)), (c2, .inr (0, [.int k2, .int s2, .ref r2])), (r2, .inl (cy 0, 6, .inl f2))], rfl, ⟨rfl, (congrArg nI (show 1 = g0 3 (clOn 3 f0 f1 f2 (2 + 0)) + g0 3 (clOn 3 f0 f1 f2 (2 + 1)) + g0 3 (clOn 3 f0 f1 f2 (2 + 2)) + g0 3 (clOn 3 f0 f1 f2 (2 + 3)) by rw [g00 (sz := 3) c_21_0, g00 (sz := 3) c_21_1, g01 (sz := 3) (by decide) (clOn_le _ _ _ _ _) c_21_2, g00 (sz := 3) c_21_3]))⟩, by rw [ht9]; exact hP9, hD9⟩, hS.F ht9⟩) hS.2.2 dX2_goodWalls_34
                            · exact absurd c_6 (by decide)
                          · refine lv_iinc (v := 2) (lv' := [(1, .int 2), (2, .int 3), (0, .ref h0)]) hx hb dX2_goodWalls_24 hl (k := 1) rfl (by decide) (by decide) rfl (fun ls hl => ?_)
                            refine lv_iinc (v := 4) (lv' := [(2, .int 4), (1, .int 2), (0, .ref h0)]) hx hb dX2_goodWalls_27 hl (k := 1) rfl (by decide) (by decide) rfl (fun ls hl => ?_)
                            refine lv_goto (tgt := 4) hx hb dX2_goodWalls_30 (by decide) ?_
                            refine lv_iload_n hx hb dX2_goodWalls_4 rfl (lv_at hl 0 rfl) ?_
                            refine lv_iconst (v := 4) hx hb dX2_goodWalls_5 (by decide) ?_
                            refine lv_icmp_ge (tgt := 33) hx hb dX2_goodWalls_6 (by decide) (fun c_6 => ?_) (fun c_6 => ?_)
                            · refine lv_iload_n hx hb dX2_goodWalls_33 rfl (lv_at hl 1 rfl) ?_
                              have hP9 := hP.sub (ws' := [(h0, .inr (2, [.int (nI 3), .int tn, .int sn, .ref ar])), (ar, .inl (cy 2, 3, .inr (.inr (.inr (.inr (va_up (va_up (va_up (fun _ => none) 0 (some c0)) 1 (some c1)) 2 (some c2))))))), (c0, .inr (0, [.int k0, .int s0, .ref r0])), (r0, .inl (cy 0, 6, .inl f0)), (c1, .inr (0, [.int k1, .int s1, .ref r1])), (r1, .inl (cy 0, 6, .inl f1)), (c2, .inr (0, [.int k2, .int s2, .ref r2])), (r2, .inl (cy 0, 6, .inl f2))]) [0, 1, 2, 3, 4, 5, 6, 7] rfl
                              have hD9 := hD.sub (ws' := [(h0, .inr (2, [.int (nI 3), .int tn, .int sn, .ref ar])), (ar, .inl (cy 2, 3, .inr (.inr (.inr (.inr (va_up (va_up (va_up (fun _ => none) 0 (some c0)) 1 (some c1)) 2 (some c2))))))), (c0, .inr (0, [.int k0, .int s0, .ref r0])), (r0, .inl (cy 0, 6, .inl f0)), (c1, .inr (0, [.int k1, .int s1, .ref r1])), (r1, .inl (cy 0, 6, .inl f1)), (c2, .inr (0, [.int k2, .int s2, .ref r2])), (r2, .inl (cy 0, 6, .inl f2))]) [0, 1, 2, 3, 4, 5, 6, 7] (by decide +kernel) rfl
                              exact W.iret (v := 2) hx hb hr (fun t9 ht9 hW9 => ⟨⟨2, [(h0, .inr (2, [.int (nI 3), .int tn, .int sn, .ref ar])), (ar, .inl (cy 2, 3, .inr (.inr (.inr (.inr (va_up (va_up (va_up (fun _ => none) 0 (some c0)) 1 (some c1)) 2 (some c2))))))), (c0, .inr (0, [.int k0, .int s0, .ref r0])), (r0, .inl (cy 0, 6, .inl f0)), (c1, .inr (0, [.int k1, .int s1, .ref r1])), (r1, .inl (cy 0, 6, .inl f1)), (c2, .inr (0, [.int k2, .int s2, .ref r2])), (r2, .inl (cy 0, 6, .inl f2))], rfl, ⟨rfl, (congrArg nI (show 2 = g0 3 (clOn 3 f0 f1 f2 (2 + 0)) + g0 3 (clOn 3 f0 f1 f2 (2 + 1)) + g0 3 (clOn 3 f0 f1 f2 (2 + 2)) + g0 3 (clOn 3 f0 f1 f2 (2 + 3)) by rw [g00 (sz := 3) c_21_0, g00 (sz := 3) c_21_1, g01 (sz := 3) (by decide) (clOn_le _ _ _ _ _) c_21_2, g01 (sz := 3) (by decide) (clOn_le _ _ _ _ _) c_21_3]))⟩, by rw [ht9]; exact hP9, hD9⟩, hS.F ht9⟩) hS.2.2 dX2_goodWalls_34
                            · exact absurd c_6 (by decide)
              · refine lv_iinc (v := 1) (lv' := [(1, .int 1), (2, .int 1), (0, .ref h0)]) hx hb dX2_goodWalls_24 hl (k := 1) rfl (by decide) (by decide) rfl (fun ls hl => ?_)
                refine lv_iinc (v := 2) (lv' := [(2, .int 2), (1, .int 1), (0, .ref h0)]) hx hb dX2_goodWalls_27 hl (k := 1) rfl (by decide) (by decide) rfl (fun ls hl => ?_)
                refine lv_goto (tgt := 4) hx hb dX2_goodWalls_30 (by decide) ?_
                refine lv_iload_n hx hb dX2_goodWalls_4 rfl (lv_at hl 0 rfl) ?_
                refine lv_iconst (v := 4) hx hb dX2_goodWalls_5 (by decide) ?_
                refine lv_icmp_ge (tgt := 33) hx hb dX2_goodWalls_6 (by decide) (fun c_6 => ?_) (fun c_6 => ?_)
                · exact absurd c_6 (by decide)
                · refine lv_aload_n hx hb dX2_goodWalls_9 rfl (lv_at hl 2 rfl) ?_
                  refine va_get (D := D) (ci := 2) (v := .int 3) (C := RX2) (T := TX2) (N := 4) hx hb hts hw_X2 hown hK hP 0 rfl rfl 0 (by decide) f_18 (fun _ h9 => h9) rfl dX2_goodWalls_10 ?_
                  refine lv_if_le (tgt := 33) hx hb dX2_goodWalls_13 (by decide) (fun c_13 => ?_) (fun c_13 => ?_)
                  · exact absurd c_13 (by decide)
                  · refine lv_aload_n hx hb dX2_goodWalls_16 rfl (lv_at hl 2 rfl) ?_
                    refine lv_iload_n hx hb dX2_goodWalls_17 rfl (lv_at hl 0 rfl) ?_
                    refine kc_i (wc := [(h0, .inr (2, [.int (nI 3), .int tn, .int sn, .ref ar])), (ar, .inl (cy 2, 3, .inr (.inr (.inr (.inr (va_up (va_up (va_up (fun _ => none) 0 (some c0)) 1 (some c1)) 2 (some c2))))))), (c0, .inr (0, [.int k0, .int s0, .ref r0])), (r0, .inl (cy 0, 6, .inl f0)), (c1, .inr (0, [.int k1, .int s1, .ref r1])), (r1, .inl (cy 0, 6, .inl f1)), (c2, .inr (0, [.int k2, .int s2, .ref r2])), (r2, .inl (cy 0, 6, .inl f2))]) (wr := []) (va_runV (As := [.int 2]) (rest := []) ⟨hx, hb, hml, hown, hts⟩ (g_X2_clashesOn l D cy H.size h0 ar c0 r0 c1 r1 c2 r2 3 tn sn k0 s0 k1 s1 k2 s2 f0 f1 f2 2 (by decide) (by decide)) (cwV 1 hts gX2_goodWalls_X2_clashesOn rfl rfl rfl hdc_X2_clashesOn ⟨Nat.le_of_ble_eq_true rfl, Nat.le_of_ble_eq_true rfl⟩) (cpre_V (wc := [(h0, .inr (2, [.int (nI 3), .int tn, .int sn, .ref ar])), (ar, .inl (cy 2, 3, .inr (.inr (.inr (.inr (va_up (va_up (va_up (fun _ => none) 0 (some c0)) 1 (some c1)) 2 (some c2))))))), (c0, .inr (0, [.int k0, .int s0, .ref r0])), (r0, .inl (cy 0, 6, .inl f0)), (c1, .inr (0, [.int k1, .int s1, .ref r1])), (r1, .inl (cy 0, 6, .inl f1)), (c2, .inr (0, [.int k2, .int s2, .ref r2])), (r2, .inl (cy 0, 6, .inl f2))]) 0 2 rfl rfl hX hP hD hS hA [0, 1, 2, 3, 4, 5, 6, 7] (by decide +kernel) rfl) rfl rfl hl.1 rfl (lv_room (Nat.le_of_ble_eq_true rfl)) dX2_goodWalls_18 ⟨Nat.le_of_ble_eq_true rfl, Nat.le_of_ble_eq_true rfl⟩) hP hD hS hA [0, 1, 2, 3, 4, 5, 6, 7] [] rfl rfl (by decide +kernel) (by decide +kernel) (fun ro u21 H locs hw hP hD hS => ?_)
                    obtain ⟨hu, hro⟩ := hw
                    subst hu
                    have hP : va_P D vwCl [(h0, .inr (2, [.int 3, .int tn, .int sn, .ref ar])), (ar, .inl (cy 2, 3, .inr (.inr (.inr (.inr (va_up (va_up (va_up (fun _ => none) 0 (some c0)) 1 (some c1)) 2 (some c2))))))), (c0, .inr (0, [.int k0, .int s0, .ref r0])), (r0, .inl (cy 0, 6, .inl f0)), (c1, .inr (0, [.int k1, .int s1, .ref r1])), (r1, .inl (cy 0, 6, .inl f1)), (c2, .inr (0, [.int k2, .int s2, .ref r2])), (r2, .inl (cy 0, 6, .inl f2))] H := hP
                    have hD : va_D A [(h0, .inr (2, [.int 3, .int tn, .int sn, .ref ar])), (ar, .inl (cy 2, 3, .inr (.inr (.inr (.inr (va_up (va_up (va_up (fun _ => none) 0 (some c0)) 1 (some c1)) 2 (some c2))))))), (c0, .inr (0, [.int k0, .int s0, .ref r0])), (r0, .inl (cy 0, 6, .inl f0)), (c1, .inr (0, [.int k1, .int s1, .ref r1])), (r1, .inl (cy 0, 6, .inl f1)), (c2, .inr (0, [.int k2, .int s2, .ref r2])), (r2, .inl (cy 0, 6, .inl f2))] := hD
                    subst hro
                    refine lv_if_ne (tgt := 27) hx hb dX2_goodWalls_21 (by decide) (fun c_21_2 => ?_) (fun c_21_2 => ?_)
                    · refine lv_iinc (v := 3) (lv' := [(2, .int 3), (1, .int 1), (0, .ref h0)]) hx hb dX2_goodWalls_27 hl (k := 0) rfl (by decide) (by decide) rfl (fun ls hl => ?_)
                      refine lv_goto (tgt := 4) hx hb dX2_goodWalls_30 (by decide) ?_
                      refine lv_iload_n hx hb dX2_goodWalls_4 rfl (lv_at hl 0 rfl) ?_
                      refine lv_iconst (v := 4) hx hb dX2_goodWalls_5 (by decide) ?_
                      refine lv_icmp_ge (tgt := 33) hx hb dX2_goodWalls_6 (by decide) (fun c_6 => ?_) (fun c_6 => ?_)
                      · exact absurd c_6 (by decide)
                      · refine lv_aload_n hx hb dX2_goodWalls_9 rfl (lv_at hl 2 rfl) ?_
                        refine va_get (D := D) (ci := 2) (v := .int 3) (C := RX2) (T := TX2) (N := 4) hx hb hts hw_X2 hown hK hP 0 rfl rfl 0 (by decide) f_18 (fun _ h9 => h9) rfl dX2_goodWalls_10 ?_
                        refine lv_if_le (tgt := 33) hx hb dX2_goodWalls_13 (by decide) (fun c_13 => ?_) (fun c_13 => ?_)
                        · exact absurd c_13 (by decide)
                        · refine lv_aload_n hx hb dX2_goodWalls_16 rfl (lv_at hl 2 rfl) ?_
                          refine lv_iload_n hx hb dX2_goodWalls_17 rfl (lv_at hl 0 rfl) ?_
                          refine kc_i (wc := [(h0, .inr (2, [.int (nI 3), .int tn, .int sn, .ref ar])), (ar, .inl (cy 2, 3, .inr (.inr (.inr (.inr (va_up (va_up (va_up (fun _ => none) 0 (some c0)) 1 (some c1)) 2 (some c2))))))), (c0, .inr (0, [.int k0, .int s0, .ref r0])), (r0, .inl (cy 0, 6, .inl f0)), (c1, .inr (0, [.int k1, .int s1, .ref r1])), (r1, .inl (cy 0, 6, .inl f1)), (c2, .inr (0, [.int k2, .int s2, .ref r2])), (r2, .inl (cy 0, 6, .inl f2))]) (wr := []) (va_runV (As := [.int 3]) (rest := []) ⟨hx, hb, hml, hown, hts⟩ (g_X2_clashesOn l D cy H.size h0 ar c0 r0 c1 r1 c2 r2 3 tn sn k0 s0 k1 s1 k2 s2 f0 f1 f2 3 (by decide) (by decide)) (cwV 1 hts gX2_goodWalls_X2_clashesOn rfl rfl rfl hdc_X2_clashesOn ⟨Nat.le_of_ble_eq_true rfl, Nat.le_of_ble_eq_true rfl⟩) (cpre_V (wc := [(h0, .inr (2, [.int (nI 3), .int tn, .int sn, .ref ar])), (ar, .inl (cy 2, 3, .inr (.inr (.inr (.inr (va_up (va_up (va_up (fun _ => none) 0 (some c0)) 1 (some c1)) 2 (some c2))))))), (c0, .inr (0, [.int k0, .int s0, .ref r0])), (r0, .inl (cy 0, 6, .inl f0)), (c1, .inr (0, [.int k1, .int s1, .ref r1])), (r1, .inl (cy 0, 6, .inl f1)), (c2, .inr (0, [.int k2, .int s2, .ref r2])), (r2, .inl (cy 0, 6, .inl f2))]) 0 2 rfl rfl hX hP hD hS hA [0, 1, 2, 3, 4, 5, 6, 7] (by decide +kernel) rfl) rfl rfl hl.1 rfl (lv_room (Nat.le_of_ble_eq_true rfl)) dX2_goodWalls_18 ⟨Nat.le_of_ble_eq_true rfl, Nat.le_of_ble_eq_true rfl⟩) hP hD hS hA [0, 1, 2, 3, 4, 5, 6, 7] [] rfl rfl (by decide +kernel) (by decide +kernel) (fun ro u22 H locs hw hP hD hS => ?_)
                          obtain ⟨hu, hro⟩ := hw
                          subst hu
                          have hP : va_P D vwCl [(h0, .inr (2, [.int 3, .int tn, .int sn, .ref ar])), (ar, .inl (cy 2, 3, .inr (.inr (.inr (.inr (va_up (va_up (va_up (fun _ => none) 0 (some c0)) 1 (some c1)) 2 (some c2))))))), (c0, .inr (0, [.int k0, .int s0, .ref r0])), (r0, .inl (cy 0, 6, .inl f0)), (c1, .inr (0, [.int k1, .int s1, .ref r1])), (r1, .inl (cy 0, 6, .inl f1)), (c2, .inr (0, [.int k2, .int s2, .ref r2])), (r2, .inl (cy 0, 6, .inl f2))] H := hP
                          have hD : va_D A [(h0, .inr (2, [.int 3, .int tn, .int sn, .ref ar])), (ar, .inl (cy 2, 3, .inr (.inr (.inr (.inr (va_up (va_up (va_up (fun _ => none) 0 (some c0)) 1 (some c1)) 2 (some c2))))))), (c0, .inr (0, [.int k0, .int s0, .ref r0])), (r0, .inl (cy 0, 6, .inl f0)), (c1, .inr (0, [.int k1, .int s1, .ref r1])), (r1, .inl (cy 0, 6, .inl f1)), (c2, .inr (0, [.int k2, .int s2, .ref r2])), (r2, .inl (cy 0, 6, .inl f2))] := hD
                          subst hro
                          refine lv_if_ne (tgt := 27) hx hb dX2_goodWalls_21 (by decide) (fun c_21_3 => ?_) (fun c_21_3 => ?_)
                          · refine lv_iinc (v := 4) (lv' := [(2, .int 4), (1, .int 1), (0, .ref h0)]) hx hb dX2_goodWalls_27 hl (k := 0) rfl (by decide) (by decide) rfl (fun ls hl => ?_)
                            refine lv_goto (tgt := 4) hx hb dX2_goodWalls_30 (by decide) ?_
                            refine lv_iload_n hx hb dX2_goodWalls_4 rfl (lv_at hl 0 rfl) ?_
                            refine lv_iconst (v := 4) hx hb dX2_goodWalls_5 (by decide) ?_
                            refine lv_icmp_ge (tgt := 33) hx hb dX2_goodWalls_6 (by decide) (fun c_6 => ?_) (fun c_6 => ?_)
                            · refine lv_iload_n hx hb dX2_goodWalls_33 rfl (lv_at hl 1 rfl) ?_
                              have hP9 := hP.sub (ws' := [(h0, .inr (2, [.int (nI 3), .int tn, .int sn, .ref ar])), (ar, .inl (cy 2, 3, .inr (.inr (.inr (.inr (va_up (va_up (va_up (fun _ => none) 0 (some c0)) 1 (some c1)) 2 (some c2))))))), (c0, .inr (0, [.int k0, .int s0, .ref r0])), (r0, .inl (cy 0, 6, .inl f0)), (c1, .inr (0, [.int k1, .int s1, .ref r1])), (r1, .inl (cy 0, 6, .inl f1)), (c2, .inr (0, [.int k2, .int s2, .ref r2])), (r2, .inl (cy 0, 6, .inl f2))]) [0, 1, 2, 3, 4, 5, 6, 7] rfl
                              have hD9 := hD.sub (ws' := [(h0, .inr (2, [.int (nI 3), .int tn, .int sn, .ref ar])), (ar, .inl (cy 2, 3, .inr (.inr (.inr (.inr (va_up (va_up (va_up (fun _ => none) 0 (some c0)) 1 (some c1)) 2 (some c2))))))), (c0, .inr (0, [.int k0, .int s0, .ref r0])), (r0, .inl (cy 0, 6, .inl f0)), (c1, .inr (0, [.int k1, .int s1, .ref r1])), (r1, .inl (cy 0, 6, .inl f1)), (c2, .inr (0, [.int k2, .int s2, .ref r2])), (r2, .inl (cy 0, 6, .inl f2))]) [0, 1, 2, 3, 4, 5, 6, 7] (by decide +kernel) rfl
                              exact W.iret (v := 1) hx hb hr (fun t9 ht9 hW9 => ⟨⟨1, [(h0, .inr (2, [.int (nI 3), .int tn, .int sn, .ref ar])), (ar, .inl (cy 2, 3, .inr (.inr (.inr (.inr (va_up (va_up (va_up (fun _ => none) 0 (some c0)) 1 (some c1)) 2 (some c2))))))), (c0, .inr (0, [.int k0, .int s0, .ref r0])), (r0, .inl (cy 0, 6, .inl f0)), (c1, .inr (0, [.int k1, .int s1, .ref r1])), (r1, .inl (cy 0, 6, .inl f1)), (c2, .inr (0, [.int k2, .int s2, .ref r2])), (r2, .inl (cy 0, 6, .inl f2))], rfl, ⟨rfl, (congrArg nI (show 1 = g0 3 (clOn 3 f0 f1 f2 (2 + 0)) + g0 3 (clOn 3 f0 f1 f2 (2 + 1)) + g0 3 (clOn 3 f0 f1 f2 (2 + 2)) + g0 3 (clOn 3 f0 f1 f2 (2 + 3)) by rw [g00 (sz := 3) c_21_0, g01 (sz := 3) (by decide) (clOn_le _ _ _ _ _) c_21_1, g00 (sz := 3) c_21_2, g00 (sz := 3) c_21_3]))⟩, by rw [ht9]; exact hP9, hD9⟩, hS.F ht9⟩) hS.2.2 dX2_goodWalls_34
                            · exact absurd c_6 (by decide)
                          · refine lv_iinc (v := 2) (lv' := [(1, .int 2), (2, .int 3), (0, .ref h0)]) hx hb dX2_goodWalls_24 hl (k := 1) rfl (by decide) (by decide) rfl (fun ls hl => ?_)
                            refine lv_iinc (v := 4) (lv' := [(2, .int 4), (1, .int 2), (0, .ref h0)]) hx hb dX2_goodWalls_27 hl (k := 1) rfl (by decide) (by decide) rfl (fun ls hl => ?_)
                            refine lv_goto (tgt := 4) hx hb dX2_goodWalls_30 (by decide) ?_
                            refine lv_iload_n hx hb dX2_goodWalls_4 rfl (lv_at hl 0 rfl) ?_
                            refine lv_iconst (v := 4) hx hb dX2_goodWalls_5 (by decide) ?_
                            refine lv_icmp_ge (tgt := 33) hx hb dX2_goodWalls_6 (by decide) (fun c_6 => ?_) (fun c_6 => ?_)
                            · refine lv_iload_n hx hb dX2_goodWalls_33 rfl (lv_at hl 1 rfl) ?_
                              have hP9 := hP.sub (ws' := [(h0, .inr (2, [.int (nI 3), .int tn, .int sn, .ref ar])), (ar, .inl (cy 2, 3, .inr (.inr (.inr (.inr (va_up (va_up (va_up (fun _ => none) 0 (some c0)) 1 (some c1)) 2 (some c2))))))), (c0, .inr (0, [.int k0, .int s0, .ref r0])), (r0, .inl (cy 0, 6, .inl f0)), (c1, .inr (0, [.int k1, .int s1, .ref r1])), (r1, .inl (cy 0, 6, .inl f1)), (c2, .inr (0, [.int k2, .int s2, .ref r2])), (r2, .inl (cy 0, 6, .inl f2))]) [0, 1, 2, 3, 4, 5, 6, 7] rfl
                              have hD9 := hD.sub (ws' := [(h0, .inr (2, [.int (nI 3), .int tn, .int sn, .ref ar])), (ar, .inl (cy 2, 3, .inr (.inr (.inr (.inr (va_up (va_up (va_up (fun _ => none) 0 (some c0)) 1 (some c1)) 2 (some c2))))))), (c0, .inr (0, [.int k0, .int s0, .ref r0])), (r0, .inl (cy 0, 6, .inl f0)), (c1, .inr (0, [.int k1, .int s1, .ref r1])), (r1, .inl (cy 0, 6, .inl f1)), (c2, .inr (0, [.int k2, .int s2, .ref r2])), (r2, .inl (cy 0, 6, .inl f2))]) [0, 1, 2, 3, 4, 5, 6, 7] (by decide +kernel) rfl
                              exact W.iret (v := 2) hx hb hr (fun t9 ht9 hW9 => ⟨⟨2, [(h0, .inr (2, [.int (nI 3), .int tn, .int sn, .ref ar])), (ar, .inl (cy 2, 3, .inr (.inr (.inr (.inr (va_up (va_up (va_up (fun _ => none) 0 (some c0)) 1 (some c1)) 2 (some c2))))))), (c0, .inr (0, [.int k0, .int s0, .ref r0])), (r0, .inl (cy 0, 6, .inl f0)), (c1, .inr (0, [.int k1, .int s1, .ref r1])), (r1, .inl (cy 0, 6, .inl f1)), (c2, .inr (0, [.int k2, .int s2, .ref r2])), (r2, .inl (cy 0, 6, .inl f2))], rfl, ⟨rfl, (congrArg nI (show 2 = g0 3 (clOn 3 f0 f1 f2 (2 + 0)) + g0 3 (clOn 3 f0 f1 f2 (2 + 1)) + g0 3 (clOn 3 f0 f1 f2 (2 + 2)) + g0 3 (clOn 3 f0 f1 f2 (2 + 3)) by rw [g00 (sz := 3) c_21_0, g01 (sz := 3) (by decide) (clOn_le _ _ _ _ _) c_21_1, g00 (sz := 3) c_21_2, g01 (sz := 3) (by decide) (clOn_le _ _ _ _ _) c_21_3]))⟩, by rw [ht9]; exact hP9, hD9⟩, hS.F ht9⟩) hS.2.2 dX2_goodWalls_34
                            · exact absurd c_6 (by decide)
                    · refine lv_iinc (v := 2) (lv' := [(1, .int 2), (2, .int 2), (0, .ref h0)]) hx hb dX2_goodWalls_24 hl (k := 1) rfl (by decide) (by decide) rfl (fun ls hl => ?_)
                      refine lv_iinc (v := 3) (lv' := [(2, .int 3), (1, .int 2), (0, .ref h0)]) hx hb dX2_goodWalls_27 hl (k := 1) rfl (by decide) (by decide) rfl (fun ls hl => ?_)
                      refine lv_goto (tgt := 4) hx hb dX2_goodWalls_30 (by decide) ?_
                      refine lv_iload_n hx hb dX2_goodWalls_4 rfl (lv_at hl 0 rfl) ?_
                      refine lv_iconst (v := 4) hx hb dX2_goodWalls_5 (by decide) ?_
                      refine lv_icmp_ge (tgt := 33) hx hb dX2_goodWalls_6 (by decide) (fun c_6 => ?_) (fun c_6 => ?_)
                      · exact absurd c_6 (by decide)
                      · refine lv_aload_n hx hb dX2_goodWalls_9 rfl (lv_at hl 2 rfl) ?_
                        refine va_get (D := D) (ci := 2) (v := .int 3) (C := RX2) (T := TX2) (N := 4) hx hb hts hw_X2 hown hK hP 0 rfl rfl 0 (by decide) f_18 (fun _ h9 => h9) rfl dX2_goodWalls_10 ?_
                        refine lv_if_le (tgt := 33) hx hb dX2_goodWalls_13 (by decide) (fun c_13 => ?_) (fun c_13 => ?_)
                        · exact absurd c_13 (by decide)
                        · refine lv_aload_n hx hb dX2_goodWalls_16 rfl (lv_at hl 2 rfl) ?_
                          refine lv_iload_n hx hb dX2_goodWalls_17 rfl (lv_at hl 0 rfl) ?_
                          refine kc_i (wc := [(h0, .inr (2, [.int (nI 3), .int tn, .int sn, .ref ar])), (ar, .inl (cy 2, 3, .inr (.inr (.inr (.inr (va_up (va_up (va_up (fun _ => none) 0 (some c0)) 1 (some c1)) 2 (some c2))))))), (c0, .inr (0, [.int k0, .int s0, .ref r0])), (r0, .inl (cy 0, 6, .inl f0)), (c1, .inr (0, [.int k1, .int s1, .ref r1])), (r1, .inl (cy 0, 6, .inl f1)), (c2, .inr (0, [.int k2, .int s2, .ref r2])), (r2, .inl (cy 0, 6, .inl f2))]) (wr := []) (va_runV (As := [.int 3]) (rest := []) ⟨hx, hb, hml, hown, hts⟩ (g_X2_clashesOn l D cy H.size h0 ar c0 r0 c1 r1 c2 r2 3 tn sn k0 s0 k1 s1 k2 s2 f0 f1 f2 3 (by decide) (by decide)) (cwV 1 hts gX2_goodWalls_X2_clashesOn rfl rfl rfl hdc_X2_clashesOn ⟨Nat.le_of_ble_eq_true rfl, Nat.le_of_ble_eq_true rfl⟩) (cpre_V (wc := [(h0, .inr (2, [.int (nI 3), .int tn, .int sn, .ref ar])), (ar, .inl (cy 2, 3, .inr (.inr (.inr (.inr (va_up (va_up (va_up (fun _ => none) 0 (some c0)) 1 (some c1)) 2 (some c2))))))), (c0, .inr (0, [.int k0, .int s0, .ref r0])), (r0, .inl (cy 0, 6, .inl f0)), (c1, .inr (0, [.int k1, .int s1, .ref r1])), (r1, .inl (cy 0, 6, .inl f1)), (c2, .inr (0, [.int k2, .int s2, .ref r2])), (r2, .inl (cy 0, 6, .inl f2))]) 0 2 rfl rfl hX hP hD hS hA [0, 1, 2, 3, 4, 5, 6, 7] (by decide +kernel) rfl) rfl rfl hl.1 rfl (lv_room (Nat.le_of_ble_eq_true rfl)) dX2_goodWalls_18 ⟨Nat.le_of_ble_eq_true rfl, Nat.le_of_ble_eq_true rfl⟩) hP hD hS hA [0, 1, 2, 3, 4, 5, 6, 7] [] rfl rfl (by decide +kernel) (by decide +kernel) (fun ro u23 H locs hw hP hD hS => ?_)
                          obtain ⟨hu, hro⟩ := hw
                          subst hu
                          have hP : va_P D vwCl [(h0, .inr (2, [.int 3, .int tn, .int sn, .ref ar])), (ar, .inl (cy 2, 3, .inr (.inr (.inr (.inr (va_up (va_up (va_up (fun _ => none) 0 (some c0)) 1 (some c1)) 2 (some c2))))))), (c0, .inr (0, [.int k0, .int s0, .ref r0])), (r0, .inl (cy 0, 6, .inl f0)), (c1, .inr (0, [.int k1, .int s1, .ref r1])), (r1, .inl (cy 0, 6, .inl f1)), (c2, .inr (0, [.int k2, .int s2, .ref r2])), (r2, .inl (cy 0, 6, .inl f2))] H := hP
                          have hD : va_D A [(h0, .inr (2, [.int 3, .int tn, .int sn, .ref ar])), (ar, .inl (cy 2, 3, .inr (.inr (.inr (.inr (va_up (va_up (va_up (fun _ => none) 0 (some c0)) 1 (some c1)) 2 (some c2))))))), (c0, .inr (0, [.int k0, .int s0, .ref r0])), (r0, .inl (cy 0, 6, .inl f0)), (c1, .inr (0, [.int k1, .int s1, .ref r1])), (r1, .inl (cy 0, 6, .inl f1)), (c2, .inr (0, [.int k2, .int s2, .ref r2])), (r2, .inl (cy 0, 6, .inl f2))] := hD
                          subst hro
                          refine lv_if_ne (tgt := 27) hx hb dX2_goodWalls_21 (by decide) (fun c_21_3 => ?_) (fun c_21_3 => ?_)
                          · refine lv_iinc (v := 4) (lv' := [(2, .int 4), (1, .int 2), (0, .ref h0)]) hx hb dX2_goodWalls_27 hl (k := 0) rfl (by decide) (by decide) rfl (fun ls hl => ?_)
                            refine lv_goto (tgt := 4) hx hb dX2_goodWalls_30 (by decide) ?_
                            refine lv_iload_n hx hb dX2_goodWalls_4 rfl (lv_at hl 0 rfl) ?_
                            refine lv_iconst (v := 4) hx hb dX2_goodWalls_5 (by decide) ?_
                            refine lv_icmp_ge (tgt := 33) hx hb dX2_goodWalls_6 (by decide) (fun c_6 => ?_) (fun c_6 => ?_)
                            · refine lv_iload_n hx hb dX2_goodWalls_33 rfl (lv_at hl 1 rfl) ?_
                              have hP9 := hP.sub (ws' := [(h0, .inr (2, [.int (nI 3), .int tn, .int sn, .ref ar])), (ar, .inl (cy 2, 3, .inr (.inr (.inr (.inr (va_up (va_up (va_up (fun _ => none) 0 (some c0)) 1 (some c1)) 2 (some c2))))))), (c0, .inr (0, [.int k0, .int s0, .ref r0])), (r0, .inl (cy 0, 6, .inl f0)), (c1, .inr (0, [.int k1, .int s1, .ref r1])), (r1, .inl (cy 0, 6, .inl f1)), (c2, .inr (0, [.int k2, .int s2, .ref r2])), (r2, .inl (cy 0, 6, .inl f2))]) [0, 1, 2, 3, 4, 5, 6, 7] rfl
                              have hD9 := hD.sub (ws' := [(h0, .inr (2, [.int (nI 3), .int tn, .int sn, .ref ar])), (ar, .inl (cy 2, 3, .inr (.inr (.inr (.inr (va_up (va_up (va_up (fun _ => none) 0 (some c0)) 1 (some c1)) 2 (some c2))))))), (c0, .inr (0, [.int k0, .int s0, .ref r0])), (r0, .inl (cy 0, 6, .inl f0)), (c1, .inr (0, [.int k1, .int s1, .ref r1])), (r1, .inl (cy 0, 6, .inl f1)), (c2, .inr (0, [.int k2, .int s2, .ref r2])), (r2, .inl (cy 0, 6, .inl f2))]) [0, 1, 2, 3, 4, 5, 6, 7] (by decide +kernel) rfl
                              exact W.iret (v := 2) hx hb hr (fun t9 ht9 hW9 => ⟨⟨2, [(h0, .inr (2, [.int (nI 3), .int tn, .int sn, .ref ar])), (ar, .inl (cy 2, 3, .inr (.inr (.inr (.inr (va_up (va_up (va_up (fun _ => none) 0 (some c0)) 1 (some c1)) 2 (some c2))))))), (c0, .inr (0, [.int k0, .int s0, .ref r0])), (r0, .inl (cy 0, 6, .inl f0)), (c1, .inr (0, [.int k1, .int s1, .ref r1])), (r1, .inl (cy 0, 6, .inl f1)), (c2, .inr (0, [.int k2, .int s2, .ref r2])), (r2, .inl (cy 0, 6, .inl f2))], rfl, ⟨rfl, (congrArg nI (show 2 = g0 3 (clOn 3 f0 f1 f2 (2 + 0)) + g0 3 (clOn 3 f0 f1 f2 (2 + 1)) + g0 3 (clOn 3 f0 f1 f2 (2 + 2)) + g0 3 (clOn 3 f0 f1 f2 (2 + 3)) by rw [g00 (sz := 3) c_21_0, g01 (sz := 3) (by decide) (clOn_le _ _ _ _ _) c_21_1, g01 (sz := 3) (by decide) (clOn_le _ _ _ _ _) c_21_2, g00 (sz := 3) c_21_3]))⟩, by rw [ht9]; exact hP9, hD9⟩, hS.F ht9⟩) hS.2.2 dX2_goodWalls_34
                            · exact absurd c_6 (by decide)
                          · refine lv_iinc (v := 3) (lv' := [(1, .int 3), (2, .int 3), (0, .ref h0)]) hx hb dX2_goodWalls_24 hl (k := 1) rfl (by decide) (by decide) rfl (fun ls hl => ?_)
                            refine lv_iinc (v := 4) (lv' := [(2, .int 4), (1, .int 3), (0, .ref h0)]) hx hb dX2_goodWalls_27 hl (k := 1) rfl (by decide) (by decide) rfl (fun ls hl => ?_)
                            refine lv_goto (tgt := 4) hx hb dX2_goodWalls_30 (by decide) ?_
                            refine lv_iload_n hx hb dX2_goodWalls_4 rfl (lv_at hl 0 rfl) ?_
                            refine lv_iconst (v := 4) hx hb dX2_goodWalls_5 (by decide) ?_
                            refine lv_icmp_ge (tgt := 33) hx hb dX2_goodWalls_6 (by decide) (fun c_6 => ?_) (fun c_6 => ?_)
                            · refine lv_iload_n hx hb dX2_goodWalls_33 rfl (lv_at hl 1 rfl) ?_
                              have hP9 := hP.sub (ws' := [(h0, .inr (2, [.int (nI 3), .int tn, .int sn, .ref ar])), (ar, .inl (cy 2, 3, .inr (.inr (.inr (.inr (va_up (va_up (va_up (fun _ => none) 0 (some c0)) 1 (some c1)) 2 (some c2))))))), (c0, .inr (0, [.int k0, .int s0, .ref r0])), (r0, .inl (cy 0, 6, .inl f0)), (c1, .inr (0, [.int k1, .int s1, .ref r1])), (r1, .inl (cy 0, 6, .inl f1)), (c2, .inr (0, [.int k2, .int s2, .ref r2])), (r2, .inl (cy 0, 6, .inl f2))]) [0, 1, 2, 3, 4, 5, 6, 7] rfl
                              have hD9 := hD.sub (ws' := [(h0, .inr (2, [.int (nI 3), .int tn, .int sn, .ref ar])), (ar, .inl (cy 2, 3, .inr (.inr (.inr (.inr (va_up (va_up (va_up (fun _ => none) 0 (some c0)) 1 (some c1)) 2 (some c2))))))), (c0, .inr (0, [.int k0, .int s0, .ref r0])), (r0, .inl (cy 0, 6, .inl f0)), (c1, .inr (0, [.int k1, .int s1, .ref r1])), (r1, .inl (cy 0, 6, .inl f1)), (c2, .inr (0, [.int k2, .int s2, .ref r2])), (r2, .inl (cy 0, 6, .inl f2))]) [0, 1, 2, 3, 4, 5, 6, 7] (by decide +kernel) rfl
                              exact W.iret (v := 3) hx hb hr (fun t9 ht9 hW9 => ⟨⟨3, [(h0, .inr (2, [.int (nI 3), .int tn, .int sn, .ref ar])), (ar, .inl (cy 2, 3, .inr (.inr (.inr (.inr (va_up (va_up (va_up (fun _ => none) 0 (some c0)) 1 (some c1)) 2 (some c2))))))), (c0, .inr (0, [.int k0, .int s0, .ref r0])), (r0, .inl (cy 0, 6, .inl f0)), (c1, .inr (0, [.int k1, .int s1, .ref r1])), (r1, .inl (cy 0, 6, .inl f1)), (c2, .inr (0, [.int k2, .int s2, .ref r2])), (r2, .inl (cy 0, 6, .inl f2))], rfl, ⟨rfl, (congrArg nI (show 3 = g0 3 (clOn 3 f0 f1 f2 (2 + 0)) + g0 3 (clOn 3 f0 f1 f2 (2 + 1)) + g0 3 (clOn 3 f0 f1 f2 (2 + 2)) + g0 3 (clOn 3 f0 f1 f2 (2 + 3)) by rw [g00 (sz := 3) c_21_0, g01 (sz := 3) (by decide) (clOn_le _ _ _ _ _) c_21_1, g01 (sz := 3) (by decide) (clOn_le _ _ _ _ _) c_21_2, g01 (sz := 3) (by decide) (clOn_le _ _ _ _ _) c_21_3]))⟩, by rw [ht9]; exact hP9, hD9⟩, hS.F ht9⟩) hS.2.2 dX2_goodWalls_34
                            · exact absurd c_6 (by decide)
        · refine lv_iinc (v := 1) (lv' := [(1, .int 1), (2, .int 0), (0, .ref h0)]) hx hb dX2_goodWalls_24 hl (k := 1) rfl (by decide) (by decide) rfl (fun ls hl => ?_)
          refine lv_iinc (v := 1) (lv' := [(2, .int 1), (1, .int 1), (0, .ref h0)]) hx hb dX2_goodWalls_27 hl (k := 1) rfl (by decide) (by decide) rfl (fun ls hl => ?_)
          refine lv_goto (tgt := 4) hx hb dX2_goodWalls_30 (by decide) ?_
          refine lv_iload_n hx hb dX2_goodWalls_4 rfl (lv_at hl 0 rfl) ?_
          refine lv_iconst (v := 4) hx hb dX2_goodWalls_5 (by decide) ?_
          refine lv_icmp_ge (tgt := 33) hx hb dX2_goodWalls_6 (by decide) (fun c_6 => ?_) (fun c_6 => ?_)
          · exact absurd c_6 (by decide)
          · refine lv_aload_n hx hb dX2_goodWalls_9 rfl (lv_at hl 2 rfl) ?_
            refine va_get (D := D) (ci := 2) (v := .int 3) (C := RX2) (T := TX2) (N := 4) hx hb hts hw_X2 hown hK hP 0 rfl rfl 0 (by decide) f_18 (fun _ h9 => h9) rfl dX2_goodWalls_10 ?_
            refine lv_if_le (tgt := 33) hx hb dX2_goodWalls_13 (by decide) (fun c_13 => ?_) (fun c_13 => ?_)
            · exact absurd c_13 (by decide)
            · refine lv_aload_n hx hb dX2_goodWalls_16 rfl (lv_at hl 2 rfl) ?_
              refine lv_iload_n hx hb dX2_goodWalls_17 rfl (lv_at hl 0 rfl) ?_
              refine kc_i (wc := [(h0, .inr (2, [.int (nI 3), .int tn, .int sn, .ref ar])), (ar, .inl (cy 2, 3, .inr (.inr (.inr (.inr (va_up (va_up (va_up (fun _ => none) 0 (some c0)) 1 (some c1)) 2 (some c2))))))), (c0, .inr (0, [.int k0, .int s0, .ref r0])), (r0, .inl (cy 0, 6, .inl f0)), (c1, .inr (0, [.int k1, .int s1, .ref r1])), (r1, .inl (cy 0, 6, .inl f1)), (c2, .inr (0, [.int k2, .int s2, .ref r2])), (r2, .inl (cy 0, 6, .inl f2))]) (wr := []) (va_runV (As := [.int 1]) (rest := []) ⟨hx, hb, hml, hown, hts⟩ (g_X2_clashesOn l D cy H.size h0 ar c0 r0 c1 r1 c2 r2 3 tn sn k0 s0 k1 s1 k2 s2 f0 f1 f2 1 (by decide) (by decide)) (cwV 1 hts gX2_goodWalls_X2_clashesOn rfl rfl rfl hdc_X2_clashesOn ⟨Nat.le_of_ble_eq_true rfl, Nat.le_of_ble_eq_true rfl⟩) (cpre_V (wc := [(h0, .inr (2, [.int (nI 3), .int tn, .int sn, .ref ar])), (ar, .inl (cy 2, 3, .inr (.inr (.inr (.inr (va_up (va_up (va_up (fun _ => none) 0 (some c0)) 1 (some c1)) 2 (some c2))))))), (c0, .inr (0, [.int k0, .int s0, .ref r0])), (r0, .inl (cy 0, 6, .inl f0)), (c1, .inr (0, [.int k1, .int s1, .ref r1])), (r1, .inl (cy 0, 6, .inl f1)), (c2, .inr (0, [.int k2, .int s2, .ref r2])), (r2, .inl (cy 0, 6, .inl f2))]) 0 2 rfl rfl hX hP hD hS hA [0, 1, 2, 3, 4, 5, 6, 7] (by decide +kernel) rfl) rfl rfl hl.1 rfl (lv_room (Nat.le_of_ble_eq_true rfl)) dX2_goodWalls_18 ⟨Nat.le_of_ble_eq_true rfl, Nat.le_of_ble_eq_true rfl⟩) hP hD hS hA [0, 1, 2, 3, 4, 5, 6, 7] [] rfl rfl (by decide +kernel) (by decide +kernel) (fun ro u24 H locs hw hP hD hS => ?_)
              obtain ⟨hu, hro⟩ := hw
              subst hu
              have hP : va_P D vwCl [(h0, .inr (2, [.int 3, .int tn, .int sn, .ref ar])), (ar, .inl (cy 2, 3, .inr (.inr (.inr (.inr (va_up (va_up (va_up (fun _ => none) 0 (some c0)) 1 (some c1)) 2 (some c2))))))), (c0, .inr (0, [.int k0, .int s0, .ref r0])), (r0, .inl (cy 0, 6, .inl f0)), (c1, .inr (0, [.int k1, .int s1, .ref r1])), (r1, .inl (cy 0, 6, .inl f1)), (c2, .inr (0, [.int k2, .int s2, .ref r2])), (r2, .inl (cy 0, 6, .inl f2))] H := hP
              have hD : va_D A [(h0, .inr (2, [.int 3, .int tn, .int sn, .ref ar])), (ar, .inl (cy 2, 3, .inr (.inr (.inr (.inr (va_up (va_up (va_up (fun _ => none) 0 (some c0)) 1 (some c1)) 2 (some c2))))))), (c0, .inr (0, [.int k0, .int s0, .ref r0])), (r0, .inl (cy 0, 6, .inl f0)), (c1, .inr (0, [.int k1, .int s1, .ref r1])), (r1, .inl (cy 0, 6, .inl f1)), (c2, .inr (0, [.int k2, .int s2, .ref r2])), (r2, .inl (cy 0, 6, .inl f2))] := hD
              subst hro
              refine lv_if_ne (tgt := 27) hx hb dX2_goodWalls_21 (by decide) (fun c_21_1 => ?_) (fun c_21_1 => ?_)
              · refine lv_iinc (v := 2) (lv' := [(2, .int 2), (1, .int 1), (0, .ref h0)]) hx hb dX2_goodWalls_27 hl (k := 0) rfl (by decide) (by decide) rfl (fun ls hl => ?_)
                refine lv_goto (tgt := 4) hx hb dX2_goodWalls_30 (by decide) ?_
                refine lv_iload_n hx hb dX2_goodWalls_4 rfl (lv_at hl 0 rfl) ?_
                refine lv_iconst (v := 4) hx hb dX2_goodWalls_5 (by decide) ?_
                refine lv_icmp_ge (tgt := 33) hx hb dX2_goodWalls_6 (by decide) (fun c_6 => ?_) (fun c_6 => ?_)
                · exact absurd c_6 (by decide)
                · refine lv_aload_n hx hb dX2_goodWalls_9 rfl (lv_at hl 2 rfl) ?_
                  refine va_get (D := D) (ci := 2) (v := .int 3) (C := RX2) (T := TX2) (N := 4) hx hb hts hw_X2 hown hK hP 0 rfl rfl 0 (by decide) f_18 (fun _ h9 => h9) rfl dX2_goodWalls_10 ?_
                  refine lv_if_le (tgt := 33) hx hb dX2_goodWalls_13 (by decide) (fun c_13 => ?_) (fun c_13 => ?_)
                  · exact absurd c_13 (by decide)
                  · refine lv_aload_n hx hb dX2_goodWalls_16 rfl (lv_at hl 2 rfl) ?_
                    refine lv_iload_n hx hb dX2_goodWalls_17 rfl (lv_at hl 0 rfl) ?_
                    refine kc_i (wc := [(h0, .inr (2, [.int (nI 3), .int tn, .int sn, .ref ar])), (ar, .inl (cy 2, 3, .inr (.inr (.inr (.inr (va_up (va_up (va_up (fun _ => none) 0 (some c0)) 1 (some c1)) 2 (some c2))))))), (c0, .inr (0, [.int k0, .int s0, .ref r0])), (r0, .inl (cy 0, 6, .inl f0)), (c1, .inr (0, [.int k1, .int s1, .ref r1])), (r1, .inl (cy 0, 6, .inl f1)), (c2, .inr (0, [.int k2, .int s2, .ref r2])), (r2, .inl (cy 0, 6, .inl f2))]) (wr := []) (va_runV (As := [.int 2]) (rest := []) ⟨hx, hb, hml, hown, hts⟩ (g_X2_clashesOn l D cy H.size h0 ar c0 r0 c1 r1 c2 r2 3 tn sn k0 s0 k1 s1 k2 s2 f0 f1 f2 2 (by decide) (by decide)) (cwV 1 hts gX2_goodWalls_X2_clashesOn rfl rfl rfl hdc_X2_clashesOn ⟨Nat.le_of_ble_eq_true rfl, Nat.le_of_ble_eq_true rfl⟩) (cpre_V (wc := [(h0, .inr (2, [.int (nI 3), .int tn, .int sn, .ref ar])), (ar, .inl (cy 2, 3, .inr (.inr (.inr (.inr (va_up (va_up (va_up (fun _ => none) 0 (some c0)) 1 (some c1)) 2 (some c2))))))), (c0, .inr (0, [.int k0, .int s0, .ref r0])), (r0, .inl (cy 0, 6, .inl f0)), (c1, .inr (0, [.int k1, .int s1, .ref r1])), (r1, .inl (cy 0, 6, .inl f1)), (c2, .inr (0, [.int k2, .int s2, .ref r2])), (r2, .inl (cy 0, 6, .inl f2))]) 0 2 rfl rfl hX hP hD hS hA [0, 1, 2, 3, 4, 5, 6, 7] (by decide +kernel) rfl) rfl rfl hl.1 rfl (lv_room (Nat.le_of_ble_eq_true rfl)) dX2_goodWalls_18 ⟨Nat.le_of_ble_eq_true rfl, Nat.le_of_ble_eq_true rfl⟩) hP hD hS hA [0, 1, 2, 3, 4, 5, 6, 7] [] rfl rfl (by decide +kernel) (by decide +kernel) (fun ro u25 H locs hw hP hD hS => ?_)
                    obtain ⟨hu, hro⟩ := hw
                    subst hu
                    have hP : va_P D vwCl [(h0, .inr (2, [.int 3, .int tn, .int sn, .ref ar])), (ar, .inl (cy 2, 3, .inr (.inr (.inr (.inr (va_up (va_up (va_up (fun _ => none) 0 (some c0)) 1 (some c1)) 2 (some c2))))))), (c0, .inr (0, [.int k0, .int s0, .ref r0])), (r0, .inl (cy 0, 6, .inl f0)), (c1, .inr (0, [.int k1, .int s1, .ref r1])), (r1, .inl (cy 0, 6, .inl f1)), (c2, .inr (0, [.int k2, .int s2, .ref r2])), (r2, .inl (cy 0, 6, .inl f2))] H := hP
                    have hD : va_D A [(h0, .inr (2, [.int 3, .int tn, .int sn, .ref ar])), (ar, .inl (cy 2, 3, .inr (.inr (.inr (.inr (va_up (va_up (va_up (fun _ => none) 0 (some c0)) 1 (some c1)) 2 (some c2))))))), (c0, .inr (0, [.int k0, .int s0, .ref r0])), (r0, .inl (cy 0, 6, .inl f0)), (c1, .inr (0, [.int k1, .int s1, .ref r1])), (r1, .inl (cy 0, 6, .inl f1)), (c2, .inr (0, [.int k2, .int s2, .ref r2])), (r2, .inl (cy 0, 6, .inl f2))] := hD
                    subst hro
                    refine lv_if_ne (tgt := 27) hx hb dX2_goodWalls_21 (by decide) (fun c_21_2 => ?_) (fun c_21_2 => ?_)
                    · refine lv_iinc (v := 3) (lv' := [(2, .int 3), (1, .int 1), (0, .ref h0)]) hx hb dX2_goodWalls_27 hl (k := 0) rfl (by decide) (by decide) rfl (fun ls hl => ?_)
                      refine lv_goto (tgt := 4) hx hb dX2_goodWalls_30 (by decide) ?_
                      refine lv_iload_n hx hb dX2_goodWalls_4 rfl (lv_at hl 0 rfl) ?_
                      refine lv_iconst (v := 4) hx hb dX2_goodWalls_5 (by decide) ?_
                      refine lv_icmp_ge (tgt := 33) hx hb dX2_goodWalls_6 (by decide) (fun c_6 => ?_) (fun c_6 => ?_)
                      · exact absurd c_6 (by decide)
                      · refine lv_aload_n hx hb dX2_goodWalls_9 rfl (lv_at hl 2 rfl) ?_
                        refine va_get (D := D) (ci := 2) (v := .int 3) (C := RX2) (T := TX2) (N := 4) hx hb hts hw_X2 hown hK hP 0 rfl rfl 0 (by decide) f_18 (fun _ h9 => h9) rfl dX2_goodWalls_10 ?_
                        refine lv_if_le (tgt := 33) hx hb dX2_goodWalls_13 (by decide) (fun c_13 => ?_) (fun c_13 => ?_)
                        · exact absurd c_13 (by decide)
                        · refine lv_aload_n hx hb dX2_goodWalls_16 rfl (lv_at hl 2 rfl) ?_
                          refine lv_iload_n hx hb dX2_goodWalls_17 rfl (lv_at hl 0 rfl) ?_
                          refine kc_i (wc := [(h0, .inr (2, [.int (nI 3), .int tn, .int sn, .ref ar])), (ar, .inl (cy 2, 3, .inr (.inr (.inr (.inr (va_up (va_up (va_up (fun _ => none) 0 (some c0)) 1 (some c1)) 2 (some c2))))))), (c0, .inr (0, [.int k0, .int s0, .ref r0])), (r0, .inl (cy 0, 6, .inl f0)), (c1, .inr (0, [.int k1, .int s1, .ref r1])), (r1, .inl (cy 0, 6, .inl f1)), (c2, .inr (0, [.int k2, .int s2, .ref r2])), (r2, .inl (cy 0, 6, .inl f2))]) (wr := []) (va_runV (As := [.int 3]) (rest := []) ⟨hx, hb, hml, hown, hts⟩ (g_X2_clashesOn l D cy H.size h0 ar c0 r0 c1 r1 c2 r2 3 tn sn k0 s0 k1 s1 k2 s2 f0 f1 f2 3 (by decide) (by decide)) (cwV 1 hts gX2_goodWalls_X2_clashesOn rfl rfl rfl hdc_X2_clashesOn ⟨Nat.le_of_ble_eq_true rfl, Nat.le_of_ble_eq_true rfl⟩) (cpre_V (wc := [(h0, .inr (2, [.int (nI 3), .int tn, .int sn, .ref ar])), (ar, .inl (cy 2, 3, .inr (.inr (.inr (.inr (va_up (va_up (va_up (fun _ => none) 0 (some c0)) 1 (some c1)) 2 (some c2))))))), (c0, .inr (0, [.int k0, .int s0, .ref r0])), (r0, .inl (cy 0, 6, .inl f0)), (c1, .inr (0, [.int k1, .int s1, .ref r1])), (r1, .inl (cy 0, 6, .inl f1)), (c2, .inr (0, [.int k2, .int s2, .ref r2])), (r2, .inl (cy 0, 6, .inl f2))]) 0 2 rfl rfl hX hP hD hS hA [0, 1, 2, 3, 4, 5, 6, 7] (by decide +kernel) rfl) rfl rfl hl.1 rfl (lv_room (Nat.le_of_ble_eq_true rfl)) dX2_goodWalls_18 ⟨Nat.le_of_ble_eq_true rfl, Nat.le_of_ble_eq_true rfl⟩) hP hD hS hA [0, 1, 2, 3, 4, 5, 6, 7] [] rfl rfl (by decide +kernel) (by decide +kernel) (fun ro u26 H locs hw hP hD hS => ?_)
                          obtain ⟨hu, hro⟩ := hw
                          subst hu
                          have hP : va_P D vwCl [(h0, .inr (2, [.int 3, .int tn, .int sn, .ref ar])), (ar, .inl (cy 2, 3, .inr (.inr (.inr (.inr (va_up (va_up (va_up (fun _ => none) 0 (some c0)) 1 (some c1)) 2 (some c2))))))), (c0, .inr (0, [.int k0, .int s0, .ref r0])), (r0, .inl (cy 0, 6, .inl f0)), (c1, .inr (0, [.int k1, .int s1, .ref r1])), (r1, .inl (cy 0, 6, .inl f1)), (c2, .inr (0, [.int k2, .int s2, .ref r2])), (r2, .inl (cy 0, 6, .inl f2))] H := hP
                          have hD : va_D A [(h0, .inr (2, [.int 3, .int tn, .int sn, .ref ar])), (ar, .inl (cy 2, 3, .inr (.inr (.inr (.inr (va_up (va_up (va_up (fun _ => none) 0 (some c0)) 1 (some c1)) 2 (some c2))))))), (c0, .inr (0, [.int k0, .int s0, .ref r0])), (r0, .inl (cy 0, 6, .inl f0)), (c1, .inr (0, [.int k1, .int s1, .ref r1])), (r1, .inl (cy 0, 6, .inl f1)), (c2, .inr (0, [.int k2, .int s2, .ref r2])), (r2, .inl (cy 0, 6, .inl f2))] := hD
                          subst hro
                          refine lv_if_ne (tgt := 27) hx hb dX2_goodWalls_21 (by decide) (fun c_21_3 => ?_) (fun c_21_3 => ?_)
                          · refine lv_iinc (v := 4) (lv' := [(2, .int 4), (1, .int 1), (0, .ref h0)]) hx hb dX2_goodWalls_27 hl (k := 0) rfl (by decide) (by decide) rfl (fun ls hl => ?_)
                            refine lv_goto (tgt := 4) hx hb dX2_goodWalls_30 (by decide) ?_
                            refine lv_iload_n hx hb dX2_goodWalls_4 rfl (lv_at hl 0 rfl) ?_
                            refine lv_iconst (v := 4) hx hb dX2_goodWalls_5 (by decide) ?_
                            refine lv_icmp_ge (tgt := 33) hx hb dX2_goodWalls_6 (by decide) (fun c_6 => ?_) (fun c_6 => ?_)
                            · refine lv_iload_n hx hb dX2_goodWalls_33 rfl (lv_at hl 1 rfl) ?_
                              have hP9 := hP.sub (ws' := [(h0, .inr (2, [.int (nI 3), .int tn, .int sn, .ref ar])), (ar, .inl (cy 2, 3, .inr (.inr (.inr (.inr (va_up (va_up (va_up (fun _ => none) 0 (some c0)) 1 (some c1)) 2 (some c2))))))), (c0, .inr (0, [.int k0, .int s0, .ref r0])), (r0, .inl (cy 0, 6, .inl f0)), (c1, .inr (0, [.int k1, .int s1, .ref r1])), (r1, .inl (cy 0, 6, .inl f1)), (c2, .inr (0, [.int k2, .int s2, .ref r2])), (r2, .inl (cy 0, 6, .inl f2))]) [0, 1, 2, 3, 4, 5, 6, 7] rfl
                              have hD9 := hD.sub (ws' := [(h0, .inr (2, [.int (nI 3), .int tn, .int sn, .ref ar])), (ar, .inl (cy 2, 3, .inr (.inr (.inr (.inr (va_up (va_up (va_up (fun _ => none) 0 (some c0)) 1 (some c1)) 2 (some c2))))))), (c0, .inr (0, [.int k0, .int s0, .ref r0])), (r0, .inl (cy 0, 6, .inl f0)), (c1, .inr (0, [.int k1, .int s1, .ref r1])), (r1, .inl (cy 0, 6, .inl f1)), (c2, .inr (0, [.int k2, .int s2, .ref r2])), (r2, .inl (cy 0, 6, .inl f2))]) [0, 1, 2, 3, 4, 5, 6, 7] (by decide +kernel) rfl
                              exact W.iret (v := 1) hx hb hr (fun t9 ht9 hW9 => ⟨⟨1, [(h0, .inr (2, [.int (nI 3), .int tn, .int sn, .ref ar])), (ar, .inl (cy 2, 3, .inr (.inr (.inr (.inr (va_up (va_up (va_up (fun _ => none) 0 (some c0)) 1 (some c1)) 2 (some c2))))))), (c0, .inr (0, [.int k0, .int s0, .ref r0])), (r0, .inl (cy 0, 6, .inl f0)), (c1, .inr (0, [.int k1, .int s1, .ref r1])), (r1, .inl (cy 0, 6, .inl f1)), (c2, .inr (0, [.int k2, .int s2, .ref r2])), (r2, .inl (cy 0, 6, .inl f2))], rfl, ⟨rfl, (congrArg nI (show 1 = g0 3 (clOn 3 f0 f1 f2 (2 + 0)) + g0 3 (clOn 3 f0 f1 f2 (2 + 1)) + g0 3 (clOn 3 f0 f1 f2 (2 + 2)) + g0 3 (clOn 3 f0 f1 f2 (2 + 3)) by rw [g01 (sz := 3) (by decide) (clOn_le _ _ _ _ _) c_21_0, g00 (sz := 3) c_21_1, g00 (sz := 3) c_21_2, g00 (sz := 3) c_21_3]))⟩, by rw [ht9]; exact hP9, hD9⟩, hS.F ht9⟩) hS.2.2 dX2_goodWalls_34
                            · exact absurd c_6 (by decide)
                          · refine lv_iinc (v := 2) (lv' := [(1, .int 2), (2, .int 3), (0, .ref h0)]) hx hb dX2_goodWalls_24 hl (k := 1) rfl (by decide) (by decide) rfl (fun ls hl => ?_)
                            refine lv_iinc (v := 4) (lv' := [(2, .int 4), (1, .int 2), (0, .ref h0)]) hx hb dX2_goodWalls_27 hl (k := 1) rfl (by decide) (by decide) rfl (fun ls hl => ?_)
                            refine lv_goto (tgt := 4) hx hb dX2_goodWalls_30 (by decide) ?_
                            refine lv_iload_n hx hb dX2_goodWalls_4 rfl (lv_at hl 0 rfl) ?_
                            refine lv_iconst (v := 4) hx hb dX2_goodWalls_5 (by decide) ?_
                            refine lv_icmp_ge (tgt := 33) hx hb dX2_goodWalls_6 (by decide) (fun c_6 => ?_) (fun c_6 => ?_)
                            · refine lv_iload_n hx hb dX2_goodWalls_33 rfl (lv_at hl 1 rfl) ?_
                              have hP9 := hP.sub (ws' := [(h0, .inr (2, [.int (nI 3), .int tn, .int sn, .ref ar])), (ar, .inl (cy 2, 3, .inr (.inr (.inr (.inr (va_up (va_up (va_up (fun _ => none) 0 (some c0)) 1 (some c1)) 2 (some c2))))))), (c0, .inr (0, [.int k0, .int s0, .ref r0])), (r0, .inl (cy 0, 6, .inl f0)), (c1, .inr (0, [.int k1, .int s1, .ref r1])), (r1, .inl (cy 0, 6, .inl f1)), (c2, .inr (0, [.int k2, .int s2, .ref r2])), (r2, .inl (cy 0, 6, .inl f2))]) [0, 1, 2, 3, 4, 5, 6, 7] rfl
                              have hD9 := hD.sub (ws' := [(h0, .inr (2, [.int (nI 3), .int tn, .int sn, .ref ar])), (ar, .inl (cy 2, 3, .inr (.inr (.inr (.inr (va_up (va_up (va_up (fun _ => none) 0 (some c0)) 1 (some c1)) 2 (some c2))))))), (c0, .inr (0, [.int k0, .int s0, .ref r0])), (r0, .inl (cy 0, 6, .inl f0)), (c1, .inr (0, [.int k1, .int s1, .ref r1])), (r1, .inl (cy 0, 6, .inl f1)), (c2, .inr (0, [.int k2, .int s2, .ref r2])), (r2, .inl (cy 0, 6, .inl f2))]) [0, 1, 2, 3, 4, 5, 6, 7] (by decide +kernel) rfl
                              exact W.iret (v := 2) hx hb hr (fun t9 ht9 hW9 => ⟨⟨2, [(h0, .inr (2, [.int (nI 3), .int tn, .int sn, .ref ar])), (ar, .inl (cy 2, 3, .inr (.inr (.inr (.inr (va_up (va_up (va_up (fun _ => none) 0 (some c0)) 1 (some c1)) 2 (some c2))))))), (c0, .inr (0, [.int k0, .int s0, .ref r0])), (r0, .inl (cy 0, 6, .inl f0)), (c1, .inr (0, [.int k1, .int s1, .ref r1])), (r1, .inl (cy 0, 6, .inl f1)), (c2, .inr (0, [.int k2, .int s2, .ref r2])), (r2, .inl (cy 0, 6, .inl f2))], rfl, ⟨rfl, (congrArg nI (show 2 = g0 3 (clOn 3 f0 f1 f2 (2 + 0)) + g0 3 (clOn 3 f0 f1 f2 (2 + 1)) + g0 3 (clOn 3 f0 f1 f2 (2 + 2)) + g0 3 (clOn 3 f0 f1 f2 (2 + 3)) by rw [g01 (sz := 3) (by decide) (clOn_le _ _ _ _ _) c_21_0, g00 (sz := 3) c_21_1, g00 (sz := 3) c_21_2, g01 (sz := 3) (by decide) (clOn_le _ _ _ _ _) c_21_3]))⟩, by rw [ht9]; exact hP9, hD9⟩, hS.F ht9⟩) hS.2.2 dX2_goodWalls_34
                            · exact absurd c_6 (by decide)
                    · refine lv_iinc (v := 2) (lv' := [(1, .int 2), (2, .int 2), (0, .ref h0)]) hx hb dX2_goodWalls_24 hl (k := 1) rfl (by decide) (by decide) rfl (fun ls hl => ?_)
                      refine lv_iinc (v := 3) (lv' := [(2, .int 3), (1, .int 2), (0, .ref h0)]) hx hb dX2_goodWalls_27 hl (k := 1) rfl (by decide) (by decide) rfl (fun ls hl => ?_)
                      refine lv_goto (tgt := 4) hx hb dX2_goodWalls_30 (by decide) ?_
                      refine lv_iload_n hx hb dX2_goodWalls_4 rfl (lv_at hl 0 rfl) ?_
                      refine lv_iconst (v := 4) hx hb dX2_goodWalls_5 (by decide) ?_
                      refine lv_icmp_ge (tgt := 33) hx hb dX2_goodWalls_6 (by decide) (fun c_6 => ?_) (fun c_6 => ?_)
                      · exact absurd c_6 (by decide)
                      · refine lv_aload_n hx hb dX2_goodWalls_9 rfl (lv_at hl 2 rfl) ?_
                        refine va_get (D := D) (ci := 2) (v := .int 3) (C := RX2) (T := TX2) (N := 4) hx hb hts hw_X2 hown hK hP 0 rfl rfl 0 (by decide) f_18 (fun _ h9 => h9) rfl dX2_goodWalls_10 ?_
                        refine lv_if_le (tgt := 33) hx hb dX2_goodWalls_13 (by decide) (fun c_13 => ?_) (fun c_13 => ?_)
                        · exact absurd c_13 (by decide)
                        · refine lv_aload_n hx hb dX2_goodWalls_16 rfl (lv_at hl 2 rfl) ?_
                          refine lv_iload_n hx hb dX2_goodWalls_17 rfl (lv_at hl 0 rfl) ?_
                          refine kc_i (wc := [(h0, .inr (2, [.int (nI 3), .int tn, .int sn, .ref ar])), (ar, .inl (cy 2, 3, .inr (.inr (.inr (.inr (va_up (va_up (va_up (fun _ => none) 0 (some c0)) 1 (some c1)) 2 (some c2))))))), (c0, .inr (0, [.int k0, .int s0, .ref r0])), (r0, .inl (cy 0, 6, .inl f0)), (c1, .inr (0, [.int k1, .int s1, .ref r1])), (r1, .inl (cy 0, 6, .inl f1)), (c2, .inr (0, [.int k2, .int s2, .ref r2])), (r2, .inl (cy 0, 6, .inl f2))]) (wr := []) (va_runV (As := [.int 3]) (rest := []) ⟨hx, hb, hml, hown, hts⟩ (g_X2_clashesOn l D cy H.size h0 ar c0 r0 c1 r1 c2 r2 3 tn sn k0 s0 k1 s1 k2 s2 f0 f1 f2 3 (by decide) (by decide)) (cwV 1 hts gX2_goodWalls_X2_clashesOn rfl rfl rfl hdc_X2_clashesOn ⟨Nat.le_of_ble_eq_true rfl, Nat.le_of_ble_eq_true rfl⟩) (cpre_V (wc := [(h0, .inr (2, [.int (nI 3), .int tn, .int sn, .ref ar])), (ar, .inl (cy 2, 3, .inr (.inr (.inr (.inr (va_up (va_up (va_up (fun _ => none) 0 (some c0)) 1 (some c1)) 2 (some c2))))))), (c0, .inr (0, [.int k0, .int s0, .ref r0])), (r0, .inl (cy 0, 6, .inl f0)), (c1, .inr (0, [.int k1, .int s1, .ref r1])), (r1, .inl (cy 0, 6, .inl f1)), (c2, .inr (0, [.int k2, .int s2, .ref r2])), (r2, .inl (cy 0, 6, .inl f2))]) 0 2 rfl rfl hX hP hD hS hA [0, 1, 2, 3, 4, 5, 6, 7] (by decide +kernel) rfl) rfl rfl hl.1 rfl (lv_room (Nat.le_of_ble_eq_true rfl)) dX2_goodWalls_18 ⟨Nat.le_of_ble_eq_true rfl, Nat.le_of_ble_eq_true rfl⟩) hP hD hS hA [0, 1, 2, 3, 4, 5, 6, 7] [] rfl rfl (by decide +kernel) (by decide +kernel) (fun ro u27 H locs hw hP hD hS => ?_)
                          obtain ⟨hu, hro⟩ := hw
                          subst hu
                          have hP : va_P D vwCl [(h0, .inr (2, [.int 3, .int tn, .int sn, .ref ar])), (ar, .inl (cy 2, 3, .inr (.inr (.inr (.inr (va_up (va_up (va_up (fun _ => none) 0 (some c0)) 1 (some c1)) 2 (some c2))))))), (c0, .inr (0, [.int k0, .int s0, .ref r0])), (r0, .inl (cy 0, 6, .inl f0)), (c1, .inr (0, [.int k1, .int s1, .ref r1])), (r1, .inl (cy 0, 6, .inl f1)), (c2, .inr (0, [.int k2, .int s2, .ref r2])), (r2, .inl (cy 0, 6, .inl f2))] H := hP
                          have hD : va_D A [(h0, .inr (2, [.int 3, .int tn, .int sn, .ref ar])), (ar, .inl (cy 2, 3, .inr (.inr (.inr (.inr (va_up (va_up (va_up (fun _ => none) 0 (some c0)) 1 (some c1)) 2 (some c2))))))), (c0, .inr (0, [.int k0, .int s0, .ref r0])), (r0, .inl (cy 0, 6, .inl f0)), (c1, .inr (0, [.int k1, .int s1, .ref r1])), (r1, .inl (cy 0, 6, .inl f1)), (c2, .inr (0, [.int k2, .int s2, .ref r2])), (r2, .inl (cy 0, 6, .inl f2))] := hD
                          subst hro
                          refine lv_if_ne (tgt := 27) hx hb dX2_goodWalls_21 (by decide) (fun c_21_3 => ?_) (fun c_21_3 => ?_)
                          · refine lv_iinc (v := 4) (lv' := [(2, .int 4), (1, .int 2), (0, .ref h0)]) hx hb dX2_goodWalls_27 hl (k := 0) rfl (by decide) (by decide) rfl (fun ls hl => ?_)
                            refine lv_goto (tgt := 4) hx hb dX2_goodWalls_30 (by decide) ?_
                            refine lv_iload_n hx hb dX2_goodWalls_4 rfl (lv_at hl 0 rfl) ?_
                            refine lv_iconst (v := 4) hx hb dX2_goodWalls_5 (by decide) ?_
                            refine lv_icmp_ge (tgt := 33) hx hb dX2_goodWalls_6 (by decide) (fun c_6 => ?_) (fun c_6 => ?_)
                            · refine lv_iload_n hx hb dX2_goodWalls_33 rfl (lv_at hl 1 rfl) ?_
                              have hP9 := hP.sub (ws' := [(h0, .inr (2, [.int (nI 3), .int tn, .int sn, .ref ar])), (ar, .inl (cy 2, 3, .inr (.inr (.inr (.inr (va_up (va_up (va_up (fun _ => none) 0 (some c0)) 1 (some c1)) 2 (some c2))))))), (c0, .inr (0, [.int k0, .int s0, .ref r0])), (r0, .inl (cy 0, 6, .inl f0)), (c1, .inr (0, [.int k1, .int s1, .ref r1])), (r1, .inl (cy 0, 6, .inl f1)), (c2, .inr (0, [.int k2, .int s2, .ref r2])), (r2, .inl (cy 0, 6, .inl f2))]) [0, 1, 2, 3, 4, 5, 6, 7] rfl
                              have hD9 := hD.sub (ws' := [(h0, .inr (2, [.int (nI 3), .int tn, .int sn, .ref ar])), (ar, .inl (cy 2, 3, .inr (.inr (.inr (.inr (va_up (va_up (va_up (fun _ => none) 0 (some c0)) 1 (some c1)) 2 (some c2))))))), (c0, .inr (0, [.int k0, .int s0, .ref r0])), (r0, .inl (cy 0, 6, .inl f0)), (c1, .inr (0, [.int k1, .int s1, .ref r1])), (r1, .inl (cy 0, 6, .inl f1)), (c2, .inr (0, [.int k2, .int s2, .ref r2])), (r2, .inl (cy 0, 6, .inl f2))]) [0, 1, 2, 3, 4, 5, 6, 7] (by decide +kernel) rfl
                              exact W.iret (v := 2) hx hb hr (fun t9 ht9 hW9 => ⟨⟨2, [(h0, .inr (2, [.int (nI 3), .int tn, .int sn, .ref ar])), (ar, .inl (cy 2, 3, .inr (.inr (.inr (.inr (va_up (va_up (va_up (fun _ => none) 0 (some c0)) 1 (some c1)) 2 (some c2))))))), (c0, .inr (0, [.int k0, .int s0, .ref r0])), (r0, .inl (cy 0, 6, .inl f0)), (c1, .inr (0, [.int k1, .int s1, .ref r1])), (r1, .inl (cy 0, 6, .inl f1)), (c2, .inr (0, [.int k2, .int s2, .ref r2])), (r2, .inl (cy 0, 6, .inl f2))], rfl, ⟨rfl, (congrArg nI (show 2 = g0 3 (clOn 3 f0 f1 f2 (2 + 0)) + g0 3 (clOn 3 f0 f1 f2 (2 + 1)) + g0 3 (clOn 3 f0 f1 f2 (2 + 2)) + g0 3 (clOn 3 f0 f1 f2 (2 + 3)) by rw [g01 (sz := 3) (by decide) (clOn_le _ _ _ _ _) c_21_0, g00 (sz := 3) c_21_1, g01 (sz := 3) (by decide) (clOn_le _ _ _ _ _) c_21_2, g00 (sz := 3) c_21_3]))⟩, by rw [ht9]; exact hP9, hD9⟩, hS.F ht9⟩) hS.2.2 dX2_goodWalls_34
                            · exact absurd c_6 (by decide)
                          · refine lv_iinc (v := 3) (lv' := [(1, .int 3), (2, .int 3), (0, .ref h0)]) hx hb dX2_goodWalls_24 hl (k := 1) rfl (by decide) (by decide) rfl (fun ls hl => ?_)
                            refine lv_iinc (v := 4) (lv' := [(2, .int 4), (1, .int 3), (0, .ref h0)]) hx hb dX2_goodWalls_27 hl (k := 1) rfl (by decide) (by decide) rfl (fun ls hl => ?_)
                            refine lv_goto (tgt := 4) hx hb dX2_goodWalls_30 (by decide) ?_
                            refine lv_iload_n hx hb dX2_goodWalls_4 rfl (lv_at hl 0 rfl) ?_
                            refine lv_iconst (v := 4) hx hb dX2_goodWalls_5 (by decide) ?_
                            refine lv_icmp_ge (tgt := 33) hx hb dX2_goodWalls_6 (by decide) (fun c_6 => ?_) (fun c_6 => ?_)
                            · refine lv_iload_n hx hb dX2_goodWalls_33 rfl (lv_at hl 1 rfl) ?_
                              have hP9 := hP.sub (ws' := [(h0, .inr (2, [.int (nI 3), .int tn, .int sn, .ref ar])), (ar, .inl (cy 2, 3, .inr (.inr (.inr (.inr (va_up (va_up (va_up (fun _ => none) 0 (some c0)) 1 (some c1)) 2 (some c2))))))), (c0, .inr (0, [.int k0, .int s0, .ref r0])), (r0, .inl (cy 0, 6, .inl f0)), (c1, .inr (0, [.int k1, .int s1, .ref r1])), (r1, .inl (cy 0, 6, .inl f1)), (c2, .inr (0, [.int k2, .int s2, .ref r2])), (r2, .inl (cy 0, 6, .inl f2))]) [0, 1, 2, 3, 4, 5, 6, 7] rfl
                              have hD9 := hD.sub (ws' := [(h0, .inr (2, [.int (nI 3), .int tn, .int sn, .ref ar])), (ar, .inl (cy 2, 3, .inr (.inr (.inr (.inr (va_up (va_up (va_up (fun _ => none) 0 (some c0)) 1 (some c1)) 2 (some c2))))))), (c0, .inr (0, [.int k0, .int s0, .ref r0])), (r0, .inl (cy 0, 6, .inl f0)), (c1, .inr (0, [.int k1, .int s1, .ref r1])), (r1, .inl (cy 0, 6, .inl f1)), (c2, .inr (0, [.int k2, .int s2, .ref r2])), (r2, .inl (cy 0, 6, .inl f2))]) [0, 1, 2, 3, 4, 5, 6, 7] (by decide +kernel) rfl
                              exact W.iret (v := 3) hx hb hr (fun t9 ht9 hW9 => ⟨⟨3, [(h0, .inr (2, [.int (nI 3), .int tn, .int sn, .ref ar])), (ar, .inl (cy 2, 3, .inr (.inr (.inr (.inr (va_up (va_up (va_up (fun _ => none) 0 (some c0)) 1 (some c1)) 2 (some c2))))))), (c0, .inr (0, [.int k0, .int s0, .ref r0])), (r0, .inl (cy 0, 6, .inl f0)), (c1, .inr (0, [.int k1, .int s1, .ref r1])), (r1, .inl (cy 0, 6, .inl f1)), (c2, .inr (0, [.int k2, .int s2, .ref r2])), (r2, .inl (cy 0, 6, .inl f2))], rfl, ⟨rfl, (congrArg nI (show 3 = g0 3 (clOn 3 f0 f1 f2 (2 + 0)) + g0 3 (clOn 3 f0 f1 f2 (2 + 1)) + g0 3 (clOn 3 f0 f1 f2 (2 + 2)) + g0 3 (clOn 3 f0 f1 f2 (2 + 3)) by rw [g01 (sz := 3) (by decide) (clOn_le _ _ _ _ _) c_21_0, g00 (sz := 3) c_21_1, g01 (sz := 3) (by decide) (clOn_le _ _ _ _ _) c_21_2, g01 (sz := 3) (by decide) (clOn_le _ _ _ _ _) c_21_3]))⟩, by rw [ht9]; exact hP9, hD9⟩, hS.F ht9⟩) hS.2.2 dX2_goodWalls_34
                            · exact absurd c_6 (by decide)
              · refine lv_iinc (v := 2) (lv' := [(1, .int 2), (2, .int 1), (0, .ref h0)]) hx hb dX2_goodWalls_24 hl (k := 1) rfl (by decide) (by decide) rfl (fun ls hl => ?_)
                refine lv_iinc (v := 2) (lv' := [(2, .int 2), (1, .int 2), (0, .ref h0)]) hx hb dX2_goodWalls_27 hl (k := 1) rfl (by decide) (by decide) rfl (fun ls hl => ?_)
                refine lv_goto (tgt := 4) hx hb dX2_goodWalls_30 (by decide) ?_
                refine lv_iload_n hx hb dX2_goodWalls_4 rfl (lv_at hl 0 rfl) ?_
                refine lv_iconst (v := 4) hx hb dX2_goodWalls_5 (by decide) ?_
                refine lv_icmp_ge (tgt := 33) hx hb dX2_goodWalls_6 (by decide) (fun c_6 => ?_) (fun c_6 => ?_)
                · exact absurd c_6 (by decide)
                · refine lv_aload_n hx hb dX2_goodWalls_9 rfl (lv_at hl 2 rfl) ?_
                  refine va_get (D := D) (ci := 2) (v := .int 3) (C := RX2) (T := TX2) (N := 4) hx hb hts hw_X2 hown hK hP 0 rfl rfl 0 (by decide) f_18 (fun _ h9 => h9) rfl dX2_goodWalls_10 ?_
                  refine lv_if_le (tgt := 33) hx hb dX2_goodWalls_13 (by decide) (fun c_13 => ?_) (fun c_13 => ?_)
                  · exact absurd c_13 (by decide)
                  · refine lv_aload_n hx hb dX2_goodWalls_16 rfl (lv_at hl 2 rfl) ?_
                    refine lv_iload_n hx hb dX2_goodWalls_17 rfl (lv_at hl 0 rfl) ?_
                    refine kc_i (wc := [(h0, .inr (2, [.int (nI 3), .int tn, .int sn, .ref ar])), (ar, .inl (cy 2, 3, .inr (.inr (.inr (.inr (va_up (va_up (va_up (fun _ => none) 0 (some c0)) 1 (some c1)) 2 (some c2))))))), (c0, .inr (0, [.int k0, .int s0, .ref r0])), (r0, .inl (cy 0, 6, .inl f0)), (c1, .inr (0, [.int k1, .int s1, .ref r1])), (r1, .inl (cy 0, 6, .inl f1)), (c2, .inr (0, [.int k2, .int s2, .ref r2])), (r2, .inl (cy 0, 6, .inl f2))]) (wr := []) (va_runV (As := [.int 2]) (rest := []) ⟨hx, hb, hml, hown, hts⟩ (g_X2_clashesOn l D cy H.size h0 ar c0 r0 c1 r1 c2 r2 3 tn sn k0 s0 k1 s1 k2 s2 f0 f1 f2 2 (by decide) (by decide)) (cwV 1 hts gX2_goodWalls_X2_clashesOn rfl rfl rfl hdc_X2_clashesOn ⟨Nat.le_of_ble_eq_true rfl, Nat.le_of_ble_eq_true rfl⟩) (cpre_V (wc := [(h0, .inr (2, [.int (nI 3), .int tn, .int sn, .ref ar])), (ar, .inl (cy 2, 3, .inr (.inr (.inr (.inr (va_up (va_up (va_up (fun _ => none) 0 (some c0)) 1 (some c1)) 2 (some c2))))))), (c0, .inr (0, [.int k0, .int s0, .ref r0])), (r0, .inl (cy 0, 6, .inl f0)), (c1, .inr (0, [.int k1, .int s1, .ref r1])), (r1, .inl (cy 0, 6, .inl f1)), (c2, .inr (0, [.int k2, .int s2, .ref r2])), (r2, .inl (cy 0, 6, .inl f2))]) 0 2 rfl rfl hX hP hD hS hA [0, 1, 2, 3, 4, 5, 6, 7] (by decide +kernel) rfl) rfl rfl hl.1 rfl (lv_room (Nat.le_of_ble_eq_true rfl)) dX2_goodWalls_18 ⟨Nat.le_of_ble_eq_true rfl, Nat.le_of_ble_eq_true rfl⟩) hP hD hS hA [0, 1, 2, 3, 4, 5, 6, 7] [] rfl rfl (by decide +kernel) (by decide +kernel) (fun ro u28 H locs hw hP hD hS => ?_)
                    obtain ⟨hu, hro⟩ := hw
                    subst hu
                    have hP : va_P D vwCl [(h0, .inr (2, [.int 3, .int tn, .int sn, .ref ar])), (ar, .inl (cy 2, 3, .inr (.inr (.inr (.inr (va_up (va_up (va_up (fun _ => none) 0 (some c0)) 1 (some c1)) 2 (some c2))))))), (c0, .inr (0, [.int k0, .int s0, .ref r0])), (r0, .inl (cy 0, 6, .inl f0)), (c1, .inr (0, [.int k1, .int s1, .ref r1])), (r1, .inl (cy 0, 6, .inl f1)), (c2, .inr (0, [.int k2, .int s2, .ref r2])), (r2, .inl (cy 0, 6, .inl f2))] H := hP
                    have hD : va_D A [(h0, .inr (2, [.int 3, .int tn, .int sn, .ref ar])), (ar, .inl (cy 2, 3, .inr (.inr (.inr (.inr (va_up (va_up (va_up (fun _ => none) 0 (some c0)) 1 (some c1)) 2 (some c2))))))), (c0, .inr (0, [.int k0, .int s0, .ref r0])), (r0, .inl (cy 0, 6, .inl f0)), (c1, .inr (0, [.int k1, .int s1, .ref r1])), (r1, .inl (cy 0, 6, .inl f1)), (c2, .inr (0, [.int k2, .int s2, .ref r2])), (r2, .inl (cy 0, 6, .inl f2))] := hD
                    subst hro
                    refine lv_if_ne (tgt := 27) hx hb dX2_goodWalls_21 (by decide) (fun c_21_2 => ?_) (fun c_21_2 => ?_)
                    · refine lv_iinc (v := 3) (lv' := [(2, .int 3), (1, .int 2), (0, .ref h0)]) hx hb dX2_goodWalls_27 hl (k := 0) rfl (by decide) (by decide) rfl (fun ls hl => ?_)
                      refine lv_goto (tgt := 4) hx hb dX2_goodWalls_30 (by decide) ?_
                      refine lv_iload_n hx hb dX2_goodWalls_4 rfl (lv_at hl 0 rfl) ?_
                      refine lv_iconst (v := 4) hx hb dX2_goodWalls_5 (by decide) ?_
                      refine lv_icmp_ge (tgt := 33) hx hb dX2_goodWalls_6 (by decide) (fun c_6 => ?_) (fun c_6 => ?_)
                      · exact absurd c_6 (by decide)
                      · refine lv_aload_n hx hb dX2_goodWalls_9 rfl (lv_at hl 2 rfl) ?_
                        refine va_get (D := D) (ci := 2) (v := .int 3) (C := RX2) (T := TX2) (N := 4) hx hb hts hw_X2 hown hK hP 0 rfl rfl 0 (by decide) f_18 (fun _ h9 => h9) rfl dX2_goodWalls_10 ?_
                        refine lv_if_le (tgt := 33) hx hb dX2_goodWalls_13 (by decide) (fun c_13 => ?_) (fun c_13 => ?_)
                        · exact absurd c_13 (by decide)
                        · refine lv_aload_n hx hb dX2_goodWalls_16 rfl (lv_at hl 2 rfl) ?_
                          refine lv_iload_n hx hb dX2_goodWalls_17 rfl (lv_at hl 0 rfl) ?_
                          refine kc_i (wc := [(h0, .inr (2, [.int (nI 3), .int tn, .int sn, .ref ar])), (ar, .inl (cy 2, 3, .inr (.inr (.inr (.inr (va_up (va_up (va_up (fun _ => none) 0 (some c0)) 1 (some c1)) 2 (some c2))))))), (c0, .inr (0, [.int k0, .int s0, .ref r0])), (r0, .inl (cy 0, 6, .inl f0)), (c1, .inr (0, [.int k1, .int s1, .ref r1])), (r1, .inl (cy 0, 6, .inl f1)), (c2, .inr (0, [.int k2, .int s2, .ref r2])), (r2, .inl (cy 0, 6, .inl f2))]) (wr := []) (va_runV (As := [.int 3]) (rest := []) ⟨hx, hb, hml, hown, hts⟩ (g_X2_clashesOn l D cy H.size h0 ar c0 r0 c1 r1 c2 r2 3 tn sn k0 s0 k1 s1 k2 s2 f0 f1 f2 3 (by decide) (by decide)) (cwV 1 hts gX2_goodWalls_X2_clashesOn rfl rfl rfl hdc_X2_clashesOn ⟨Nat.le_of_ble_eq_true rfl, Nat.le_of_ble_eq_true rfl⟩) (cpre_V (wc := [(h0, .inr (2, [.int (nI 3), .int tn, .int sn, .ref ar])), (ar, .inl (cy 2, 3, .inr (.inr (.inr (.inr (va_up (va_up (va_up (fun _ => none) 0 (some c0)) 1 (some c1)) 2 (some c2))))))), (c0, .inr (0, [.int k0, .int s0, .ref r0])), (r0, .inl (cy 0, 6, .inl f0)), (c1, .inr (0, [.int k1, .int s1, .ref r1])), (r1, .inl (cy 0, 6, .inl f1)), (c2, .inr (0, [.int k2, .int s2, .ref r2])), (r2, .inl (cy 0, 6, .inl f2))]) 0 2 rfl rfl hX hP hD hS hA [0, 1, 2, 3, 4, 5, 6, 7] (by decide +kernel) rfl) rfl rfl hl.1 rfl (lv_room (Nat.le_of_ble_eq_true rfl)) dX2_goodWalls_18 ⟨Nat.le_of_ble_eq_true rfl, Nat.le_of_ble_eq_true rfl⟩) hP hD hS hA [0, 1, 2, 3, 4, 5, 6, 7] [] rfl rfl (by decide +kernel) (by decide +kernel) (fun ro u29 H locs hw hP hD hS => ?_)
                          obtain ⟨hu, hro⟩ := hw
                          subst hu
                          have hP : va_P D vwCl [(h0, .inr (2, [.int 3, .int tn, .int sn, .ref ar])), (ar, .inl (cy 2, 3, .inr (.inr (.inr (.inr (va_up (va_up (va_up (fun _ => none) 0 (some c0)) 1 (some c1)) 2 (some c2))))))), (c0, .inr (0, [.int k0, .int s0, .ref r0])), (r0, .inl (cy 0, 6, .inl f0)), (c1, .inr (0, [.int k1, .int s1, .ref r1])), (r1, .inl (cy 0, 6, .inl f1)), (c2, .inr (0, [.int k2, .int s2, .ref r2])), (r2, .inl (cy 0, 6, .inl f2))] H := hP
                          have hD : va_D A [(h0, .inr (2, [.int 3, .int tn, .int sn, .ref ar])), (ar, .inl (cy 2, 3, .inr (.inr (.inr (.inr (va_up (va_up (va_up (fun _ => none) 0 (some c0)) 1 (some c1)) 2 (some c2))))))), (c0, .inr (0, [.int k0, .int s0, .ref r0])), (r0, .inl (cy 0, 6, .inl f0)), (c1, .inr (0, [.int k1, .int s1, .ref r1])), (r1, .inl (cy 0, 6, .inl f1)), (c2, .inr (0, [.int k2, .int s2, .ref r2])), (r2, .inl (cy 0, 6, .inl f2))] := hD
                          subst hro
                          refine lv_if_ne (tgt := 27) hx hb dX2_goodWalls_21 (by decide) (fun c_21_3 => ?_) (fun c_21_3 => ?_)
                          · refine lv_iinc (v := 4) (lv' := [(2, .int 4), (1, .int 2), (0, .ref h0)]) hx hb dX2_goodWalls_27 hl (k := 0) rfl (by decide) (by decide) rfl (fun ls hl => ?_)
                            refine lv_goto (tgt := 4) hx hb dX2_goodWalls_30 (by decide) ?_
                            refine lv_iload_n hx hb dX2_goodWalls_4 rfl (lv_at hl 0 rfl) ?_
                            refine lv_iconst (v := 4) hx hb dX2_goodWalls_5 (by decide) ?_
                            refine lv_icmp_ge (tgt := 33) hx hb dX2_goodWalls_6 (by decide) (fun c_6 => ?_) (fun c_6 => ?_)
                            · refine lv_iload_n hx hb dX2_goodWalls_33 rfl (lv_at hl 1 rfl) ?_
                              have hP9 := hP.sub (ws' := [(h0, .inr (2, [.int (nI 3), .int tn, .int sn, .ref ar])), (ar, .inl (cy 2, 3, .inr (.inr (.inr (.inr (va_up (va_up (va_up (fun _ => none) 0 (some c0)) 1 (some c1)) 2 (some c2))))))), (c0, .inr (0, [.int k0, .int s0, .ref r0])), (r0, .inl (cy 0, 6, .inl f0)), (c1, .inr (0, [.int k1, .int s1, .ref r1])), (r1, .inl (cy 0, 6, .inl f1)), (c2, .inr (0, [.int k2, .int s2, .ref r2])), (r2, .inl (cy 0, 6, .inl f2))]) [0, 1, 2, 3, 4, 5, 6, 7] rfl
                              have hD9 := hD.sub (ws' := [(h0, .inr (2, [.int (nI 3), .int tn, .int sn, .ref ar])), (ar, .inl (cy 2, 3, .inr (.inr (.inr (.inr (va_up (va_up (va_up (fun _ => none) 0 (some c0)) 1 (some c1)) 2 (some c2))))))), (c0, .inr (0, [.int k0, .int s0, .ref r0])), (r0, .inl (cy 0, 6, .inl f0)), (c1, .inr (0, [.int k1, .int s1, .ref r1])), (r1, .inl (cy 0, 6, .inl f1)), (c2, .inr (0, [.int k2, .int s2, .ref r2])), (r2, .inl (cy 0, 6, .inl f2))]) [0, 1, 2, 3, 4, 5, 6, 7] (by decide +kernel) rfl
                              exact W.iret (v := 2) hx hb hr (fun t9 ht9 hW9 => ⟨⟨2, [(h0, .inr (2, [.int (nI 3), .int tn, .int sn, .ref ar])), (ar, .inl (cy 2, 3, .inr (.inr (.inr (.inr (va_up (va_up (va_up (fun _ => none) 0 (some c0)) 1 (some c1)) 2 (some c2))))))), (c0, .inr (0, [.int k0, .int s0, .ref r0])), (r0, .inl (cy 0, 6, .inl f0)), (c1, .inr (0, [.int k1, .int s1, .ref r1])), (r1, .inl (cy 0, 6, .inl f1)), (c2, .inr (0, [.int k2, .int s2, .ref r2])), (r2, .inl (cy 0, 6, .inl f2))], rfl, ⟨rfl, (congrArg nI (show 2 = g0 3 (clOn 3 f0 f1 f2 (2 + 0)) + g0 3 (clOn 3 f0 f1 f2 (2 + 1)) + g0 3 (clOn 3 f0 f1 f2 (2 + 2)) + g0 3 (clOn 3 f0 f1 f2 (2 + 3)) by rw [g01 (sz := 3) (by decide) (clOn_le _ _ _ _ _) c_21_0, g01 (sz := 3) (by decide) (clOn_le _ _ _ _ _) c_21_1, g00 (sz := 3) c_21_2, g00 (sz := 3) c_21_3]))⟩, by rw [ht9]; exact hP9, hD9⟩, hS.F ht9⟩) hS.2.2 dX2_goodWalls_34
                            · exact absurd c_6 (by decide)
                          · refine lv_iinc (v := 3) (lv' := [(1, .int 3), (2, .int 3), (0, .ref h0)]) hx hb dX2_goodWalls_24 hl (k := 1) rfl (by decide) (by decide) rfl (fun ls hl => ?_)
                            refine lv_iinc (v := 4) (lv' := [(2, .int 4), (1, .int 3), (0, .ref h0)]) hx hb dX2_goodWalls_27 hl (k := 1) rfl (by decide) (by decide) rfl (fun ls hl => ?_)
                            refine lv_goto (tgt := 4) hx hb dX2_goodWalls_30 (by decide) ?_
                            refine lv_iload_n hx hb dX2_goodWalls_4 rfl (lv_at hl 0 rfl) ?_
                            refine lv_iconst (v := 4) hx hb dX2_goodWalls_5 (by decide) ?_
                            refine lv_icmp_ge (tgt := 33) hx hb dX2_goodWalls_6 (by decide) (fun c_6 => ?_) (fun c_6 => ?_)
                            · refine lv_iload_n hx hb dX2_goodWalls_33 rfl (lv_at hl 1 rfl) ?_
                              have hP9 := hP.sub (ws' := [(h0, .inr (2, [.int (nI 3), .int tn, .int sn, .ref ar])), (ar, .inl (cy 2, 3, .inr (.inr (.inr (.inr (va_up (va_up (va_up (fun _ => none) 0 (some c0)) 1 (some c1)) 2 (some c2))))))), (c0, .inr (0, [.int k0, .int s0, .ref r0])), (r0, .inl (cy 0, 6, .inl f0)), (c1, .inr (0, [.int k1, .int s1, .ref r1])), (r1, .inl (cy 0, 6, .inl f1)), (c2, .inr (0, [.int k2, .int s2, .ref r2])), (r2, .inl (cy 0, 6, .inl f2))]) [0, 1, 2, 3, 4, 5, 6, 7] rfl
                              have hD9 := hD.sub (ws' := [(h0, .inr (2, [.int (nI 3), .int tn, .int sn, .ref ar])), (ar, .inl (cy 2, 3, .inr (.inr (.inr (.inr (va_up (va_up (va_up (fun _ => none) 0 (some c0)) 1 (some c1)) 2 (some c2))))))), (c0, .inr (0, [.int k0, .int s0, .ref r0])), (r0, .inl (cy 0, 6, .inl f0)), (c1, .inr (0, [.int k1, .int s1, .ref r1])), (r1, .inl (cy 0, 6, .inl f1)), (c2, .inr (0, [.int k2, .int s2, .ref r2])), (r2, .inl (cy 0, 6, .inl f2))]) [0, 1, 2, 3, 4, 5, 6, 7] (by decide +kernel) rfl
                              exact W.iret (v := 3) hx hb hr (fun t9 ht9 hW9 => ⟨⟨3, [(h0, .inr (2, [.int (nI 3), .int tn, .int sn, .ref ar])), (ar, .inl (cy 2, 3, .inr (.inr (.inr (.inr (va_up (va_up (va_up (fun _ => none) 0 (some c0)) 1 (some c1)) 2 (some c2))))))), (c0, .inr (0, [.int k0, .int s0, .ref r0])), (r0, .inl (cy 0, 6, .inl f0)), (c1, .inr (0, [.int k1, .int s1, .ref r1])), (r1, .inl (cy 0, 6, .inl f1)), (c2, .inr (0, [.int k2, .int s2, .ref r2])), (r2, .inl (cy 0, 6, .inl f2))], rfl, ⟨rfl, (congrArg nI (show 3 = g0 3 (clOn 3 f0 f1 f2 (2 + 0)) + g0 3 (clOn 3 f0 f1 f2 (2 + 1)) + g0 3 (clOn 3 f0 f1 f2 (2 + 2)) + g0 3 (clOn 3 f0 f1 f2 (2 + 3)) by rw [g01 (sz := 3) (by decide) (clOn_le _ _ _ _ _) c_21_0, g01 (sz := 3) (by decide) (clOn_le _ _ _ _ _) c_21_1, g00 (sz := 3) c_21_2, g01 (sz := 3) (by decide) (clOn_le _ _ _ _ _) c_21_3]))⟩, by rw [ht9]; exact hP9, hD9⟩, hS.F ht9⟩) hS.2.2 dX2_goodWalls_34
                            · exact absurd c_6 (by decide)
                    · refine lv_iinc (v := 3) (lv' := [(1, .int 3), (2, .int 2), (0, .ref h0)]) hx hb dX2_goodWalls_24 hl (k := 1) rfl (by decide) (by decide) rfl (fun ls hl => ?_)
                      refine lv_iinc (v := 3) (lv' := [(2, .int 3), (1, .int 3), (0, .ref h0)]) hx hb dX2_goodWalls_27 hl (k := 1) rfl (by decide) (by decide) rfl (fun ls hl => ?_)
                      refine lv_goto (tgt := 4) hx hb dX2_goodWalls_30 (by decide) ?_
                      refine lv_iload_n hx hb dX2_goodWalls_4 rfl (lv_at hl 0 rfl) ?_
                      refine lv_iconst (v := 4) hx hb dX2_goodWalls_5 (by decide) ?_
                      refine lv_icmp_ge (tgt := 33) hx hb dX2_goodWalls_6 (by decide) (fun c_6 => ?_) (fun c_6 => ?_)
                      · exact absurd c_6 (by decide)
                      · refine lv_aload_n hx hb dX2_goodWalls_9 rfl (lv_at hl 2 rfl) ?_
                        refine va_get (D := D) (ci := 2) (v := .int 3) (C := RX2) (T := TX2) (N := 4) hx hb hts hw_X2 hown hK hP 0 rfl rfl 0 (by decide) f_18 (fun _ h9 => h9) rfl dX2_goodWalls_10 ?_
                        refine lv_if_le (tgt := 33) hx hb dX2_goodWalls_13 (by decide) (fun c_13 => ?_) (fun c_13 => ?_)
                        · exact absurd c_13 (by decide)
                        · refine lv_aload_n hx hb dX2_goodWalls_16 rfl (lv_at hl 2 rfl) ?_
                          refine lv_iload_n hx hb dX2_goodWalls_17 rfl (lv_at hl 0 rfl) ?_
                          refine kc_i (wc := [(h0, .inr (2, [.int (nI 3), .int tn, .int sn, .ref ar])), (ar, .inl (cy 2, 3, .inr (.inr (.inr (.inr (va_up (va_up (va_up (fun _ => none) 0 (some c0)) 1 (some c1)) 2 (some c2))))))), (c0, .inr (0, [.int k0, .int s0, .ref r0])), (r0, .inl (cy 0, 6, .inl f0)), (c1, .inr (0, [.int k1, .int s1, .ref r1])), (r1, .inl (cy 0, 6, .inl f1)), (c2, .inr (0, [.int k2, .int s2, .ref r2])), (r2, .inl (cy 0, 6, .inl f2))]) (wr := []) (va_runV (As := [.int 3]) (rest := []) ⟨hx, hb, hml, hown, hts⟩ (g_X2_clashesOn l D cy H.size h0 ar c0 r0 c1 r1 c2 r2 3 tn sn k0 s0 k1 s1 k2 s2 f0 f1 f2 3 (by decide) (by decide)) (cwV 1 hts gX2_goodWalls_X2_clashesOn rfl rfl rfl hdc_X2_clashesOn ⟨Nat.le_of_ble_eq_true rfl, Nat.le_of_ble_eq_true rfl⟩) (cpre_V (wc := [(h0, .inr (2, [.int (nI 3), .int tn, .int sn, .ref ar])), (ar, .inl (cy 2, 3, .inr (.inr (.inr (.inr (va_up (va_up (va_up (fun _ => none) 0 (some c0)) 1 (some c1)) 2 (some c2))))))), (c0, .inr (0, [.int k0, .int s0, .ref r0])), (r0, .inl (cy 0, 6, .inl f0)), (c1, .inr (0, [.int k1, .int s1, .ref r1])), (r1, .inl (cy 0, 6, .inl f1)), (c2, .inr (0, [.int k2, .int s2, .ref r2])), (r2, .inl (cy 0, 6, .inl f2))]) 0 2 rfl rfl hX hP hD hS hA [0, 1, 2, 3, 4, 5, 6, 7] (by decide +kernel) rfl) rfl rfl hl.1 rfl (lv_room (Nat.le_of_ble_eq_true rfl)) dX2_goodWalls_18 ⟨Nat.le_of_ble_eq_true rfl, Nat.le_of_ble_eq_true rfl⟩) hP hD hS hA [0, 1, 2, 3, 4, 5, 6, 7] [] rfl rfl (by decide +kernel) (by decide +kernel) (fun ro u30 H locs hw hP hD hS => ?_)
                          obtain ⟨hu, hro⟩ := hw
                          subst hu
                          have hP : va_P D vwCl [(h0, .inr (2, [.int 3, .int tn, .int sn, .ref ar])), (ar, .inl (cy 2, 3, .inr (.inr (.inr (.inr (va_up (va_up (va_up (fun _ => none) 0 (some c0)) 1 (some c1)) 2 (some c2))))))), (c0, .inr (0, [.int k0, .int s0, .ref r0])), (r0, .inl (cy 0, 6, .inl f0)), (c1, .inr (0, [.int k1, .int s1, .ref r1])), (r1, .inl (cy 0, 6, .inl f1)), (c2, .inr (0, [.int k2, .int s2, .ref r2])), (r2, .inl (cy 0, 6, .inl f2))] H := hP
                          have hD : va_D A [(h0, .inr (2, [.int 3, .int tn, .int sn, .ref ar])), (ar, .inl (cy 2, 3, .inr (.inr (.inr (.inr (va_up (va_up (va_up (fun _ => none) 0 (some c0)) 1 (some c1)) 2 (some c2))))))), (c0, .inr (0, [.int k0, .int s0, .ref r0])), (r0, .inl (cy 0, 6, .inl f0)), (c1, .inr (0, [.int k1, .int s1, .ref r1])), (r1, .inl (cy 0, 6, .inl f1)), (c2, .inr (0, [.int k2, .int s2, .ref r2])), (r2, .inl (cy 0, 6, .inl f2))] := hD
                          subst hro
                          refine lv_if_ne (tgt := 27) hx hb dX2_goodWalls_21 (by decide) (fun c_21_3 => ?_) (fun c_21_3 => ?_)
                          · refine lv_iinc (v := 4) (lv' := [(2, .int 4), (1, .int 3), (0, .ref h0)]) hx hb dX2_goodWalls_27 hl (k := 0) rfl (by decide) (by decide) rfl (fun ls hl => ?_)
                            refine lv_goto (tgt := 4) hx hb dX2_goodWalls_30 (by decide) ?_
                            refine lv_iload_n hx hb dX2_goodWalls_4 rfl (lv_at hl 0 rfl) ?_
                            refine lv_iconst (v := 4) hx hb dX2_goodWalls_5 (by decide) ?_
                            refine lv_icmp_ge (tgt := 33) hx hb dX2_goodWalls_6 (by decide) (fun c_6 => ?_) (fun c_6 => ?_)
                            · refine lv_iload_n hx hb dX2_goodWalls_33 rfl (lv_at hl 1 rfl) ?_
                              have hP9 := hP.sub (ws' := [(h0, .inr (2, [.int (nI 3), .int tn, .int sn, .ref ar])), (ar, .inl (cy 2, 3, .inr (.inr (.inr (.inr (va_up (va_up (va_up (fun _ => none) 0 (some c0)) 1 (some c1)) 2 (some c2))))))), (c0, .inr (0, [.int k0, .int s0, .ref r0])), (r0, .inl (cy 0, 6, .inl f0)), (c1, .inr (0, [.int k1, .int s1, .ref r1])), (r1, .inl (cy 0, 6, .inl f1)), (c2, .inr (0, [.int k2, .int s2, .ref r2])), (r2, .inl (cy 0, 6, .inl f2))]) [0, 1, 2, 3, 4, 5, 6, 7] rfl
                              have hD9 := hD.sub (ws' := [(h0, .inr (2, [.int (nI 3), .int tn, .int sn, .ref ar])), (ar, .inl (cy 2, 3, .inr (.inr (.inr (.inr (va_up (va_up (va_up (fun _ => none) 0 (some c0)) 1 (some c1)) 2 (some c2))))))), (c0, .inr (0, [.int k0, .int s0, .ref r0])), (r0, .inl (cy 0, 6, .inl f0)), (c1, .inr (0, [.int k1, .int s1, .ref r1])), (r1, .inl (cy 0, 6, .inl f1)), (c2, .inr (0, [.int k2, .int s2, .ref r2])), (r2, .inl (cy 0, 6, .inl f2))]) [0, 1, 2, 3, 4, 5, 6, 7] (by decide +kernel) rfl
                              exact W.iret (v := 3) hx hb hr (fun t9 ht9 hW9 => ⟨⟨3, [(h0, .inr (2, [.int (nI 3), .int tn, .int sn, .ref ar])), (ar, .inl (cy 2, 3, .inr (.inr (.inr (.inr (va_up (va_up (va_up (fun _ => none) 0 (some c0)) 1 (some c1)) 2 (some c2))))))), (c0, .inr (0, [.int k0, .int s0, .ref r0])), (r0, .inl (cy 0, 6, .inl f0)), (c1, .inr (0, [.int k1, .int s1, .ref r1])), (r1, .inl (cy 0, 6, .inl f1)), (c2, .inr (0, [.int k2, .int s2, .ref r2])), (r2, .inl (cy 0, 6, .inl f2))], rfl, ⟨rfl, (congrArg nI (show 3 = g0 3 (clOn 3 f0 f1 f2 (2 + 0)) + g0 3 (clOn 3 f0 f1 f2 (2 + 1)) + g0 3 (clOn 3 f0 f1 f2 (2 + 2)) + g0 3 (clOn 3 f0 f1 f2 (2 + 3)) by rw [g01 (sz := 3) (by decide) (clOn_le _ _ _ _ _) c_21_0, g01 (sz := 3) (by decide) (clOn_le _ _ _ _ _) c_21_1, g01 (sz := 3) (by decide) (clOn_le _ _ _ _ _) c_21_2, g00 (sz := 3) c_21_3]))⟩, by rw [ht9]; exact hP9, hD9⟩, hS.F ht9⟩) hS.2.2 dX2_goodWalls_34
                            · exact absurd c_6 (by decide)
                          · refine lv_iinc (v := 4) (lv' := [(1, .int 4), (2, .int 3), (0, .ref h0)]) hx hb dX2_goodWalls_24 hl (k := 1) rfl (by decide) (by decide) rfl (fun ls hl => ?_)
                            refine lv_iinc (v := 4) (lv' := [(2, .int 4), (1, .int 4), (0, .ref h0)]) hx hb dX2_goodWalls_27 hl (k := 1) rfl (by decide) (by decide) rfl (fun ls hl => ?_)
                            refine lv_goto (tgt := 4) hx hb dX2_goodWalls_30 (by decide) ?_
                            refine lv_iload_n hx hb dX2_goodWalls_4 rfl (lv_at hl 0 rfl) ?_
                            refine lv_iconst (v := 4) hx hb dX2_goodWalls_5 (by decide) ?_
                            refine lv_icmp_ge (tgt := 33) hx hb dX2_goodWalls_6 (by decide) (fun c_6 => ?_) (fun c_6 => ?_)
                            · refine lv_iload_n hx hb dX2_goodWalls_33 rfl (lv_at hl 1 rfl) ?_
                              have hP9 := hP.sub (ws' := [(h0, .inr (2, [.int (nI 3), .int tn, .int sn, .ref ar])), (ar, .inl (cy 2, 3, .inr (.inr (.inr (.inr (va_up (va_up (va_up (fun _ => none) 0 (some c0)) 1 (some c1)) 2 (some c2))))))), (c0, .inr (0, [.int k0, .int s0, .ref r0])), (r0, .inl (cy 0, 6, .inl f0)), (c1, .inr (0, [.int k1, .int s1, .ref r1])), (r1, .inl (cy 0, 6, .inl f1)), (c2, .inr (0, [.int k2, .int s2, .ref r2])), (r2, .inl (cy 0, 6, .inl f2))]) [0, 1, 2, 3, 4, 5, 6, 7] rfl
                              have hD9 := hD.sub (ws' := [(h0, .inr (2, [.int (nI 3), .int tn, .int sn, .ref ar])), (ar, .inl (cy 2, 3, .inr (.inr (.inr (.inr (va_up (va_up (va_up (fun _ => none) 0 (some c0)) 1 (some c1)) 2 (some c2))))))), (c0, .inr (0, [.int k0, .int s0, .ref r0])), (r0, .inl (cy 0, 6, .inl f0)), (c1, .inr (0, [.int k1, .int s1, .ref r1])), (r1, .inl (cy 0, 6, .inl f1)), (c2, .inr (0, [.int k2, .int s2, .ref r2])), (r2, .inl (cy 0, 6, .inl f2))]) [0, 1, 2, 3, 4, 5, 6, 7] (by decide +kernel) rfl
                              exact W.iret (v := 4) hx hb hr (fun t9 ht9 hW9 => ⟨⟨4, [(h0, .inr (2, [.int (nI 3), .int tn, .int sn, .ref ar])), (ar, .inl (cy 2, 3, .inr (.inr (.inr (.inr (va_up (va_up (va_up (fun _ => none) 0 (some c0)) 1 (some c1)) 2 (some c2))))))), (c0, .inr (0, [.int k0, .int s0, .ref r0])), (r0, .inl (cy 0, 6, .inl f0)), (c1, .inr (0, [.int k1, .int s1, .ref r1])), (r1, .inl (cy 0, 6, .inl f1)), (c2, .inr (0, [.int k2, .int s2, .ref r2])), (r2, .inl (cy 0, 6, .inl f2))], rfl, ⟨rfl, (congrArg nI (show 4 = g0 3 (clOn 3 f0 f1 f2 (2 + 0)) + g0 3 (clOn 3 f0 f1 f2 (2 + 1)) + g0 3 (clOn 3 f0 f1 f2 (2 + 2)) + g0 3 (clOn 3 f0 f1 f2 (2 + 3)) by rw [g01 (sz := 3) (by decide) (clOn_le _ _ _ _ _) c_21_0, g01 (sz := 3) (by decide) (clOn_le _ _ _ _ _) c_21_1, g01 (sz := 3) (by decide) (clOn_le _ _ _ _ _) c_21_2, g01 (sz := 3) (by decide) (clOn_le _ _ _ _ _) c_21_3]))⟩, by rw [ht9]; exact hP9, hD9⟩, hS.F ht9⟩) hS.2.2 dX2_goodWalls_34
                            · exact absurd c_6 (by decide)
def q_J6_bitCount (cy : Nat → ClassId) (x : Int32) : Int32 → va_W → Prop := fun (r : Int32) (u : va_W) => u = [] ∧ r = bcF x
set_option maxHeartbeats 4000000 in
set_option maxRecDepth 100000 in
theorem g_J6_bitCount (l : Launch) (D : va_G) (cy : Nat → ClassId) (zz : Nat) (x : Int32) : Met l yJ6_bitCount_0f7a4 wsJ6_bitCount_0f7a4 ({ frames := 0, cells := 0, slots := 0, locals := 0 } : Room) (va_Pc [.int x] (cpre D cy [] zz)) (va_Qi (q_J6_bitCount cy x) (cpost D (va_A [] zz)) (va_A [] zz)) 0 0 (va_A [] zz) := by
  refine Met.ofW (cc := cJ6_bitCount_0f7a4) (maxL := 1) (ret := (some .int)) (by decide) rfl ?_
  intro p e s m args below meth c s₁ B hml hv
  obtain ⟨rfl, hsz, hP, hD0, hX⟩ := hv
  have hx := B.exec
  have hb := B.bytes
  have hr := B.returns
  have hts := atoms_spec (ws := wsJ6_bitCount_0f7a4) B.pre
  have hown : s.vm.findClass RJ6 = some m.cls := findClass_of_methodNamed B.named
  have hlocks := B.notSynchronized
  subst hsz
  have hD := hD0.self (sz := s.heap.size)
  generalize hAe : va_A [] s.heap.size = A at hD hX ⊢
  have hA : ∀ q : Nat, s.heap.size ≤ q → A q := fun q h => by rw [← hAe]; exact Or.inr h
  obtain ⟨H, hH⟩ : ∃ H : Heap, H = s.heap := ⟨_, rfl⟩
  have hS : va_S A s.heap H [] := hH ▸ va_S.rf
  have hK := hX.1
  have hP : va_P D vwCl [] H := hH ▸ hP
  rw [← hH]
  have k_265 := hts (.constant RJ6 265 (1431655765)) (inC wa_727 (by decide +kernel))
  have k_266 := hts (.constant RJ6 266 (858993459)) (inC wa_768 (by decide +kernel))
  have k_267 := hts (.constant RJ6 267 (252645135)) (inC wa_769 (by decide +kernel))
  have hl := lv_entry ([.int x]) (n := 1) (Nat.le_of_ble_eq_true rfl)
  rw [lg_entry_eq]
  generalize (lg_sl ([.int x]) ++ List.replicate (1 - (lg_sl ([.int x])).length) Slot.unset).toArray = ls at hl ⊢
  have hl : lv_has ls 1 [(0, .int x)] := hl
  refine lv_iload_n hx hb dJ6_bitCount_0f7a4_0 rfl (lv_at hl 0 rfl) ?_
  refine lv_iload_n hx hb dJ6_bitCount_0f7a4_1 rfl (lv_at hl 0 rfl) ?_
  refine lv_iconst (v := 1) hx hb dJ6_bitCount_0f7a4_2 (by decide) ?_
  refine lv_iushr hx hb dJ6_bitCount_0f7a4_3 rfl ?_
  refine lv_ldcw hx hb hown k_265 dJ6_bitCount_0f7a4_4 ?_
  refine lv_iand hx hb dJ6_bitCount_0f7a4_7 ?_
  refine lv_isub hx hb dJ6_bitCount_0f7a4_8 ?_
  refine lv_topi (fun y1 ey1 => ?_)
  obtain rfl : y1 = bc1 x := ey1.trans (rfl)
  refine lv_istore_n (lv' := [(0, .int (bc1 x))]) hx hb dJ6_bitCount_0f7a4_9 rfl hl (by decide) rfl (fun ls hl => ?_)
  refine lv_iload_n hx hb dJ6_bitCount_0f7a4_10 rfl (lv_at hl 0 rfl) ?_
  refine lv_ldcw hx hb hown k_266 dJ6_bitCount_0f7a4_11 ?_
  refine lv_iand hx hb dJ6_bitCount_0f7a4_14 ?_
  refine lv_iload_n hx hb dJ6_bitCount_0f7a4_15 rfl (lv_at hl 0 rfl) ?_
  refine lv_iconst (v := 2) hx hb dJ6_bitCount_0f7a4_16 (by decide) ?_
  refine lv_iushr hx hb dJ6_bitCount_0f7a4_17 rfl ?_
  refine lv_ldcw hx hb hown k_266 dJ6_bitCount_0f7a4_18 ?_
  refine lv_iand hx hb dJ6_bitCount_0f7a4_21 ?_
  refine lv_iadd hx hb dJ6_bitCount_0f7a4_22 ?_
  refine lv_topi (fun y2 ey2 => ?_)
  obtain rfl : y2 = bc2 (bc1 x) := ey2.trans (rfl)
  refine lv_istore_n (lv' := [(0, .int (bc2 (bc1 x)))]) hx hb dJ6_bitCount_0f7a4_23 rfl hl (by decide) rfl (fun ls hl => ?_)
  refine lv_iload_n hx hb dJ6_bitCount_0f7a4_24 rfl (lv_at hl 0 rfl) ?_
  refine lv_iload_n hx hb dJ6_bitCount_0f7a4_25 rfl (lv_at hl 0 rfl) ?_
  refine lv_iconst (v := 4) hx hb dJ6_bitCount_0f7a4_26 (by decide) ?_
  refine lv_iushr hx hb dJ6_bitCount_0f7a4_27 rfl ?_
  refine lv_iadd hx hb dJ6_bitCount_0f7a4_28 ?_
  refine lv_ldcw hx hb hown k_267 dJ6_bitCount_0f7a4_29 ?_
  refine lv_iand hx hb dJ6_bitCount_0f7a4_32 ?_
  refine lv_topi (fun y3 ey3 => ?_)
  obtain rfl : y3 = bc3 (bc2 (bc1 x)) := ey3.trans (rfl)
  refine lv_istore_n (lv' := [(0, .int (bc3 (bc2 (bc1 x))))]) hx hb dJ6_bitCount_0f7a4_33 rfl hl (by decide) rfl (fun ls hl => ?_)
  refine lv_iload_n hx hb dJ6_bitCount_0f7a4_34 rfl (lv_at hl 0 rfl) ?_
  refine lv_iload_n hx hb dJ6_bitCount_0f7a4_35 rfl (lv_at hl 0 rfl) ?_
  refine lv_bipush (v := 8) hx hb dJ6_bitCount_0f7a4_36 (by decide) ?_
  refine lv_iushr hx hb dJ6_bitCount_0f7a4_38 rfl ?_
  refine lv_iadd hx hb dJ6_bitCount_0f7a4_39 ?_
  refine lv_topi (fun y4 ey4 => ?_)
  obtain rfl : y4 = bc4 (bc3 (bc2 (bc1 x))) := ey4.trans (rfl)
  refine lv_istore_n (lv' := [(0, .int (bc4 (bc3 (bc2 (bc1 x)))))]) hx hb dJ6_bitCount_0f7a4_40 rfl hl (by decide) rfl (fun ls hl => ?_)
  refine lv_iload_n hx hb dJ6_bitCount_0f7a4_41 rfl (lv_at hl 0 rfl) ?_
  refine lv_iload_n hx hb dJ6_bitCount_0f7a4_42 rfl (lv_at hl 0 rfl) ?_
  refine lv_bipush (v := 16) hx hb dJ6_bitCount_0f7a4_43 (by decide) ?_
  refine lv_iushr hx hb dJ6_bitCount_0f7a4_45 rfl ?_
  refine lv_iadd hx hb dJ6_bitCount_0f7a4_46 ?_
  refine lv_topi (fun y5 ey5 => ?_)
  obtain rfl : y5 = bc5 (bc4 (bc3 (bc2 (bc1 x)))) := ey5.trans (rfl)
  refine lv_istore_n (lv' := [(0, .int (bc5 (bc4 (bc3 (bc2 (bc1 x))))))]) hx hb dJ6_bitCount_0f7a4_47 rfl hl (by decide) rfl (fun ls hl => ?_)
  refine lv_iload_n hx hb dJ6_bitCount_0f7a4_48 rfl (lv_at hl 0 rfl) ?_
  refine lv_bipush (v := 63) hx hb dJ6_bitCount_0f7a4_49 (by decide) ?_
  refine lv_iand hx hb dJ6_bitCount_0f7a4_51 ?_
  have hP9 := hP.sub (ws' := []) [] rfl
  have hD9 := hD.sub (ws' := []) [] (by decide +kernel) rfl
  exact W.iret (v := (bc5 (bc4 (bc3 (bc2 (bc1 x))))) &&& 63) hx hb hr (fun t9 ht9 hW9 => ⟨⟨(bc5 (bc4 (bc3 (bc2 (bc1 x))))) &&& 63, [], rfl, ⟨rfl, rfl⟩, by rw [ht9]; exact hP9, hD9⟩, hS.F ht9⟩) hS.2.2 dJ6_bitCount_0f7a4_52
def q_X2_coloursUsed (cy : Nat → ClassId) (h0 : Nat) (ar : Nat) (c0 : Nat) (r0 : Nat) (c1 : Nat) (r1 : Nat) (c2 : Nat) (r2 : Nat) (sz : Nat) (tn : Int32) (sn : Int32) (k0 : Int32) (s0 : Int32) (k1 : Int32) (s1 : Int32) (k2 : Int32) (s2 : Int32) (f0 : Nat → Int32) (f1 : Nat → Int32) (f2 : Nat → Int32) : Int32 → va_W → Prop := fun (r : Int32) (u : va_W) => u = [(h0, .inr (2, [.int (nI sz), .int tn, .int sn, .ref ar])), (ar, .inl (cy 2, 3, .inr (.inr (.inr (.inr (va_up (va_up (va_up (fun _ => none) 0 (some c0)) 1 (some c1)) 2 (some c2))))))), (c0, .inr (0, [.int k0, .int s0, .ref r0])), (r0, .inl (cy 0, 6, .inl f0)), (c1, .inr (0, [.int k1, .int s1, .ref r1])), (r1, .inl (cy 0, 6, .inl f1)), (c2, .inr (0, [.int k2, .int s2, .ref r2])), (r2, .inl (cy 0, 6, .inl f2))] ∧ r = bcF (usAll sz f0 f1 f2)
set_option maxHeartbeats 4000000 in
set_option maxRecDepth 100000 in
theorem g_X2_coloursUsed (l : Launch) (D : va_G) (cy : Nat → ClassId) (zz : Nat) (h0 : Nat) (ar : Nat) (c0 : Nat) (r0 : Nat) (c1 : Nat) (r1 : Nat) (c2 : Nat) (r2 : Nat) (sz : Nat) (tn : Int32) (sn : Int32) (k0 : Int32) (s0 : Int32) (k1 : Int32) (s1 : Int32) (k2 : Int32) (s2 : Int32) (f0 : Nat → Int32) (f1 : Nat → Int32) (f2 : Nat → Int32) (hsz : sz = 0 ∨ sz = 2 ∨ sz = 3) : Met l yX2_coloursUsed wsX2_coloursUsed ({ frames := 1, cells := 0, slots := 0, locals := 20 } : Room) (va_Pc [.ref h0] (cpre D cy [(h0, .inr (2, [.int (nI sz), .int tn, .int sn, .ref ar])), (ar, .inl (cy 2, 3, .inr (.inr (.inr (.inr (va_up (va_up (va_up (fun _ => none) 0 (some c0)) 1 (some c1)) 2 (some c2))))))), (c0, .inr (0, [.int k0, .int s0, .ref r0])), (r0, .inl (cy 0, 6, .inl f0)), (c1, .inr (0, [.int k1, .int s1, .ref r1])), (r1, .inl (cy 0, 6, .inl f1)), (c2, .inr (0, [.int k2, .int s2, .ref r2])), (r2, .inl (cy 0, 6, .inl f2))] zz)) (va_Qi (q_X2_coloursUsed cy h0 ar c0 r0 c1 r1 c2 r2 sz tn sn k0 s0 k1 s1 k2 s2 f0 f1 f2) (cpost D (va_A [(h0, .inr (2, [.int (nI sz), .int tn, .int sn, .ref ar])), (ar, .inl (cy 2, 3, .inr (.inr (.inr (.inr (va_up (va_up (va_up (fun _ => none) 0 (some c0)) 1 (some c1)) 2 (some c2))))))), (c0, .inr (0, [.int k0, .int s0, .ref r0])), (r0, .inl (cy 0, 6, .inl f0)), (c1, .inr (0, [.int k1, .int s1, .ref r1])), (r1, .inl (cy 0, 6, .inl f1)), (c2, .inr (0, [.int k2, .int s2, .ref r2])), (r2, .inl (cy 0, 6, .inl f2))] zz)) (va_A [(h0, .inr (2, [.int (nI sz), .int tn, .int sn, .ref ar])), (ar, .inl (cy 2, 3, .inr (.inr (.inr (.inr (va_up (va_up (va_up (fun _ => none) 0 (some c0)) 1 (some c1)) 2 (some c2))))))), (c0, .inr (0, [.int k0, .int s0, .ref r0])), (r0, .inl (cy 0, 6, .inl f0)), (c1, .inr (0, [.int k1, .int s1, .ref r1])), (r1, .inl (cy 0, 6, .inl f1)), (c2, .inr (0, [.int k2, .int s2, .ref r2])), (r2, .inl (cy 0, 6, .inl f2))] zz)) 0 0 (va_A [(h0, .inr (2, [.int (nI sz), .int tn, .int sn, .ref ar])), (ar, .inl (cy 2, 3, .inr (.inr (.inr (.inr (va_up (va_up (va_up (fun _ => none) 0 (some c0)) 1 (some c1)) 2 (some c2))))))), (c0, .inr (0, [.int k0, .int s0, .ref r0])), (r0, .inl (cy 0, 6, .inl f0)), (c1, .inr (0, [.int k1, .int s1, .ref r1])), (r1, .inl (cy 0, 6, .inl f1)), (c2, .inr (0, [.int k2, .int s2, .ref r2])), (r2, .inl (cy 0, 6, .inl f2))] zz) := by
  refine Met.ofW (cc := cX2_coloursUsed) (maxL := 4) (ret := (some .int)) (by decide) rfl ?_
  intro p e s m args below meth c s₁ B hml hv
  obtain ⟨rfl, hsz, hP, hD0, hX⟩ := hv
  have hx := B.exec
  have hb := B.bytes
  have hr := B.returns
  have hts := atoms_spec (ws := wsX2_coloursUsed) B.pre
  have hown : s.vm.findClass RX2 = some m.cls := findClass_of_methodNamed B.named
  have hlocks := B.notSynchronized
  subst hsz
  have hD := hD0.self (sz := s.heap.size)
  generalize hAe : va_A [(h0, .inr (2, [.int (nI sz), .int tn, .int sn, .ref ar])), (ar, .inl (cy 2, 3, .inr (.inr (.inr (.inr (va_up (va_up (va_up (fun _ => none) 0 (some c0)) 1 (some c1)) 2 (some c2))))))), (c0, .inr (0, [.int k0, .int s0, .ref r0])), (r0, .inl (cy 0, 6, .inl f0)), (c1, .inr (0, [.int k1, .int s1, .ref r1])), (r1, .inl (cy 0, 6, .inl f1)), (c2, .inr (0, [.int k2, .int s2, .ref r2])), (r2, .inl (cy 0, 6, .inl f2))] s.heap.size = A at hD hX ⊢
  have hA : ∀ q : Nat, s.heap.size ≤ q → A q := fun q h => by rw [← hAe]; exact Or.inr h
  obtain ⟨H, hH⟩ : ∃ H : Heap, H = s.heap := ⟨_, rfl⟩
  have hS : va_S A s.heap H [] := hH ▸ va_S.rf
  have hK := hX.1
  have hP : va_P D vwCl [(h0, .inr (2, [.int (nI sz), .int tn, .int sn, .ref ar])), (ar, .inl (cy 2, 3, .inr (.inr (.inr (.inr (va_up (va_up (va_up (fun _ => none) 0 (some c0)) 1 (some c1)) 2 (some c2))))))), (c0, .inr (0, [.int k0, .int s0, .ref r0])), (r0, .inl (cy 0, 6, .inl f0)), (c1, .inr (0, [.int k1, .int s1, .ref r1])), (r1, .inl (cy 0, 6, .inl f1)), (c2, .inr (0, [.int k2, .int s2, .ref r2])), (r2, .inl (cy 0, 6, .inl f2))] H := hH ▸ hP
  rw [← hH]
  have hw_X0 : ∀ w ∈ wsX00, w ∈ wsX2_coloursUsed := chX0 (by decide +kernel)
  have hw_X2 : ∀ w ∈ wsX20, w ∈ wsX2_coloursUsed := chX2 (by decide +kernel)
  have f_18 := hts (.fieldLink RX2 18 "CubeTower$Tower" "size" "I") (inC wa_717 (by decide +kernel))
  have f_12 := hts (.fieldLink RX2 12 "CubeTower$Tower" "cubes" "[LCubeTower$Cube;") (inC wa_70 (by decide +kernel))
  have f_35 := hts (.fieldLink RX2 35 "CubeTower$Cube" "colours" "[I") (inC wa_906 (by decide +kernel))
  have hl := lv_entry ([.ref h0]) (n := 4) (Nat.le_of_ble_eq_true rfl)
  rw [lg_entry_eq]
  generalize (lg_sl ([.ref h0]) ++ List.replicate (4 - (lg_sl ([.ref h0])).length) Slot.unset).toArray = ls at hl ⊢
  have hl : lv_has ls 4 [(0, .ref h0)] := hl
  rcases hsz with rfl | rfl | rfl
  · have hP : va_P D vwCl [(h0, .inr (2, [.int 0, .int tn, .int sn, .ref ar])), (ar, .inl (cy 2, 3, .inr (.inr (.inr (.inr (va_up (va_up (va_up (fun _ => none) 0 (some c0)) 1 (some c1)) 2 (some c2))))))), (c0, .inr (0, [.int k0, .int s0, .ref r0])), (r0, .inl (cy 0, 6, .inl f0)), (c1, .inr (0, [.int k1, .int s1, .ref r1])), (r1, .inl (cy 0, 6, .inl f1)), (c2, .inr (0, [.int k2, .int s2, .ref r2])), (r2, .inl (cy 0, 6, .inl f2))] H := hP
    have hD : va_D A [(h0, .inr (2, [.int 0, .int tn, .int sn, .ref ar])), (ar, .inl (cy 2, 3, .inr (.inr (.inr (.inr (va_up (va_up (va_up (fun _ => none) 0 (some c0)) 1 (some c1)) 2 (some c2))))))), (c0, .inr (0, [.int k0, .int s0, .ref r0])), (r0, .inl (cy 0, 6, .inl f0)), (c1, .inr (0, [.int k1, .int s1, .ref r1])), (r1, .inl (cy 0, 6, .inl f1)), (c2, .inr (0, [.int k2, .int s2, .ref r2])), (r2, .inl (cy 0, 6, .inl f2))] := hD
    refine lv_iconst (v := 0) hx hb dX2_coloursUsed_0 (by decide) ?_
    refine lv_istore_n (lv' := [(1, .int 0), (0, .ref h0)]) hx hb dX2_coloursUsed_1 rfl hl (by decide) rfl (fun ls hl => ?_)
    refine lv_iconst (v := 0) hx hb dX2_coloursUsed_2 (by decide) ?_
    refine lv_istore_n (lv' := [(2, .int 0), (1, .int 0), (0, .ref h0)]) hx hb dX2_coloursUsed_3 rfl hl (by decide) rfl (fun ls hl => ?_)
    refine lv_iload_n hx hb dX2_coloursUsed_4 rfl (lv_at hl 0 rfl) ?_
    refine lv_aload_n hx hb dX2_coloursUsed_5 rfl (lv_at hl 2 rfl) ?_
    refine va_get (D := D) (ci := 2) (v := .int 0) (C := RX2) (T := TX2) (N := 4) hx hb hts hw_X2 hown hK hP 0 rfl rfl 0 (by decide) f_18 (fun _ h9 => h9) rfl dX2_coloursUsed_6 ?_
    refine lv_icmp_ge (tgt := 53) hx hb dX2_coloursUsed_9 (by decide) (fun c_9 => ?_) (fun c_9 => ?_)
    · refine lv_iload_n hx hb dX2_coloursUsed_53 rfl (lv_at hl 1 rfl) ?_
      refine kc_i (wc := []) (wr := [(h0, .inr (2, [.int 0, .int tn, .int sn, .ref ar])), (ar, .inl (cy 2, 3, .inr (.inr (.inr (.inr (va_up (va_up (va_up (fun _ => none) 0 (some c0)) 1 (some c1)) 2 (some c2))))))), (c0, .inr (0, [.int k0, .int s0, .ref r0])), (r0, .inl (cy 0, 6, .inl f0)), (c1, .inr (0, [.int k1, .int s1, .ref r1])), (r1, .inl (cy 0, 6, .inl f1)), (c2, .inr (0, [.int k2, .int s2, .ref r2])), (r2, .inl (cy 0, 6, .inl f2))]) (va_runS (As := [.int 0]) (rest := []) ⟨hx, hb, hml, hown, hts⟩ (g_J6_bitCount l D cy H.size 0 ) (va_cwS 1 hts gX2_coloursUsed_J6_bitCount_0f7a4 rfl rfl rfl hdc_J6_bitCount_0f7a4.2 ⟨Nat.le_of_ble_eq_true rfl, Nat.le_of_ble_eq_true rfl⟩) (cpre_S (wc := []) hX hP hD hS hA [] (by decide +kernel) rfl) rfl rfl hl.1 rfl (lv_room (Nat.le_of_ble_eq_true rfl)) dX2_coloursUsed_54 ⟨Nat.le_of_ble_eq_true rfl, Nat.le_of_ble_eq_true rfl⟩) hP hD hS hA [] [0, 1, 2, 3, 4, 5, 6, 7] rfl rfl (by decide +kernel) (by decide +kernel) (fun rb u1 H locs hw hP hD hS => ?_)
      obtain ⟨hu, hrb⟩ := hw
      subst hu
      have hP : va_P D vwCl [(h0, .inr (2, [.int 0, .int tn, .int sn, .ref ar])), (ar, .inl (cy 2, 3, .inr (.inr (.inr (.inr (va_up (va_up (va_up (fun _ => none) 0 (some c0)) 1 (some c1)) 2 (some c2))))))), (c0, .inr (0, [.int k0, .int s0, .ref r0])), (r0, .inl (cy 0, 6, .inl f0)), (c1, .inr (0, [.int k1, .int s1, .ref r1])), (r1, .inl (cy 0, 6, .inl f1)), (c2, .inr (0, [.int k2, .int s2, .ref r2])), (r2, .inl (cy 0, 6, .inl f2))] H := hP
      have hD : va_D A [(h0, .inr (2, [.int 0, .int tn, .int sn, .ref ar])), (ar, .inl (cy 2, 3, .inr (.inr (.inr (.inr (va_up (va_up (va_up (fun _ => none) 0 (some c0)) 1 (some c1)) 2 (some c2))))))), (c0, .inr (0, [.int k0, .int s0, .ref r0])), (r0, .inl (cy 0, 6, .inl f0)), (c1, .inr (0, [.int k1, .int s1, .ref r1])), (r1, .inl (cy 0, 6, .inl f1)), (c2, .inr (0, [.int k2, .int s2, .ref r2])), (r2, .inl (cy 0, 6, .inl f2))] := hD
      have hP9 := hP.sub (ws' := [(h0, .inr (2, [.int (nI 0), .int tn, .int sn, .ref ar])), (ar, .inl (cy 2, 3, .inr (.inr (.inr (.inr (va_up (va_up (va_up (fun _ => none) 0 (some c0)) 1 (some c1)) 2 (some c2))))))), (c0, .inr (0, [.int k0, .int s0, .ref r0])), (r0, .inl (cy 0, 6, .inl f0)), (c1, .inr (0, [.int k1, .int s1, .ref r1])), (r1, .inl (cy 0, 6, .inl f1)), (c2, .inr (0, [.int k2, .int s2, .ref r2])), (r2, .inl (cy 0, 6, .inl f2))]) [0, 1, 2, 3, 4, 5, 6, 7] rfl
      have hD9 := hD.sub (ws' := [(h0, .inr (2, [.int (nI 0), .int tn, .int sn, .ref ar])), (ar, .inl (cy 2, 3, .inr (.inr (.inr (.inr (va_up (va_up (va_up (fun _ => none) 0 (some c0)) 1 (some c1)) 2 (some c2))))))), (c0, .inr (0, [.int k0, .int s0, .ref r0])), (r0, .inl (cy 0, 6, .inl f0)), (c1, .inr (0, [.int k1, .int s1, .ref r1])), (r1, .inl (cy 0, 6, .inl f1)), (c2, .inr (0, [.int k2, .int s2, .ref r2])), (r2, .inl (cy 0, 6, .inl f2))]) [0, 1, 2, 3, 4, 5, 6, 7] (by decide +kernel) rfl
      exact W.iret (v := rb) hx hb hr (fun t9 ht9 hW9 => ⟨⟨rb, [(h0, .inr (2, [.int (nI 0), .int tn, .int sn, .ref ar])), (ar, .inl (cy 2, 3, .inr (.inr (.inr (.inr (va_up (va_up (va_up (fun _ => none) 0 (some c0)) 1 (some c1)) 2 (some c2))))))), (c0, .inr (0, [.int k0, .int s0, .ref r0])), (r0, .inl (cy 0, 6, .inl f0)), (c1, .inr (0, [.int k1, .int s1, .ref r1])), (r1, .inl (cy 0, 6, .inl f1)), (c2, .inr (0, [.int k2, .int s2, .ref r2])), (r2, .inl (cy 0, 6, .inl f2))], rfl, ⟨rfl, hrb⟩, by rw [ht9]; exact hP9, hD9⟩, hS.F ht9⟩) hS.2.2 dX2_coloursUsed_57
    · exact absurd c_9 (by decide)
  · have hP : va_P D vwCl [(h0, .inr (2, [.int 2, .int tn, .int sn, .ref ar])), (ar, .inl (cy 2, 3, .inr (.inr (.inr (.inr (va_up (va_up (va_up (fun _ => none) 0 (some c0)) 1 (some c1)) 2 (some c2))))))), (c0, .inr (0, [.int k0, .int s0, .ref r0])), (r0, .inl (cy 0, 6, .inl f0)), (c1, .inr (0, [.int k1, .int s1, .ref r1])), (r1, .inl (cy 0, 6, .inl f1)), (c2, .inr (0, [.int k2, .int s2, .ref r2])), (r2, .inl (cy 0, 6, .inl f2))] H := hP
    have hD : va_D A [(h0, .inr (2, [.int 2, .int tn, .int sn, .ref ar])), (ar, .inl (cy 2, 3, .inr (.inr (.inr (.inr (va_up (va_up (va_up (fun _ => none) 0 (some c0)) 1 (some c1)) 2 (some c2))))))), (c0, .inr (0, [.int k0, .int s0, .ref r0])), (r0, .inl (cy 0, 6, .inl f0)), (c1, .inr (0, [.int k1, .int s1, .ref r1])), (r1, .inl (cy 0, 6, .inl f1)), (c2, .inr (0, [.int k2, .int s2, .ref r2])), (r2, .inl (cy 0, 6, .inl f2))] := hD
    refine lv_iconst (v := 0) hx hb dX2_coloursUsed_0 (by decide) ?_
    refine lv_istore_n (lv' := [(1, .int 0), (0, .ref h0)]) hx hb dX2_coloursUsed_1 rfl hl (by decide) rfl (fun ls hl => ?_)
    refine lv_iconst (v := 0) hx hb dX2_coloursUsed_2 (by decide) ?_
    refine lv_istore_n (lv' := [(2, .int 0), (1, .int 0), (0, .ref h0)]) hx hb dX2_coloursUsed_3 rfl hl (by decide) rfl (fun ls hl => ?_)
    refine lv_iload_n hx hb dX2_coloursUsed_4 rfl (lv_at hl 0 rfl) ?_
    refine lv_aload_n hx hb dX2_coloursUsed_5 rfl (lv_at hl 2 rfl) ?_
    refine va_get (D := D) (ci := 2) (v := .int 2) (C := RX2) (T := TX2) (N := 4) hx hb hts hw_X2 hown hK hP 0 rfl rfl 0 (by decide) f_18 (fun _ h9 => h9) rfl dX2_coloursUsed_6 ?_
    refine lv_icmp_ge (tgt := 53) hx hb dX2_coloursUsed_9 (by decide) (fun c_9 => ?_) (fun c_9 => ?_)
    · exact absurd c_9 (by decide)
    · refine lv_iload_n hx hb dX2_coloursUsed_12 rfl (lv_at hl 0 rfl) ?_
      refine lv_iconst (v := 3) hx hb dX2_coloursUsed_13 (by decide) ?_
      refine lv_icmp_ge (tgt := 53) hx hb dX2_coloursUsed_14 (by decide) (fun c_14 => ?_) (fun c_14 => ?_)
      · exact absurd c_14 (by decide)
      · refine lv_iconst (v := 0) hx hb dX2_coloursUsed_17 (by decide) ?_
        refine lv_istore_n (lv' := [(3, .int 0), (2, .int 0), (1, .int 0), (0, .ref h0)]) hx hb dX2_coloursUsed_18 rfl hl (by decide) rfl (fun ls hl => ?_)
        refine lv_iload_n hx hb dX2_coloursUsed_19 rfl (lv_at hl 0 rfl) ?_
        refine lv_bipush (v := 6) hx hb dX2_coloursUsed_20 (by decide) ?_
        refine lv_icmp_ge (tgt := 47) hx hb dX2_coloursUsed_22 (by decide) (fun c_22 => ?_) (fun c_22 => ?_)
        · exact absurd c_22 (by decide)
        · refine lv_iload_n hx hb dX2_coloursUsed_25 rfl (lv_at hl 2 rfl) ?_
          refine lv_iconst (v := 1) hx hb dX2_coloursUsed_26 (by decide) ?_
          refine lv_aload_n hx hb dX2_coloursUsed_27 rfl (lv_at hl 3 rfl) ?_
          refine va_get (D := D) (ci := 2) (v := .ref ar) (C := RX2) (T := TX2) (N := 4) hx hb hts hw_X2 hown hK hP 0 rfl rfl 3 (by decide) f_12 (fun _ h9 => h9) rfl dX2_coloursUsed_28 ?_
          refine lv_iload_n hx hb dX2_coloursUsed_31 rfl (lv_at hl 1 rfl) ?_
          refine va_aldq hx hb hK hP 1 2 rfl rfl (vi_c (by decide +kernel)) dX2_coloursUsed_32 ?_
          refine kq (a := c0) (rfl) ?_
          refine va_get (D := D) (ci := 0) (v := .ref r0) (C := RX0) (T := TX0) (N := 3) hx hb hts hw_X0 hown hK hP 2 rfl rfl 2 (by decide) f_35 (fun _ h9 => h9) rfl dX2_coloursUsed_33 ?_
          refine lv_iload_n hx hb dX2_coloursUsed_36 rfl (lv_at hl 0 rfl) ?_
          refine va_iald hx hb hK hP 3 0 rfl rfl (vi_c (by decide +kernel)) dX2_coloursUsed_37 ?_
          refine lv_topi (fun y2 ey2 => ?_)
          obtain rfl : y2 = f0 0 := ey2.trans (by first | rfl | exact congrArg f0 (by decide))
          refine lv_ishl hx hb dX2_coloursUsed_38 ?_
          refine lv_ior hx hb dX2_coloursUsed_39 ?_
          refine lv_topi (fun y3 ey3 => ?_)
          obtain rfl : y3 = us1 0 f0 0 := ey3.trans (rfl)
          refine lv_istore_n (lv' := [(1, .int (us1 0 f0 0)), (3, .int 0), (2, .int 0), (0, .ref h0)]) hx hb dX2_coloursUsed_40 rfl hl (by decide) rfl (fun ls hl => ?_)
          refine lv_iinc (v := 1) (lv' := [(3, .int 1), (1, .int (us1 0 f0 0)), (2, .int 0), (0, .ref h0)]) hx hb dX2_coloursUsed_41 hl (k := 1) rfl (by decide) (by decide) rfl (fun ls hl => ?_)
          refine lv_goto (tgt := 19) hx hb dX2_coloursUsed_44 (by decide) ?_
          refine lv_iload_n hx hb dX2_coloursUsed_19 rfl (lv_at hl 0 rfl) ?_
          refine lv_bipush (v := 6) hx hb dX2_coloursUsed_20 (by decide) ?_
          refine lv_icmp_ge (tgt := 47) hx hb dX2_coloursUsed_22 (by decide) (fun c_22 => ?_) (fun c_22 => ?_)
          · exact absurd c_22 (by decide)
          · refine lv_iload_n hx hb dX2_coloursUsed_25 rfl (lv_at hl 1 rfl) ?_
            refine lv_iconst (v := 1) hx hb dX2_coloursUsed_26 (by decide) ?_
            refine lv_aload_n hx hb dX2_coloursUsed_27 rfl (lv_at hl 3 rfl) ?_
            refine va_get (D := D) (ci := 2) (v := .ref ar) (C := RX2) (T := TX2) (N := 4) hx hb hts hw_X2 hown hK hP 0 rfl rfl 3 (by decide) f_12 (fun _ h9 => h9) rfl dX2_coloursUsed_28 ?_
            refine lv_iload_n hx hb dX2_coloursUsed_31 rfl (lv_at hl 2 rfl) ?_
            refine va_aldq hx hb hK hP 1 2 rfl rfl (vi_c (by decide +kernel)) dX2_coloursUsed_32 ?_
            refine kq (a := c0) (rfl) ?_
            refine va_get (D := D) (ci := 0) (v := .ref r0) (C := RX0) (T := TX0) (N := 3) hx hb hts hw_X0 hown hK hP 2 rfl rfl 2 (by decide) f_35 (fun _ h9 => h9) rfl dX2_coloursUsed_33 ?_
            refine lv_iload_n hx hb dX2_coloursUsed_36 rfl (lv_at hl 0 rfl) ?_
            refine va_iald hx hb hK hP 3 0 rfl rfl (vi_c (by decide +kernel)) dX2_coloursUsed_37 ?_
            refine lv_topi (fun y4 ey4 => ?_)
            obtain rfl : y4 = f0 1 := ey4.trans (by first | rfl | exact congrArg f0 (by decide))
            refine lv_ishl hx hb dX2_coloursUsed_38 ?_
            refine lv_ior hx hb dX2_coloursUsed_39 ?_
            refine lv_topi (fun y5 ey5 => ?_)
            obtain rfl : y5 = us1 (us1 0 f0 0) f0 1 := ey5.trans (rfl)
            refine lv_istore_n (lv' := [(1, .int (us1 (us1 0 f0 0) f0 1)), (3, .int 1), (2, .int 0), (0, .ref h0)]) hx hb dX2_coloursUsed_40 rfl hl (by decide) rfl (fun ls hl => ?_)
            refine lv_iinc (v := 2) (lv' := [(3, .int 2), (1, .int (us1 (us1 0 f0 0) f0 1)), (2, .int 0), (0, .ref h0)]) hx hb dX2_coloursUsed_41 hl (k := 1) rfl (by decide) (by decide) rfl (fun ls hl => ?_)
            refine lv_goto (tgt := 19) hx hb dX2_coloursUsed_44 (by decide) ?_
            refine lv_iload_n hx hb dX2_coloursUsed_19 rfl (lv_at hl 0 rfl) ?_
            refine lv_bipush (v := 6) hx hb dX2_coloursUsed_20 (by decide) ?_
            refine lv_icmp_ge (tgt := 47) hx hb dX2_coloursUsed_22 (by decide) (fun c_22 => ?_) (fun c_22 => ?_)
            · exact absurd c_22 (by decide)
            · refine lv_iload_n hx hb dX2_coloursUsed_25 rfl (lv_at hl 1 rfl) ?_
              refine lv_iconst (v := 1) hx hb dX2_coloursUsed_26 (by decide) ?_
              refine lv_aload_n hx hb dX2_coloursUsed_27 rfl (lv_at hl 3 rfl) ?_
              refine va_get (D := D) (ci := 2) (v := .ref ar) (C := RX2) (T := TX2) (N := 4) hx hb hts hw_X2 hown hK hP 0 rfl rfl 3 (by decide) f_12 (fun _ h9 => h9) rfl dX2_coloursUsed_28 ?_
              refine lv_iload_n hx hb dX2_coloursUsed_31 rfl (lv_at hl 2 rfl) ?_
              refine va_aldq hx hb hK hP 1 2 rfl rfl (vi_c (by decide +kernel)) dX2_coloursUsed_32 ?_
              refine kq (a := c0) (rfl) ?_
              refine va_get (D := D) (ci := 0) (v := .ref r0) (C := RX0) (T := TX0) (N := 3) hx hb hts hw_X0 hown hK hP 2 rfl rfl 2 (by decide) f_35 (fun _ h9 => h9) rfl dX2_coloursUsed_33 ?_
              refine lv_iload_n hx hb dX2_coloursUsed_36 rfl (lv_at hl 0 rfl) ?_
              refine va_iald hx hb hK hP 3 0 rfl rfl (vi_c (by decide +kernel)) dX2_coloursUsed_37 ?_
              refine lv_topi (fun y6 ey6 => ?_)
              obtain rfl : y6 = f0 2 := ey6.trans (by first | rfl | exact congrArg f0 (by decide))
              refine lv_ishl hx hb dX2_coloursUsed_38 ?_
              refine lv_ior hx hb dX2_coloursUsed_39 ?_
              refine lv_topi (fun y7 ey7 => ?_)
              obtain rfl : y7 = us1 (us1 (us1 0 f0 0) f0 1) f0 2 := ey7.trans (rfl)
              refine lv_istore_n (lv' := [(1, .int (us1 (us1 (us1 0 f0 0) f0 1) f0 2)), (3, .int 2), (2, .int 0), (0, .ref h0)]) hx hb dX2_coloursUsed_40 rfl hl (by decide) rfl (fun ls hl => ?_)
              refine lv_iinc (v := 3) (lv' := [(3, .int 3), (1, .int (us1 (us1 (us1 0 f0 0) f0 1) f0 2)), (2, .int 0), (0, .ref h0)]) hx hb dX2_coloursUsed_41 hl (k := 1) rfl (by decide) (by decide) rfl (fun ls hl => ?_)
              refine lv_goto (tgt := 19) hx hb dX2_coloursUsed_44 (by decide) ?_
              refine lv_iload_n hx hb dX2_coloursUsed_19 rfl (lv_at hl 0 rfl) ?_
              refine lv_bipush (v := 6) hx hb dX2_coloursUsed_20 (by decide) ?_
              refine lv_icmp_ge (tgt := 47) hx hb dX2_coloursUsed_22 (by decide) (fun c_22 => ?_) (fun c_22 => ?_)
              · exact absurd c_22 (by decide)
              · refine lv_iload_n hx hb dX2_coloursUsed_25 rfl (lv_at hl 1 rfl) ?_
                refine lv_iconst (v := 1) hx hb dX2_coloursUsed_26 (by decide) ?_
                refine lv_aload_n hx hb dX2_coloursUsed_27 rfl (lv_at hl 3 rfl) ?_
                refine va_get (D := D) (ci := 2) (v := .ref ar) (C := RX2) (T := TX2) (N := 4) hx hb hts hw_X2 hown hK hP 0 rfl rfl 3 (by decide) f_12 (fun _ h9 => h9) rfl dX2_coloursUsed_28 ?_
                refine lv_iload_n hx hb dX2_coloursUsed_31 rfl (lv_at hl 2 rfl) ?_
                refine va_aldq hx hb hK hP 1 2 rfl rfl (vi_c (by decide +kernel)) dX2_coloursUsed_32 ?_
                refine kq (a := c0) (rfl) ?_
                refine va_get (D := D) (ci := 0) (v := .ref r0) (C := RX0) (T := TX0) (N := 3) hx hb hts hw_X0 hown hK hP 2 rfl rfl 2 (by decide) f_35 (fun _ h9 => h9) rfl dX2_coloursUsed_33 ?_
                refine lv_iload_n hx hb dX2_coloursUsed_36 rfl (lv_at hl 0 rfl) ?_
                refine va_iald hx hb hK hP 3 0 rfl rfl (vi_c (by decide +kernel)) dX2_coloursUsed_37 ?_
                refine lv_topi (fun y8 ey8 => ?_)
                obtain rfl : y8 = f0 3 := ey8.trans (by first | rfl | exact congrArg f0 (by decide))
                refine lv_ishl hx hb dX2_coloursUsed_38 ?_
                refine lv_ior hx hb dX2_coloursUsed_39 ?_
                refine lv_topi (fun y9 ey9 => ?_)
                obtain rfl : y9 = us1 (us1 (us1 (us1 0 f0 0) f0 1) f0 2) f0 3 := ey9.trans (rfl)
                refine lv_istore_n (lv' := [(1, .int (us1 (us1 (us1 (us1 0 f0 0) f0 1) f0 2) f0 3)), (3, .int 3), (2, .int 0), (0, .ref h0)]) hx hb dX2_coloursUsed_40 rfl hl (by decide) rfl (fun ls hl => ?_)
                refine lv_iinc (v := 4) (lv' := [(3, .int 4), (1, .int (us1 (us1 (us1 (us1 0 f0 0) f0 1) f0 2) f0 3)), (2, .int 0), (0, .ref h0)]) hx hb dX2_coloursUsed_41 hl (k := 1) rfl (by decide) (by decide) rfl (fun ls hl => ?_)
                refine lv_goto (tgt := 19) hx hb dX2_coloursUsed_44 (by decide) ?_
                refine lv_iload_n hx hb dX2_coloursUsed_19 rfl (lv_at hl 0 rfl) ?_
                refine lv_bipush (v := 6) hx hb dX2_coloursUsed_20 (by decide) ?_
                refine lv_icmp_ge (tgt := 47) hx hb dX2_coloursUsed_22 (by decide) (fun c_22 => ?_) (fun c_22 => ?_)
                · exact absurd c_22 (by decide)
                · refine lv_iload_n hx hb dX2_coloursUsed_25 rfl (lv_at hl 1 rfl) ?_
                  refine lv_iconst (v := 1) hx hb dX2_coloursUsed_26 (by decide) ?_
                  refine lv_aload_n hx hb dX2_coloursUsed_27 rfl (lv_at hl 3 rfl) ?_
                  refine va_get (D := D) (ci := 2) (v := .ref ar) (C := RX2) (T := TX2) (N := 4) hx hb hts hw_X2 hown hK hP 0 rfl rfl 3 (by decide) f_12 (fun _ h9 => h9) rfl dX2_coloursUsed_28 ?_
                  refine lv_iload_n hx hb dX2_coloursUsed_31 rfl (lv_at hl 2 rfl) ?_
                  refine va_aldq hx hb hK hP 1 2 rfl rfl (vi_c (by decide +kernel)) dX2_coloursUsed_32 ?_
                  refine kq (a := c0) (rfl) ?_
                  refine va_get (D := D) (ci := 0) (v := .ref r0) (C := RX0) (T := TX0) (N := 3) hx hb hts hw_X0 hown hK hP 2 rfl rfl 2 (by decide) f_35 (fun _ h9 => h9) rfl dX2_coloursUsed_33 ?_
                  refine lv_iload_n hx hb dX2_coloursUsed_36 rfl (lv_at hl 0 rfl) ?_
                  refine va_iald hx hb hK hP 3 0 rfl rfl (vi_c (by decide +kernel)) dX2_coloursUsed_37 ?_
                  refine lv_topi (fun y10 ey10 => ?_)
                  obtain rfl : y10 = f0 4 := ey10.trans (by first | rfl | exact congrArg f0 (by decide))
                  refine lv_ishl hx hb dX2_coloursUsed_38 ?_
                  refine lv_ior hx hb dX2_coloursUsed_39 ?_
                  refine lv_topi (fun y11 ey11 => ?_)
                  obtain rfl : y11 = us1 (us1 (us1 (us1 (us1 0 f0 0) f0 1) f0 2) f0 3) f0 4 := ey11.trans (rfl)
                  refine lv_istore_n (lv' := [(1, .int (us1 (us1 (us1 (us1 (us1 0 f0 0) f0 1) f0 2) f0 3) f0 4)), (3, .int 4), (2, .int 0), (0, .ref h0)]) hx hb dX2_coloursUsed_40 rfl hl (by decide) rfl (fun ls hl => ?_)
                  refine lv_iinc (v := 5) (lv' := [(3, .int 5), (1, .int (us1 (us1 (us1 (us1 (us1 0 f0 0) f0 1) f0 2) f0 3) f0 4)), (2, .int 0), (0, .ref h0)]) hx hb dX2_coloursUsed_41 hl (k := 1) rfl (by decide) (by decide) rfl (fun ls hl => ?_)
                  refine lv_goto (tgt := 19) hx hb dX2_coloursUsed_44 (by decide) ?_
                  refine lv_iload_n hx hb dX2_coloursUsed_19 rfl (lv_at hl 0 rfl) ?_
                  refine lv_bipush (v := 6) hx hb dX2_coloursUsed_20 (by decide) ?_
                  refine lv_icmp_ge (tgt := 47) hx hb dX2_coloursUsed_22 (by decide) (fun c_22 => ?_) (fun c_22 => ?_)
                  · exact absurd c_22 (by decide)
                  · refine lv_iload_n hx hb dX2_coloursUsed_25 rfl (lv_at hl 1 rfl) ?_
                    refine lv_iconst (v := 1) hx hb dX2_coloursUsed_26 (by decide) ?_
                    refine lv_aload_n hx hb dX2_coloursUsed_27 rfl (lv_at hl 3 rfl) ?_
                    refine va_get (D := D) (ci := 2) (v := .ref ar) (C := RX2) (T := TX2) (N := 4) hx hb hts hw_X2 hown hK hP 0 rfl rfl 3 (by decide) f_12 (fun _ h9 => h9) rfl dX2_coloursUsed_28 ?_
                    refine lv_iload_n hx hb dX2_coloursUsed_31 rfl (lv_at hl 2 rfl) ?_
                    refine va_aldq hx hb hK hP 1 2 rfl rfl (vi_c (by decide +kernel)) dX2_coloursUsed_32 ?_
                    refine kq (a := c0) (rfl) ?_
                    refine va_get (D := D) (ci := 0) (v := .ref r0) (C := RX0) (T := TX0) (N := 3) hx hb hts hw_X0 hown hK hP 2 rfl rfl 2 (by decide) f_35 (fun _ h9 => h9) rfl dX2_coloursUsed_33 ?_
                    refine lv_iload_n hx hb dX2_coloursUsed_36 rfl (lv_at hl 0 rfl) ?_
                    refine va_iald hx hb hK hP 3 0 rfl rfl (vi_c (by decide +kernel)) dX2_coloursUsed_37 ?_
                    refine lv_topi (fun y12 ey12 => ?_)
                    obtain rfl : y12 = f0 5 := ey12.trans (by first | rfl | exact congrArg f0 (by decide))
                    refine lv_ishl hx hb dX2_coloursUsed_38 ?_
                    refine lv_ior hx hb dX2_coloursUsed_39 ?_
                    refine lv_topi (fun y13 ey13 => ?_)
                    obtain rfl : y13 = us6 0 f0 := ey13.trans (rfl)
                    refine lv_istore_n (lv' := [(1, .int (us6 0 f0)), (3, .int 5), (2, .int 0), (0, .ref h0)]) hx hb dX2_coloursUsed_40 rfl hl (by decide) rfl (fun ls hl => ?_)
                    refine lv_iinc (v := 6) (lv' := [(3, .int 6), (1, .int (us6 0 f0)), (2, .int 0), (0, .ref h0)]) hx hb dX2_coloursUsed_41 hl (k := 1) rfl (by decide) (by decide) rfl (fun ls hl => ?_)
                    refine lv_goto (tgt := 19) hx hb dX2_coloursUsed_44 (by decide) ?_
                    refine lv_iload_n hx hb dX2_coloursUsed_19 rfl (lv_at hl 0 rfl) ?_
                    refine lv_bipush (v := 6) hx hb dX2_coloursUsed_20 (by decide) ?_
                    refine lv_icmp_ge (tgt := 47) hx hb dX2_coloursUsed_22 (by decide) (fun c_22 => ?_) (fun c_22 => ?_)
                    · refine lv_iinc (v := 1) (lv' := [(2, .int 1), (3, .int 6), (1, .int (us6 0 f0)), (0, .ref h0)]) hx hb dX2_coloursUsed_47 hl (k := 2) rfl (by decide) (by decide) rfl (fun ls hl => ?_)
                      refine lv_goto (tgt := 4) hx hb dX2_coloursUsed_50 (by decide) ?_
                      refine lv_iload_n hx hb dX2_coloursUsed_4 rfl (lv_at hl 0 rfl) ?_
                      refine lv_aload_n hx hb dX2_coloursUsed_5 rfl (lv_at hl 3 rfl) ?_
                      refine va_get (D := D) (ci := 2) (v := .int 2) (C := RX2) (T := TX2) (N := 4) hx hb hts hw_X2 hown hK hP 0 rfl rfl 0 (by decide) f_18 (fun _ h9 => h9) rfl dX2_coloursUsed_6 ?_
                      refine lv_icmp_ge (tgt := 53) hx hb dX2_coloursUsed_9 (by decide) (fun c_9 => ?_) (fun c_9 => ?_)
                      · exact absurd c_9 (by decide)
                      · refine lv_iload_n hx hb dX2_coloursUsed_12 rfl (lv_at hl 0 rfl) ?_
                        refine lv_iconst (v := 3) hx hb dX2_coloursUsed_13 (by decide) ?_
                        refine lv_icmp_ge (tgt := 53) hx hb dX2_coloursUsed_14 (by decide) (fun c_14 => ?_) (fun c_14 => ?_)
                        · exact absurd c_14 (by decide)
                        · refine lv_iconst (v := 0) hx hb dX2_coloursUsed_17 (by decide) ?_
                          refine lv_istore_n (lv' := [(3, .int 0), (2, .int 1), (1, .int (us6 0 f0)), (0, .ref h0)]) hx hb dX2_coloursUsed_18 rfl hl (by decide) rfl (fun ls hl => ?_)
                          refine lv_iload_n hx hb dX2_coloursUsed_19 rfl (lv_at hl 0 rfl) ?_
                          refine lv_bipush (v := 6) hx hb dX2_coloursUsed_20 (by decide) ?_
                          refine lv_icmp_ge (tgt := 47) hx hb dX2_coloursUsed_22 (by decide) (fun c_22 => ?_) (fun c_22 => ?_)
                          · exact absurd c_22 (by decide)
                          · refine lv_iload_n hx hb dX2_coloursUsed_25 rfl (lv_at hl 2 rfl) ?_
                            refine lv_iconst (v := 1) hx hb dX2_coloursUsed_26 (by decide) ?_
                            refine lv_aload_n hx hb dX2_coloursUsed_27 rfl (lv_at hl 3 rfl) ?_
                            refine va_get (D := D) (ci := 2) (v := .ref ar) (C := RX2) (T := TX2) (N := 4) hx hb hts hw_X2 hown hK hP 0 rfl rfl 3 (by decide) f_12 (fun _ h9 => h9) rfl dX2_coloursUsed_28 ?_
                            refine lv_iload_n hx hb dX2_coloursUsed_31 rfl (lv_at hl 1 rfl) ?_
                            refine va_aldq hx hb hK hP 1 2 rfl rfl (vi_c (by decide +kernel)) dX2_coloursUsed_32 ?_
                            refine kq (a := c1) (rfl) ?_
                            refine va_get (D := D) (ci := 0) (v := .ref r1) (C := RX0) (T := TX0) (N := 3) hx hb hts hw_X0 hown hK hP 4 rfl rfl 2 (by decide) f_35 (fun _ h9 => h9) rfl dX2_coloursUsed_33 ?_
                            refine lv_iload_n hx hb dX2_coloursUsed_36 rfl (lv_at hl 0 rfl) ?_
                            refine va_iald hx hb hK hP 5 0 rfl rfl (vi_c (by decide +kernel)) dX2_coloursUsed_37 ?_
                            refine lv_topi (fun y14 ey14 => ?_)
                            obtain rfl : y14 = f1 0 := ey14.trans (by first | rfl | exact congrArg f1 (by decide))
                            refine lv_ishl hx hb dX2_coloursUsed_38 ?_
                            refine lv_ior hx hb dX2_coloursUsed_39 ?_
                            refine lv_topi (fun y15 ey15 => ?_)
                            obtain rfl : y15 = us1 (us6 0 f0) f1 0 := ey15.trans (rfl)
                            refine lv_istore_n (lv' := [(1, .int (us1 (us6 0 f0) f1 0)), (3, .int 0), (2, .int 1), (0, .ref h0)]) hx hb dX2_coloursUsed_40 rfl hl (by decide) rfl (fun ls hl => ?_)
                            refine lv_iinc (v := 1) (lv' := [(3, .int 1), (1, .int (us1 (us6 0 f0) f1 0)), (2, .int 1), (0, .ref h0)]) hx hb dX2_coloursUsed_41 hl (k := 1) rfl (by decide) (by decide) rfl (fun ls hl => ?_)
                            refine lv_goto (tgt := 19) hx hb dX2_coloursUsed_44 (by decide) ?_
                            refine lv_iload_n hx hb dX2_coloursUsed_19 rfl (lv_at hl 0 rfl) ?_
                            refine lv_bipush (v := 6) hx hb dX2_coloursUsed_20 (by decide) ?_
                            refine lv_icmp_ge (tgt := 47) hx hb dX2_coloursUsed_22 (by decide) (fun c_22 => ?_) (fun c_22 => ?_)
                            · exact absurd c_22 (by decide)
                            · refine lv_iload_n hx hb dX2_coloursUsed_25 rfl (lv_at hl 1 rfl) ?_
                              refine lv_iconst (v := 1) hx hb dX2_coloursUsed_26 (by decide) ?_
                              refine lv_aload_n hx hb dX2_coloursUsed_27 rfl (lv_at hl 3 rfl) ?_
                              refine va_get (D := D) (ci := 2) (v := .ref ar) (C := RX2) (T := TX2) (N := 4) hx hb hts hw_X2 hown hK hP 0 rfl rfl 3 (by decide) f_12 (fun _ h9 => h9) rfl dX2_coloursUsed_28 ?_
                              refine lv_iload_n hx hb dX2_coloursUsed_31 rfl (lv_at hl 2 rfl) ?_
                              refine va_aldq hx hb hK hP 1 2 rfl rfl (vi_c (by decide +kernel)) dX2_coloursUsed_32 ?_
                              refine kq (a := c1) (rfl) ?_
                              refine va_get (D := D) (ci := 0) (v := .ref r1) (C := RX0) (T := TX0) (N := 3) hx hb hts hw_X0 hown hK hP 4 rfl rfl 2 (by decide) f_35 (fun _ h9 => h9) rfl dX2_coloursUsed_33 ?_
                              refine lv_iload_n hx hb dX2_coloursUsed_36 rfl (lv_at hl 0 rfl) ?_
                              refine va_iald hx hb hK hP 5 0 rfl rfl (vi_c (by decide +kernel)) dX2_coloursUsed_37 ?_
                              refine lv_topi (fun y16 ey16 => ?_)
                              obtain rfl : y16 = f1 1 := ey16.trans (by first | rfl | exact congrArg f1 (by decide))
                              refine lv_ishl hx hb dX2_coloursUsed_38 ?_
                              refine lv_ior hx hb dX2_coloursUsed_39 ?_
                              refine lv_topi (fun y17 ey17 => ?_)
                              obtain rfl : y17 = us1 (us1 (us6 0 f0) f1 0) f1 1 := ey17.trans (rfl)
                              refine lv_istore_n (lv' := [(1, .int (us1 (us1 (us6 0 f0) f1 0) f1 1)), (3, .int 1), (2, .int 1), (0, .ref h0)]) hx hb dX2_coloursUsed_40 rfl hl (by decide) rfl (fun ls hl => ?_)
                              refine lv_iinc (v := 2) (lv' := [(3, .int 2), (1, .int (us1 (us1 (us6 0 f0) f1 0) f1 1)), (2, .int 1), (0, .ref h0)]) hx hb dX2_coloursUsed_41 hl (k := 1) rfl (by decide) (by decide) rfl (fun ls hl => ?_)
                              refine lv_goto (tgt := 19) hx hb dX2_coloursUsed_44 (by decide) ?_
                              refine lv_iload_n hx hb dX2_coloursUsed_19 rfl (lv_at hl 0 rfl) ?_
                              refine lv_bipush (v := 6) hx hb dX2_coloursUsed_20 (by decide) ?_
                              refine lv_icmp_ge (tgt := 47) hx hb dX2_coloursUsed_22 (by decide) (fun c_22 => ?_) (fun c_22 => ?_)
                              · exact absurd c_22 (by decide)
                              · refine lv_iload_n hx hb dX2_coloursUsed_25 rfl (lv_at hl 1 rfl) ?_
                                refine lv_iconst (v := 1) hx hb dX2_coloursUsed_26 (by decide) ?_
                                refine lv_aload_n hx hb dX2_coloursUsed_27 rfl (lv_at hl 3 rfl) ?_
                                refine va_get (D := D) (ci := 2) (v := .ref ar) (C := RX2) (T := TX2) (N := 4) hx hb hts hw_X2 hown hK hP 0 rfl rfl 3 (by decide) f_12 (fun _ h9 => h9) rfl dX2_coloursUsed_28 ?_
                                refine lv_iload_n hx hb dX2_coloursUsed_31 rfl (lv_at hl 2 rfl) ?_
                                refine va_aldq hx hb hK hP 1 2 rfl rfl (vi_c (by decide +kernel)) dX2_coloursUsed_32 ?_
                                refine kq (a := c1) (rfl) ?_
                                refine va_get (D := D) (ci := 0) (v := .ref r1) (C := RX0) (T := TX0) (N := 3) hx hb hts hw_X0 hown hK hP 4 rfl rfl 2 (by decide) f_35 (fun _ h9 => h9) rfl dX2_coloursUsed_33 ?_
                                refine lv_iload_n hx hb dX2_coloursUsed_36 rfl (lv_at hl 0 rfl) ?_
                                refine va_iald hx hb hK hP 5 0 rfl rfl (vi_c (by decide +kernel)) dX2_coloursUsed_37 ?_
                                refine lv_topi (fun y18 ey18 => ?_)
                                obtain rfl : y18 = f1 2 := ey18.trans (by first | rfl | exact congrArg f1 (by decide))
                                refine lv_ishl hx hb dX2_coloursUsed_38 ?_
                                refine lv_ior hx hb dX2_coloursUsed_39 ?_
                                refine lv_topi (fun y19 ey19 => ?_)
                                obtain rfl : y19 = us1 (us1 (us1 (us6 0 f0) f1 0) f1 1) f1 2 := ey19.trans (rfl)
                                refine lv_istore_n (lv' := [(1, .int (us1 (us1 (us1 (us6 0 f0) f1 0) f1 1) f1 2)), (3, .int 2), (2, .int 1), (0, .ref h0)]) hx hb dX2_coloursUsed_40 rfl hl (by decide) rfl (fun ls hl => ?_)
                                refine lv_iinc (v := 3) (lv' := [(3, .int 3), (1, .int (us1 (us1 (us1 (us6 0 f0) f1 0) f1 1) f1 2)), (2, .int 1), (0, .ref h0)]) hx hb dX2_coloursUsed_41 hl (k := 1) rfl (by decide) (by decide) rfl (fun ls hl => ?_)
                                refine lv_goto (tgt := 19) hx hb dX2_coloursUsed_44 (by decide) ?_
                                refine lv_iload_n hx hb dX2_coloursUsed_19 rfl (lv_at hl 0 rfl) ?_
                                refine lv_bipush (v := 6) hx hb dX2_coloursUsed_20 (by decide) ?_
                                refine lv_icmp_ge (tgt := 47) hx hb dX2_coloursUsed_22 (by decide) (fun c_22 => ?_) (fun c_22 => ?_)
                                · exact absurd c_22 (by decide)
                                · refine lv_iload_n hx hb dX2_coloursUsed_25 rfl (lv_at hl 1 rfl) ?_
                                  refine lv_iconst (v := 1) hx hb dX2_coloursUsed_26 (by decide) ?_
                                  refine lv_aload_n hx hb dX2_coloursUsed_27 rfl (lv_at hl 3 rfl) ?_
                                  refine va_get (D := D) (ci := 2) (v := .ref ar) (C := RX2) (T := TX2) (N := 4) hx hb hts hw_X2 hown hK hP 0 rfl rfl 3 (by decide) f_12 (fun _ h9 => h9) rfl dX2_coloursUsed_28 ?_
                                  refine lv_iload_n hx hb dX2_coloursUsed_31 rfl (lv_at hl 2 rfl) ?_
                                  refine va_aldq hx hb hK hP 1 2 rfl rfl (vi_c (by decide +kernel)) dX2_coloursUsed_32 ?_
                                  refine kq (a := c1) (rfl) ?_
                                  refine va_get (D := D) (ci := 0) (v := .ref r1) (C := RX0) (T := TX0) (N := 3) hx hb hts hw_X0 hown hK hP 4 rfl rfl 2 (by decide) f_35 (fun _ h9 => h9) rfl dX2_coloursUsed_33 ?_
                                  refine lv_iload_n hx hb dX2_coloursUsed_36 rfl (lv_at hl 0 rfl) ?_
                                  refine va_iald hx hb hK hP 5 0 rfl rfl (vi_c (by decide +kernel)) dX2_coloursUsed_37 ?_
                                  refine lv_topi (fun y20 ey20 => ?_)
                                  obtain rfl : y20 = f1 3 := ey20.trans (by first | rfl | exact congrArg f1 (by decide))
                                  refine lv_ishl hx hb dX2_coloursUsed_38 ?_
                                  refine lv_ior hx hb dX2_coloursUsed_39 ?_
                                  refine lv_topi (fun y21 ey21 => ?_)
                                  obtain rfl : y21 = us1 (us1 (us1 (us1 (us6 0 f0) f1 0) f1 1) f1 2) f1 3 := ey21.trans (rfl)
                                  refine lv_istore_n (lv' := [(1, .int (us1 (us1 (us1 (us1 (us6 0 f0) f1 0) f1 1) f1 2) f1 3)), (3, .int 3), (2, .int 1), (0, .ref h0)]) hx hb dX2_coloursUsed_40 rfl hl (by decide) rfl (fun ls hl => ?_)
                                  refine lv_iinc (v := 4) (lv' := [(3, .int 4), (1, .int (us1 (us1 (us1 (us1 (us6 0 f0) f1 0) f1 1) f1 2) f1 3)), (2, .int 1), (0, .ref h0)]) hx hb dX2_coloursUsed_41 hl (k := 1) rfl (by decide) (by decide) rfl (fun ls hl => ?_)
                                  refine lv_goto (tgt := 19) hx hb dX2_coloursUsed_44 (by decide) ?_
                                  refine lv_iload_n hx hb dX2_coloursUsed_19 rfl (lv_at hl 0 rfl) ?_
                                  refine lv_bipush (v := 6) hx hb dX2_coloursUsed_20 (by decide) ?_
                                  refine lv_icmp_ge (tgt := 47) hx hb dX2_coloursUsed_22 (by decide) (fun c_22 => ?_) (fun c_22 => ?_)
                                  · exact absurd c_22 (by decide)
                                  · refine lv_iload_n hx hb dX2_coloursUsed_25 rfl (lv_at hl 1 rfl) ?_
                                    refine lv_iconst (v := 1) hx hb dX2_coloursUsed_26 (by decide) ?_
                                    refine lv_aload_n hx hb dX2_coloursUsed_27 rfl (lv_at hl 3 rfl) ?_
                                    refine va_get (D := D) (ci := 2) (v := .ref ar) (C := RX2) (T := TX2) (N := 4) hx hb hts hw_X2 hown hK hP 0 rfl rfl 3 (by decide) f_12 (fun _ h9 => h9) rfl dX2_coloursUsed_28 ?_
                                    refine lv_iload_n hx hb dX2_coloursUsed_31 rfl (lv_at hl 2 rfl) ?_
                                    refine va_aldq hx hb hK hP 1 2 rfl rfl (vi_c (by decide +kernel)) dX2_coloursUsed_32 ?_
                                    refine kq (a := c1) (rfl) ?_
                                    refine va_get (D := D) (ci := 0) (v := .ref r1) (C := RX0) (T := TX0) (N := 3) hx hb hts hw_X0 hown hK hP 4 rfl rfl 2 (by decide) f_35 (fun _ h9 => h9) rfl dX2_coloursUsed_33 ?_
                                    refine lv_iload_n hx hb dX2_coloursUsed_36 rfl (lv_at hl 0 rfl) ?_
                                    refine va_iald hx hb hK hP 5 0 rfl rfl (vi_c (by decide +kernel)) dX2_coloursUsed_37 ?_
                                    refine lv_topi (fun y22 ey22 => ?_)
                                    obtain rfl : y22 = f1 4 := ey22.trans (by first | rfl | exact congrArg f1 (by decide))
                                    refine lv_ishl hx hb dX2_coloursUsed_38 ?_
                                    refine lv_ior hx hb dX2_coloursUsed_39 ?_
                                    refine lv_topi (fun y23 ey23 => ?_)
                                    obtain rfl : y23 = us1 (us1 (us1 (us1 (us1 (us6 0 f0) f1 0) f1 1) f1 2) f1 3) f1 4 := ey23.trans (rfl)
                                    refine lv_istore_n (lv' := [(1, .int (us1 (us1 (us1 (us1 (us1 (us6 0 f0) f1 0) f1 1) f1 2) f1 3) f1 4)), (3, .int 4), (2, .int 1), (0, .ref h0)]) hx hb dX2_coloursUsed_40 rfl hl (by decide) rfl (fun ls hl => ?_)
                                    refine lv_iinc (v := 5) (lv' := [(3, .int 5), (1, .int (us1 (us1 (us1 (us1 (us1 (us6 0 f0) f1 0) f1 1) f1 2) f1 3) f1 4)), (2, .int 1), (0, .ref h0)]) hx hb dX2_coloursUsed_41 hl (k := 1) rfl (by decide) (by decide) rfl (fun ls hl => ?_)
                                    refine lv_goto (tgt := 19) hx hb dX2_coloursUsed_44 (by decide) ?_
                                    refine lv_iload_n hx hb dX2_coloursUsed_19 rfl (lv_at hl 0 rfl) ?_
                                    refine lv_bipush (v := 6) hx hb dX2_coloursUsed_20 (by decide) ?_
                                    refine lv_icmp_ge (tgt := 47) hx hb dX2_coloursUsed_22 (by decide) (fun c_22 => ?_) (fun c_22 => ?_)
                                    · exact absurd c_22 (by decide)
                                    · refine lv_iload_n hx hb dX2_coloursUsed_25 rfl (lv_at hl 1 rfl) ?_
                                      refine lv_iconst (v := 1) hx hb dX2_coloursUsed_26 (by decide) ?_
                                      refine lv_aload_n hx hb dX2_coloursUsed_27 rfl (lv_at hl 3 rfl) ?_
                                      refine va_get (D := D) (ci := 2) (v := .ref ar) (C := RX2) (T := TX2) (N := 4) hx hb hts hw_X2 hown hK hP 0 rfl rfl 3 (by decide) f_12 (fun _ h9 => h9) rfl dX2_coloursUsed_28 ?_
                                      refine lv_iload_n hx hb dX2_coloursUsed_31 rfl (lv_at hl 2 rfl) ?_
                                      refine va_aldq hx hb hK hP 1 2 rfl rfl (vi_c (by decide +kernel)) dX2_coloursUsed_32 ?_
                                      refine kq (a := c1) (rfl) ?_
                                      refine va_get (D := D) (ci := 0) (v := .ref r1) (C := RX0) (T := TX0) (N := 3) hx hb hts hw_X0 hown hK hP 4 rfl rfl 2 (by decide) f_35 (fun _ h9 => h9) rfl dX2_coloursUsed_33 ?_
                                      refine lv_iload_n hx hb dX2_coloursUsed_36 rfl (lv_at hl 0 rfl) ?_
                                      refine va_iald hx hb hK hP 5 0 rfl rfl (vi_c (by decide +kernel)) dX2_coloursUsed_37 ?_
                                      refine lv_topi (fun y24 ey24 => ?_)
                                      obtain rfl : y24 = f1 5 := ey24.trans (by first | rfl | exact congrArg f1 (by decide))
                                      refine lv_ishl hx hb dX2_coloursUsed_38 ?_
                                      refine lv_ior hx hb dX2_coloursUsed_39 ?_
                                      refine lv_topi (fun y25 ey25 => ?_)
                                      obtain rfl : y25 = us6 (us6 0 f0) f1 := ey25.trans (rfl)
                                      refine lv_istore_n (lv' := [(1, .int (us6 (us6 0 f0) f1)), (3, .int 5), (2, .int 1), (0, .ref h0)]) hx hb dX2_coloursUsed_40 rfl hl (by decide) rfl (fun ls hl => ?_)
                                      refine lv_iinc (v := 6) (lv' := [(3, .int 6), (1, .int (us6 (us6 0 f0) f1)), (2, .int 1), (0, .ref h0)]) hx hb dX2_coloursUsed_41 hl (k := 1) rfl (by decide) (by decide) rfl (fun ls hl => ?_)
                                      refine lv_goto (tgt := 19) hx hb dX2_coloursUsed_44 (by decide) ?_
                                      refine lv_iload_n hx hb dX2_coloursUsed_19 rfl (lv_at hl 0 rfl) ?_
                                      refine lv_bipush (v := 6) hx hb dX2_coloursUsed_20 (by decide) ?_
                                      refine lv_icmp_ge (tgt := 47) hx hb dX2_coloursUsed_22 (by decide) (fun c_22 => ?_) (fun c_22 => ?_)
                                      · refine lv_iinc (v := 2) (lv' := [(2, .int 2), (3, .int 6), (1, .int (us6 (us6 0 f0) f1)), (0, .ref h0)]) hx hb dX2_coloursUsed_47 hl (k := 2) rfl (by decide) (by decide) rfl (fun ls hl => ?_)
                                        refine lv_goto (tgt := 4) hx hb dX2_coloursUsed_50 (by decide) ?_
                                        refine lv_iload_n hx hb dX2_coloursUsed_4 rfl (lv_at hl 0 rfl) ?_
                                        refine lv_aload_n hx hb dX2_coloursUsed_5 rfl (lv_at hl 3 rfl) ?_
                                        refine va_get (D := D) (ci := 2) (v := .int 2) (C := RX2) (T := TX2) (N := 4) hx hb hts hw_X2 hown hK hP 0 rfl rfl 0 (by decide) f_18 (fun _ h9 => h9) rfl dX2_coloursUsed_6 ?_
                                        refine lv_icmp_ge (tgt := 53) hx hb dX2_coloursUsed_9 (by decide) (fun c_9 => ?_) (fun c_9 => ?_)
                                        · refine lv_iload_n hx hb dX2_coloursUsed_53 rfl (lv_at hl 2 rfl) ?_
                                          refine kc_i (wc := []) (wr := [(h0, .inr (2, [.int 2, .int tn, .int sn, .ref ar])), (ar, .inl (cy 2, 3, .inr (.inr (.inr (.inr (va_up (va_up (va_up (fun _ => none) 0 (some c0)) 1 (some c1)) 2 (some c2))))))), (c0, .inr (0, [.int k0, .int s0, .ref r0])), (r0, .inl (cy 0, 6, .inl f0)), (c1, .inr (0, [.int k1, .int s1, .ref r1])), (r1, .inl (cy 0, 6, .inl f1)), (c2, .inr (0, [.int k2, .int s2, .ref r2])), (r2, .inl (cy 0, 6, .inl f2))]) (va_runS (As := [.int (us6 (us6 0 f0) f1)]) (rest := []) ⟨hx, hb, hml, hown, hts⟩ (g_J6_bitCount l D cy H.size (us6 (us6 0 f0) f1) ) (va_cwS 1 hts gX2_coloursUsed_J6_bitCount_0f7a4 rfl rfl rfl hdc_J6_bitCount_0f7a4.2 ⟨Nat.le_of_ble_eq_true rfl, Nat.le_of_ble_eq_true rfl⟩) (cpre_S (wc := []) hX hP hD hS hA [] (by decide +kernel) rfl) rfl rfl hl.1 rfl (lv_room (Nat.le_of_ble_eq_true rfl)) dX2_coloursUsed_54 ⟨Nat.le_of_ble_eq_true rfl, Nat.le_of_ble_eq_true rfl⟩) hP hD hS hA [] [0, 1, 2, 3, 4, 5, 6, 7] rfl rfl (by decide +kernel) (by decide +kernel) (fun rb u26 H locs hw hP hD hS => ?_)
                                          obtain ⟨hu, hrb⟩ := hw
                                          subst hu
                                          have hP : va_P D vwCl [(h0, .inr (2, [.int 2, .int tn, .int sn, .ref ar])), (ar, .inl (cy 2, 3, .inr (.inr (.inr (.inr (va_up (va_up (va_up (fun _ => none) 0 (some c0)) 1 (some c1)) 2 (some c2))))))), (c0, .inr (0, [.int k0, .int s0, .ref r0])), (r0, .inl (cy 0, 6, .inl f0)), (c1, .inr (0, [.int k1, .int s1, .ref r1])), (r1, .inl (cy 0, 6, .inl f1)), (c2, .inr (0, [.int k2, .int s2, .ref r2])), (r2, .inl (cy 0, 6, .inl f2))] H := hP
                                          have hD : va_D A [(h0, .inr (2, [.int 2, .int tn, .int sn, .ref ar])), (ar, .inl (cy 2, 3, .inr (.inr (.inr (.inr (va_up (va_up (va_up (fun _ => none) 0 (some c0)) 1 (some c1)) 2 (some c2))))))), (c0, .inr (0, [.int k0, .int s0, .ref r0])), (r0, .inl (cy 0, 6, .inl f0)), (c1, .inr (0, [.int k1, .int s1, .ref r1])), (r1, .inl (cy 0, 6, .inl f1)), (c2, .inr (0, [.int k2, .int s2, .ref r2])), (r2, .inl (cy 0, 6, .inl f2))] := hD
                                          have hP9 := hP.sub (ws' := [(h0, .inr (2, [.int (nI 2), .int tn, .int sn, .ref ar])), (ar, .inl (cy 2, 3, .inr (.inr (.inr (.inr (va_up (va_up (va_up (fun _ => none) 0 (some c0)) 1 (some c1)) 2 (some c2))))))), (c0, .inr (0, [.int k0, .int s0, .ref r0])), (r0, .inl (cy 0, 6, .inl f0)), (c1, .inr (0, [.int k1, .int s1, .ref r1])), (r1, .inl (cy 0, 6, .inl f1)), (c2, .inr (0, [.int k2, .int s2, .ref r2])), (r2, .inl (cy 0, 6, .inl f2))]) [0, 1, 2, 3, 4, 5, 6, 7] rfl
                                          have hD9 := hD.sub (ws' := [(h0, .inr (2, [.int (nI 2), .int tn, .int sn, .ref ar])), (ar, .inl (cy 2, 3, .inr (.inr (.inr (.inr (va_up (va_up (va_up (fun _ => none) 0 (some c0)) 1 (some c1)) 2 (some c2))))))), (c0, .inr (0, [.int k0, .int s0, .ref r0])), (r0, .inl (cy 0, 6, .inl f0)), (c1, .inr (0, [.int k1, .int s1, .ref r1])), (r1, .inl (cy 0, 6, .inl f1)), (c2, .inr (0, [.int k2, .int s2, .ref r2])), (r2, .inl (cy 0, 6, .inl f2))]) [0, 1, 2, 3, 4, 5, 6, 7] (by decide +kernel) rfl
                                          exact W.iret (v := rb) hx hb hr (fun t9 ht9 hW9 => ⟨⟨rb, [(h0, .inr (2, [.int (nI 2), .int tn, .int sn, .ref ar])), (ar, .inl (cy 2, 3, .inr (.inr (.inr (.inr (va_up (va_up (va_up (fun _ => none) 0 (some c0)) 1 (some c1)) 2 (some c2))))))), (c0, .inr (0, [.int k0, .int s0, .ref r0])), (r0, .inl (cy 0, 6, .inl f0)), (c1, .inr (0, [.int k1, .int s1, .ref r1])), (r1, .inl (cy 0, 6, .inl f1)), (c2, .inr (0, [.int k2, .int s2, .ref r2])), (r2, .inl (cy 0, 6, .inl f2))], rfl, ⟨rfl, hrb⟩, by rw [ht9]; exact hP9, hD9⟩, hS.F ht9⟩) hS.2.2 dX2_coloursUsed_57
                                        · exact absurd c_9 (by decide)
                                      · exact absurd c_22 (by decide)
                    · exact absurd c_22 (by decide)
  · have hP : va_P D vwCl [(h0, .inr (2, [.int 3, .int tn, .int sn, .ref ar])), (ar, .inl (cy 2, 3, .inr (.inr (.inr (.inr (va_up (va_up (va_up (fun _ => none) 0 (some c0)) 1 (some c1)) 2 (some c2))))))), (c0, .inr (0, [.int k0, .int s0, .ref r0])), (r0, .inl (cy 0, 6, .inl f0)), (c1, .inr (0, [.int k1, .int s1, .ref r1])), (r1, .inl (cy 0, 6, .inl f1)), (c2, .inr (0, [.int k2, .int s2, .ref r2])), (r2, .inl (cy 0, 6, .inl f2))] H := hP
    have hD : va_D A [(h0, .inr (2, [.int 3, .int tn, .int sn, .ref ar])), (ar, .inl (cy 2, 3, .inr (.inr (.inr (.inr (va_up (va_up (va_up (fun _ => none) 0 (some c0)) 1 (some c1)) 2 (some c2))))))), (c0, .inr (0, [.int k0, .int s0, .ref r0])), (r0, .inl (cy 0, 6, .inl f0)), (c1, .inr (0, [.int k1, .int s1, .ref r1])), (r1, .inl (cy 0, 6, .inl f1)), (c2, .inr (0, [.int k2, .int s2, .ref r2])), (r2, .inl (cy 0, 6, .inl f2))] := hD
    refine lv_iconst (v := 0) hx hb dX2_coloursUsed_0 (by decide) ?_
    refine lv_istore_n (lv' := [(1, .int 0), (0, .ref h0)]) hx hb dX2_coloursUsed_1 rfl hl (by decide) rfl (fun ls hl => ?_)
    refine lv_iconst (v := 0) hx hb dX2_coloursUsed_2 (by decide) ?_
    refine lv_istore_n (lv' := [(2, .int 0), (1, .int 0), (0, .ref h0)]) hx hb dX2_coloursUsed_3 rfl hl (by decide) rfl (fun ls hl => ?_)
    refine lv_iload_n hx hb dX2_coloursUsed_4 rfl (lv_at hl 0 rfl) ?_
    refine lv_aload_n hx hb dX2_coloursUsed_5 rfl (lv_at hl 2 rfl) ?_
    refine va_get (D := D) (ci := 2) (v := .int 3) (C := RX2) (T := TX2) (N := 4) hx hb hts hw_X2 hown hK hP 0 rfl rfl 0 (by decide) f_18 (fun _ h9 => h9) rfl dX2_coloursUsed_6 ?_
    refine lv_icmp_ge (tgt := 53) hx hb dX2_coloursUsed_9 (by decide) (fun c_9 => ?_) (fun c_9 => ?_)
    · exact absurd c_9 (by decide)
    · refine lv_iload_n hx hb dX2_coloursUsed_12 rfl (lv_at hl 0 rfl) ?_
      refine lv_iconst (v := 3) hx hb dX2_coloursUsed_13 (by decide) ?_
      refine lv_icmp_ge (tgt := 53) hx hb dX2_coloursUsed_14 (by decide) (fun c_14 => ?_) (fun c_14 => ?_)
      · exact absurd c_14 (by decide)
      · refine lv_iconst (v := 0) hx hb dX2_coloursUsed_17 (by decide) ?_
        refine lv_istore_n (lv' := [(3, .int 0), (2, .int 0), (1, .int 0), (0, .ref h0)]) hx hb dX2_coloursUsed_18 rfl hl (by decide) rfl (fun ls hl => ?_)
        refine lv_iload_n hx hb dX2_coloursUsed_19 rfl (lv_at hl 0 rfl) ?_
        refine lv_bipush (v := 6) hx hb dX2_coloursUsed_20 (by decide) ?_
        refine lv_icmp_ge (tgt := 47) hx hb dX2_coloursUsed_22 (by decide) (fun c_22 => ?_) (fun c_22 => ?_)
        · exact absurd c_22 (by decide)
        · refine lv_iload_n hx hb dX2_coloursUsed_25 rfl (lv_at hl 2 rfl) ?_
          refine lv_iconst (v := 1) hx hb dX2_coloursUsed_26 (by decide) ?_
          refine lv_aload_n hx hb dX2_coloursUsed_27 rfl (lv_at hl 3 rfl) ?_
          refine va_get (D := D) (ci := 2) (v := .ref ar) (C := RX2) (T := TX2) (N := 4) hx hb hts hw_X2 hown hK hP 0 rfl rfl 3 (by decide) f_12 (fun _ h9 => h9) rfl dX2_coloursUsed_28 ?_
          refine lv_iload_n hx hb dX2_coloursUsed_31 rfl (lv_at hl 1 rfl) ?_
          refine va_aldq hx hb hK hP 1 2 rfl rfl (vi_c (by decide +kernel)) dX2_coloursUsed_32 ?_
          refine kq (a := c0) (rfl) ?_
          refine va_get (D := D) (ci := 0) (v := .ref r0) (C := RX0) (T := TX0) (N := 3) hx hb hts hw_X0 hown hK hP 2 rfl rfl 2 (by decide) f_35 (fun _ h9 => h9) rfl dX2_coloursUsed_33 ?_
          refine lv_iload_n hx hb dX2_coloursUsed_36 rfl (lv_at hl 0 rfl) ?_
          refine va_iald hx hb hK hP 3 0 rfl rfl (vi_c (by decide +kernel)) dX2_coloursUsed_37 ?_
          refine lv_topi (fun y27 ey27 => ?_)
          obtain rfl : y27 = f0 0 := ey27.trans (by first | rfl | exact congrArg f0 (by decide))
          refine lv_ishl hx hb dX2_coloursUsed_38 ?_
          refine lv_ior hx hb dX2_coloursUsed_39 ?_
          refine lv_topi (fun y28 ey28 => ?_)
          obtain rfl : y28 = us1 0 f0 0 := ey28.trans (rfl)
          refine lv_istore_n (lv' := [(1, .int (us1 0 f0 0)), (3, .int 0), (2, .int 0), (0, .ref h0)]) hx hb dX2_coloursUsed_40 rfl hl (by decide) rfl (fun ls hl => ?_)
          refine lv_iinc (v := 1) (lv' := [(3, .int 1), (1, .int (us1 0 f0 0)), (2, .int 0), (0, .ref h0)]) hx hb dX2_coloursUsed_41 hl (k := 1) rfl (by decide) (by decide) rfl (fun ls hl => ?_)
          refine lv_goto (tgt := 19) hx hb dX2_coloursUsed_44 (by decide) ?_
          refine lv_iload_n hx hb dX2_coloursUsed_19 rfl (lv_at hl 0 rfl) ?_
          refine lv_bipush (v := 6) hx hb dX2_coloursUsed_20 (by decide) ?_
          refine lv_icmp_ge (tgt := 47) hx hb dX2_coloursUsed_22 (by decide) (fun c_22 => ?_) (fun c_22 => ?_)
          · exact absurd c_22 (by decide)
          · refine lv_iload_n hx hb dX2_coloursUsed_25 rfl (lv_at hl 1 rfl) ?_
            refine lv_iconst (v := 1) hx hb dX2_coloursUsed_26 (by decide) ?_
            refine lv_aload_n hx hb dX2_coloursUsed_27 rfl (lv_at hl 3 rfl) ?_
            refine va_get (D := D) (ci := 2) (v := .ref ar) (C := RX2) (T := TX2) (N := 4) hx hb hts hw_X2 hown hK hP 0 rfl rfl 3 (by decide) f_12 (fun _ h9 => h9) rfl dX2_coloursUsed_28 ?_
            refine lv_iload_n hx hb dX2_coloursUsed_31 rfl (lv_at hl 2 rfl) ?_
            refine va_aldq hx hb hK hP 1 2 rfl rfl (vi_c (by decide +kernel)) dX2_coloursUsed_32 ?_
            refine kq (a := c0) (rfl) ?_
            refine va_get (D := D) (ci := 0) (v := .ref r0) (C := RX0) (T := TX0) (N := 3) hx hb hts hw_X0 hown hK hP 2 rfl rfl 2 (by decide) f_35 (fun _ h9 => h9) rfl dX2_coloursUsed_33 ?_
            refine lv_iload_n hx hb dX2_coloursUsed_36 rfl (lv_at hl 0 rfl) ?_
            refine va_iald hx hb hK hP 3 0 rfl rfl (vi_c (by decide +kernel)) dX2_coloursUsed_37 ?_
            refine lv_topi (fun y29 ey29 => ?_)
            obtain rfl : y29 = f0 1 := ey29.trans (by first | rfl | exact congrArg f0 (by decide))
            refine lv_ishl hx hb dX2_coloursUsed_38 ?_
            refine lv_ior hx hb dX2_coloursUsed_39 ?_
            refine lv_topi (fun y30 ey30 => ?_)
            obtain rfl : y30 = us1 (us1 0 f0 0) f0 1 := ey30.trans (rfl)
            refine lv_istore_n (lv' := [(1, .int (us1 (us1 0 f0 0) f0 1)), (3, .int 1), (2, .int 0), (0, .ref h0)]) hx hb dX2_coloursUsed_40 rfl hl (by decide) rfl (fun ls hl => ?_)
            refine lv_iinc (v := 2) (lv' := [(3, .int 2), (1, .int (us1 (us1 0 f0 0) f0 1)), (2, .int 0), (0, .ref h0)]) hx hb dX2_coloursUsed_41 hl (k := 1) rfl (by decide) (by decide) rfl (fun ls hl => ?_)
            refine lv_goto (tgt := 19) hx hb dX2_coloursUsed_44 (by decide) ?_
            refine lv_iload_n hx hb dX2_coloursUsed_19 rfl (lv_at hl 0 rfl) ?_
            refine lv_bipush (v := 6) hx hb dX2_coloursUsed_20 (by decide) ?_
            refine lv_icmp_ge (tgt := 47) hx hb dX2_coloursUsed_22 (by decide) (fun c_22 => ?_) (fun c_22 => ?_)
            · exact absurd c_22 (by decide)
            · refine lv_iload_n hx hb dX2_coloursUsed_25 rfl (lv_at hl 1 rfl) ?_
              refine lv_iconst (v := 1) hx hb dX2_coloursUsed_26 (by decide) ?_
              refine lv_aload_n hx hb dX2_coloursUsed_27 rfl (lv_at hl 3 rfl) ?_
              refine va_get (D := D) (ci := 2) (v := .ref ar) (C := RX2) (T := TX2) (N := 4) hx hb hts hw_X2 hown hK hP 0 rfl rfl 3 (by decide) f_12 (fun _ h9 => h9) rfl dX2_coloursUsed_28 ?_
              refine lv_iload_n hx hb dX2_coloursUsed_31 rfl (lv_at hl 2 rfl) ?_
              refine va_aldq hx hb hK hP 1 2 rfl rfl (vi_c (by decide +kernel)) dX2_coloursUsed_32 ?_
              refine kq (a := c0) (rfl) ?_
              refine va_get (D := D) (ci := 0) (v := .ref r0) (C := RX0) (T := TX0) (N := 3) hx hb hts hw_X0 hown hK hP 2 rfl rfl 2 (by decide) f_35 (fun _ h9 => h9) rfl dX2_coloursUsed_33 ?_
              refine lv_iload_n hx hb dX2_coloursUsed_36 rfl (lv_at hl 0 rfl) ?_
              refine va_iald hx hb hK hP 3 0 rfl rfl (vi_c (by decide +kernel)) dX2_coloursUsed_37 ?_
              refine lv_topi (fun y31 ey31 => ?_)
              obtain rfl : y31 = f0 2 := ey31.trans (by first | rfl | exact congrArg f0 (by decide))
              refine lv_ishl hx hb dX2_coloursUsed_38 ?_
              refine lv_ior hx hb dX2_coloursUsed_39 ?_
              refine lv_topi (fun y32 ey32 => ?_)
              obtain rfl : y32 = us1 (us1 (us1 0 f0 0) f0 1) f0 2 := ey32.trans (rfl)
              refine lv_istore_n (lv' := [(1, .int (us1 (us1 (us1 0 f0 0) f0 1) f0 2)), (3, .int 2), (2, .int 0), (0, .ref h0)]) hx hb dX2_coloursUsed_40 rfl hl (by decide) rfl (fun ls hl => ?_)
              refine lv_iinc (v := 3) (lv' := [(3, .int 3), (1, .int (us1 (us1 (us1 0 f0 0) f0 1) f0 2)), (2, .int 0), (0, .ref h0)]) hx hb dX2_coloursUsed_41 hl (k := 1) rfl (by decide) (by decide) rfl (fun ls hl => ?_)
              refine lv_goto (tgt := 19) hx hb dX2_coloursUsed_44 (by decide) ?_
              refine lv_iload_n hx hb dX2_coloursUsed_19 rfl (lv_at hl 0 rfl) ?_
              refine lv_bipush (v := 6) hx hb dX2_coloursUsed_20 (by decide) ?_
              refine lv_icmp_ge (tgt := 47) hx hb dX2_coloursUsed_22 (by decide) (fun c_22 => ?_) (fun c_22 => ?_)
              · exact absurd c_22 (by decide)
              · refine lv_iload_n hx hb dX2_coloursUsed_25 rfl (lv_at hl 1 rfl) ?_
                refine lv_iconst (v := 1) hx hb dX2_coloursUsed_26 (by decide) ?_
                refine lv_aload_n hx hb dX2_coloursUsed_27 rfl (lv_at hl 3 rfl) ?_
                refine va_get (D := D) (ci := 2) (v := .ref ar) (C := RX2) (T := TX2) (N := 4) hx hb hts hw_X2 hown hK hP 0 rfl rfl 3 (by decide) f_12 (fun _ h9 => h9) rfl dX2_coloursUsed_28 ?_
                refine lv_iload_n hx hb dX2_coloursUsed_31 rfl (lv_at hl 2 rfl) ?_
                refine va_aldq hx hb hK hP 1 2 rfl rfl (vi_c (by decide +kernel)) dX2_coloursUsed_32 ?_
                refine kq (a := c0) (rfl) ?_
                refine va_get (D := D) (ci := 0) (v := .ref r0) (C := RX0) (T := TX0) (N := 3) hx hb hts hw_X0 hown hK hP 2 rfl rfl 2 (by decide) f_35 (fun _ h9 => h9) rfl dX2_coloursUsed_33 ?_
                refine lv_iload_n hx hb dX2_coloursUsed_36 rfl (lv_at hl 0 rfl) ?_
                refine va_iald hx hb hK hP 3 0 rfl rfl (vi_c (by decide +kernel)) dX2_coloursUsed_37 ?_
                refine lv_topi (fun y33 ey33 => ?_)
                obtain rfl : y33 = f0 3 := ey33.trans (by first | rfl | exact congrArg f0 (by decide))
                refine lv_ishl hx hb dX2_coloursUsed_38 ?_
                refine lv_ior hx hb dX2_coloursUsed_39 ?_
                refine lv_topi (fun y34 ey34 => ?_)
                obtain rfl : y34 = us1 (us1 (us1 (us1 0 f0 0) f0 1) f0 2) f0 3 := ey34.trans (rfl)
                refine lv_istore_n (lv' := [(1, .int (us1 (us1 (us1 (us1 0 f0 0) f0 1) f0 2) f0 3)), (3, .int 3), (2, .int 0), (0, .ref h0)]) hx hb dX2_coloursUsed_40 rfl hl (by decide) rfl (fun ls hl => ?_)
                refine lv_iinc (v := 4) (lv' := [(3, .int 4), (1, .int (us1 (us1 (us1 (us1 0 f0 0) f0 1) f0 2) f0 3)), (2, .int 0), (0, .ref h0)]) hx hb dX2_coloursUsed_41 hl (k := 1) rfl (by decide) (by decide) rfl (fun ls hl => ?_)
                refine lv_goto (tgt := 19) hx hb dX2_coloursUsed_44 (by decide) ?_
                refine lv_iload_n hx hb dX2_coloursUsed_19 rfl (lv_at hl 0 rfl) ?_
                refine lv_bipush (v := 6) hx hb dX2_coloursUsed_20 (by decide) ?_
                refine lv_icmp_ge (tgt := 47) hx hb dX2_coloursUsed_22 (by decide) (fun c_22 => ?_) (fun c_22 => ?_)
                · exact absurd c_22 (by decide)
                · refine lv_iload_n hx hb dX2_coloursUsed_25 rfl (lv_at hl 1 rfl) ?_
                  refine lv_iconst (v := 1) hx hb dX2_coloursUsed_26 (by decide) ?_
                  refine lv_aload_n hx hb dX2_coloursUsed_27 rfl (lv_at hl 3 rfl) ?_
                  refine va_get (D := D) (ci := 2) (v := .ref ar) (C := RX2) (T := TX2) (N := 4) hx hb hts hw_X2 hown hK hP 0 rfl rfl 3 (by decide) f_12 (fun _ h9 => h9) rfl dX2_coloursUsed_28 ?_
                  refine lv_iload_n hx hb dX2_coloursUsed_31 rfl (lv_at hl 2 rfl) ?_
                  refine va_aldq hx hb hK hP 1 2 rfl rfl (vi_c (by decide +kernel)) dX2_coloursUsed_32 ?_
                  refine kq (a := c0) (rfl) ?_
                  refine va_get (D := D) (ci := 0) (v := .ref r0) (C := RX0) (T := TX0) (N := 3) hx hb hts hw_X0 hown hK hP 2 rfl rfl 2 (by decide) f_35 (fun _ h9 => h9) rfl dX2_coloursUsed_33 ?_
                  refine lv_iload_n hx hb dX2_coloursUsed_36 rfl (lv_at hl 0 rfl) ?_
                  refine va_iald hx hb hK hP 3 0 rfl rfl (vi_c (by decide +kernel)) dX2_coloursUsed_37 ?_
                  refine lv_topi (fun y35 ey35 => ?_)
                  obtain rfl : y35 = f0 4 := ey35.trans (by first | rfl | exact congrArg f0 (by decide))
                  refine lv_ishl hx hb dX2_coloursUsed_38 ?_
                  refine lv_ior hx hb dX2_coloursUsed_39 ?_
                  refine lv_topi (fun y36 ey36 => ?_)
                  obtain rfl : y36 = us1 (us1 (us1 (us1 (us1 0 f0 0) f0 1) f0 2) f0 3) f0 4 := ey36.trans (rfl)
                  refine lv_istore_n (lv' := [(1, .int (us1 (us1 (us1 (us1 (us1 0 f0 0) f0 1) f0 2) f0 3) f0 4)), (3, .int 4), (2, .int 0), (0, .ref h0)]) hx hb dX2_coloursUsed_40 rfl hl (by decide) rfl (fun ls hl => ?_)
                  refine lv_iinc (v := 5) (lv' := [(3, .int 5), (1, .int (us1 (us1 (us1 (us1 (us1 0 f0 0) f0 1) f0 2) f0 3) f0 4)), (2, .int 0), (0, .ref h0)]) hx hb dX2_coloursUsed_41 hl (k := 1) rfl (by decide) (by decide) rfl (fun ls hl => ?_)
                  refine lv_goto (tgt := 19) hx hb dX2_coloursUsed_44 (by decide) ?_
                  refine lv_iload_n hx hb dX2_coloursUsed_19 rfl (lv_at hl 0 rfl) ?_
                  refine lv_bipush (v := 6) hx hb dX2_coloursUsed_20 (by decide) ?_
                  refine lv_icmp_ge (tgt := 47) hx hb dX2_coloursUsed_22 (by decide) (fun c_22 => ?_) (fun c_22 => ?_)
                  · exact absurd c_22 (by decide)
                  · refine lv_iload_n hx hb dX2_coloursUsed_25 rfl (lv_at hl 1 rfl) ?_
                    refine lv_iconst (v := 1) hx hb dX2_coloursUsed_26 (by decide) ?_
                    refine lv_aload_n hx hb dX2_coloursUsed_27 rfl (lv_at hl 3 rfl) ?_
                    refine va_get (D := D) (ci := 2) (v := .ref ar) (C := RX2) (T := TX2) (N := 4) hx hb hts hw_X2 hown hK hP 0 rfl rfl 3 (by decide) f_12 (fun _ h9 => h9) rfl dX2_coloursUsed_28 ?_
                    refine lv_iload_n hx hb dX2_coloursUsed_31 rfl (lv_at hl 2 rfl) ?_
                    refine va_aldq hx hb hK hP 1 2 rfl rfl (vi_c (by decide +kernel)) dX2_coloursUsed_32 ?_
                    refine kq (a := c0) (rfl) ?_
                    refine va_get (D := D) (ci := 0) (v := .ref r0) (C := RX0) (T := TX0) (N := 3) hx hb hts hw_X0 hown hK hP 2 rfl rfl 2 (by decide) f_35 (fun _ h9 => h9) rfl dX2_coloursUsed_33 ?_
                    refine lv_iload_n hx hb dX2_coloursUsed_36 rfl (lv_at hl 0 rfl) ?_
                    refine va_iald hx hb hK hP 3 0 rfl rfl (vi_c (by decide +kernel)) dX2_coloursUsed_37 ?_
                    refine lv_topi (fun y37 ey37 => ?_)
                    obtain rfl : y37 = f0 5 := ey37.trans (by first | rfl | exact congrArg f0 (by decide))
                    refine lv_ishl hx hb dX2_coloursUsed_38 ?_
                    refine lv_ior hx hb dX2_coloursUsed_39 ?_
                    refine lv_topi (fun y38 ey38 => ?_)
                    obtain rfl : y38 = us6 0 f0 := ey38.trans (rfl)
                    refine lv_istore_n (lv' := [(1, .int (us6 0 f0)), (3, .int 5), (2, .int 0), (0, .ref h0)]) hx hb dX2_coloursUsed_40 rfl hl (by decide) rfl (fun ls hl => ?_)
                    refine lv_iinc (v := 6) (lv' := [(3, .int 6), (1, .int (us6 0 f0)), (2, .int 0), (0, .ref h0)]) hx hb dX2_coloursUsed_41 hl (k := 1) rfl (by decide) (by decide) rfl (fun ls hl => ?_)
                    refine lv_goto (tgt := 19) hx hb dX2_coloursUsed_44 (by decide) ?_
                    refine lv_iload_n hx hb dX2_coloursUsed_19 rfl (lv_at hl 0 rfl) ?_
                    refine lv_bipush (v := 6) hx hb dX2_coloursUsed_20 (by decide) ?_
                    refine lv_icmp_ge (tgt := 47) hx hb dX2_coloursUsed_22 (by decide) (fun c_22 => ?_) (fun c_22 => ?_)
                    · refine lv_iinc (v := 1) (lv' := [(2, .int 1), (3, .int 6), (1, .int (us6 0 f0)), (0, .ref h0)]) hx hb dX2_coloursUsed_47 hl (k := 2) rfl (by decide) (by decide) rfl (fun ls hl => ?_)
                      refine lv_goto (tgt := 4) hx hb dX2_coloursUsed_50 (by decide) ?_
                      refine lv_iload_n hx hb dX2_coloursUsed_4 rfl (lv_at hl 0 rfl) ?_
                      refine lv_aload_n hx hb dX2_coloursUsed_5 rfl (lv_at hl 3 rfl) ?_
                      refine va_get (D := D) (ci := 2) (v := .int 3) (C := RX2) (T := TX2) (N := 4) hx hb hts hw_X2 hown hK hP 0 rfl rfl 0 (by decide) f_18 (fun _ h9 => h9) rfl dX2_coloursUsed_6 ?_
                      refine lv_icmp_ge (tgt := 53) hx hb dX2_coloursUsed_9 (by decide) (fun c_9 => ?_) (fun c_9 => ?_)
                      · exact absurd c_9 (by decide)
                      · refine lv_iload_n hx hb dX2_coloursUsed_12 rfl (lv_at hl 0 rfl) ?_
                        refine lv_iconst (v := 3) hx hb dX2_coloursUsed_13 (by decide) ?_
                        refine lv_icmp_ge (tgt := 53) hx hb dX2_coloursUsed_14 (by decide) (fun c_14 => ?_) (fun c_14 => ?_)
                        · exact absurd c_14 (by decide)
                        · refine lv_iconst (v := 0) hx hb dX2_coloursUsed_17 (by decide) ?_
                          refine lv_istore_n (lv' := [(3, .int 0), (2, .int 1), (1, .int (us6 0 f0)), (0, .ref h0)]) hx hb dX2_coloursUsed_18 rfl hl (by decide) rfl (fun ls hl => ?_)
                          refine lv_iload_n hx hb dX2_coloursUsed_19 rfl (lv_at hl 0 rfl) ?_
                          refine lv_bipush (v := 6) hx hb dX2_coloursUsed_20 (by decide) ?_
                          refine lv_icmp_ge (tgt := 47) hx hb dX2_coloursUsed_22 (by decide) (fun c_22 => ?_) (fun c_22 => ?_)
                          · exact absurd c_22 (by decide)
                          · refine lv_iload_n hx hb dX2_coloursUsed_25 rfl (lv_at hl 2 rfl) ?_
                            refine lv_iconst (v := 1) hx hb dX2_coloursUsed_26 (by decide) ?_
                            refine lv_aload_n hx hb dX2_coloursUsed_27 rfl (lv_at hl 3 rfl) ?_
                            refine va_get (D := D) (ci := 2) (v := .ref ar) (C := RX2) (T := TX2) (N := 4) hx hb hts hw_X2 hown hK hP 0 rfl rfl 3 (by decide) f_12 (fun _ h9 => h9) rfl dX2_coloursUsed_28 ?_
                            refine lv_iload_n hx hb dX2_coloursUsed_31 rfl (lv_at hl 1 rfl) ?_
                            refine va_aldq hx hb hK hP 1 2 rfl rfl (vi_c (by decide +kernel)) dX2_coloursUsed_32 ?_
                            refine kq (a := c1) (rfl) ?_
                            refine va_get (D := D) (ci := 0) (v := .ref r1) (C := RX0) (T := TX0) (N := 3) hx hb hts hw_X0 hown hK hP 4 rfl rfl 2 (by decide) f_35 (fun _ h9 => h9) rfl dX2_coloursUsed_33 ?_
                            refine lv_iload_n hx hb dX2_coloursUsed_36 rfl (lv_at hl 0 rfl) ?_
                            refine va_iald hx hb hK hP 5 0 rfl rfl (vi_c (by decide +kernel)) dX2_coloursUsed_37 ?_
                            refine lv_topi (fun y39 ey39 => ?_)
                            obtain rfl : y39 = f1 0 := ey39.trans (by first | rfl | exact congrArg f1 (by decide))
                            refine lv_ishl hx hb dX2_coloursUsed_38 ?_
                            refine lv_ior hx hb dX2_coloursUsed_39 ?_
                            refine lv_topi (fun y40 ey40 => ?_)
                            obtain rfl : y40 = us1 (us6 0 f0) f1 0 := ey40.trans (rfl)
                            refine lv_istore_n (lv' := [(1, .int (us1 (us6 0 f0) f1 0)), (3, .int 0), (2, .int 1), (0, .ref h0)]) hx hb dX2_coloursUsed_40 rfl hl (by decide) rfl (fun ls hl => ?_)
                            refine lv_iinc (v := 1) (lv' := [(3, .int 1), (1, .int (us1 (us6 0 f0) f1 0)), (2, .int 1), (0, .ref h0)]) hx hb dX2_coloursUsed_41 hl (k := 1) rfl (by decide) (by decide) rfl (fun ls hl => ?_)
                            refine lv_goto (tgt := 19) hx hb dX2_coloursUsed_44 (by decide) ?_
                            refine lv_iload_n hx hb dX2_coloursUsed_19 rfl (lv_at hl 0 rfl) ?_
                            refine lv_bipush (v := 6) hx hb dX2_coloursUsed_20 (by decide) ?_
                            refine lv_icmp_ge (tgt := 47) hx hb dX2_coloursUsed_22 (by decide) (fun c_22 => ?_) (fun c_22 => ?_)
                            · exact absurd c_22 (by decide)
                            · refine lv_iload_n hx hb dX2_coloursUsed_25 rfl (lv_at hl 1 rfl) ?_
                              refine lv_iconst (v := 1) hx hb dX2_coloursUsed_26 (by decide) ?_
                              refine lv_aload_n hx hb dX2_coloursUsed_27 rfl (lv_at hl 3 rfl) ?_
                              refine va_get (D := D) (ci := 2) (v := .ref ar) (C := RX2) (T := TX2) (N := 4) hx hb hts hw_X2 hown hK hP 0 rfl rfl 3 (by decide) f_12 (fun _ h9 => h9) rfl dX2_coloursUsed_28 ?_
                              refine lv_iload_n hx hb dX2_coloursUsed_31 rfl (lv_at hl 2 rfl) ?_
                              refine va_aldq hx hb hK hP 1 2 rfl rfl (vi_c (by decide +kernel)) dX2_coloursUsed_32 ?_
                              refine kq (a := c1) (rfl) ?_
                              refine va_get (D := D) (ci := 0) (v := .ref r1) (C := RX0) (T := TX0) (N := 3) hx hb hts hw_X0 hown hK hP 4 rfl rfl 2 (by decide) f_35 (fun _ h9 => h9) rfl dX2_coloursUsed_33 ?_
                              refine lv_iload_n hx hb dX2_coloursUsed_36 rfl (lv_at hl 0 rfl) ?_
                              refine va_iald hx hb hK hP 5 0 rfl rfl (vi_c (by decide +kernel)) dX2_coloursUsed_37 ?_
                              refine lv_topi (fun y41 ey41 => ?_)
                              obtain rfl : y41 = f1 1 := ey41.trans (by first | rfl | exact congrArg f1 (by decide))
                              refine lv_ishl hx hb dX2_coloursUsed_38 ?_
                              refine lv_ior hx hb dX2_coloursUsed_39 ?_
                              refine lv_topi (fun y42 ey42 => ?_)
                              obtain rfl : y42 = us1 (us1 (us6 0 f0) f1 0) f1 1 := ey42.trans (rfl)
                              refine lv_istore_n (lv' := [(1, .int (us1 (us1 (us6 0 f0) f1 0) f1 1)), (3, .int 1), (2, .int 1), (0, .ref h0)]) hx hb dX2_coloursUsed_40 rfl hl (by decide) rfl (fun ls hl => ?_)
                              refine lv_iinc (v := 2) (lv' := [(3, .int 2), (1, .int (us1 (us1 (us6 0 f0) f1 0) f1 1)), (2, .int 1), (0, .ref h0)]) hx hb dX2_coloursUsed_41 hl (k := 1) rfl (by decide) (by decide) rfl (fun ls hl => ?_)
                              refine lv_goto (tgt := 19) hx hb dX2_coloursUsed_44 (by decide) ?_
                              refine lv_iload_n hx hb dX2_coloursUsed_19 rfl (lv_at hl 0 rfl) ?_
                              refine lv_bipush (v := 6) hx hb dX2_coloursUsed_20 (by decide) ?_
                              refine lv_icmp_ge (tgt := 47) hx hb dX2_coloursUsed_22 (by decide) (fun c_22 => ?_) (fun c_22 => ?_)
                              · exact absurd c_22 (by decide)
                              · refine lv_iload_n hx hb dX2_coloursUsed_25 rfl (lv_at hl 1 rfl) ?_
                                refine lv_iconst (v := 1) hx hb dX2_coloursUsed_26 (by decide) ?_
                                refine lv_aload_n hx hb dX2_coloursUsed_27 rfl (lv_at hl 3 rfl) ?_
                                refine va_get (D := D) (ci := 2) (v := .ref ar) (C := RX2) (T := TX2) (N := 4) hx hb hts hw_X2 hown hK hP 0 rfl rfl 3 (by decide) f_12 (fun _ h9 => h9) rfl dX2_coloursUsed_28 ?_
                                refine lv_iload_n hx hb dX2_coloursUsed_31 rfl (lv_at hl 2 rfl) ?_
                                refine va_aldq hx hb hK hP 1 2 rfl rfl (vi_c (by decide +kernel)) dX2_coloursUsed_32 ?_
                                refine kq (a := c1) (rfl) ?_
                                refine va_get (D := D) (ci := 0) (v := .ref r1) (C := RX0) (T := TX0) (N := 3) hx hb hts hw_X0 hown hK hP 4 rfl rfl 2 (by decide) f_35 (fun _ h9 => h9) rfl dX2_coloursUsed_33 ?_
                                refine lv_iload_n hx hb dX2_coloursUsed_36 rfl (lv_at hl 0 rfl) ?_
                                refine va_iald hx hb hK hP 5 0 rfl rfl (vi_c (by decide +kernel)) dX2_coloursUsed_37 ?_
                                refine lv_topi (fun y43 ey43 => ?_)
                                obtain rfl : y43 = f1 2 := ey43.trans (by first | rfl | exact congrArg f1 (by decide))
                                refine lv_ishl hx hb dX2_coloursUsed_38 ?_
                                refine lv_ior hx hb dX2_coloursUsed_39 ?_
                                refine lv_topi (fun y44 ey44 => ?_)
                                obtain rfl : y44 = us1 (us1 (us1 (us6 0 f0) f1 0) f1 1) f1 2 := ey44.trans (rfl)
                                refine lv_istore_n (lv' := [(1, .int (us1 (us1 (us1 (us6 0 f0) f1 0) f1 1) f1 2)), (3, .int 2), (2, .int 1), (0, .ref h0)]) hx hb dX2_coloursUsed_40 rfl hl (by decide) rfl (fun ls hl => ?_)
                                refine lv_iinc (v := 3) (lv' := [(3, .int 3), (1, .int (us1 (us1 (us1 (us6 0 f0) f1 0) f1 1) f1 2)), (2, .int 1), (0, .ref h0)]) hx hb dX2_coloursUsed_41 hl (k := 1) rfl (by decide) (by decide) rfl (fun ls hl => ?_)
                                refine lv_goto (tgt := 19) hx hb dX2_coloursUsed_44 (by decide) ?_
                                refine lv_iload_n hx hb dX2_coloursUsed_19 rfl (lv_at hl 0 rfl) ?_
                                refine lv_bipush (v := 6) hx hb dX2_coloursUsed_20 (by decide) ?_
                                refine lv_icmp_ge (tgt := 47) hx hb dX2_coloursUsed_22 (by decide) (fun c_22 => ?_) (fun c_22 => ?_)
                                · exact absurd c_22 (by decide)
                                · refine lv_iload_n hx hb dX2_coloursUsed_25 rfl (lv_at hl 1 rfl) ?_
                                  refine lv_iconst (v := 1) hx hb dX2_coloursUsed_26 (by decide) ?_
                                  refine lv_aload_n hx hb dX2_coloursUsed_27 rfl (lv_at hl 3 rfl) ?_
                                  refine va_get (D := D) (ci := 2) (v := .ref ar) (C := RX2) (T := TX2) (N := 4) hx hb hts hw_X2 hown hK hP 0 rfl rfl 3 (by decide) f_12 (fun _ h9 => h9) rfl dX2_coloursUsed_28 ?_
                                  refine lv_iload_n hx hb dX2_coloursUsed_31 rfl (lv_at hl 2 rfl) ?_
                                  refine va_aldq hx hb hK hP 1 2 rfl rfl (vi_c (by decide +kernel)) dX2_coloursUsed_32 ?_
                                  refine kq (a := c1) (rfl) ?_
                                  refine va_get (D := D) (ci := 0) (v := .ref r1) (C := RX0) (T := TX0) (N := 3) hx hb hts hw_X0 hown hK hP 4 rfl rfl 2 (by decide) f_35 (fun _ h9 => h9) rfl dX2_coloursUsed_33 ?_
                                  refine lv_iload_n hx hb dX2_coloursUsed_36 rfl (lv_at hl 0 rfl) ?_
                                  refine va_iald hx hb hK hP 5 0 rfl rfl (vi_c (by decide +kernel)) dX2_coloursUsed_37 ?_
                                  refine lv_topi (fun y45 ey45 => ?_)
                                  obtain rfl : y45 = f1 3 := ey45.trans (by first | rfl | exact congrArg f1 (by decide))
                                  refine lv_ishl hx hb dX2_coloursUsed_38 ?_
                                  refine lv_ior hx hb dX2_coloursUsed_39 ?_
                                  refine lv_topi (fun y46 ey46 => ?_)
                                  obtain rfl : y46 = us1 (us1 (us1 (us1 (us6 0 f0) f1 0) f1 1) f1 2) f1 3 := ey46.trans (rfl)
                                  refine lv_istore_n (lv' := [(1, .int (us1 (us1 (us1 (us1 (us6 0 f0) f1 0) f1 1) f1 2) f1 3)), (3, .int 3), (2, .int 1), (0, .ref h0)]) hx hb dX2_coloursUsed_40 rfl hl (by decide) rfl (fun ls hl => ?_)
                                  refine lv_iinc (v := 4) (lv' := [(3, .int 4), (1, .int (us1 (us1 (us1 (us1 (us6 0 f0) f1 0) f1 1) f1 2) f1 3)), (2, .int 1), (0, .ref h0)]) hx hb dX2_coloursUsed_41 hl (k := 1) rfl (by decide) (by decide) rfl (fun ls hl => ?_)
                                  refine lv_goto (tgt := 19) hx hb dX2_coloursUsed_44 (by decide) ?_
                                  refine lv_iload_n hx hb dX2_coloursUsed_19 rfl (lv_at hl 0 rfl) ?_
                                  refine lv_bipush (v := 6) hx hb dX2_coloursUsed_20 (by decide) ?_
                                  refine lv_icmp_ge (tgt := 47) hx hb dX2_coloursUsed_22 (by decide) (fun c_22 => ?_) (fun c_22 => ?_)
                                  · exact absurd c_22 (by decide)
                                  · refine lv_iload_n hx hb dX2_coloursUsed_25 rfl (lv_at hl 1 rfl) ?_
                                    refine lv_iconst (v := 1) hx hb dX2_coloursUsed_26 (by decide) ?_
                                    refine lv_aload_n hx hb dX2_coloursUsed_27 rfl (lv_at hl 3 rfl) ?_
                                    refine va_get (D := D) (ci := 2) (v := .ref ar) (C := RX2) (T := TX2) (N := 4) hx hb hts hw_X2 hown hK hP 0 rfl rfl 3 (by decide) f_12 (fun _ h9 => h9) rfl dX2_coloursUsed_28 ?_
                                    refine lv_iload_n hx hb dX2_coloursUsed_31 rfl (lv_at hl 2 rfl) ?_
                                    refine va_aldq hx hb hK hP 1 2 rfl rfl (vi_c (by decide +kernel)) dX2_coloursUsed_32 ?_
                                    refine kq (a := c1) (rfl) ?_
                                    refine va_get (D := D) (ci := 0) (v := .ref r1) (C := RX0) (T := TX0) (N := 3) hx hb hts hw_X0 hown hK hP 4 rfl rfl 2 (by decide) f_35 (fun _ h9 => h9) rfl dX2_coloursUsed_33 ?_
                                    refine lv_iload_n hx hb dX2_coloursUsed_36 rfl (lv_at hl 0 rfl) ?_
                                    refine va_iald hx hb hK hP 5 0 rfl rfl (vi_c (by decide +kernel)) dX2_coloursUsed_37 ?_
                                    refine lv_topi (fun y47 ey47 => ?_)
                                    obtain rfl : y47 = f1 4 := ey47.trans (by first | rfl | exact congrArg f1 (by decide))
                                    refine lv_ishl hx hb dX2_coloursUsed_38 ?_
                                    refine lv_ior hx hb dX2_coloursUsed_39 ?_
                                    refine lv_topi (fun y48 ey48 => ?_)
                                    obtain rfl : y48 = us1 (us1 (us1 (us1 (us1 (us6 0 f0) f1 0) f1 1) f1 2) f1 3) f1 4 := ey48.trans (rfl)
                                    refine lv_istore_n (lv' := [(1, .int (us1 (us1 (us1 (us1 (us1 (us6 0 f0) f1 0) f1 1) f1 2) f1 3) f1 4)), (3, .int 4), (2, .int 1), (0, .ref h0)]) hx hb dX2_coloursUsed_40 rfl hl (by decide) rfl (fun ls hl => ?_)
                                    refine lv_iinc (v := 5) (lv' := [(3, .int 5), (1, .int (us1 (us1 (us1 (us1 (us1 (us6 0 f0) f1 0) f1 1) f1 2) f1 3) f1 4)), (2, .int 1), (0, .ref h0)]) hx hb dX2_coloursUsed_41 hl (k := 1) rfl (by decide) (by decide) rfl (fun ls hl => ?_)
                                    refine lv_goto (tgt := 19) hx hb dX2_coloursUsed_44 (by decide) ?_
                                    refine lv_iload_n hx hb dX2_coloursUsed_19 rfl (lv_at hl 0 rfl) ?_
                                    refine lv_bipush (v := 6) hx hb dX2_coloursUsed_20 (by decide) ?_
                                    refine lv_icmp_ge (tgt := 47) hx hb dX2_coloursUsed_22 (by decide) (fun c_22 => ?_) (fun c_22 => ?_)
                                    · exact absurd c_22 (by decide)
                                    · refine lv_iload_n hx hb dX2_coloursUsed_25 rfl (lv_at hl 1 rfl) ?_
                                      refine lv_iconst (v := 1) hx hb dX2_coloursUsed_26 (by decide) ?_
                                      refine lv_aload_n hx hb dX2_coloursUsed_27 rfl (lv_at hl 3 rfl) ?_
                                      refine va_get (D := D) (ci := 2) (v := .ref ar) (C := RX2) (T := TX2) (N := 4) hx hb hts hw_X2 hown hK hP 0 rfl rfl 3 (by decide) f_12 (fun _ h9 => h9) rfl dX2_coloursUsed_28 ?_
                                      refine lv_iload_n hx hb dX2_coloursUsed_31 rfl (lv_at hl 2 rfl) ?_
                                      refine va_aldq hx hb hK hP 1 2 rfl rfl (vi_c (by decide +kernel)) dX2_coloursUsed_32 ?_
                                      refine kq (a := c1) (rfl) ?_
                                      refine va_get (D := D) (ci := 0) (v := .ref r1) (C := RX0) (T := TX0) (N := 3) hx hb hts hw_X0 hown hK hP 4 rfl rfl 2 (by decide) f_35 (fun _ h9 => h9) rfl dX2_coloursUsed_33 ?_
                                      refine lv_iload_n hx hb dX2_coloursUsed_36 rfl (lv_at hl 0 rfl) ?_
                                      refine va_iald hx hb hK hP 5 0 rfl rfl (vi_c (by decide +kernel)) dX2_coloursUsed_37 ?_
                                      refine lv_topi (fun y49 ey49 => ?_)
                                      obtain rfl : y49 = f1 5 := ey49.trans (by first | rfl | exact congrArg f1 (by decide))
                                      refine lv_ishl hx hb dX2_coloursUsed_38 ?_
                                      refine lv_ior hx hb dX2_coloursUsed_39 ?_
                                      refine lv_topi (fun y50 ey50 => ?_)
                                      obtain rfl : y50 = us6 (us6 0 f0) f1 := ey50.trans (rfl)
                                      refine lv_istore_n (lv' := [(1, .int (us6 (us6 0 f0) f1)), (3, .int 5), (2, .int 1), (0, .ref h0)]) hx hb dX2_coloursUsed_40 rfl hl (by decide) rfl (fun ls hl => ?_)
                                      refine lv_iinc (v := 6) (lv' := [(3, .int 6), (1, .int (us6 (us6 0 f0) f1)), (2, .int 1), (0, .ref h0)]) hx hb dX2_coloursUsed_41 hl (k := 1) rfl (by decide) (by decide) rfl (fun ls hl => ?_)
                                      refine lv_goto (tgt := 19) hx hb dX2_coloursUsed_44 (by decide) ?_
                                      refine lv_iload_n hx hb dX2_coloursUsed_19 rfl (lv_at hl 0 rfl) ?_
                                      refine lv_bipush (v := 6) hx hb dX2_coloursUsed_20 (by decide) ?_
                                      refine lv_icmp_ge (tgt := 47) hx hb dX2_coloursUsed_22 (by decide) (fun c_22 => ?_) (fun c_22 => ?_)
                                      · refine lv_iinc (v := 2) (lv' := [(2, .int 2), (3, .int 6), (1, .int (us6 (us6 0 f0) f1)), (0, .ref h0)]) hx hb dX2_coloursUsed_47 hl (k := 2) rfl (by decide) (by decide) rfl (fun ls hl => ?_)
                                        refine lv_goto (tgt := 4) hx hb dX2_coloursUsed_50 (by decide) ?_
                                        refine lv_iload_n hx hb dX2_coloursUsed_4 rfl (lv_at hl 0 rfl) ?_
                                        refine lv_aload_n hx hb dX2_coloursUsed_5 rfl (lv_at hl 3 rfl) ?_
                                        refine va_get (D := D) (ci := 2) (v := .int 3) (C := RX2) (T := TX2) (N := 4) hx hb hts hw_X2 hown hK hP 0 rfl rfl 0 (by decide) f_18 (fun _ h9 => h9) rfl dX2_coloursUsed_6 ?_
                                        refine lv_icmp_ge (tgt := 53) hx hb dX2_coloursUsed_9 (by decide) (fun c_9 => ?_) (fun c_9 => ?_)
                                        · exact absurd c_9 (by decide)
                                        · refine lv_iload_n hx hb dX2_coloursUsed_12 rfl (lv_at hl 0 rfl) ?_
                                          refine lv_iconst (v := 3) hx hb dX2_coloursUsed_13 (by decide) ?_
                                          refine lv_icmp_ge (tgt := 53) hx hb dX2_coloursUsed_14 (by decide) (fun c_14 => ?_) (fun c_14 => ?_)
                                          · exact absurd c_14 (by decide)
                                          · refine lv_iconst (v := 0) hx hb dX2_coloursUsed_17 (by decide) ?_
                                            refine lv_istore_n (lv' := [(3, .int 0), (2, .int 2), (1, .int (us6 (us6 0 f0) f1)), (0, .ref h0)]) hx hb dX2_coloursUsed_18 rfl hl (by decide) rfl (fun ls hl => ?_)
                                            refine lv_iload_n hx hb dX2_coloursUsed_19 rfl (lv_at hl 0 rfl) ?_
                                            refine lv_bipush (v := 6) hx hb dX2_coloursUsed_20 (by decide) ?_
                                            refine lv_icmp_ge (tgt := 47) hx hb dX2_coloursUsed_22 (by decide) (fun c_22 => ?_) (fun c_22 => ?_)
                                            · exact absurd c_22 (by decide)
                                            · refine lv_iload_n hx hb dX2_coloursUsed_25 rfl (lv_at hl 2 rfl) ?_
                                              refine lv_iconst (v := 1) hx hb dX2_coloursUsed_26 (by decide) ?_
                                              refine lv_aload_n hx hb dX2_coloursUsed_27 rfl (lv_at hl 3 rfl) ?_
                                              refine va_get (D := D) (ci := 2) (v := .ref ar) (C := RX2) (T := TX2) (N := 4) hx hb hts hw_X2 hown hK hP 0 rfl rfl 3 (by decide) f_12 (fun _ h9 => h9) rfl dX2_coloursUsed_28 ?_
                                              refine lv_iload_n hx hb dX2_coloursUsed_31 rfl (lv_at hl 1 rfl) ?_
                                              refine va_aldq hx hb hK hP 1 2 rfl rfl (vi_c (by decide +kernel)) dX2_coloursUsed_32 ?_
                                              refine kq (a := c2) (rfl) ?_
                                              refine va_get (D := D) (ci := 0) (v := .ref r2) (C := RX0) (T := TX0) (N := 3) hx hb hts hw_X0 hown hK hP 6 rfl rfl 2 (by decide) f_35 (fun _ h9 => h9) rfl dX2_coloursUsed_33 ?_
                                              refine lv_iload_n hx hb dX2_coloursUsed_36 rfl (lv_at hl 0 rfl) ?_
                                              refine va_iald hx hb hK hP 7 0 rfl rfl (vi_c (by decide +kernel)) dX2_coloursUsed_37 ?_
                                              refine lv_topi (fun y51 ey51 => ?_)
                                              obtain rfl : y51 = f2 0 := ey51.trans (by first | rfl | exact congrArg f2 (by decide))
                                              refine lv_ishl hx hb dX2_coloursUsed_38 ?_
                                              refine lv_ior hx hb dX2_coloursUsed_39 ?_
                                              refine lv_topi (fun y52 ey52 => ?_)
                                              obtain rfl : y52 = us1 (us6 (us6 0 f0) f1) f2 0 := ey52.trans (rfl)
                                              refine lv_istore_n (lv' := [(1, .int (us1 (us6 (us6 0 f0) f1) f2 0)), (3, .int 0), (2, .int 2), (0, .ref h0)]) hx hb dX2_coloursUsed_40 rfl hl (by decide) rfl (fun ls hl => ?_)
                                              refine lv_iinc (v := 1) (lv' := [(3, .int 1), (1, .int (us1 (us6 (us6 0 f0) f1) f2 0)), (2, .int 2), (0, .ref h0)]) hx hb dX2_coloursUsed_41 hl (k := 1) rfl (by decide) (by decide) rfl (fun ls hl => ?_)
                                              refine lv_goto (tgt := 19) hx hb dX2_coloursUsed_44 (by decide) ?_
                                              refine lv_iload_n hx hb dX2_coloursUsed_19 rfl (lv_at hl 0 rfl) ?_
                                              refine lv_bipush (v := 6) hx hb dX2_coloursUsed_20 (by decide) ?_
                                              refine lv_icmp_ge (tgt := 47) hx hb dX2_coloursUsed_22 (by decide) (fun c_22 => ?_) (fun c_22 => ?_)
                                              · exact absurd c_22 (by decide)
                                              · refine lv_iload_n hx hb dX2_coloursUsed_25 rfl (lv_at hl 1 rfl) ?_
                                                refine lv_iconst (v := 1) hx hb dX2_coloursUsed_26 (by decide) ?_
                                                refine lv_aload_n hx hb dX2_coloursUsed_27 rfl (lv_at hl 3 rfl) ?_
                                                refine va_get (D := D) (ci := 2) (v := .ref ar) (C := RX2) (T := TX2) (N := 4) hx hb hts hw_X2 hown hK hP 0 rfl rfl 3 (by decide) f_12 (fun _ h9 => h9) rfl dX2_coloursUsed_28 ?_
                                                refine lv_iload_n hx hb dX2_coloursUsed_31 rfl (lv_at hl 2 rfl) ?_
                                                refine va_aldq hx hb hK hP 1 2 rfl rfl (vi_c (by decide +kernel)) dX2_coloursUsed_32 ?_
                                                refine kq (a := c2) (rfl) ?_
                                                refine va_get (D := D) (ci := 0) (v := .ref r2) (C := RX0) (T := TX0) (N := 3) hx hb hts hw_X0 hown hK hP 6 rfl rfl 2 (by decide) f_35 (fun _ h9 => h9) rfl dX2_coloursUsed_33 ?_
                                                refine lv_iload_n hx hb dX2_coloursUsed_36 rfl (lv_at hl 0 rfl) ?_
                                                refine va_iald hx hb hK hP 7 0 rfl rfl (vi_c (by decide +kernel)) dX2_coloursUsed_37 ?_
                                                refine lv_topi (fun y53 ey53 => ?_)
                                                obtain rfl : y53 = f2 1 := ey53.trans (by first | rfl | exact congrArg f2 (by decide))
                                                refine lv_ishl hx hb dX2_coloursUsed_38 ?_
                                                refine lv_ior hx hb dX2_coloursUsed_39 ?_
                                                refine lv_topi (fun y54 ey54 => ?_)
                                                obtain rfl : y54 = us1 (us1 (us6 (us6 0 f0) f1) f2 0) f2 1 := ey54.trans (rfl)
                                                refine lv_istore_n (lv' := [(1, .int (us1 (us1 (us6 (us6 0 f0) f1) f2 0) f2 1)), (3, .int 1), (2, .int 2), (0, .ref h0)]) hx hb dX2_coloursUsed_40 rfl hl (by decide) rfl (fun ls hl => ?_)
                                                refine lv_iinc (v := 2) (lv' := [(3, .int 2), (1, .int (us1 (us1 (us6 (us6 0 f0) f1) f2 0) f2 1)), (2, .int 2), (0, .ref h0)]) hx hb dX2_coloursUsed_41 hl (k := 1) rfl (by decide) (by decide) rfl (fun ls hl => ?_)
                                                refine lv_goto (tgt := 19) hx hb dX2_coloursUsed_44 (by decide) ?_
                                                refine lv_iload_n hx hb dX2_coloursUsed_19 rfl (lv_at hl 0 rfl) ?_
                                                refine lv_bipush (v := 6) hx hb dX2_coloursUsed_20 (by decide) ?_
                                                refine lv_icmp_ge (tgt := 47) hx hb dX2_coloursUsed_22 (by decide) (fun c_22 => ?_) (fun c_22 => ?_)
                                                · exact absurd c_22 (by decide)
                                                · refine lv_iload_n hx hb dX2_coloursUsed_25 rfl (lv_at hl 1 rfl) ?_
                                                  refine lv_iconst (v := 1) hx hb dX2_coloursUsed_26 (by decide) ?_
                                                  refine lv_aload_n hx hb dX2_coloursUsed_27 rfl (lv_at hl 3 rfl) ?_
                                                  refine va_get (D := D) (ci := 2) (v := .ref ar) (C := RX2) (T := TX2) (N := 4) hx hb hts hw_X2 hown hK hP 0 rfl rfl 3 (by decide) f_12 (fun _ h9 => h9) rfl dX2_coloursUsed_28 ?_
                                                  refine lv_iload_n hx hb dX2_coloursUsed_31 rfl (lv_at hl 2 rfl) ?_
                                                  refine va_aldq hx hb hK hP 1 2 rfl rfl (vi_c (by decide +kernel)) dX2_coloursUsed_32 ?_
                                                  refine kq (a := c2) (rfl) ?_
                                                  refine va_get (D := D) (ci := 0) (v := .ref r2) (C := RX0) (T := TX0) (N := 3) hx hb hts hw_X0 hown hK hP 6 rfl rfl 2 (by decide) f_35 (fun _ h9 => h9) rfl dX2_coloursUsed_33 ?_
                                                  refine lv_iload_n hx hb dX2_coloursUsed_36 rfl (lv_at hl 0 rfl) ?_
                                                  refine va_iald hx hb hK hP 7 0 rfl rfl (vi_c (by decide +kernel)) dX2_coloursUsed_37 ?_
                                                  refine lv_topi (fun y55 ey55 => ?_)
                                                  obtain rfl : y55 = f2 2 := ey55.trans (by first | rfl | exact congrArg f2 (by decide))
                                                  refine lv_ishl hx hb dX2_coloursUsed_38 ?_
                                                  refine lv_ior hx hb dX2_coloursUsed_39 ?_
                                                  refine lv_topi (fun y56 ey56 => ?_)
                                                  obtain rfl : y56 = us1 (us1 (us1 (us6 (us6 0 f0) f1) f2 0) f2 1) f2 2 := ey56.trans (rfl)
                                                  refine lv_istore_n (lv' := [(1, .int (us1 (us1 (us1 (us6 (us6 0 f0) f1) f2 0) f2 1) f2 2)), (3, .int 2), (2, .int 2), (0, .ref h0)]) hx hb dX2_coloursUsed_40 rfl hl (by decide) rfl (fun ls hl => ?_)
                                                  refine lv_iinc (v := 3) (lv' := [(3, .int 3), (1, .int (us1 (us1 (us1 (us6 (us6 0 f0) f1) f2 0) f2 1) f2 2)), (2, .int 2), (0, .ref h0)]) hx hb dX2_coloursUsed_41 hl (k := 1) rfl (by decide) (by decide) rfl (fun ls hl => ?_)
                                                  refine lv_goto (tgt := 19) hx hb dX2_coloursUsed_44 (by decide) ?_
                                                  refine lv_iload_n hx hb dX2_coloursUsed_19 rfl (lv_at hl 0 rfl) ?_
                                                  refine lv_bipush (v := 6) hx hb dX2_coloursUsed_20 (by decide) ?_
                                                  refine lv_icmp_ge (tgt := 47) hx hb dX2_coloursUsed_22 (by decide) (fun c_22 => ?_) (fun c_22 => ?_)
                                                  · exact absurd c_22 (by decide)
                                                  · refine lv_iload_n hx hb dX2_coloursUsed_25 rfl (lv_at hl 1 rfl) ?_
                                                    refine lv_iconst (v := 1) hx hb dX2_coloursUsed_26 (by decide) ?_
                                                    refine lv_aload_n hx hb dX2_coloursUsed_27 rfl (lv_at hl 3 rfl) ?_
                                                    refine va_get (D := D) (ci := 2) (v := .ref ar) (C := RX2) (T := TX2) (N := 4) hx hb hts hw_X2 hown hK hP 0 rfl rfl 3 (by decide) f_12 (fun _ h9 => h9) rfl dX2_coloursUsed_28 ?_
                                                    refine lv_iload_n hx hb dX2_coloursUsed_31 rfl (lv_at hl 2 rfl) ?_
                                                    refine va_aldq hx hb hK hP 1 2 rfl rfl (vi_c (by decide +kernel)) dX2_coloursUsed_32 ?_
                                                    refine kq (a := c2) (rfl) ?_
                                                    refine va_get (D := D) (ci := 0) (v := .ref r2) (C := RX0) (T := TX0) (N := 3) hx hb hts hw_X0 hown hK hP 6 rfl rfl 2 (by decide) f_35 (fun _ h9 => h9) rfl dX2_coloursUsed_33 ?_
                                                    refine lv_iload_n hx hb dX2_coloursUsed_36 rfl (lv_at hl 0 rfl) ?_
                                                    refine va_iald hx hb hK hP 7 0 rfl rfl (vi_c (by decide +kernel)) dX2_coloursUsed_37 ?_
                                                    refine lv_topi (fun y57 ey57 => ?_)
                                                    obtain rfl : y57 = f2 3 := ey57.trans (by first | rfl | exact congrArg f2 (by decide))
                                                    refine lv_ishl hx hb dX2_coloursUsed_38 ?_
                                                    refine lv_ior hx hb dX2_coloursUsed_39 ?_
                                                    refine lv_topi (fun y58 ey58 => ?_)
                                                    obtain rfl : y58 = us1 (us1 (us1 (us1 (us6 (us6 0 f0) f1) f2 0) f2 1) f2 2) f2 3 := ey58.trans (rfl)
                                                    refine lv_istore_n (lv' := [(1, .int (us1 (us1 (us1 (us1 (us6 (us6 0 f0) f1) f2 0) f2 1) f2 2) f2 3)), (3, .int 3), (2, .int 2), (0, .ref h0)]) hx hb dX2_coloursUsed_40 rfl hl (by decide) rfl (fun ls hl => ?_)
                                                    refine lv_iinc (v := 4) (lv' := [(3, .int 4), (1, .int (us1 (us1 (us1 (us1 (us6 (us6 0 f0) f1) f2 0) f2 1) f2 2) f2 3)), (2, .int 2), (0, .ref h0)]) hx hb dX2_coloursUsed_41 hl (k := 1) rfl (by decide) (by decide) rfl (fun ls hl => ?_)
                                                    refine lv_goto (tgt := 19) hx hb dX2_coloursUsed_44 (by decide) ?_
                                                    refine lv_iload_n hx hb dX2_coloursUsed_19 rfl (lv_at hl 0 rfl) ?_
                                                    refine lv_bipush (v := 6) hx hb dX2_coloursUsed_20 (by decide) ?_
                                                    refine lv_icmp_ge (tgt := 47) hx hb dX2_coloursUsed_22 (by decide) (fun c_22 => ?_) (fun c_22 => ?_)
                                                    · exact absurd c_22 (by decide)
                                                    · refine lv_iload_n hx hb dX2_coloursUsed_25 rfl (lv_at hl 1 rfl) ?_
                                                      refine lv_iconst (v := 1) hx hb dX2_coloursUsed_26 (by decide) ?_
                                                      refine lv_aload_n hx hb dX2_coloursUsed_27 rfl (lv_at hl 3 rfl) ?_
                                                      refine va_get (D := D) (ci := 2) (v := .ref ar) (C := RX2) (T := TX2) (N := 4) hx hb hts hw_X2 hown hK hP 0 rfl rfl 3 (by decide) f_12 (fun _ h9 => h9) rfl dX2_coloursUsed_28 ?_
                                                      refine lv_iload_n hx hb dX2_coloursUsed_31 rfl (lv_at hl 2 rfl) ?_
                                                      refine va_aldq hx hb hK hP 1 2 rfl rfl (vi_c (by decide +kernel)) dX2_coloursUsed_32 ?_
                                                      refine kq (a := c2) (rfl) ?_
                                                      refine va_get (D := D) (ci := 0) (v := .ref r2) (C := RX0) (T := TX0) (N := 3) hx hb hts hw_X0 hown hK hP 6 rfl rfl 2 (by decide) f_35 (fun _ h9 => h9) rfl dX2_coloursUsed_33 ?_
                                                      refine lv_iload_n hx hb dX2_coloursUsed_36 rfl (lv_at hl 0 rfl) ?_
                                                      refine va_iald hx hb hK hP 7 0 rfl rfl (vi_c (by decide +kernel)) dX2_coloursUsed_37 ?_
                                                      refine lv_topi (fun y59 ey59 => ?_)
                                                      obtain rfl : y59 = f2 4 := ey59.trans (by first | rfl | exact congrArg f2 (by decide))
                                                      refine lv_ishl hx hb dX2_coloursUsed_38 ?_
                                                      refine lv_ior hx hb dX2_coloursUsed_39 ?_
                                                      refine lv_topi (fun y60 ey60 => ?_)
                                                      obtain rfl : y60 = us1 (us1 (us1 (us1 (us1 (us6 (us6 0 f0) f1) f2 0) f2 1) f2 2) f2 3) f2 4 := ey60.trans (rfl)
                                                      refine lv_istore_n (lv' := [(1, .int (us1 (us1 (us1 (us1 (us1 (us6 (us6 0 f0) f1) f2 0) f2 1) f2 2) f2 3) f2 4)), (3, .int 4), (2, .int 2), (0, .ref h0)]) hx hb dX2_coloursUsed_40 rfl hl (by decide) rfl (fun ls hl => ?_)
                                                      refine lv_iinc (v := 5) (lv' := [(3, .int 5), (1, .int (us1 (us1 (us1 (us1 (us1 (us6 (us6 0 f0) f1) f2 0) f2 1) f2 2) f2 3) f2 4)), (2, .int 2), (0, .ref h0)]) hx hb dX2_coloursUsed_41 hl (k := 1) rfl (by decide) (by decide) rfl (fun ls hl => ?_)
                                                      refine lv_goto (tgt := 19) hx hb dX2_coloursUsed_44 (by decide) ?_
                                                      refine lv_iload_n hx hb dX2_coloursUsed_19 rfl (lv_at hl 0 rfl) ?_
                                                      refine lv_bipush (v := 6) hx hb dX2_coloursUsed_20 (by decide) ?_
                                                      refine lv_icmp_ge (tgt := 47) hx hb dX2_coloursUsed_22 (by decide) (fun c_22 => ?_) (fun c_22 => ?_)
                                                      · exact absurd c_22 (by decide)
                                                      · refine lv_iload_n hx hb dX2_coloursUsed_25 rfl (lv_at hl 1 rfl) ?_
                                                        refine lv_iconst (v := 1) hx hb dX2_coloursUsed_26 (by decide) ?_
                                                        refine lv_aload_n hx hb dX2_coloursUsed_27 rfl (lv_at hl 3 rfl) ?_
                                                        refine va_get (D := D) (ci := 2) (v := .ref ar) (C := RX2) (T := TX2) (N := 4) hx hb hts hw_X2 hown hK hP 0 rfl rfl 3 (by decide) f_12 (fun _ h9 => h9) rfl dX2_coloursUsed_28 ?_
                                                        refine lv_iload_n hx hb dX2_coloursUsed_31 rfl (lv_at hl 2 rfl) ?_
                                                        refine va_aldq hx hb hK hP 1 2 rfl rfl (vi_c (by decide +kernel)) dX2_coloursUsed_32 ?_
                                                        refine kq (a := c2) (rfl) ?_
                                                        refine va_get (D := D) (ci := 0) (v := .ref r2) (C := RX0) (T := TX0) (N := 3) hx hb hts hw_X0 hown hK hP 6 rfl rfl 2 (by decide) f_35 (fun _ h9 => h9) rfl dX2_coloursUsed_33 ?_
                                                        refine lv_iload_n hx hb dX2_coloursUsed_36 rfl (lv_at hl 0 rfl) ?_
                                                        refine va_iald hx hb hK hP 7 0 rfl rfl (vi_c (by decide +kernel)) dX2_coloursUsed_37 ?_
                                                        refine lv_topi (fun y61 ey61 => ?_)
                                                        obtain rfl : y61 = f2 5 := ey61.trans (by first | rfl | exact congrArg f2 (by decide))
                                                        refine lv_ishl hx hb dX2_coloursUsed_38 ?_
                                                        refine lv_ior hx hb dX2_coloursUsed_39 ?_
                                                        refine lv_topi (fun y62 ey62 => ?_)
                                                        obtain rfl : y62 = us6 (us6 (us6 0 f0) f1) f2 := ey62.trans (rfl)
                                                        refine lv_istore_n (lv' := [(1, .int (us6 (us6 (us6 0 f0) f1) f2)), (3, .int 5), (2, .int 2), (0, .ref h0)]) hx hb dX2_coloursUsed_40 rfl hl (by decide) rfl (fun ls hl => ?_)
                                                        refine lv_iinc (v := 6) (lv' := [(3, .int 6), (1, .int (us6 (us6 (us6 0 f0) f1) f2)), (2, .int 2), (0, .ref h0)]) hx hb dX2_coloursUsed_41 hl (k := 1) rfl (by decide) (by decide) rfl (fun ls hl => ?_)
                                                        refine lv_goto (tgt := 19) hx hb dX2_coloursUsed_44 (by decide) ?_
                                                        refine lv_iload_n hx hb dX2_coloursUsed_19 rfl (lv_at hl 0 rfl) ?_
                                                        refine lv_bipush (v := 6) hx hb dX2_coloursUsed_20 (by decide) ?_
                                                        refine lv_icmp_ge (tgt := 47) hx hb dX2_coloursUsed_22 (by decide) (fun c_22 => ?_) (fun c_22 => ?_)
                                                        · refine lv_iinc (v := 3) (lv' := [(2, .int 3), (3, .int 6), (1, .int (us6 (us6 (us6 0 f0) f1) f2)), (0, .ref h0)]) hx hb dX2_coloursUsed_47 hl (k := 2) rfl (by decide) (by decide) rfl (fun ls hl => ?_)
                                                          refine lv_goto (tgt := 4) hx hb dX2_coloursUsed_50 (by decide) ?_
                                                          refine lv_iload_n hx hb dX2_coloursUsed_4 rfl (lv_at hl 0 rfl) ?_
                                                          refine lv_aload_n hx hb dX2_coloursUsed_5 rfl (lv_at hl 3 rfl) ?_
                                                          refine va_get (D := D) (ci := 2) (v := .int 3) (C := RX2) (T := TX2) (N := 4) hx hb hts hw_X2 hown hK hP 0 rfl rfl 0 (by decide) f_18 (fun _ h9 => h9) rfl dX2_coloursUsed_6 ?_
                                                          refine lv_icmp_ge (tgt := 53) hx hb dX2_coloursUsed_9 (by decide) (fun c_9 => ?_) (fun c_9 => ?_)
                                                          · refine lv_iload_n hx hb dX2_coloursUsed_53 rfl (lv_at hl 2 rfl) ?_
                                                            refine kc_i (wc := []) (wr := [(h0, .inr (2, [.int 3, .int tn, .int sn, .ref ar])), (ar, .inl (cy 2, 3, .inr (.inr (.inr (.inr (va_up (va_up (va_up (fun _ => none) 0 (some c0)) 1 (some c1)) 2 (some c2))))))), (c0, .inr (0, [.int k0, .int s0, .ref r0])), (r0, .inl (cy 0, 6, .inl f0)), (c1, .inr (0, [.int k1, .int s1, .ref r1])), (r1, .inl (cy 0, 6, .inl f1)), (c2, .inr (0, [.int k2, .int s2, .ref r2])), (r2, .inl (cy 0, 6, .inl f2))]) (va_runS (As := [.int (us6 (us6 (us6 0 f0) f1) f2)]) (rest := []) ⟨hx, hb, hml, hown, hts⟩ (g_J6_bitCount l D cy H.size (us6 (us6 (us6 0 f0) f1) f2) ) (va_cwS 1 hts gX2_coloursUsed_J6_bitCount_0f7a4 rfl rfl rfl hdc_J6_bitCount_0f7a4.2 ⟨Nat.le_of_ble_eq_true rfl, Nat.le_of_ble_eq_true rfl⟩) (cpre_S (wc := []) hX hP hD hS hA [] (by decide +kernel) rfl) rfl rfl hl.1 rfl (lv_room (Nat.le_of_ble_eq_true rfl)) dX2_coloursUsed_54 ⟨Nat.le_of_ble_eq_true rfl, Nat.le_of_ble_eq_true rfl⟩) hP hD hS hA [] [0, 1, 2, 3, 4, 5, 6, 7] rfl rfl (by decide +kernel) (by decide +kernel) (fun rb u63 H locs hw hP hD hS => ?_)
                                                            obtain ⟨hu, hrb⟩ := hw
                                                            subst hu
                                                            have hP : va_P D vwCl [(h0, .inr (2, [.int 3, .int tn, .int sn, .ref ar])), (ar, .inl (cy 2, 3, .inr (.inr (.inr (.inr (va_up (va_up (va_up (fun _ => none) 0 (some c0)) 1 (some c1)) 2 (some c2))))))), (c0, .inr (0, [.int k0, .int s0, .ref r0])), (r0, .inl (cy 0, 6, .inl f0)), (c1, .inr (0, [.int k1, .int s1, .ref r1])), (r1, .inl (cy 0, 6, .inl f1)), (c2, .inr (0, [.int k2, .int s2, .ref r2])), (r2, .inl (cy 0, 6, .inl f2))] H := hP
                                                            have hD : va_D A [(h0, .inr (2, [.int 3, .int tn, .int sn, .ref ar])), (ar, .inl (cy 2, 3, .inr (.inr (.inr (.inr (va_up (va_up (va_up (fun _ => none) 0 (some c0)) 1 (some c1)) 2 (some c2))))))), (c0, .inr (0, [.int k0, .int s0, .ref r0])), (r0, .inl (cy 0, 6, .inl f0)), (c1, .inr (0, [.int k1, .int s1, .ref r1])), (r1, .inl (cy 0, 6, .inl f1)), (c2, .inr (0, [.int k2, .int s2, .ref r2])), (r2, .inl (cy 0, 6, .inl f2))] := hD
                                                            have hP9 := hP.sub (ws' := [(h0, .inr (2, [.int (nI 3), .int tn, .int sn, .ref ar])), (ar, .inl (cy 2, 3, .inr (.inr (.inr (.inr (va_up (va_up (va_up (fun _ => none) 0 (some c0)) 1 (some c1)) 2 (some c2))))))), (c0, .inr (0, [.int k0, .int s0, .ref r0])), (r0, .inl (cy 0, 6, .inl f0)), (c1, .inr (0, [.int k1, .int s1, .ref r1])), (r1, .inl (cy 0, 6, .inl f1)), (c2, .inr (0, [.int k2, .int s2, .ref r2])), (r2, .inl (cy 0, 6, .inl f2))]) [0, 1, 2, 3, 4, 5, 6, 7] rfl
                                                            have hD9 := hD.sub (ws' := [(h0, .inr (2, [.int (nI 3), .int tn, .int sn, .ref ar])), (ar, .inl (cy 2, 3, .inr (.inr (.inr (.inr (va_up (va_up (va_up (fun _ => none) 0 (some c0)) 1 (some c1)) 2 (some c2))))))), (c0, .inr (0, [.int k0, .int s0, .ref r0])), (r0, .inl (cy 0, 6, .inl f0)), (c1, .inr (0, [.int k1, .int s1, .ref r1])), (r1, .inl (cy 0, 6, .inl f1)), (c2, .inr (0, [.int k2, .int s2, .ref r2])), (r2, .inl (cy 0, 6, .inl f2))]) [0, 1, 2, 3, 4, 5, 6, 7] (by decide +kernel) rfl
                                                            exact W.iret (v := rb) hx hb hr (fun t9 ht9 hW9 => ⟨⟨rb, [(h0, .inr (2, [.int (nI 3), .int tn, .int sn, .ref ar])), (ar, .inl (cy 2, 3, .inr (.inr (.inr (.inr (va_up (va_up (va_up (fun _ => none) 0 (some c0)) 1 (some c1)) 2 (some c2))))))), (c0, .inr (0, [.int k0, .int s0, .ref r0])), (r0, .inl (cy 0, 6, .inl f0)), (c1, .inr (0, [.int k1, .int s1, .ref r1])), (r1, .inl (cy 0, 6, .inl f1)), (c2, .inr (0, [.int k2, .int s2, .ref r2])), (r2, .inl (cy 0, 6, .inl f2))], rfl, ⟨rfl, hrb⟩, by rw [ht9]; exact hP9, hD9⟩, hS.F ht9⟩) hS.2.2 dX2_coloursUsed_57
                                                          · exact absurd c_9 (by decide)
                                                        · exact absurd c_22 (by decide)
                                      · exact absurd c_22 (by decide)
                    · exact absurd c_22 (by decide)
def q_X0_turnOver (cy : Nat → ClassId) (h0 : Nat) (kd : Int32) (so : Int32) (r0 : Nat) (f : Nat → Int32) (t : Nat) : va_W → Prop := fun (u : va_W) => u = [(h0, .inr (0, [.int kd, .int so, .ref r0])), (r0, .inl (cy 0, 6, .inl (tr_f kd t 0 f)))]
set_option maxHeartbeats 4000000 in
set_option maxRecDepth 100000 in
theorem c_X0_turnOver (l : Launch) (D : va_G) (cy : Nat → ClassId) (zz : Nat) (h0 : Nat) (kd : Int32) (so : Int32) (r0 : Nat) (f : Nat → Int32) (t : Nat) (ht : t < 4) : Met l yX0_turnOver wsX0_turnOver ({ frames := 1, cells := 0, slots := 0, locals := 29 } : Room) (va_Pc [.ref h0, .int (nI t)] (cpre D cy [(h0, .inr (0, [.int kd, .int so, .ref r0])), (r0, .inl (cy 0, 6, .inl f))] zz)) (va_Qv (q_X0_turnOver cy h0 kd so r0 f t) (cpost D (va_A [(h0, .inr (0, [.int kd, .int so, .ref r0])), (r0, .inl (cy 0, 6, .inl f))] zz)) (va_A [(h0, .inr (0, [.int kd, .int so, .ref r0])), (r0, .inl (cy 0, 6, .inl f))] zz)) 0 0 (va_A [(h0, .inr (0, [.int kd, .int so, .ref r0])), (r0, .inl (cy 0, 6, .inl f))] zz) := by
  refine Met.ofW (cc := cX0_turnOver) (maxL := 2) (ret := none) (by decide) rfl ?_
  intro p e s m args below meth c s₁ B hml hv
  obtain ⟨rfl, hsz, hP, hD0, hX⟩ := hv
  have hx := B.exec
  have hb := B.bytes
  have hr := B.returns
  have hts := atoms_spec (ws := wsX0_turnOver) B.pre
  have hown : s.vm.findClass RX0 = some m.cls := findClass_of_methodNamed B.named
  have hlocks := B.notSynchronized
  subst hsz
  have hD := hD0.self (sz := s.heap.size)
  generalize hAe : va_A [(h0, .inr (0, [.int kd, .int so, .ref r0])), (r0, .inl (cy 0, 6, .inl f))] s.heap.size = A at hD hX ⊢
  have hA : ∀ q : Nat, s.heap.size ≤ q → A q := fun q h => by rw [← hAe]; exact Or.inr h
  obtain ⟨H, hH⟩ : ∃ H : Heap, H = s.heap := ⟨_, rfl⟩
  have hS : va_S A s.heap H [] := hH ▸ va_S.rf
  have hK := hX.1
  have hP : va_P D vwCl [(h0, .inr (0, [.int kd, .int so, .ref r0])), (r0, .inl (cy 0, 6, .inl f))] H := hH ▸ hP
  rw [← hH]
  have hw_X0 : ∀ w ∈ wsX00, w ∈ wsX0_turnOver := chX0 (by decide +kernel)
  have f_15 := hts (.fieldLink RX0 15 "CubeTower$Cube" "colours" "[I") (inC wa_75 (by decide +kernel))
  have f_19 := hts (.fieldLink RX0 19 "CubeTower$Cube" "kind" "I") (inC wa_971 (by decide +kernel))
  have ini_X4 := hts (.initialized RX4) (inC wa_2 (by decide +kernel))
  have st_X4_turnRow := hts (.static yX4_turnRow) (inC wa_146 (by decide +kernel))
  have hl := lv_entry ([.ref h0, .int (nI t)]) (n := 2) (Nat.le_of_ble_eq_true rfl)
  rw [lg_entry_eq]
  generalize (lg_sl ([.ref h0, .int (nI t)]) ++ List.replicate (2 - (lg_sl ([.ref h0, .int (nI t)])).length) Slot.unset).toArray = ls at hl ⊢
  have hl : lv_has ls 2 [(0, .ref h0), (1, .int (nI t))] := hl
  refine lv_aload_n hx hb dX0_turnOver_0 rfl (lv_at hl 0 rfl) ?_
  refine va_get (D := D) (ci := 0) (v := .ref r0) (C := RX0) (T := TX0) (N := 3) hx hb hts hw_X0 hown hK hP 0 rfl rfl 2 (by decide) f_15 (fun _ h9 => h9) rfl dX0_turnOver_1 ?_
  refine lv_iconst (v := 0) hx hb dX0_turnOver_4 (by decide) ?_
  refine lv_aload_n hx hb dX0_turnOver_5 rfl (lv_at hl 0 rfl) ?_
  refine va_get (D := D) (ci := 0) (v := .int kd) (C := RX0) (T := TX0) (N := 3) hx hb hts hw_X0 hown hK hP 0 rfl rfl 0 (by decide) f_19 (fun _ h9 => h9) rfl dX0_turnOver_6 ?_
  refine lv_iload_n hx hb dX0_turnOver_9 rfl (lv_at hl 1 rfl) ?_
  refine kc_v (wc := [(r0, .inl (cy 0, 6, .inl f))]) (wr := [(h0, .inr (0, [.int kd, .int so, .ref r0]))]) (va_runSN (As := [.ref r0, .int 0, .int kd, .int (nI t)]) (rest := []) ⟨hx, hb, hml, hown, hts⟩ (c_X4_turnRow l D cy H.size r0 6 f 0 kd t (by decide) (by decide) ht) ⟨va_cnB 4 hts gX0_turnOver_X4_turnRow_n22 rfl rfl rfl hX.2.2.1.2.2.2.2.2 ini_X4 hdc_X4_turnRow.2 ⟨Nat.le_of_ble_eq_true rfl, Nat.le_of_ble_eq_true rfl⟩, st_X4_turnRow, trivial⟩ (cpre_S (wc := [(r0, .inl (cy 0, 6, .inl f))]) hX hP hD hS hA [1] (by decide +kernel) rfl) rfl rfl hl.1 rfl (lv_room (Nat.le_of_ble_eq_true rfl)) dX0_turnOver_10 ⟨Nat.le_of_ble_eq_true rfl, Nat.le_of_ble_eq_true rfl⟩) hP hD hS hA [1] [0] rfl rfl (by decide +kernel) (by decide +kernel) (fun u2 H locs hw hP hD hS => ?_)
  have hu := hw
  subst hu
  have hP : va_P D vwCl [(h0, .inr (0, [.int kd, .int so, .ref r0])), (r0, .inl (cy 0, 6, .inl (tr_f kd t 0 f)))] H := hP
  have hD : va_D A [(h0, .inr (0, [.int kd, .int so, .ref r0])), (r0, .inl (cy 0, 6, .inl (tr_f kd t 0 f)))] := hD
  have hP9 := hP.sub (ws' := [(h0, .inr (0, [.int kd, .int so, .ref r0])), (r0, .inl (cy 0, 6, .inl (tr_f kd t 0 f)))]) [0, 1] rfl
  have hD9 := hD.sub (ws' := [(h0, .inr (0, [.int kd, .int so, .ref r0])), (r0, .inl (cy 0, 6, .inl (tr_f kd t 0 f)))]) [0, 1] (by decide +kernel) rfl
  exact W.vret hx hb hr (fun t9 ht9 hW9 => ⟨⟨[(h0, .inr (0, [.int kd, .int so, .ref r0])), (r0, .inl (cy 0, 6, .inl (tr_f kd t 0 f)))], rfl, rfl, by rw [ht9]; exact hP9, hD9⟩, hS.F ht9⟩) hS.2.2 dX0_turnOver_13
def q_X0_copyFrom (cy : Nat → ClassId) (h0 : Nat) (kd : Int32) (so : Int32) (r0 : Nat) (f : Nat → Int32) (h1 : Nat) (kd1 : Int32) (so1 : Int32) (r1 : Nat) (f1 : Nat → Int32) : va_W → Prop := fun (u : va_W) => ∃ (f2 : Nat → Int32), u = [(h0, .inr (0, [.int kd1, .int so1, .ref r0])), (r0, .inl (cy 0, 6, .inl f2)), (h1, .inr (0, [.int kd1, .int so1, .ref r1])), (r1, .inl (cy 0, 6, .inl f1))] ∧ (∀ j, j < 6 → f2 j = f1 j)
set_option maxHeartbeats 4000000 in
set_option maxRecDepth 100000 in
theorem c_X0_copyFrom (l : Launch) (D : va_G) (cy : Nat → ClassId) (zz : Nat) (h0 : Nat) (kd : Int32) (so : Int32) (r0 : Nat) (f : Nat → Int32) (h1 : Nat) (kd1 : Int32) (so1 : Int32) (r1 : Nat) (f1 : Nat → Int32) : Met l yX0_copyFrom wsX0_copyFrom ({ frames := 1, cells := 0, slots := 0, locals := 40 } : Room) (va_Pc [.ref h0, .ref h1] (cpre D cy [(h0, .inr (0, [.int kd, .int so, .ref r0])), (r0, .inl (cy 0, 6, .inl f)), (h1, .inr (0, [.int kd1, .int so1, .ref r1])), (r1, .inl (cy 0, 6, .inl f1))] zz)) (va_Qv (q_X0_copyFrom cy h0 kd so r0 f h1 kd1 so1 r1 f1) (cpost D (va_A [(h0, .inr (0, [.int kd, .int so, .ref r0])), (r0, .inl (cy 0, 6, .inl f)), (h1, .inr (0, [.int kd1, .int so1, .ref r1])), (r1, .inl (cy 0, 6, .inl f1))] zz)) (va_A [(h0, .inr (0, [.int kd, .int so, .ref r0])), (r0, .inl (cy 0, 6, .inl f)), (h1, .inr (0, [.int kd1, .int so1, .ref r1])), (r1, .inl (cy 0, 6, .inl f1))] zz)) 0 0 (va_A [(h0, .inr (0, [.int kd, .int so, .ref r0])), (r0, .inl (cy 0, 6, .inl f)), (h1, .inr (0, [.int kd1, .int so1, .ref r1])), (r1, .inl (cy 0, 6, .inl f1))] zz) := by
  refine Met.ofW (cc := cX0_copyFrom) (maxL := 2) (ret := none) (by decide) rfl ?_
  intro p e s m args below meth c s₁ B hml hv
  obtain ⟨rfl, hsz, hP, hD0, hX⟩ := hv
  have hx := B.exec
  have hb := B.bytes
  have hr := B.returns
  have hts := atoms_spec (ws := wsX0_copyFrom) B.pre
  have hown : s.vm.findClass RX0 = some m.cls := findClass_of_methodNamed B.named
  have hlocks := B.notSynchronized
  subst hsz
  have hD := hD0.self (sz := s.heap.size)
  generalize hAe : va_A [(h0, .inr (0, [.int kd, .int so, .ref r0])), (r0, .inl (cy 0, 6, .inl f)), (h1, .inr (0, [.int kd1, .int so1, .ref r1])), (r1, .inl (cy 0, 6, .inl f1))] s.heap.size = A at hD hX ⊢
  have hA : ∀ q : Nat, s.heap.size ≤ q → A q := fun q h => by rw [← hAe]; exact Or.inr h
  obtain ⟨H, hH⟩ : ∃ H : Heap, H = s.heap := ⟨_, rfl⟩
  have hS : va_S A s.heap H [] := hH ▸ va_S.rf
  have hK := hX.1
  have hP : va_P D vwCl [(h0, .inr (0, [.int kd, .int so, .ref r0])), (r0, .inl (cy 0, 6, .inl f)), (h1, .inr (0, [.int kd1, .int so1, .ref r1])), (r1, .inl (cy 0, 6, .inl f1))] H := hH ▸ hP
  rw [← hH]
  have hw_X0 : ∀ w ∈ wsX00, w ∈ wsX0_copyFrom := chX0 (by decide +kernel)
  have f_19 := hts (.fieldLink RX0 19 "CubeTower$Cube" "kind" "I") (inC wa_971 (by decide +kernel))
  have f_9 := hts (.fieldLink RX0 9 "CubeTower$Cube" "sorts" "I") (inC wa_74 (by decide +kernel))
  have f_15 := hts (.fieldLink RX0 15 "CubeTower$Cube" "colours" "[I") (inC wa_75 (by decide +kernel))
  have m_26 := hts (.methodLink RX0 26 arraycopyName) (inC wa_1729 (by decide +kernel))
  have cp_n := hts (.native arraycopyName) (inC wa_143 (by decide +kernel))
  have cp_s := hts (.static arraycopyName) (inC wa_144 (by decide +kernel))
  have cp_i := hts (.initialized "java/lang/System") (inC wa_145 (by decide +kernel))
  have hl := lv_entry ([.ref h0, .ref h1]) (n := 2) (Nat.le_of_ble_eq_true rfl)
  rw [lg_entry_eq]
  generalize (lg_sl ([.ref h0, .ref h1]) ++ List.replicate (2 - (lg_sl ([.ref h0, .ref h1])).length) Slot.unset).toArray = ls at hl ⊢
  have hl : lv_has ls 2 [(0, .ref h0), (1, .ref h1)] := hl
  refine lv_aload_n hx hb dX0_copyFrom_0 rfl (lv_at hl 0 rfl) ?_
  refine lv_aload_n hx hb dX0_copyFrom_1 rfl (lv_at hl 1 rfl) ?_
  refine va_get (D := D) (ci := 0) (v := .int kd1) (C := RX0) (T := TX0) (N := 3) hx hb hts hw_X0 hown hK hP 2 rfl rfl 0 (by decide) f_19 (fun _ h9 => h9) rfl dX0_copyFrom_2 ?_
  refine va_put (D := D) (ci := 0) (v := .int kd1) (ty := .int) (C := RX0) (T := TX0) (N := 3) hx hb hts hw_X0 tyX0 tyX0_ok nmX0 hown hK hP hD hS 0 rfl rfl 0 (by decide) f_19 (fun _ h9 => h9) rfl (tyX0_ok 0 (by decide)) rfl rfl (Nat.le_of_ble_eq_true rfl) dX0_copyFrom_5 (fun H locs hP hD hS => ?_)
  have hP : va_P D vwCl [(h0, .inr (0, [.int kd1, .int so, .ref r0])), (r0, .inl (cy 0, 6, .inl f)), (h1, .inr (0, [.int kd1, .int so1, .ref r1])), (r1, .inl (cy 0, 6, .inl f1))] H := hP
  have hD : va_D A [(h0, .inr (0, [.int kd1, .int so, .ref r0])), (r0, .inl (cy 0, 6, .inl f)), (h1, .inr (0, [.int kd1, .int so1, .ref r1])), (r1, .inl (cy 0, 6, .inl f1))] := hD
  refine lv_aload_n hx hb dX0_copyFrom_8 rfl (lv_at hl 0 rfl) ?_
  refine lv_aload_n hx hb dX0_copyFrom_9 rfl (lv_at hl 1 rfl) ?_
  refine va_get (D := D) (ci := 0) (v := .int so1) (C := RX0) (T := TX0) (N := 3) hx hb hts hw_X0 hown hK hP 2 rfl rfl 1 (by decide) f_9 (fun _ h9 => h9) rfl dX0_copyFrom_10 ?_
  refine va_put (D := D) (ci := 0) (v := .int so1) (ty := .int) (C := RX0) (T := TX0) (N := 3) hx hb hts hw_X0 tyX0 tyX0_ok nmX0 hown hK hP hD hS 0 rfl rfl 1 (by decide) f_9 (fun _ h9 => h9) rfl (tyX0_ok 1 (by decide)) rfl rfl (Nat.le_of_ble_eq_true rfl) dX0_copyFrom_13 (fun H locs hP hD hS => ?_)
  have hP : va_P D vwCl [(h0, .inr (0, [.int kd1, .int so1, .ref r0])), (r0, .inl (cy 0, 6, .inl f)), (h1, .inr (0, [.int kd1, .int so1, .ref r1])), (r1, .inl (cy 0, 6, .inl f1))] H := hP
  have hD : va_D A [(h0, .inr (0, [.int kd1, .int so1, .ref r0])), (r0, .inl (cy 0, 6, .inl f)), (h1, .inr (0, [.int kd1, .int so1, .ref r1])), (r1, .inl (cy 0, 6, .inl f1))] := hD
  refine lv_aload_n hx hb dX0_copyFrom_16 rfl (lv_at hl 1 rfl) ?_
  refine va_get (D := D) (ci := 0) (v := .ref r1) (C := RX0) (T := TX0) (N := 3) hx hb hts hw_X0 hown hK hP 2 rfl rfl 2 (by decide) f_15 (fun _ h9 => h9) rfl dX0_copyFrom_17 ?_
  refine lv_iconst (v := 0) hx hb dX0_copyFrom_20 (by decide) ?_
  refine lv_aload_n hx hb dX0_copyFrom_21 rfl (lv_at hl 0 rfl) ?_
  refine va_get (D := D) (ci := 0) (v := .ref r0) (C := RX0) (T := TX0) (N := 3) hx hb hts hw_X0 hown hK hP 0 rfl rfl 2 (by decide) f_15 (fun _ h9 => h9) rfl dX0_copyFrom_22 ?_
  refine lv_iconst (v := 0) hx hb dX0_copyFrom_25 (by decide) ?_
  refine lv_bipush (v := 6) hx hb dX0_copyFrom_26 (by decide) ?_
  refine va_copyi hx hb (by rw [hml]; exact hl.1.symm) hown m_26 cp_n cp_s cp_i hK hP hD hS 3 1 0 0 rfl rfl rfl rfl rfl (by decide) (by decide) (by decide) (by decide) (by decide) (fun _ _ => rfl) (Nat.le_of_ble_eq_true rfl) (Nat.le_of_ble_eq_true rfl) dX0_copyFrom_28 (fun H locs hP hD hS => ?_)
  have hP : va_P D vwCl [(h0, .inr (0, [.int kd1, .int so1, .ref r0])), (r0, .inl (cy 0, 6, .inl (va_cpy f1 f (0 : Int32).toNatClampNeg (0 : Int32).toNatClampNeg (6 : Int32).toNatClampNeg))), (h1, .inr (0, [.int kd1, .int so1, .ref r1])), (r1, .inl (cy 0, 6, .inl f1))] H := hP
  have hD : va_D A [(h0, .inr (0, [.int kd1, .int so1, .ref r0])), (r0, .inl (cy 0, 6, .inl (va_cpy f1 f (0 : Int32).toNatClampNeg (0 : Int32).toNatClampNeg (6 : Int32).toNatClampNeg))), (h1, .inr (0, [.int kd1, .int so1, .ref r1])), (r1, .inl (cy 0, 6, .inl f1))] := hD
  have hP9 := hP.sub (ws' := [(h0, .inr (0, [.int kd1, .int so1, .ref r0])), (r0, .inl (cy 0, 6, .inl (va_cpy f1 f (0 : Int32).toNatClampNeg (0 : Int32).toNatClampNeg (6 : Int32).toNatClampNeg))), (h1, .inr (0, [.int kd1, .int so1, .ref r1])), (r1, .inl (cy 0, 6, .inl f1))]) [0, 1, 2, 3] rfl
  have hD9 := hD.sub (ws' := [(h0, .inr (0, [.int kd1, .int so1, .ref r0])), (r0, .inl (cy 0, 6, .inl (va_cpy f1 f (0 : Int32).toNatClampNeg (0 : Int32).toNatClampNeg (6 : Int32).toNatClampNeg))), (h1, .inr (0, [.int kd1, .int so1, .ref r1])), (r1, .inl (cy 0, 6, .inl f1))]) [0, 1, 2, 3] (by decide +kernel) rfl
  exact W.vret hx hb hr (fun t9 ht9 hW9 => ⟨⟨[(h0, .inr (0, [.int kd1, .int so1, .ref r0])), (r0, .inl (cy 0, 6, .inl (va_cpy f1 f (0 : Int32).toNatClampNeg (0 : Int32).toNatClampNeg (6 : Int32).toNatClampNeg))), (h1, .inr (0, [.int kd1, .int so1, .ref r1])), (r1, .inl (cy 0, 6, .inl f1))], rfl, ⟨(va_cpy f1 f (0 : Int32).toNatClampNeg (0 : Int32).toNatClampNeg (6 : Int32).toNatClampNeg), rfl, (fun j h => cpy06 h)⟩, by rw [ht9]; exact hP9, hD9⟩, hS.F ht9⟩) hS.2.2 dX0_copyFrom_31
def q_X2_copyFrom (cy : Nat → ClassId) (h0 : Nat) (ar : Nat) (c0 : Nat) (r0 : Nat) (c1 : Nat) (r1 : Nat) (c2 : Nat) (r2 : Nat) (sz : Int32) (tn : Int32) (sn : Int32) (k0 : Int32) (s0 : Int32) (k1 : Int32) (s1 : Int32) (k2 : Int32) (s2 : Int32) (f0 : Nat → Int32) (f1 : Nat → Int32) (f2 : Nat → Int32) (h1 : Nat) (br : Nat) (d0 : Nat) (q0 : Nat) (d1 : Nat) (q1 : Nat) (d2 : Nat) (q2 : Nat) (sz1 : Int32) (tn1 : Int32) (sn1 : Int32) (m0 : Int32) (o0 : Int32) (m1 : Int32) (o1 : Int32) (m2 : Int32) (o2 : Int32) (g0 : Nat → Int32) (g1 : Nat → Int32) (g2 : Nat → Int32) : va_W → Prop := fun (u : va_W) => ∃ (p0 : Nat → Int32), ∃ (p1 : Nat → Int32), ∃ (p2 : Nat → Int32), u = [(h0, .inr (2, [.int sz1, .int tn1, .int sn1, .ref ar])), (ar, .inl (cy 2, 3, .inr (.inr (.inr (.inr (va_up (va_up (va_up (fun _ => none) 0 (some c0)) 1 (some c1)) 2 (some c2))))))), (c0, .inr (0, [.int m0, .int o0, .ref r0])), (r0, .inl (cy 0, 6, .inl p0)), (c1, .inr (0, [.int m1, .int o1, .ref r1])), (r1, .inl (cy 0, 6, .inl p1)), (c2, .inr (0, [.int m2, .int o2, .ref r2])), (r2, .inl (cy 0, 6, .inl p2)), (h1, .inr (2, [.int sz1, .int tn1, .int sn1, .ref br])), (br, .inl (cy 2, 3, .inr (.inr (.inr (.inr (va_up (va_up (va_up (fun _ => none) 0 (some d0)) 1 (some d1)) 2 (some d2))))))), (d0, .inr (0, [.int m0, .int o0, .ref q0])), (q0, .inl (cy 0, 6, .inl g0)), (d1, .inr (0, [.int m1, .int o1, .ref q1])), (q1, .inl (cy 0, 6, .inl g1)), (d2, .inr (0, [.int m2, .int o2, .ref q2])), (q2, .inl (cy 0, 6, .inl g2))] ∧ (∀ j, j < 6 → p0 j = g0 j) ∧ (∀ j, j < 6 → p1 j = g1 j) ∧ (∀ j, j < 6 → p2 j = g2 j)
set_option maxHeartbeats 4000000 in
set_option maxRecDepth 100000 in
theorem c_X2_copyFrom (l : Launch) (D : va_G) (cy : Nat → ClassId) (zz : Nat) (h0 : Nat) (ar : Nat) (c0 : Nat) (r0 : Nat) (c1 : Nat) (r1 : Nat) (c2 : Nat) (r2 : Nat) (sz : Int32) (tn : Int32) (sn : Int32) (k0 : Int32) (s0 : Int32) (k1 : Int32) (s1 : Int32) (k2 : Int32) (s2 : Int32) (f0 : Nat → Int32) (f1 : Nat → Int32) (f2 : Nat → Int32) (h1 : Nat) (br : Nat) (d0 : Nat) (q0 : Nat) (d1 : Nat) (q1 : Nat) (d2 : Nat) (q2 : Nat) (sz1 : Int32) (tn1 : Int32) (sn1 : Int32) (m0 : Int32) (o0 : Int32) (m1 : Int32) (o1 : Int32) (m2 : Int32) (o2 : Int32) (g0 : Nat → Int32) (g1 : Nat → Int32) (g2 : Nat → Int32) : Met l yX2_copyFrom wsX2_copyFrom ({ frames := 2, cells := 0, slots := 0, locals := 61 } : Room) (va_Pc [.ref h0, .ref h1] (cpre D cy [(h0, .inr (2, [.int sz, .int tn, .int sn, .ref ar])), (ar, .inl (cy 2, 3, .inr (.inr (.inr (.inr (va_up (va_up (va_up (fun _ => none) 0 (some c0)) 1 (some c1)) 2 (some c2))))))), (c0, .inr (0, [.int k0, .int s0, .ref r0])), (r0, .inl (cy 0, 6, .inl f0)), (c1, .inr (0, [.int k1, .int s1, .ref r1])), (r1, .inl (cy 0, 6, .inl f1)), (c2, .inr (0, [.int k2, .int s2, .ref r2])), (r2, .inl (cy 0, 6, .inl f2)), (h1, .inr (2, [.int sz1, .int tn1, .int sn1, .ref br])), (br, .inl (cy 2, 3, .inr (.inr (.inr (.inr (va_up (va_up (va_up (fun _ => none) 0 (some d0)) 1 (some d1)) 2 (some d2))))))), (d0, .inr (0, [.int m0, .int o0, .ref q0])), (q0, .inl (cy 0, 6, .inl g0)), (d1, .inr (0, [.int m1, .int o1, .ref q1])), (q1, .inl (cy 0, 6, .inl g1)), (d2, .inr (0, [.int m2, .int o2, .ref q2])), (q2, .inl (cy 0, 6, .inl g2))] zz)) (va_Qv (q_X2_copyFrom cy h0 ar c0 r0 c1 r1 c2 r2 sz tn sn k0 s0 k1 s1 k2 s2 f0 f1 f2 h1 br d0 q0 d1 q1 d2 q2 sz1 tn1 sn1 m0 o0 m1 o1 m2 o2 g0 g1 g2) (cpost D (va_A [(h0, .inr (2, [.int sz, .int tn, .int sn, .ref ar])), (ar, .inl (cy 2, 3, .inr (.inr (.inr (.inr (va_up (va_up (va_up (fun _ => none) 0 (some c0)) 1 (some c1)) 2 (some c2))))))), (c0, .inr (0, [.int k0, .int s0, .ref r0])), (r0, .inl (cy 0, 6, .inl f0)), (c1, .inr (0, [.int k1, .int s1, .ref r1])), (r1, .inl (cy 0, 6, .inl f1)), (c2, .inr (0, [.int k2, .int s2, .ref r2])), (r2, .inl (cy 0, 6, .inl f2)), (h1, .inr (2, [.int sz1, .int tn1, .int sn1, .ref br])), (br, .inl (cy 2, 3, .inr (.inr (.inr (.inr (va_up (va_up (va_up (fun _ => none) 0 (some d0)) 1 (some d1)) 2 (some d2))))))), (d0, .inr (0, [.int m0, .int o0, .ref q0])), (q0, .inl (cy 0, 6, .inl g0)), (d1, .inr (0, [.int m1, .int o1, .ref q1])), (q1, .inl (cy 0, 6, .inl g1)), (d2, .inr (0, [.int m2, .int o2, .ref q2])), (q2, .inl (cy 0, 6, .inl g2))] zz)) (va_A [(h0, .inr (2, [.int sz, .int tn, .int sn, .ref ar])), (ar, .inl (cy 2, 3, .inr (.inr (.inr (.inr (va_up (va_up (va_up (fun _ => none) 0 (some c0)) 1 (some c1)) 2 (some c2))))))), (c0, .inr (0, [.int k0, .int s0, .ref r0])), (r0, .inl (cy 0, 6, .inl f0)), (c1, .inr (0, [.int k1, .int s1, .ref r1])), (r1, .inl (cy 0, 6, .inl f1)), (c2, .inr (0, [.int k2, .int s2, .ref r2])), (r2, .inl (cy 0, 6, .inl f2)), (h1, .inr (2, [.int sz1, .int tn1, .int sn1, .ref br])), (br, .inl (cy 2, 3, .inr (.inr (.inr (.inr (va_up (va_up (va_up (fun _ => none) 0 (some d0)) 1 (some d1)) 2 (some d2))))))), (d0, .inr (0, [.int m0, .int o0, .ref q0])), (q0, .inl (cy 0, 6, .inl g0)), (d1, .inr (0, [.int m1, .int o1, .ref q1])), (q1, .inl (cy 0, 6, .inl g1)), (d2, .inr (0, [.int m2, .int o2, .ref q2])), (q2, .inl (cy 0, 6, .inl g2))] zz)) 0 0 (va_A [(h0, .inr (2, [.int sz, .int tn, .int sn, .ref ar])), (ar, .inl (cy 2, 3, .inr (.inr (.inr (.inr (va_up (va_up (va_up (fun _ => none) 0 (some c0)) 1 (some c1)) 2 (some c2))))))), (c0, .inr (0, [.int k0, .int s0, .ref r0])), (r0, .inl (cy 0, 6, .inl f0)), (c1, .inr (0, [.int k1, .int s1, .ref r1])), (r1, .inl (cy 0, 6, .inl f1)), (c2, .inr (0, [.int k2, .int s2, .ref r2])), (r2, .inl (cy 0, 6, .inl f2)), (h1, .inr (2, [.int sz1, .int tn1, .int sn1, .ref br])), (br, .inl (cy 2, 3, .inr (.inr (.inr (.inr (va_up (va_up (va_up (fun _ => none) 0 (some d0)) 1 (some d1)) 2 (some d2))))))), (d0, .inr (0, [.int m0, .int o0, .ref q0])), (q0, .inl (cy 0, 6, .inl g0)), (d1, .inr (0, [.int m1, .int o1, .ref q1])), (q1, .inl (cy 0, 6, .inl g1)), (d2, .inr (0, [.int m2, .int o2, .ref q2])), (q2, .inl (cy 0, 6, .inl g2))] zz) := by
  refine Met.ofW (cc := cX2_copyFrom) (maxL := 3) (ret := none) (by decide) rfl ?_
  intro p e s m args below meth c s₁ B hml hv
  obtain ⟨rfl, hsz, hP, hD0, hX⟩ := hv
  have hx := B.exec
  have hb := B.bytes
  have hr := B.returns
  have hts := atoms_spec (ws := wsX2_copyFrom) B.pre
  have hown : s.vm.findClass RX2 = some m.cls := findClass_of_methodNamed B.named
  have hlocks := B.notSynchronized
  subst hsz
  have hD := hD0.self (sz := s.heap.size)
  generalize hAe : va_A [(h0, .inr (2, [.int sz, .int tn, .int sn, .ref ar])), (ar, .inl (cy 2, 3, .inr (.inr (.inr (.inr (va_up (va_up (va_up (fun _ => none) 0 (some c0)) 1 (some c1)) 2 (some c2))))))), (c0, .inr (0, [.int k0, .int s0, .ref r0])), (r0, .inl (cy 0, 6, .inl f0)), (c1, .inr (0, [.int k1, .int s1, .ref r1])), (r1, .inl (cy 0, 6, .inl f1)), (c2, .inr (0, [.int k2, .int s2, .ref r2])), (r2, .inl (cy 0, 6, .inl f2)), (h1, .inr (2, [.int sz1, .int tn1, .int sn1, .ref br])), (br, .inl (cy 2, 3, .inr (.inr (.inr (.inr (va_up (va_up (va_up (fun _ => none) 0 (some d0)) 1 (some d1)) 2 (some d2))))))), (d0, .inr (0, [.int m0, .int o0, .ref q0])), (q0, .inl (cy 0, 6, .inl g0)), (d1, .inr (0, [.int m1, .int o1, .ref q1])), (q1, .inl (cy 0, 6, .inl g1)), (d2, .inr (0, [.int m2, .int o2, .ref q2])), (q2, .inl (cy 0, 6, .inl g2))] s.heap.size = A at hD hX ⊢
  have hA : ∀ q : Nat, s.heap.size ≤ q → A q := fun q h => by rw [← hAe]; exact Or.inr h
  obtain ⟨H, hH⟩ : ∃ H : Heap, H = s.heap := ⟨_, rfl⟩
  have hS : va_S A s.heap H [] := hH ▸ va_S.rf
  have hK := hX.1
  have hP : va_P D vwCl [(h0, .inr (2, [.int sz, .int tn, .int sn, .ref ar])), (ar, .inl (cy 2, 3, .inr (.inr (.inr (.inr (va_up (va_up (va_up (fun _ => none) 0 (some c0)) 1 (some c1)) 2 (some c2))))))), (c0, .inr (0, [.int k0, .int s0, .ref r0])), (r0, .inl (cy 0, 6, .inl f0)), (c1, .inr (0, [.int k1, .int s1, .ref r1])), (r1, .inl (cy 0, 6, .inl f1)), (c2, .inr (0, [.int k2, .int s2, .ref r2])), (r2, .inl (cy 0, 6, .inl f2)), (h1, .inr (2, [.int sz1, .int tn1, .int sn1, .ref br])), (br, .inl (cy 2, 3, .inr (.inr (.inr (.inr (va_up (va_up (va_up (fun _ => none) 0 (some d0)) 1 (some d1)) 2 (some d2))))))), (d0, .inr (0, [.int m0, .int o0, .ref q0])), (q0, .inl (cy 0, 6, .inl g0)), (d1, .inr (0, [.int m1, .int o1, .ref q1])), (q1, .inl (cy 0, 6, .inl g1)), (d2, .inr (0, [.int m2, .int o2, .ref q2])), (q2, .inl (cy 0, 6, .inl g2))] H := hH ▸ hP
  rw [← hH]
  have hw_X2 : ∀ w ∈ wsX20, w ∈ wsX2_copyFrom := chX2 (by decide +kernel)
  have f_18 := hts (.fieldLink RX2 18 "CubeTower$Tower" "size" "I") (inC wa_717 (by decide +kernel))
  have f_22 := hts (.fieldLink RX2 22 "CubeTower$Tower" "turns" "I") (inC wa_1684 (by decide +kernel))
  have f_25 := hts (.fieldLink RX2 25 "CubeTower$Tower" "seen" "I") (inC wa_656 (by decide +kernel))
  have f_12 := hts (.fieldLink RX2 12 "CubeTower$Tower" "cubes" "[LCubeTower$Cube;") (inC wa_70 (by decide +kernel))
  have hl := lv_entry ([.ref h0, .ref h1]) (n := 3) (Nat.le_of_ble_eq_true rfl)
  rw [lg_entry_eq]
  generalize (lg_sl ([.ref h0, .ref h1]) ++ List.replicate (3 - (lg_sl ([.ref h0, .ref h1])).length) Slot.unset).toArray = ls at hl ⊢
  have hl : lv_has ls 3 [(0, .ref h0), (1, .ref h1)] := hl
  refine lv_aload_n hx hb dX2_copyFrom_0 rfl (lv_at hl 0 rfl) ?_
  refine lv_aload_n hx hb dX2_copyFrom_1 rfl (lv_at hl 1 rfl) ?_
  refine va_get (D := D) (ci := 2) (v := .int sz1) (C := RX2) (T := TX2) (N := 4) hx hb hts hw_X2 hown hK hP 8 rfl rfl 0 (by decide) f_18 (fun _ h9 => h9) rfl dX2_copyFrom_2 ?_
  refine va_put (D := D) (ci := 2) (v := .int sz1) (ty := .int) (C := RX2) (T := TX2) (N := 4) hx hb hts hw_X2 tyX2 tyX2_ok nmX2 hown hK hP hD hS 0 rfl rfl 0 (by decide) f_18 (fun _ h9 => h9) rfl (tyX2_ok 0 (by decide)) rfl rfl (Nat.le_of_ble_eq_true rfl) dX2_copyFrom_5 (fun H locs hP hD hS => ?_)
  have hP : va_P D vwCl [(h0, .inr (2, [.int sz1, .int tn, .int sn, .ref ar])), (ar, .inl (cy 2, 3, .inr (.inr (.inr (.inr (va_up (va_up (va_up (fun _ => none) 0 (some c0)) 1 (some c1)) 2 (some c2))))))), (c0, .inr (0, [.int k0, .int s0, .ref r0])), (r0, .inl (cy 0, 6, .inl f0)), (c1, .inr (0, [.int k1, .int s1, .ref r1])), (r1, .inl (cy 0, 6, .inl f1)), (c2, .inr (0, [.int k2, .int s2, .ref r2])), (r2, .inl (cy 0, 6, .inl f2)), (h1, .inr (2, [.int sz1, .int tn1, .int sn1, .ref br])), (br, .inl (cy 2, 3, .inr (.inr (.inr (.inr (va_up (va_up (va_up (fun _ => none) 0 (some d0)) 1 (some d1)) 2 (some d2))))))), (d0, .inr (0, [.int m0, .int o0, .ref q0])), (q0, .inl (cy 0, 6, .inl g0)), (d1, .inr (0, [.int m1, .int o1, .ref q1])), (q1, .inl (cy 0, 6, .inl g1)), (d2, .inr (0, [.int m2, .int o2, .ref q2])), (q2, .inl (cy 0, 6, .inl g2))] H := hP
  have hD : va_D A [(h0, .inr (2, [.int sz1, .int tn, .int sn, .ref ar])), (ar, .inl (cy 2, 3, .inr (.inr (.inr (.inr (va_up (va_up (va_up (fun _ => none) 0 (some c0)) 1 (some c1)) 2 (some c2))))))), (c0, .inr (0, [.int k0, .int s0, .ref r0])), (r0, .inl (cy 0, 6, .inl f0)), (c1, .inr (0, [.int k1, .int s1, .ref r1])), (r1, .inl (cy 0, 6, .inl f1)), (c2, .inr (0, [.int k2, .int s2, .ref r2])), (r2, .inl (cy 0, 6, .inl f2)), (h1, .inr (2, [.int sz1, .int tn1, .int sn1, .ref br])), (br, .inl (cy 2, 3, .inr (.inr (.inr (.inr (va_up (va_up (va_up (fun _ => none) 0 (some d0)) 1 (some d1)) 2 (some d2))))))), (d0, .inr (0, [.int m0, .int o0, .ref q0])), (q0, .inl (cy 0, 6, .inl g0)), (d1, .inr (0, [.int m1, .int o1, .ref q1])), (q1, .inl (cy 0, 6, .inl g1)), (d2, .inr (0, [.int m2, .int o2, .ref q2])), (q2, .inl (cy 0, 6, .inl g2))] := hD
  refine lv_aload_n hx hb dX2_copyFrom_8 rfl (lv_at hl 0 rfl) ?_
  refine lv_aload_n hx hb dX2_copyFrom_9 rfl (lv_at hl 1 rfl) ?_
  refine va_get (D := D) (ci := 2) (v := .int tn1) (C := RX2) (T := TX2) (N := 4) hx hb hts hw_X2 hown hK hP 8 rfl rfl 1 (by decide) f_22 (fun _ h9 => h9) rfl dX2_copyFrom_10 ?_
  refine va_put (D := D) (ci := 2) (v := .int tn1) (ty := .int) (C := RX2) (T := TX2) (N := 4) hx hb hts hw_X2 tyX2 tyX2_ok nmX2 hown hK hP hD hS 0 rfl rfl 1 (by decide) f_22 (fun _ h9 => h9) rfl (tyX2_ok 1 (by decide)) rfl rfl (Nat.le_of_ble_eq_true rfl) dX2_copyFrom_13 (fun H locs hP hD hS => ?_)
  have hP : va_P D vwCl [(h0, .inr (2, [.int sz1, .int tn1, .int sn, .ref ar])), (ar, .inl (cy 2, 3, .inr (.inr (.inr (.inr (va_up (va_up (va_up (fun _ => none) 0 (some c0)) 1 (some c1)) 2 (some c2))))))), (c0, .inr (0, [.int k0, .int s0, .ref r0])), (r0, .inl (cy 0, 6, .inl f0)), (c1, .inr (0, [.int k1, .int s1, .ref r1])), (r1, .inl (cy 0, 6, .inl f1)), (c2, .inr (0, [.int k2, .int s2, .ref r2])), (r2, .inl (cy 0, 6, .inl f2)), (h1, .inr (2, [.int sz1, .int tn1, .int sn1, .ref br])), (br, .inl (cy 2, 3, .inr (.inr (.inr (.inr (va_up (va_up (va_up (fun _ => none) 0 (some d0)) 1 (some d1)) 2 (some d2))))))), (d0, .inr (0, [.int m0, .int o0, .ref q0])), (q0, .inl (cy 0, 6, .inl g0)), (d1, .inr (0, [.int m1, .int o1, .ref q1])), (q1, .inl (cy 0, 6, .inl g1)), (d2, .inr (0, [.int m2, .int o2, .ref q2])), (q2, .inl (cy 0, 6, .inl g2))] H := hP
  have hD : va_D A [(h0, .inr (2, [.int sz1, .int tn1, .int sn, .ref ar])), (ar, .inl (cy 2, 3, .inr (.inr (.inr (.inr (va_up (va_up (va_up (fun _ => none) 0 (some c0)) 1 (some c1)) 2 (some c2))))))), (c0, .inr (0, [.int k0, .int s0, .ref r0])), (r0, .inl (cy 0, 6, .inl f0)), (c1, .inr (0, [.int k1, .int s1, .ref r1])), (r1, .inl (cy 0, 6, .inl f1)), (c2, .inr (0, [.int k2, .int s2, .ref r2])), (r2, .inl (cy 0, 6, .inl f2)), (h1, .inr (2, [.int sz1, .int tn1, .int sn1, .ref br])), (br, .inl (cy 2, 3, .inr (.inr (.inr (.inr (va_up (va_up (va_up (fun _ => none) 0 (some d0)) 1 (some d1)) 2 (some d2))))))), (d0, .inr (0, [.int m0, .int o0, .ref q0])), (q0, .inl (cy 0, 6, .inl g0)), (d1, .inr (0, [.int m1, .int o1, .ref q1])), (q1, .inl (cy 0, 6, .inl g1)), (d2, .inr (0, [.int m2, .int o2, .ref q2])), (q2, .inl (cy 0, 6, .inl g2))] := hD
  refine lv_aload_n hx hb dX2_copyFrom_16 rfl (lv_at hl 0 rfl) ?_
  refine lv_aload_n hx hb dX2_copyFrom_17 rfl (lv_at hl 1 rfl) ?_
  refine va_get (D := D) (ci := 2) (v := .int sn1) (C := RX2) (T := TX2) (N := 4) hx hb hts hw_X2 hown hK hP 8 rfl rfl 2 (by decide) f_25 (fun _ h9 => h9) rfl dX2_copyFrom_18 ?_
  refine va_put (D := D) (ci := 2) (v := .int sn1) (ty := .int) (C := RX2) (T := TX2) (N := 4) hx hb hts hw_X2 tyX2 tyX2_ok nmX2 hown hK hP hD hS 0 rfl rfl 2 (by decide) f_25 (fun _ h9 => h9) rfl (tyX2_ok 2 (by decide)) rfl rfl (Nat.le_of_ble_eq_true rfl) dX2_copyFrom_21 (fun H locs hP hD hS => ?_)
  have hP : va_P D vwCl [(h0, .inr (2, [.int sz1, .int tn1, .int sn1, .ref ar])), (ar, .inl (cy 2, 3, .inr (.inr (.inr (.inr (va_up (va_up (va_up (fun _ => none) 0 (some c0)) 1 (some c1)) 2 (some c2))))))), (c0, .inr (0, [.int k0, .int s0, .ref r0])), (r0, .inl (cy 0, 6, .inl f0)), (c1, .inr (0, [.int k1, .int s1, .ref r1])), (r1, .inl (cy 0, 6, .inl f1)), (c2, .inr (0, [.int k2, .int s2, .ref r2])), (r2, .inl (cy 0, 6, .inl f2)), (h1, .inr (2, [.int sz1, .int tn1, .int sn1, .ref br])), (br, .inl (cy 2, 3, .inr (.inr (.inr (.inr (va_up (va_up (va_up (fun _ => none) 0 (some d0)) 1 (some d1)) 2 (some d2))))))), (d0, .inr (0, [.int m0, .int o0, .ref q0])), (q0, .inl (cy 0, 6, .inl g0)), (d1, .inr (0, [.int m1, .int o1, .ref q1])), (q1, .inl (cy 0, 6, .inl g1)), (d2, .inr (0, [.int m2, .int o2, .ref q2])), (q2, .inl (cy 0, 6, .inl g2))] H := hP
  have hD : va_D A [(h0, .inr (2, [.int sz1, .int tn1, .int sn1, .ref ar])), (ar, .inl (cy 2, 3, .inr (.inr (.inr (.inr (va_up (va_up (va_up (fun _ => none) 0 (some c0)) 1 (some c1)) 2 (some c2))))))), (c0, .inr (0, [.int k0, .int s0, .ref r0])), (r0, .inl (cy 0, 6, .inl f0)), (c1, .inr (0, [.int k1, .int s1, .ref r1])), (r1, .inl (cy 0, 6, .inl f1)), (c2, .inr (0, [.int k2, .int s2, .ref r2])), (r2, .inl (cy 0, 6, .inl f2)), (h1, .inr (2, [.int sz1, .int tn1, .int sn1, .ref br])), (br, .inl (cy 2, 3, .inr (.inr (.inr (.inr (va_up (va_up (va_up (fun _ => none) 0 (some d0)) 1 (some d1)) 2 (some d2))))))), (d0, .inr (0, [.int m0, .int o0, .ref q0])), (q0, .inl (cy 0, 6, .inl g0)), (d1, .inr (0, [.int m1, .int o1, .ref q1])), (q1, .inl (cy 0, 6, .inl g1)), (d2, .inr (0, [.int m2, .int o2, .ref q2])), (q2, .inl (cy 0, 6, .inl g2))] := hD
  refine lv_iconst (v := 0) hx hb dX2_copyFrom_24 (by decide) ?_
  refine lv_istore_n (lv' := [(2, .int 0), (0, .ref h0), (1, .ref h1)]) hx hb dX2_copyFrom_25 rfl hl (by decide) rfl (fun ls hl => ?_)
  refine lv_iload_n hx hb dX2_copyFrom_26 rfl (lv_at hl 0 rfl) ?_
  refine lv_iconst (v := 3) hx hb dX2_copyFrom_27 (by decide) ?_
  refine lv_icmp_ge (tgt := 52) hx hb dX2_copyFrom_28 (by decide) (fun c_28 => ?_) (fun c_28 => ?_)
  · exact absurd c_28 (by decide)
  · refine lv_aload_n hx hb dX2_copyFrom_31 rfl (lv_at hl 1 rfl) ?_
    refine va_get (D := D) (ci := 2) (v := .ref ar) (C := RX2) (T := TX2) (N := 4) hx hb hts hw_X2 hown hK hP 0 rfl rfl 3 (by decide) f_12 (fun _ h9 => h9) rfl dX2_copyFrom_32 ?_
    refine lv_iload_n hx hb dX2_copyFrom_35 rfl (lv_at hl 0 rfl) ?_
    refine va_aldq hx hb hK hP 1 2 rfl rfl (vi_c (by decide +kernel)) dX2_copyFrom_36 ?_
    refine kq (a := c0) (rfl) ?_
    refine lv_aload_n hx hb dX2_copyFrom_37 rfl (lv_at hl 2 rfl) ?_
    refine va_get (D := D) (ci := 2) (v := .ref br) (C := RX2) (T := TX2) (N := 4) hx hb hts hw_X2 hown hK hP 8 rfl rfl 3 (by decide) f_12 (fun _ h9 => h9) rfl dX2_copyFrom_38 ?_
    refine lv_iload_n hx hb dX2_copyFrom_41 rfl (lv_at hl 0 rfl) ?_
    refine va_aldq hx hb hK hP 9 2 rfl rfl (vi_c (by decide +kernel)) dX2_copyFrom_42 ?_
    refine kq (a := d0) (rfl) ?_
    refine kc_v (wc := [(c0, .inr (0, [.int k0, .int s0, .ref r0])), (r0, .inl (cy 0, 6, .inl f0)), (d0, .inr (0, [.int m0, .int o0, .ref q0])), (q0, .inl (cy 0, 6, .inl g0))]) (wr := [(h0, .inr (2, [.int sz1, .int tn1, .int sn1, .ref ar])), (ar, .inl (cy 2, 3, .inr (.inr (.inr (.inr (va_up (va_up (va_up (fun _ => none) 0 (some c0)) 1 (some c1)) 2 (some c2))))))), (c1, .inr (0, [.int k1, .int s1, .ref r1])), (r1, .inl (cy 0, 6, .inl f1)), (c2, .inr (0, [.int k2, .int s2, .ref r2])), (r2, .inl (cy 0, 6, .inl f2)), (h1, .inr (2, [.int sz1, .int tn1, .int sn1, .ref br])), (br, .inl (cy 2, 3, .inr (.inr (.inr (.inr (va_up (va_up (va_up (fun _ => none) 0 (some d0)) 1 (some d1)) 2 (some d2))))))), (d1, .inr (0, [.int m1, .int o1, .ref q1])), (q1, .inl (cy 0, 6, .inl g1)), (d2, .inr (0, [.int m2, .int o2, .ref q2])), (q2, .inl (cy 0, 6, .inl g2))]) (va_runV (As := [.ref d0]) (rest := []) ⟨hx, hb, hml, hown, hts⟩ (c_X0_copyFrom l D cy H.size c0 k0 s0 r0 f0 d0 m0 o0 q0 g0 ) (cwV 1 hts gX2_copyFrom_X0_copyFrom rfl rfl rfl hdc_X0_copyFrom ⟨Nat.le_of_ble_eq_true rfl, Nat.le_of_ble_eq_true rfl⟩) (cpre_V (wc := [(c0, .inr (0, [.int k0, .int s0, .ref r0])), (r0, .inl (cy 0, 6, .inl f0)), (d0, .inr (0, [.int m0, .int o0, .ref q0])), (q0, .inl (cy 0, 6, .inl g0))]) 2 0 rfl rfl hX hP hD hS hA [2, 3, 10, 11] (by decide +kernel) rfl) rfl rfl hl.1 rfl (lv_room (Nat.le_of_ble_eq_true rfl)) dX2_copyFrom_43 ⟨Nat.le_of_ble_eq_true rfl, Nat.le_of_ble_eq_true rfl⟩) hP hD hS hA [2, 3, 10, 11] [0, 1, 4, 5, 6, 7, 8, 9, 12, 13, 14, 15] rfl rfl (by decide +kernel) (by decide +kernel) (fun u2 H locs hw hP hD hS => ?_)
    obtain ⟨p0_, hu, hp0⟩ := hw
    subst hu
    have hP : va_P D vwCl [(h0, .inr (2, [.int sz1, .int tn1, .int sn1, .ref ar])), (ar, .inl (cy 2, 3, .inr (.inr (.inr (.inr (va_up (va_up (va_up (fun _ => none) 0 (some c0)) 1 (some c1)) 2 (some c2))))))), (c1, .inr (0, [.int k1, .int s1, .ref r1])), (r1, .inl (cy 0, 6, .inl f1)), (c2, .inr (0, [.int k2, .int s2, .ref r2])), (r2, .inl (cy 0, 6, .inl f2)), (h1, .inr (2, [.int sz1, .int tn1, .int sn1, .ref br])), (br, .inl (cy 2, 3, .inr (.inr (.inr (.inr (va_up (va_up (va_up (fun _ => none) 0 (some d0)) 1 (some d1)) 2 (some d2))))))), (d1, .inr (0, [.int m1, .int o1, .ref q1])), (q1, .inl (cy 0, 6, .inl g1)), (d2, .inr (0, [.int m2, .int o2, .ref q2])), (q2, .inl (cy 0, 6, .inl g2)), (c0, .inr (0, [.int m0, .int o0, .ref r0])), (r0, .inl (cy 0, 6, .inl p0_)), (d0, .inr (0, [.int m0, .int o0, .ref q0])), (q0, .inl (cy 0, 6, .inl g0))] H := hP
    have hD : va_D A [(h0, .inr (2, [.int sz1, .int tn1, .int sn1, .ref ar])), (ar, .inl (cy 2, 3, .inr (.inr (.inr (.inr (va_up (va_up (va_up (fun _ => none) 0 (some c0)) 1 (some c1)) 2 (some c2))))))), (c1, .inr (0, [.int k1, .int s1, .ref r1])), (r1, .inl (cy 0, 6, .inl f1)), (c2, .inr (0, [.int k2, .int s2, .ref r2])), (r2, .inl (cy 0, 6, .inl f2)), (h1, .inr (2, [.int sz1, .int tn1, .int sn1, .ref br])), (br, .inl (cy 2, 3, .inr (.inr (.inr (.inr (va_up (va_up (va_up (fun _ => none) 0 (some d0)) 1 (some d1)) 2 (some d2))))))), (d1, .inr (0, [.int m1, .int o1, .ref q1])), (q1, .inl (cy 0, 6, .inl g1)), (d2, .inr (0, [.int m2, .int o2, .ref q2])), (q2, .inl (cy 0, 6, .inl g2)), (c0, .inr (0, [.int m0, .int o0, .ref r0])), (r0, .inl (cy 0, 6, .inl p0_)), (d0, .inr (0, [.int m0, .int o0, .ref q0])), (q0, .inl (cy 0, 6, .inl g0))] := hD
    refine lv_iinc (v := 1) (lv' := [(2, .int 1), (0, .ref h0), (1, .ref h1)]) hx hb dX2_copyFrom_46 hl (k := 0) rfl (by decide) (by decide) rfl (fun ls hl => ?_)
    refine lv_goto (tgt := 26) hx hb dX2_copyFrom_49 (by decide) ?_
    refine lv_iload_n hx hb dX2_copyFrom_26 rfl (lv_at hl 0 rfl) ?_
    refine lv_iconst (v := 3) hx hb dX2_copyFrom_27 (by decide) ?_
    refine lv_icmp_ge (tgt := 52) hx hb dX2_copyFrom_28 (by decide) (fun c_28 => ?_) (fun c_28 => ?_)
    · exact absurd c_28 (by decide)
    · refine lv_aload_n hx hb dX2_copyFrom_31 rfl (lv_at hl 1 rfl) ?_
      refine va_get (D := D) (ci := 2) (v := .ref ar) (C := RX2) (T := TX2) (N := 4) hx hb hts hw_X2 hown hK hP 0 rfl rfl 3 (by decide) f_12 (fun _ h9 => h9) rfl dX2_copyFrom_32 ?_
      refine lv_iload_n hx hb dX2_copyFrom_35 rfl (lv_at hl 0 rfl) ?_
      refine va_aldq hx hb hK hP 1 2 rfl rfl (vi_c (by decide +kernel)) dX2_copyFrom_36 ?_
      refine kq (a := c1) (rfl) ?_
      refine lv_aload_n hx hb dX2_copyFrom_37 rfl (lv_at hl 2 rfl) ?_
      refine va_get (D := D) (ci := 2) (v := .ref br) (C := RX2) (T := TX2) (N := 4) hx hb hts hw_X2 hown hK hP 6 rfl rfl 3 (by decide) f_12 (fun _ h9 => h9) rfl dX2_copyFrom_38 ?_
      refine lv_iload_n hx hb dX2_copyFrom_41 rfl (lv_at hl 0 rfl) ?_
      refine va_aldq hx hb hK hP 7 2 rfl rfl (vi_c (by decide +kernel)) dX2_copyFrom_42 ?_
      refine kq (a := d1) (rfl) ?_
      refine kc_v (wc := [(c1, .inr (0, [.int k1, .int s1, .ref r1])), (r1, .inl (cy 0, 6, .inl f1)), (d1, .inr (0, [.int m1, .int o1, .ref q1])), (q1, .inl (cy 0, 6, .inl g1))]) (wr := [(h0, .inr (2, [.int sz1, .int tn1, .int sn1, .ref ar])), (ar, .inl (cy 2, 3, .inr (.inr (.inr (.inr (va_up (va_up (va_up (fun _ => none) 0 (some c0)) 1 (some c1)) 2 (some c2))))))), (c2, .inr (0, [.int k2, .int s2, .ref r2])), (r2, .inl (cy 0, 6, .inl f2)), (h1, .inr (2, [.int sz1, .int tn1, .int sn1, .ref br])), (br, .inl (cy 2, 3, .inr (.inr (.inr (.inr (va_up (va_up (va_up (fun _ => none) 0 (some d0)) 1 (some d1)) 2 (some d2))))))), (d2, .inr (0, [.int m2, .int o2, .ref q2])), (q2, .inl (cy 0, 6, .inl g2)), (c0, .inr (0, [.int m0, .int o0, .ref r0])), (r0, .inl (cy 0, 6, .inl p0_)), (d0, .inr (0, [.int m0, .int o0, .ref q0])), (q0, .inl (cy 0, 6, .inl g0))]) (va_runV (As := [.ref d1]) (rest := []) ⟨hx, hb, hml, hown, hts⟩ (c_X0_copyFrom l D cy H.size c1 k1 s1 r1 f1 d1 m1 o1 q1 g1 ) (cwV 1 hts gX2_copyFrom_X0_copyFrom rfl rfl rfl hdc_X0_copyFrom ⟨Nat.le_of_ble_eq_true rfl, Nat.le_of_ble_eq_true rfl⟩) (cpre_V (wc := [(c1, .inr (0, [.int k1, .int s1, .ref r1])), (r1, .inl (cy 0, 6, .inl f1)), (d1, .inr (0, [.int m1, .int o1, .ref q1])), (q1, .inl (cy 0, 6, .inl g1))]) 2 0 rfl rfl hX hP hD hS hA [2, 3, 8, 9] (by decide +kernel) rfl) rfl rfl hl.1 rfl (lv_room (Nat.le_of_ble_eq_true rfl)) dX2_copyFrom_43 ⟨Nat.le_of_ble_eq_true rfl, Nat.le_of_ble_eq_true rfl⟩) hP hD hS hA [2, 3, 8, 9] [0, 1, 4, 5, 6, 7, 10, 11, 12, 13, 14, 15] rfl rfl (by decide +kernel) (by decide +kernel) (fun u4 H locs hw hP hD hS => ?_)
      obtain ⟨p1_, hu, hp1⟩ := hw
      subst hu
      have hP : va_P D vwCl [(h0, .inr (2, [.int sz1, .int tn1, .int sn1, .ref ar])), (ar, .inl (cy 2, 3, .inr (.inr (.inr (.inr (va_up (va_up (va_up (fun _ => none) 0 (some c0)) 1 (some c1)) 2 (some c2))))))), (c2, .inr (0, [.int k2, .int s2, .ref r2])), (r2, .inl (cy 0, 6, .inl f2)), (h1, .inr (2, [.int sz1, .int tn1, .int sn1, .ref br])), (br, .inl (cy 2, 3, .inr (.inr (.inr (.inr (va_up (va_up (va_up (fun _ => none) 0 (some d0)) 1 (some d1)) 2 (some d2))))))), (d2, .inr (0, [.int m2, .int o2, .ref q2])), (q2, .inl (cy 0, 6, .inl g2)), (c0, .inr (0, [.int m0, .int o0, .ref r0])), (r0, .inl (cy 0, 6, .inl p0_)), (d0, .inr (0, [.int m0, .int o0, .ref q0])), (q0, .inl (cy 0, 6, .inl g0)), (c1, .inr (0, [.int m1, .int o1, .ref r1])), (r1, .inl (cy 0, 6, .inl p1_)), (d1, .inr (0, [.int m1, .int o1, .ref q1])), (q1, .inl (cy 0, 6, .inl g1))] H := hP
      have hD : va_D A [(h0, .inr (2, [.int sz1, .int tn1, .int sn1, .ref ar])), (ar, .inl (cy 2, 3, .inr (.inr (.inr (.inr (va_up (va_up (va_up (fun _ => none) 0 (some c0)) 1 (some c1)) 2 (some c2))))))), (c2, .inr (0, [.int k2, .int s2, .ref r2])), (r2, .inl (cy 0, 6, .inl f2)), (h1, .inr (2, [.int sz1, .int tn1, .int sn1, .ref br])), (br, .inl (cy 2, 3, .inr (.inr (.inr (.inr (va_up (va_up (va_up (fun _ => none) 0 (some d0)) 1 (some d1)) 2 (some d2))))))), (d2, .inr (0, [.int m2, .int o2, .ref q2])), (q2, .inl (cy 0, 6, .inl g2)), (c0, .inr (0, [.int m0, .int o0, .ref r0])), (r0, .inl (cy 0, 6, .inl p0_)), (d0, .inr (0, [.int m0, .int o0, .ref q0])), (q0, .inl (cy 0, 6, .inl g0)), (c1, .inr (0, [.int m1, .int o1, .ref r1])), (r1, .inl (cy 0, 6, .inl p1_)), (d1, .inr (0, [.int m1, .int o1, .ref q1])), (q1, .inl (cy 0, 6, .inl g1))] := hD
      refine lv_iinc (v := 2) (lv' := [(2, .int 2), (0, .ref h0), (1, .ref h1)]) hx hb dX2_copyFrom_46 hl (k := 0) rfl (by decide) (by decide) rfl (fun ls hl => ?_)
      refine lv_goto (tgt := 26) hx hb dX2_copyFrom_49 (by decide) ?_
      refine lv_iload_n hx hb dX2_copyFrom_26 rfl (lv_at hl 0 rfl) ?_
      refine lv_iconst (v := 3) hx hb dX2_copyFrom_27 (by decide) ?_
      refine lv_icmp_ge (tgt := 52) hx hb dX2_copyFrom_28 (by decide) (fun c_28 => ?_) (fun c_28 => ?_)
      · exact absurd c_28 (by decide)
      · refine lv_aload_n hx hb dX2_copyFrom_31 rfl (lv_at hl 1 rfl) ?_
        refine va_get (D := D) (ci := 2) (v := .ref ar) (C := RX2) (T := TX2) (N := 4) hx hb hts hw_X2 hown hK hP 0 rfl rfl 3 (by decide) f_12 (fun _ h9 => h9) rfl dX2_copyFrom_32 ?_
        refine lv_iload_n hx hb dX2_copyFrom_35 rfl (lv_at hl 0 rfl) ?_
        refine va_aldq hx hb hK hP 1 2 rfl rfl (vi_c (by decide +kernel)) dX2_copyFrom_36 ?_
        refine kq (a := c2) (rfl) ?_
        refine lv_aload_n hx hb dX2_copyFrom_37 rfl (lv_at hl 2 rfl) ?_
        refine va_get (D := D) (ci := 2) (v := .ref br) (C := RX2) (T := TX2) (N := 4) hx hb hts hw_X2 hown hK hP 4 rfl rfl 3 (by decide) f_12 (fun _ h9 => h9) rfl dX2_copyFrom_38 ?_
        refine lv_iload_n hx hb dX2_copyFrom_41 rfl (lv_at hl 0 rfl) ?_
        refine va_aldq hx hb hK hP 5 2 rfl rfl (vi_c (by decide +kernel)) dX2_copyFrom_42 ?_
        refine kq (a := d2) (rfl) ?_
        refine kc_v (wc := [(c2, .inr (0, [.int k2, .int s2, .ref r2])), (r2, .inl (cy 0, 6, .inl f2)), (d2, .inr (0, [.int m2, .int o2, .ref q2])), (q2, .inl (cy 0, 6, .inl g2))]) (wr := [(h0, .inr (2, [.int sz1, .int tn1, .int sn1, .ref ar])), (ar, .inl (cy 2, 3, .inr (.inr (.inr (.inr (va_up (va_up (va_up (fun _ => none) 0 (some c0)) 1 (some c1)) 2 (some c2))))))), (h1, .inr (2, [.int sz1, .int tn1, .int sn1, .ref br])), (br, .inl (cy 2, 3, .inr (.inr (.inr (.inr (va_up (va_up (va_up (fun _ => none) 0 (some d0)) 1 (some d1)) 2 (some d2))))))), (c0, .inr (0, [.int m0, .int o0, .ref r0])), (r0, .inl (cy 0, 6, .inl p0_)), (d0, .inr (0, [.int m0, .int o0, .ref q0])), (q0, .inl (cy 0, 6, .inl g0)), (c1, .inr (0, [.int m1, .int o1, .ref r1])), (r1, .inl (cy 0, 6, .inl p1_)), (d1, .inr (0, [.int m1, .int o1, .ref q1])), (q1, .inl (cy 0, 6, .inl g1))]) (va_runV (As := [.ref d2]) (rest := []) ⟨hx, hb, hml, hown, hts⟩ (c_X0_copyFrom l D cy H.size c2 k2 s2 r2 f2 d2 m2 o2 q2 g2 ) (cwV 1 hts gX2_copyFrom_X0_copyFrom rfl rfl rfl hdc_X0_copyFrom ⟨Nat.le_of_ble_eq_true rfl, Nat.le_of_ble_eq_true rfl⟩) (cpre_V (wc := [(c2, .inr (0, [.int k2, .int s2, .ref r2])), (r2, .inl (cy 0, 6, .inl f2)), (d2, .inr (0, [.int m2, .int o2, .ref q2])), (q2, .inl (cy 0, 6, .inl g2))]) 2 0 rfl rfl hX hP hD hS hA [2, 3, 6, 7] (by decide +kernel) rfl) rfl rfl hl.1 rfl (lv_room (Nat.le_of_ble_eq_true rfl)) dX2_copyFrom_43 ⟨Nat.le_of_ble_eq_true rfl, Nat.le_of_ble_eq_true rfl⟩) hP hD hS hA [2, 3, 6, 7] [0, 1, 4, 5, 8, 9, 10, 11, 12, 13, 14, 15] rfl rfl (by decide +kernel) (by decide +kernel) (fun u6 H locs hw hP hD hS => ?_)
        obtain ⟨p2_, hu, hp2⟩ := hw
        subst hu
        have hP : va_P D vwCl [(h0, .inr (2, [.int sz1, .int tn1, .int sn1, .ref ar])), (ar, .inl (cy 2, 3, .inr (.inr (.inr (.inr (va_up (va_up (va_up (fun _ => none) 0 (some c0)) 1 (some c1)) 2 (some c2))))))), (h1, .inr (2, [.int sz1, .int tn1, .int sn1, .ref br])), (br, .inl (cy 2, 3, .inr (.inr (.inr (.inr (va_up (va_up (va_up (fun _ => none) 0 (some d0)) 1 (some d1)) 2 (some d2))))))), (c0, .inr (0, [.int m0, .int o0, .ref r0])), (r0, .inl (cy 0, 6, .inl p0_)), (d0, .inr (0, [.int m0, .int o0, .ref q0])), (q0, .inl (cy 0, 6, .inl g0)), (c1, .inr (0, [.int m1, .int o1, .ref r1])), (r1, .inl (cy 0, 6, .inl p1_)), (d1, .inr (0, [.int m1, .int o1, .ref q1])), (q1, .inl (cy 0, 6, .inl g1)), (c2, .inr (0, [.int m2, .int o2, .ref r2])), (r2, .inl (cy 0, 6, .inl p2_)), (d2, .inr (0, [.int m2, .int o2, .ref q2])), (q2, .inl (cy 0, 6, .inl g2))] H := hP
        have hD : va_D A [(h0, .inr (2, [.int sz1, .int tn1, .int sn1, .ref ar])), (ar, .inl (cy 2, 3, .inr (.inr (.inr (.inr (va_up (va_up (va_up (fun _ => none) 0 (some c0)) 1 (some c1)) 2 (some c2))))))), (h1, .inr (2, [.int sz1, .int tn1, .int sn1, .ref br])), (br, .inl (cy 2, 3, .inr (.inr (.inr (.inr (va_up (va_up (va_up (fun _ => none) 0 (some d0)) 1 (some d1)) 2 (some d2))))))), (c0, .inr (0, [.int m0, .int o0, .ref r0])), (r0, .inl (cy 0, 6, .inl p0_)), (d0, .inr (0, [.int m0, .int o0, .ref q0])), (q0, .inl (cy 0, 6, .inl g0)), (c1, .inr (0, [.int m1, .int o1, .ref r1])), (r1, .inl (cy 0, 6, .inl p1_)), (d1, .inr (0, [.int m1, .int o1, .ref q1])), (q1, .inl (cy 0, 6, .inl g1)), (c2, .inr (0, [.int m2, .int o2, .ref r2])), (r2, .inl (cy 0, 6, .inl p2_)), (d2, .inr (0, [.int m2, .int o2, .ref q2])), (q2, .inl (cy 0, 6, .inl g2))] := hD
        refine lv_iinc (v := 3) (lv' := [(2, .int 3), (0, .ref h0), (1, .ref h1)]) hx hb dX2_copyFrom_46 hl (k := 0) rfl (by decide) (by decide) rfl (fun ls hl => ?_)
        refine lv_goto (tgt := 26) hx hb dX2_copyFrom_49 (by decide) ?_
        refine lv_iload_n hx hb dX2_copyFrom_26 rfl (lv_at hl 0 rfl) ?_
        refine lv_iconst (v := 3) hx hb dX2_copyFrom_27 (by decide) ?_
        refine lv_icmp_ge (tgt := 52) hx hb dX2_copyFrom_28 (by decide) (fun c_28 => ?_) (fun c_28 => ?_)
        · have hP9 := hP.sub (ws' := [(h0, .inr (2, [.int sz1, .int tn1, .int sn1, .ref ar])), (ar, .inl (cy 2, 3, .inr (.inr (.inr (.inr (va_up (va_up (va_up (fun _ => none) 0 (some c0)) 1 (some c1)) 2 (some c2))))))), (c0, .inr (0, [.int m0, .int o0, .ref r0])), (r0, .inl (cy 0, 6, .inl p0_)), (c1, .inr (0, [.int m1, .int o1, .ref r1])), (r1, .inl (cy 0, 6, .inl p1_)), (c2, .inr (0, [.int m2, .int o2, .ref r2])), (r2, .inl (cy 0, 6, .inl p2_)), (h1, .inr (2, [.int sz1, .int tn1, .int sn1, .ref br])), (br, .inl (cy 2, 3, .inr (.inr (.inr (.inr (va_up (va_up (va_up (fun _ => none) 0 (some d0)) 1 (some d1)) 2 (some d2))))))), (d0, .inr (0, [.int m0, .int o0, .ref q0])), (q0, .inl (cy 0, 6, .inl g0)), (d1, .inr (0, [.int m1, .int o1, .ref q1])), (q1, .inl (cy 0, 6, .inl g1)), (d2, .inr (0, [.int m2, .int o2, .ref q2])), (q2, .inl (cy 0, 6, .inl g2))]) [0, 1, 4, 5, 8, 9, 12, 13, 2, 3, 6, 7, 10, 11, 14, 15] rfl
          have hD9 := hD.sub (ws' := [(h0, .inr (2, [.int sz1, .int tn1, .int sn1, .ref ar])), (ar, .inl (cy 2, 3, .inr (.inr (.inr (.inr (va_up (va_up (va_up (fun _ => none) 0 (some c0)) 1 (some c1)) 2 (some c2))))))), (c0, .inr (0, [.int m0, .int o0, .ref r0])), (r0, .inl (cy 0, 6, .inl p0_)), (c1, .inr (0, [.int m1, .int o1, .ref r1])), (r1, .inl (cy 0, 6, .inl p1_)), (c2, .inr (0, [.int m2, .int o2, .ref r2])), (r2, .inl (cy 0, 6, .inl p2_)), (h1, .inr (2, [.int sz1, .int tn1, .int sn1, .ref br])), (br, .inl (cy 2, 3, .inr (.inr (.inr (.inr (va_up (va_up (va_up (fun _ => none) 0 (some d0)) 1 (some d1)) 2 (some d2))))))), (d0, .inr (0, [.int m0, .int o0, .ref q0])), (q0, .inl (cy 0, 6, .inl g0)), (d1, .inr (0, [.int m1, .int o1, .ref q1])), (q1, .inl (cy 0, 6, .inl g1)), (d2, .inr (0, [.int m2, .int o2, .ref q2])), (q2, .inl (cy 0, 6, .inl g2))]) [0, 1, 4, 5, 8, 9, 12, 13, 2, 3, 6, 7, 10, 11, 14, 15] (by decide +kernel) rfl
          exact W.vret hx hb hr (fun t9 ht9 hW9 => ⟨⟨[(h0, .inr (2, [.int sz1, .int tn1, .int sn1, .ref ar])), (ar, .inl (cy 2, 3, .inr (.inr (.inr (.inr (va_up (va_up (va_up (fun _ => none) 0 (some c0)) 1 (some c1)) 2 (some c2))))))), (c0, .inr (0, [.int m0, .int o0, .ref r0])), (r0, .inl (cy 0, 6, .inl p0_)), (c1, .inr (0, [.int m1, .int o1, .ref r1])), (r1, .inl (cy 0, 6, .inl p1_)), (c2, .inr (0, [.int m2, .int o2, .ref r2])), (r2, .inl (cy 0, 6, .inl p2_)), (h1, .inr (2, [.int sz1, .int tn1, .int sn1, .ref br])), (br, .inl (cy 2, 3, .inr (.inr (.inr (.inr (va_up (va_up (va_up (fun _ => none) 0 (some d0)) 1 (some d1)) 2 (some d2))))))), (d0, .inr (0, [.int m0, .int o0, .ref q0])), (q0, .inl (cy 0, 6, .inl g0)), (d1, .inr (0, [.int m1, .int o1, .ref q1])), (q1, .inl (cy 0, 6, .inl g1)), (d2, .inr (0, [.int m2, .int o2, .ref q2])), (q2, .inl (cy 0, 6, .inl g2))], rfl, ⟨p0_, p1_, p2_, rfl, hp0, hp1, hp2⟩, by rw [ht9]; exact hP9, hD9⟩, hS.F ht9⟩) hS.2.2 dX2_copyFrom_52
        · exact absurd c_28 (by decide)
