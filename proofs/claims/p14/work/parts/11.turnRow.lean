def q_X4_canTurn (cy : Nat → ClassId) (k : Nat) (t : Int32) : Int32 → va_W → Prop := fun (r : Int32) (u : va_W) => u = [] ∧ r = (if (fTK k >>> (t &&& 31)) &&& 1 = 1 then 1 else 0)
set_option maxHeartbeats 4000000 in
set_option maxRecDepth 100000 in
theorem c_X4_canTurn (l : Launch) (D : va_G) (cy : Nat → ClassId) (zz : Nat) (k : Nat) (t : Int32) (hk : k < 5) : Met l yX4_canTurn wsX4_canTurn ({ frames := 0, cells := 0, slots := 0, locals := 0 } : Room) (va_Pc [.int (nI k), .int t] (cpre D cy [] zz)) (va_Qi (q_X4_canTurn cy k t) (cpost D (va_A [] zz)) (va_A [] zz)) 0 0 (va_A [] zz) := by
  refine Met.ofW (cc := cX4_canTurn) (maxL := 2) (ret := (some .boolean)) (by decide) rfl ?_
  intro p e s m args below meth c s₁ B hml hv
  obtain ⟨rfl, hsz, hP, hD0, hX⟩ := hv
  have hx := B.exec
  have hb := B.bytes
  have hr := B.returns
  have hts := atoms_spec (ws := wsX4_canTurn) B.pre
  have hown : s.vm.findClass RX4 = some m.cls := findClass_of_methodNamed B.named
  have hlocks := B.notSynchronized
  subst hsz
  have hD := hD0.self (sz := s.heap.size)
  generalize hAe : va_A [] s.heap.size = A at hD hX ⊢
  have hA : ∀ q : Nat, s.heap.size ≤ q → A q := fun q h => by rw [← hAe]; exact Or.inr h
  obtain ⟨H, hH⟩ : ∃ H : Heap, H = s.heap := ⟨_, rfl⟩
  have hS : va_S A s.heap H [] := hH ▸ va_S.rf
  have hK := hX.1
  have hP : va_P D vwCl [] H := hH ▸ hP
  rw [← hH]
  obtain ⟨tTK, zTK, aTK⟩ := hX.2.1.1
  have f_102 := hts (.fieldLink RX4 102 "CubeTower" "TURNS_OF_KIND" "[I") (inC wa_137 (by decide +kernel))
  have hl := lv_entry ([.int (nI k), .int t]) (n := 2) (Nat.le_of_ble_eq_true rfl)
  rw [lg_entry_eq]
  generalize (lg_sl ([.int (nI k), .int t]) ++ List.replicate (2 - (lg_sl ([.int (nI k), .int t])).length) Slot.unset).toArray = ls at hl ⊢
  have hl : lv_has ls 2 [(0, .int (nI k)), (1, .int t)] := hl
  refine va_gets hx hb zTK hS hown f_102 (fun _ h9 => h9) dX4_canTurn_0 ?_
  refine lv_iload_n hx hb dX4_canTurn_3 rfl (lv_at hl 0 rfl) ?_
  refine va_ti hx hb aTK hS (nI_in hk (by decide)) rfl dX4_canTurn_4 ?_
  refine lv_topi (fun y1 ey1 => ?_)
  obtain rfl : y1 = fTK k := ey1.trans (congrArg fTK (nI_clamp (by omega)))
  refine lv_iload_n hx hb dX4_canTurn_5 rfl (lv_at hl 1 rfl) ?_
  refine lv_ishr hx hb dX4_canTurn_6 ?_
  refine lv_iconst (v := 1) hx hb dX4_canTurn_7 (by decide) ?_
  refine lv_iand hx hb dX4_canTurn_8 ?_
  refine lv_iconst (v := 1) hx hb dX4_canTurn_9 (by decide) ?_
  refine lv_icmp_ne (tgt := 17) hx hb dX4_canTurn_10 (by decide) (fun c_10 => ?_) (fun c_10 => ?_)
  · refine lv_iconst (v := 0) hx hb dX4_canTurn_17 (by decide) ?_
    have hP9 := hP.sub (ws' := []) [] rfl
    have hD9 := hD.sub (ws' := []) [] (by decide +kernel) rfl
    exact W.zret (v := 0) hx hb hr (rfl) (fun t9 ht9 hW9 => ⟨⟨0, [], rfl, ⟨rfl, (if_neg c_10).symm⟩, by rw [ht9]; exact hP9, hD9⟩, hS.F ht9⟩) hS.2.2 dX4_canTurn_18
  · refine lv_iconst (v := 1) hx hb dX4_canTurn_13 (by decide) ?_
    refine lv_goto (tgt := 18) hx hb dX4_canTurn_14 (by decide) ?_
    have hP9 := hP.sub (ws' := []) [] rfl
    have hD9 := hD.sub (ws' := []) [] (by decide +kernel) rfl
    exact W.zret (v := 1) hx hb hr (rfl) (fun t9 ht9 hW9 => ⟨⟨1, [], rfl, ⟨rfl, (if_pos c_10).symm⟩, by rw [ht9]; exact hP9, hD9⟩, hS.F ht9⟩) hS.2.2 dX4_canTurn_18
def q_X4_turnRow (cy : Nat → ClassId) (a : Nat) (n : Nat) (f : Nat → Int32) (st : Nat) (kd : Int32) (t : Nat) : va_W → Prop := fun (u : va_W) => u = [(a, .inl (cy 0, n, .inl (tr_f kd t st f)))]
set_option maxHeartbeats 4000000 in
set_option maxRecDepth 100000 in
theorem c_X4_turnRow (l : Launch) (D : va_G) (cy : Nat → ClassId) (zz : Nat) (a : Nat) (n : Nat) (f : Nat → Int32) (st : Nat) (kd : Int32) (t : Nat) (hn : n < 2 ^ 31) (hst : st + 6 ≤ n) (ht : t < 4) : Met l yX4_turnRow wsX4_turnRow ({ frames := 0, cells := 0, slots := 0, locals := 0 } : Room) (va_Pc [.ref a, .int (nI st), .int kd, .int (nI t)] (cpre D cy [(a, .inl (cy 0, n, .inl f))] zz)) (va_Qv (q_X4_turnRow cy a n f st kd t) (cpost D (va_A [(a, .inl (cy 0, n, .inl f))] zz)) (va_A [(a, .inl (cy 0, n, .inl f))] zz)) 0 0 (va_A [(a, .inl (cy 0, n, .inl f))] zz) := by
  refine Met.ofW (cc := cX4_turnRow) (maxL := 10) (ret := none) (by decide) rfl ?_
  intro p e s m args below meth c s₁ B hml hv
  obtain ⟨rfl, hsz, hP, hD0, hX⟩ := hv
  have hx := B.exec
  have hb := B.bytes
  have hr := B.returns
  have hts := atoms_spec (ws := wsX4_turnRow) B.pre
  have hown : s.vm.findClass RX4 = some m.cls := findClass_of_methodNamed B.named
  have hlocks := B.notSynchronized
  subst hsz
  have hD := hD0.self (sz := s.heap.size)
  generalize hAe : va_A [(a, .inl (cy 0, n, .inl f))] s.heap.size = A at hD hX ⊢
  have hA : ∀ q : Nat, s.heap.size ≤ q → A q := fun q h => by rw [← hAe]; exact Or.inr h
  obtain ⟨H, hH⟩ : ∃ H : Heap, H = s.heap := ⟨_, rfl⟩
  have hS : va_S A s.heap H [] := hH ▸ va_S.rf
  have hK := hX.1
  have hP : va_P D vwCl [(a, .inl (cy 0, n, .inl f))] H := hH ▸ hP
  rw [← hH]
  obtain ⟨tRG, zRG, aRG⟩ := hX.2.1.2.1
  have f_134 := hts (.fieldLink RX4 134 "CubeTower" "RINGS" "[I") (inC wa_148 (by decide +kernel))
  have hl := lv_entry ([.ref a, .int (nI st), .int kd, .int (nI t)]) (n := 10) (Nat.le_of_ble_eq_true rfl)
  rw [lg_entry_eq]
  generalize (lg_sl ([.ref a, .int (nI st), .int kd, .int (nI t)]) ++ List.replicate (10 - (lg_sl ([.ref a, .int (nI st), .int kd, .int (nI t)])).length) Slot.unset).toArray = ls at hl ⊢
  have hl : lv_has ls 10 [(0, .ref a), (1, .int (nI st)), (2, .int kd), (3, .int (nI t))] := hl
  have lp_39 : ∀ (n_39 : Nat) (S : Nat) (rg : Int32) (k : Nat) (f1 : Nat → Int32) (hrg : rg = 0 ∨ rg = 4) (hS9 : S ≤ 3) (hk : k ≤ S) (hf : f1 = itN (rotR rg st) k f) (hfin : itN (rotR rg st) S f = tr_f kd t st f) (hm : S < k + n_39) (H : Heap) (locs : List Loc) (ls : Array Slot), va_P D vwCl [(a, .inl (cy 0, n, .inl f1))] H → va_D A [(a, .inl (cy 0, n, .inl f1))] → va_S A s.heap H locs → lv_has ls 10 [(0, .ref a), (1, .int (nI st)), (5, .int (nI S)), (6, .int rg), (7, .int (nI k))] → W p l e (headSpec wsX4_turnRow ({ frames := 0, cells := 0, slots := 0, locals := 0 } : Room)).room s m ([.ref a, .int (nI st), .int kd, .int (nI t)] : List Value).toArray below meth c H locs 0 0 (MQ below (va_Qv (q_X4_turnRow cy a n f st kd t) (cpost D A) A) ([.ref a, .int (nI st), .int kd, .int (nI t)] : List Value).toArray s 0 0 A) (F0 m 39 ls []) := by
    intro n_39
    induction n_39 with
    | zero => intro S rg k f1 hrg hS9 hk hf hfin hm; exact absurd hm (by omega)
    | succ n_39 ih_39 =>
      intro S rg k f1 hrg hS9 hk hf hfin hm H locs ls hP hD hS hl
      refine lv_iload hx hb dX4_turnRow_39 (lv_at hl 4 rfl) ?_
      refine lv_iload hx hb dX4_turnRow_41 (lv_at hl 2 rfl) ?_
      refine lv_icmp_ge (tgt := 122) hx hb dX4_turnRow_43 (by decide) (fun c_43 => ?_) (fun c_43 => ?_)
      · have hkS : k = S := Nat.le_antisymm hk (nI_leN (by omega) c_43)
        subst hkS
        subst hf
        rw [hfin] at hP hD
        have hP : va_P D vwCl [(a, .inl (cy 0, n, .inl (tr_f kd t st f)))] H := hP
        have hD : va_D A [(a, .inl (cy 0, n, .inl (tr_f kd t st f)))] := hD
        have hP9 := hP.sub (ws' := [(a, .inl (cy 0, n, .inl (tr_f kd t st f)))]) [0] rfl
        have hD9 := hD.sub (ws' := [(a, .inl (cy 0, n, .inl (tr_f kd t st f)))]) [0] (by decide +kernel) rfl
        exact W.vret hx hb hr (fun t9 ht9 hW9 => ⟨⟨[(a, .inl (cy 0, n, .inl (tr_f kd t st f)))], rfl, rfl, by rw [ht9]; exact hP9, hD9⟩, hS.F ht9⟩) hS.2.2 dX4_turnRow_122
      · have hkS : k < S := nI_ltN (by omega) c_43
        have hrg0 := hrg
        rcases hrg with rfl | rfl
        · refine lv_aload_n hx hb dX4_turnRow_46 rfl (lv_at hl 0 rfl) ?_
          refine lv_iload_n hx hb dX4_turnRow_47 rfl (lv_at hl 1 rfl) ?_
          refine va_gets hx hb zRG hS hown f_134 (fun _ h9 => h9) dX4_turnRow_48 ?_
          refine lv_iload hx hb dX4_turnRow_51 (lv_at hl 3 rfl) ?_
          refine lv_iconst (v := 4) hx hb dX4_turnRow_53 (by decide) ?_
          refine lv_iadd hx hb dX4_turnRow_54 ?_
          refine lv_topi (fun y1 ey1 => ?_)
          obtain rfl : y1 = 4 := ey1.trans (by decide)
          refine lv_iconst (v := 1) hx hb dX4_turnRow_55 (by decide) ?_
          refine lv_isub hx hb dX4_turnRow_56 ?_
          refine lv_topi (fun y2 ey2 => ?_)
          obtain rfl : y2 = 3 := ey2.trans (by decide)
          refine va_ti hx hb aRG hS (vi_c (by decide +kernel)) rfl dX4_turnRow_57 ?_
          refine lv_topi (fun y3 ey3 => ?_)
          obtain rfl : y3 = 5 := ey3.trans (by decide)
          refine lv_iadd hx hb dX4_turnRow_58 ?_
          refine lv_topi (fun y4 ey4 => ?_)
          obtain rfl : y4 = nI (st + 5) := ey4.trans (nIst st 5 (by decide))
          refine va_iald hx hb hK hP 0 0 rfl rfl (nI_in (by omega) hn) dX4_turnRow_59 ?_
          refine lv_topi (fun y5 ey5 => ?_)
          obtain rfl : y5 = f1 (st + 5) := ey5.trans (congrArg f1 (nI_clamp (by omega)))
          refine lv_istore (lv' := [(8, .int (f1 (st + 5))), (0, .ref a), (1, .int (nI st)), (5, .int (nI S)), (6, .int 0), (7, .int (nI k))]) hx hb dX4_turnRow_60 hl (by decide) rfl (fun ls hl => ?_)
          refine lv_iconst (v := 3) hx hb dX4_turnRow_62 (by decide) ?_
          refine lv_istore (lv' := [(9, .int 3), (8, .int (f1 (st + 5))), (0, .ref a), (1, .int (nI st)), (5, .int (nI S)), (6, .int 0), (7, .int (nI k))]) hx hb dX4_turnRow_63 hl (by decide) rfl (fun ls hl => ?_)
          refine lv_iload hx hb dX4_turnRow_65 (lv_at hl 0 rfl) ?_
          refine lv_if_le (tgt := 104) hx hb dX4_turnRow_67 (by decide) (fun c_67 => ?_) (fun c_67 => ?_)
          · exact absurd c_67 (by decide)
          · refine lv_aload_n hx hb dX4_turnRow_70 rfl (lv_at hl 2 rfl) ?_
            refine lv_iload_n hx hb dX4_turnRow_71 rfl (lv_at hl 3 rfl) ?_
            refine va_gets hx hb zRG hS hown f_134 (fun _ h9 => h9) dX4_turnRow_72 ?_
            refine lv_iload hx hb dX4_turnRow_75 (lv_at hl 5 rfl) ?_
            refine lv_iload hx hb dX4_turnRow_77 (lv_at hl 0 rfl) ?_
            refine lv_iadd hx hb dX4_turnRow_79 ?_
            refine lv_topi (fun y6 ey6 => ?_)
            obtain rfl : y6 = 3 := ey6.trans (by decide)
            refine va_ti hx hb aRG hS (vi_c (by decide +kernel)) rfl dX4_turnRow_80 ?_
            refine lv_topi (fun y7 ey7 => ?_)
            obtain rfl : y7 = 5 := ey7.trans (by decide)
            refine lv_iadd hx hb dX4_turnRow_81 ?_
            refine lv_topi (fun y8 ey8 => ?_)
            obtain rfl : y8 = nI (st + 5) := ey8.trans (nIst st 5 (by decide))
            refine lv_aload_n hx hb dX4_turnRow_82 rfl (lv_at hl 2 rfl) ?_
            refine lv_iload_n hx hb dX4_turnRow_83 rfl (lv_at hl 3 rfl) ?_
            refine va_gets hx hb zRG hS hown f_134 (fun _ h9 => h9) dX4_turnRow_84 ?_
            refine lv_iload hx hb dX4_turnRow_87 (lv_at hl 5 rfl) ?_
            refine lv_iload hx hb dX4_turnRow_89 (lv_at hl 0 rfl) ?_
            refine lv_iadd hx hb dX4_turnRow_91 ?_
            refine lv_topi (fun y9 ey9 => ?_)
            obtain rfl : y9 = 3 := ey9.trans (by decide)
            refine lv_iconst (v := 1) hx hb dX4_turnRow_92 (by decide) ?_
            refine lv_isub hx hb dX4_turnRow_93 ?_
            refine lv_topi (fun y10 ey10 => ?_)
            obtain rfl : y10 = 2 := ey10.trans (by decide)
            refine va_ti hx hb aRG hS (vi_c (by decide +kernel)) rfl dX4_turnRow_94 ?_
            refine lv_topi (fun y11 ey11 => ?_)
            obtain rfl : y11 = 3 := ey11.trans (by decide)
            refine lv_iadd hx hb dX4_turnRow_95 ?_
            refine lv_topi (fun y12 ey12 => ?_)
            obtain rfl : y12 = nI (st + 3) := ey12.trans (nIst st 3 (by decide))
            refine va_iald hx hb hK hP 0 0 rfl rfl (nI_in (by omega) hn) dX4_turnRow_96 ?_
            refine lv_topi (fun y13 ey13 => ?_)
            obtain rfl : y13 = f1 (st + 3) := ey13.trans (congrArg f1 (nI_clamp (by omega)))
            refine va_iast hx hb hK hP hD hS 0 0 rfl rfl (nI_in (by omega) hn) dX4_turnRow_97 (fun H locs hP hD hS => ?_)
            rw [show (nI (st + 5)).toNatClampNeg = st + 5 from nI_clamp (by omega)] at hP hD
            have hP : va_P D vwCl [(a, .inl (cy 0, n, .inl (upd f1 (st + 5) (f1 (st + 3)))))] H := hP
            have hD : va_D A [(a, .inl (cy 0, n, .inl (upd f1 (st + 5) (f1 (st + 3)))))] := hD
            refine lv_iinc (v := 2) (lv' := [(9, .int 2), (8, .int (f1 (st + 5))), (0, .ref a), (1, .int (nI st)), (5, .int (nI S)), (6, .int 0), (7, .int (nI k))]) hx hb dX4_turnRow_98 hl (k := 0) rfl (by decide) (by decide) rfl (fun ls hl => ?_)
            refine lv_goto (tgt := 65) hx hb dX4_turnRow_101 (by decide) ?_
            refine lv_iload hx hb dX4_turnRow_65 (lv_at hl 0 rfl) ?_
            refine lv_if_le (tgt := 104) hx hb dX4_turnRow_67 (by decide) (fun c_67 => ?_) (fun c_67 => ?_)
            · exact absurd c_67 (by decide)
            · refine lv_aload_n hx hb dX4_turnRow_70 rfl (lv_at hl 2 rfl) ?_
              refine lv_iload_n hx hb dX4_turnRow_71 rfl (lv_at hl 3 rfl) ?_
              refine va_gets hx hb zRG hS hown f_134 (fun _ h9 => h9) dX4_turnRow_72 ?_
              refine lv_iload hx hb dX4_turnRow_75 (lv_at hl 5 rfl) ?_
              refine lv_iload hx hb dX4_turnRow_77 (lv_at hl 0 rfl) ?_
              refine lv_iadd hx hb dX4_turnRow_79 ?_
              refine lv_topi (fun y14 ey14 => ?_)
              obtain rfl : y14 = 2 := ey14.trans (by decide)
              refine va_ti hx hb aRG hS (vi_c (by decide +kernel)) rfl dX4_turnRow_80 ?_
              refine lv_topi (fun y15 ey15 => ?_)
              obtain rfl : y15 = 3 := ey15.trans (by decide)
              refine lv_iadd hx hb dX4_turnRow_81 ?_
              refine lv_topi (fun y16 ey16 => ?_)
              obtain rfl : y16 = nI (st + 3) := ey16.trans (nIst st 3 (by decide))
              refine lv_aload_n hx hb dX4_turnRow_82 rfl (lv_at hl 2 rfl) ?_
              refine lv_iload_n hx hb dX4_turnRow_83 rfl (lv_at hl 3 rfl) ?_
              refine va_gets hx hb zRG hS hown f_134 (fun _ h9 => h9) dX4_turnRow_84 ?_
              refine lv_iload hx hb dX4_turnRow_87 (lv_at hl 5 rfl) ?_
              refine lv_iload hx hb dX4_turnRow_89 (lv_at hl 0 rfl) ?_
              refine lv_iadd hx hb dX4_turnRow_91 ?_
              refine lv_topi (fun y17 ey17 => ?_)
              obtain rfl : y17 = 2 := ey17.trans (by decide)
              refine lv_iconst (v := 1) hx hb dX4_turnRow_92 (by decide) ?_
              refine lv_isub hx hb dX4_turnRow_93 ?_
              refine lv_topi (fun y18 ey18 => ?_)
              obtain rfl : y18 = 1 := ey18.trans (by decide)
              refine va_ti hx hb aRG hS (vi_c (by decide +kernel)) rfl dX4_turnRow_94 ?_
              refine lv_topi (fun y19 ey19 => ?_)
              obtain rfl : y19 = 4 := ey19.trans (by decide)
              refine lv_iadd hx hb dX4_turnRow_95 ?_
              refine lv_topi (fun y20 ey20 => ?_)
              obtain rfl : y20 = nI (st + 4) := ey20.trans (nIst st 4 (by decide))
              refine va_iald hx hb hK hP 0 0 rfl rfl (nI_in (by omega) hn) dX4_turnRow_96 ?_
              refine lv_topi (fun y21 ey21 => ?_)
              obtain rfl : y21 = (upd f1 (st + 5) (f1 (st + 3))) (st + 4) := ey21.trans (congrArg (upd f1 (st + 5) (f1 (st + 3))) (nI_clamp (by omega)))
              refine va_iast hx hb hK hP hD hS 0 0 rfl rfl (nI_in (by omega) hn) dX4_turnRow_97 (fun H locs hP hD hS => ?_)
              rw [show (nI (st + 3)).toNatClampNeg = st + 3 from nI_clamp (by omega)] at hP hD
              have hP : va_P D vwCl [(a, .inl (cy 0, n, .inl (upd (upd f1 (st + 5) (f1 (st + 3))) (st + 3) ((upd f1 (st + 5) (f1 (st + 3))) (st + 4)))))] H := hP
              have hD : va_D A [(a, .inl (cy 0, n, .inl (upd (upd f1 (st + 5) (f1 (st + 3))) (st + 3) ((upd f1 (st + 5) (f1 (st + 3))) (st + 4)))))] := hD
              refine lv_iinc (v := 1) (lv' := [(9, .int 1), (8, .int (f1 (st + 5))), (0, .ref a), (1, .int (nI st)), (5, .int (nI S)), (6, .int 0), (7, .int (nI k))]) hx hb dX4_turnRow_98 hl (k := 0) rfl (by decide) (by decide) rfl (fun ls hl => ?_)
              refine lv_goto (tgt := 65) hx hb dX4_turnRow_101 (by decide) ?_
              refine lv_iload hx hb dX4_turnRow_65 (lv_at hl 0 rfl) ?_
              refine lv_if_le (tgt := 104) hx hb dX4_turnRow_67 (by decide) (fun c_67 => ?_) (fun c_67 => ?_)
              · exact absurd c_67 (by decide)
              · refine lv_aload_n hx hb dX4_turnRow_70 rfl (lv_at hl 2 rfl) ?_
                refine lv_iload_n hx hb dX4_turnRow_71 rfl (lv_at hl 3 rfl) ?_
                refine va_gets hx hb zRG hS hown f_134 (fun _ h9 => h9) dX4_turnRow_72 ?_
                refine lv_iload hx hb dX4_turnRow_75 (lv_at hl 5 rfl) ?_
                refine lv_iload hx hb dX4_turnRow_77 (lv_at hl 0 rfl) ?_
                refine lv_iadd hx hb dX4_turnRow_79 ?_
                refine lv_topi (fun y22 ey22 => ?_)
                obtain rfl : y22 = 1 := ey22.trans (by decide)
                refine va_ti hx hb aRG hS (vi_c (by decide +kernel)) rfl dX4_turnRow_80 ?_
                refine lv_topi (fun y23 ey23 => ?_)
                obtain rfl : y23 = 4 := ey23.trans (by decide)
                refine lv_iadd hx hb dX4_turnRow_81 ?_
                refine lv_topi (fun y24 ey24 => ?_)
                obtain rfl : y24 = nI (st + 4) := ey24.trans (nIst st 4 (by decide))
                refine lv_aload_n hx hb dX4_turnRow_82 rfl (lv_at hl 2 rfl) ?_
                refine lv_iload_n hx hb dX4_turnRow_83 rfl (lv_at hl 3 rfl) ?_
                refine va_gets hx hb zRG hS hown f_134 (fun _ h9 => h9) dX4_turnRow_84 ?_
                refine lv_iload hx hb dX4_turnRow_87 (lv_at hl 5 rfl) ?_
                refine lv_iload hx hb dX4_turnRow_89 (lv_at hl 0 rfl) ?_
                refine lv_iadd hx hb dX4_turnRow_91 ?_
                refine lv_topi (fun y25 ey25 => ?_)
                obtain rfl : y25 = 1 := ey25.trans (by decide)
                refine lv_iconst (v := 1) hx hb dX4_turnRow_92 (by decide) ?_
                refine lv_isub hx hb dX4_turnRow_93 ?_
                refine lv_topi (fun y26 ey26 => ?_)
                obtain rfl : y26 = 0 := ey26.trans (by decide)
                refine va_ti hx hb aRG hS (vi_c (by decide +kernel)) rfl dX4_turnRow_94 ?_
                refine lv_topi (fun y27 ey27 => ?_)
                obtain rfl : y27 = 2 := ey27.trans (by decide)
                refine lv_iadd hx hb dX4_turnRow_95 ?_
                refine lv_topi (fun y28 ey28 => ?_)
                obtain rfl : y28 = nI (st + 2) := ey28.trans (nIst st 2 (by decide))
                refine va_iald hx hb hK hP 0 0 rfl rfl (nI_in (by omega) hn) dX4_turnRow_96 ?_
                refine lv_topi (fun y29 ey29 => ?_)
                obtain rfl : y29 = (upd (upd f1 (st + 5) (f1 (st + 3))) (st + 3) ((upd f1 (st + 5) (f1 (st + 3))) (st + 4))) (st + 2) := ey29.trans (congrArg (upd (upd f1 (st + 5) (f1 (st + 3))) (st + 3) ((upd f1 (st + 5) (f1 (st + 3))) (st + 4))) (nI_clamp (by omega)))
                refine va_iast hx hb hK hP hD hS 0 0 rfl rfl (nI_in (by omega) hn) dX4_turnRow_97 (fun H locs hP hD hS => ?_)
                rw [show (nI (st + 4)).toNatClampNeg = st + 4 from nI_clamp (by omega)] at hP hD
                have hP : va_P D vwCl [(a, .inl (cy 0, n, .inl (upd (upd (upd f1 (st + 5) (f1 (st + 3))) (st + 3) ((upd f1 (st + 5) (f1 (st + 3))) (st + 4))) (st + 4) ((upd (upd f1 (st + 5) (f1 (st + 3))) (st + 3) ((upd f1 (st + 5) (f1 (st + 3))) (st + 4))) (st + 2)))))] H := hP
                have hD : va_D A [(a, .inl (cy 0, n, .inl (upd (upd (upd f1 (st + 5) (f1 (st + 3))) (st + 3) ((upd f1 (st + 5) (f1 (st + 3))) (st + 4))) (st + 4) ((upd (upd f1 (st + 5) (f1 (st + 3))) (st + 3) ((upd f1 (st + 5) (f1 (st + 3))) (st + 4))) (st + 2)))))] := hD
                refine lv_iinc (v := 0) (lv' := [(9, .int 0), (8, .int (f1 (st + 5))), (0, .ref a), (1, .int (nI st)), (5, .int (nI S)), (6, .int 0), (7, .int (nI k))]) hx hb dX4_turnRow_98 hl (k := 0) rfl (by decide) (by decide) rfl (fun ls hl => ?_)
                refine lv_goto (tgt := 65) hx hb dX4_turnRow_101 (by decide) ?_
                refine lv_iload hx hb dX4_turnRow_65 (lv_at hl 0 rfl) ?_
                refine lv_if_le (tgt := 104) hx hb dX4_turnRow_67 (by decide) (fun c_67 => ?_) (fun c_67 => ?_)
                · refine lv_aload_n hx hb dX4_turnRow_104 rfl (lv_at hl 2 rfl) ?_
                  refine lv_iload_n hx hb dX4_turnRow_105 rfl (lv_at hl 3 rfl) ?_
                  refine va_gets hx hb zRG hS hown f_134 (fun _ h9 => h9) dX4_turnRow_106 ?_
                  refine lv_iload hx hb dX4_turnRow_109 (lv_at hl 5 rfl) ?_
                  refine va_ti hx hb aRG hS (vi_c (by decide +kernel)) rfl dX4_turnRow_111 ?_
                  refine lv_topi (fun y30 ey30 => ?_)
                  obtain rfl : y30 = 2 := ey30.trans (by decide)
                  refine lv_iadd hx hb dX4_turnRow_112 ?_
                  refine lv_topi (fun y31 ey31 => ?_)
                  obtain rfl : y31 = nI (st + 2) := ey31.trans (nIst st 2 (by decide))
                  refine lv_iload hx hb dX4_turnRow_113 (lv_at hl 1 rfl) ?_
                  refine va_iast hx hb hK hP hD hS 0 0 rfl rfl (nI_in (by omega) hn) dX4_turnRow_115 (fun H locs hP hD hS => ?_)
                  rw [show (nI (st + 2)).toNatClampNeg = st + 2 from nI_clamp (by omega)] at hP hD
                  have hP : va_P D vwCl [(a, .inl (cy 0, n, .inl (upd (upd (upd (upd f1 (st + 5) (f1 (st + 3))) (st + 3) ((upd f1 (st + 5) (f1 (st + 3))) (st + 4))) (st + 4) ((upd (upd f1 (st + 5) (f1 (st + 3))) (st + 3) ((upd f1 (st + 5) (f1 (st + 3))) (st + 4))) (st + 2))) (st + 2) (f1 (st + 5)))))] H := hP
                  have hD : va_D A [(a, .inl (cy 0, n, .inl (upd (upd (upd (upd f1 (st + 5) (f1 (st + 3))) (st + 3) ((upd f1 (st + 5) (f1 (st + 3))) (st + 4))) (st + 4) ((upd (upd f1 (st + 5) (f1 (st + 3))) (st + 3) ((upd f1 (st + 5) (f1 (st + 3))) (st + 4))) (st + 2))) (st + 2) (f1 (st + 5)))))] := hD
                  refine lv_iinc (v := nI (k + 1)) (lv' := [(7, .int (nI (k + 1))), (9, .int 0), (8, .int (f1 (st + 5))), (0, .ref a), (1, .int (nI st)), (5, .int (nI S)), (6, .int 0)]) hx hb dX4_turnRow_116 hl (k := 6) rfl ((nI_succ k).symm) (by decide) rfl (fun ls hl => ?_)
                  refine lv_goto (tgt := 39) hx hb dX4_turnRow_119 (by decide) ?_
                  exact ih_39 S 0 (k + 1) (upd (upd (upd (upd f1 (st + 5) (f1 (st + 3))) (st + 3) ((upd f1 (st + 5) (f1 (st + 3))) (st + 4))) (st + 4) ((upd (upd f1 (st + 5) (f1 (st + 3))) (st + 3) ((upd f1 (st + 5) (f1 (st + 3))) (st + 4))) (st + 2))) (st + 2) (f1 (st + 5))) hrg0 hS9 (by omega) (by show _ = rotR 0 st (itN (rotR 0 st) k f); rw [← hf]; exact (if_pos rfl).symm) hfin (by omega) _ _ _ (hP.sub [0] rfl) (hD.sub [0] (by decide +kernel) rfl) hS (lv_sub hl [3, 4, 5, 6, 0] rfl)
                · exact absurd c_67 (by decide)
        · refine lv_aload_n hx hb dX4_turnRow_46 rfl (lv_at hl 0 rfl) ?_
          refine lv_iload_n hx hb dX4_turnRow_47 rfl (lv_at hl 1 rfl) ?_
          refine va_gets hx hb zRG hS hown f_134 (fun _ h9 => h9) dX4_turnRow_48 ?_
          refine lv_iload hx hb dX4_turnRow_51 (lv_at hl 3 rfl) ?_
          refine lv_iconst (v := 4) hx hb dX4_turnRow_53 (by decide) ?_
          refine lv_iadd hx hb dX4_turnRow_54 ?_
          refine lv_topi (fun y32 ey32 => ?_)
          obtain rfl : y32 = 8 := ey32.trans (by decide)
          refine lv_iconst (v := 1) hx hb dX4_turnRow_55 (by decide) ?_
          refine lv_isub hx hb dX4_turnRow_56 ?_
          refine lv_topi (fun y33 ey33 => ?_)
          obtain rfl : y33 = 7 := ey33.trans (by decide)
          refine va_ti hx hb aRG hS (vi_c (by decide +kernel)) rfl dX4_turnRow_57 ?_
          refine lv_topi (fun y34 ey34 => ?_)
          obtain rfl : y34 = 3 := ey34.trans (by decide)
          refine lv_iadd hx hb dX4_turnRow_58 ?_
          refine lv_topi (fun y35 ey35 => ?_)
          obtain rfl : y35 = nI (st + 3) := ey35.trans (nIst st 3 (by decide))
          refine va_iald hx hb hK hP 0 0 rfl rfl (nI_in (by omega) hn) dX4_turnRow_59 ?_
          refine lv_topi (fun y36 ey36 => ?_)
          obtain rfl : y36 = f1 (st + 3) := ey36.trans (congrArg f1 (nI_clamp (by omega)))
          refine lv_istore (lv' := [(8, .int (f1 (st + 3))), (0, .ref a), (1, .int (nI st)), (5, .int (nI S)), (6, .int 4), (7, .int (nI k))]) hx hb dX4_turnRow_60 hl (by decide) rfl (fun ls hl => ?_)
          refine lv_iconst (v := 3) hx hb dX4_turnRow_62 (by decide) ?_
          refine lv_istore (lv' := [(9, .int 3), (8, .int (f1 (st + 3))), (0, .ref a), (1, .int (nI st)), (5, .int (nI S)), (6, .int 4), (7, .int (nI k))]) hx hb dX4_turnRow_63 hl (by decide) rfl (fun ls hl => ?_)
          refine lv_iload hx hb dX4_turnRow_65 (lv_at hl 0 rfl) ?_
          refine lv_if_le (tgt := 104) hx hb dX4_turnRow_67 (by decide) (fun c_67 => ?_) (fun c_67 => ?_)
          · exact absurd c_67 (by decide)
          · refine lv_aload_n hx hb dX4_turnRow_70 rfl (lv_at hl 2 rfl) ?_
            refine lv_iload_n hx hb dX4_turnRow_71 rfl (lv_at hl 3 rfl) ?_
            refine va_gets hx hb zRG hS hown f_134 (fun _ h9 => h9) dX4_turnRow_72 ?_
            refine lv_iload hx hb dX4_turnRow_75 (lv_at hl 5 rfl) ?_
            refine lv_iload hx hb dX4_turnRow_77 (lv_at hl 0 rfl) ?_
            refine lv_iadd hx hb dX4_turnRow_79 ?_
            refine lv_topi (fun y37 ey37 => ?_)
            obtain rfl : y37 = 7 := ey37.trans (by decide)
            refine va_ti hx hb aRG hS (vi_c (by decide +kernel)) rfl dX4_turnRow_80 ?_
            refine lv_topi (fun y38 ey38 => ?_)
            obtain rfl : y38 = 3 := ey38.trans (by decide)
            refine lv_iadd hx hb dX4_turnRow_81 ?_
            refine lv_topi (fun y39 ey39 => ?_)
            obtain rfl : y39 = nI (st + 3) := ey39.trans (nIst st 3 (by decide))
            refine lv_aload_n hx hb dX4_turnRow_82 rfl (lv_at hl 2 rfl) ?_
            refine lv_iload_n hx hb dX4_turnRow_83 rfl (lv_at hl 3 rfl) ?_
            refine va_gets hx hb zRG hS hown f_134 (fun _ h9 => h9) dX4_turnRow_84 ?_
            refine lv_iload hx hb dX4_turnRow_87 (lv_at hl 5 rfl) ?_
            refine lv_iload hx hb dX4_turnRow_89 (lv_at hl 0 rfl) ?_
            refine lv_iadd hx hb dX4_turnRow_91 ?_
            refine lv_topi (fun y40 ey40 => ?_)
            obtain rfl : y40 = 7 := ey40.trans (by decide)
            refine lv_iconst (v := 1) hx hb dX4_turnRow_92 (by decide) ?_
            refine lv_isub hx hb dX4_turnRow_93 ?_
            refine lv_topi (fun y41 ey41 => ?_)
            obtain rfl : y41 = 6 := ey41.trans (by decide)
            refine va_ti hx hb aRG hS (vi_c (by decide +kernel)) rfl dX4_turnRow_94 ?_
            refine lv_topi (fun y42 ey42 => ?_)
            obtain rfl : y42 = 1 := ey42.trans (by decide)
            refine lv_iadd hx hb dX4_turnRow_95 ?_
            refine lv_topi (fun y43 ey43 => ?_)
            obtain rfl : y43 = nI (st + 1) := ey43.trans (nIst st 1 (by decide))
            refine va_iald hx hb hK hP 0 0 rfl rfl (nI_in (by omega) hn) dX4_turnRow_96 ?_
            refine lv_topi (fun y44 ey44 => ?_)
            obtain rfl : y44 = f1 (st + 1) := ey44.trans (congrArg f1 (nI_clamp (by omega)))
            refine va_iast hx hb hK hP hD hS 0 0 rfl rfl (nI_in (by omega) hn) dX4_turnRow_97 (fun H locs hP hD hS => ?_)
            rw [show (nI (st + 3)).toNatClampNeg = st + 3 from nI_clamp (by omega)] at hP hD
            have hP : va_P D vwCl [(a, .inl (cy 0, n, .inl (upd f1 (st + 3) (f1 (st + 1)))))] H := hP
            have hD : va_D A [(a, .inl (cy 0, n, .inl (upd f1 (st + 3) (f1 (st + 1)))))] := hD
            refine lv_iinc (v := 2) (lv' := [(9, .int 2), (8, .int (f1 (st + 3))), (0, .ref a), (1, .int (nI st)), (5, .int (nI S)), (6, .int 4), (7, .int (nI k))]) hx hb dX4_turnRow_98 hl (k := 0) rfl (by decide) (by decide) rfl (fun ls hl => ?_)
            refine lv_goto (tgt := 65) hx hb dX4_turnRow_101 (by decide) ?_
            refine lv_iload hx hb dX4_turnRow_65 (lv_at hl 0 rfl) ?_
            refine lv_if_le (tgt := 104) hx hb dX4_turnRow_67 (by decide) (fun c_67 => ?_) (fun c_67 => ?_)
            · exact absurd c_67 (by decide)
            · refine lv_aload_n hx hb dX4_turnRow_70 rfl (lv_at hl 2 rfl) ?_
              refine lv_iload_n hx hb dX4_turnRow_71 rfl (lv_at hl 3 rfl) ?_
              refine va_gets hx hb zRG hS hown f_134 (fun _ h9 => h9) dX4_turnRow_72 ?_
              refine lv_iload hx hb dX4_turnRow_75 (lv_at hl 5 rfl) ?_
              refine lv_iload hx hb dX4_turnRow_77 (lv_at hl 0 rfl) ?_
              refine lv_iadd hx hb dX4_turnRow_79 ?_
              refine lv_topi (fun y45 ey45 => ?_)
              obtain rfl : y45 = 6 := ey45.trans (by decide)
              refine va_ti hx hb aRG hS (vi_c (by decide +kernel)) rfl dX4_turnRow_80 ?_
              refine lv_topi (fun y46 ey46 => ?_)
              obtain rfl : y46 = 1 := ey46.trans (by decide)
              refine lv_iadd hx hb dX4_turnRow_81 ?_
              refine lv_topi (fun y47 ey47 => ?_)
              obtain rfl : y47 = nI (st + 1) := ey47.trans (nIst st 1 (by decide))
              refine lv_aload_n hx hb dX4_turnRow_82 rfl (lv_at hl 2 rfl) ?_
              refine lv_iload_n hx hb dX4_turnRow_83 rfl (lv_at hl 3 rfl) ?_
              refine va_gets hx hb zRG hS hown f_134 (fun _ h9 => h9) dX4_turnRow_84 ?_
              refine lv_iload hx hb dX4_turnRow_87 (lv_at hl 5 rfl) ?_
              refine lv_iload hx hb dX4_turnRow_89 (lv_at hl 0 rfl) ?_
              refine lv_iadd hx hb dX4_turnRow_91 ?_
              refine lv_topi (fun y48 ey48 => ?_)
              obtain rfl : y48 = 6 := ey48.trans (by decide)
              refine lv_iconst (v := 1) hx hb dX4_turnRow_92 (by decide) ?_
              refine lv_isub hx hb dX4_turnRow_93 ?_
              refine lv_topi (fun y49 ey49 => ?_)
              obtain rfl : y49 = 5 := ey49.trans (by decide)
              refine va_ti hx hb aRG hS (vi_c (by decide +kernel)) rfl dX4_turnRow_94 ?_
              refine lv_topi (fun y50 ey50 => ?_)
              obtain rfl : y50 = 2 := ey50.trans (by decide)
              refine lv_iadd hx hb dX4_turnRow_95 ?_
              refine lv_topi (fun y51 ey51 => ?_)
              obtain rfl : y51 = nI (st + 2) := ey51.trans (nIst st 2 (by decide))
              refine va_iald hx hb hK hP 0 0 rfl rfl (nI_in (by omega) hn) dX4_turnRow_96 ?_
              refine lv_topi (fun y52 ey52 => ?_)
              obtain rfl : y52 = (upd f1 (st + 3) (f1 (st + 1))) (st + 2) := ey52.trans (congrArg (upd f1 (st + 3) (f1 (st + 1))) (nI_clamp (by omega)))
              refine va_iast hx hb hK hP hD hS 0 0 rfl rfl (nI_in (by omega) hn) dX4_turnRow_97 (fun H locs hP hD hS => ?_)
              rw [show (nI (st + 1)).toNatClampNeg = st + 1 from nI_clamp (by omega)] at hP hD
              have hP : va_P D vwCl [(a, .inl (cy 0, n, .inl (upd (upd f1 (st + 3) (f1 (st + 1))) (st + 1) ((upd f1 (st + 3) (f1 (st + 1))) (st + 2)))))] H := hP
              have hD : va_D A [(a, .inl (cy 0, n, .inl (upd (upd f1 (st + 3) (f1 (st + 1))) (st + 1) ((upd f1 (st + 3) (f1 (st + 1))) (st + 2)))))] := hD
              refine lv_iinc (v := 1) (lv' := [(9, .int 1), (8, .int (f1 (st + 3))), (0, .ref a), (1, .int (nI st)), (5, .int (nI S)), (6, .int 4), (7, .int (nI k))]) hx hb dX4_turnRow_98 hl (k := 0) rfl (by decide) (by decide) rfl (fun ls hl => ?_)
              refine lv_goto (tgt := 65) hx hb dX4_turnRow_101 (by decide) ?_
              refine lv_iload hx hb dX4_turnRow_65 (lv_at hl 0 rfl) ?_
              refine lv_if_le (tgt := 104) hx hb dX4_turnRow_67 (by decide) (fun c_67 => ?_) (fun c_67 => ?_)
              · exact absurd c_67 (by decide)
              · refine lv_aload_n hx hb dX4_turnRow_70 rfl (lv_at hl 2 rfl) ?_
                refine lv_iload_n hx hb dX4_turnRow_71 rfl (lv_at hl 3 rfl) ?_
                refine va_gets hx hb zRG hS hown f_134 (fun _ h9 => h9) dX4_turnRow_72 ?_
                refine lv_iload hx hb dX4_turnRow_75 (lv_at hl 5 rfl) ?_
                refine lv_iload hx hb dX4_turnRow_77 (lv_at hl 0 rfl) ?_
                refine lv_iadd hx hb dX4_turnRow_79 ?_
                refine lv_topi (fun y53 ey53 => ?_)
                obtain rfl : y53 = 5 := ey53.trans (by decide)
                refine va_ti hx hb aRG hS (vi_c (by decide +kernel)) rfl dX4_turnRow_80 ?_
                refine lv_topi (fun y54 ey54 => ?_)
                obtain rfl : y54 = 2 := ey54.trans (by decide)
                refine lv_iadd hx hb dX4_turnRow_81 ?_
                refine lv_topi (fun y55 ey55 => ?_)
                obtain rfl : y55 = nI (st + 2) := ey55.trans (nIst st 2 (by decide))
                refine lv_aload_n hx hb dX4_turnRow_82 rfl (lv_at hl 2 rfl) ?_
                refine lv_iload_n hx hb dX4_turnRow_83 rfl (lv_at hl 3 rfl) ?_
                refine va_gets hx hb zRG hS hown f_134 (fun _ h9 => h9) dX4_turnRow_84 ?_
                refine lv_iload hx hb dX4_turnRow_87 (lv_at hl 5 rfl) ?_
                refine lv_iload hx hb dX4_turnRow_89 (lv_at hl 0 rfl) ?_
                refine lv_iadd hx hb dX4_turnRow_91 ?_
                refine lv_topi (fun y56 ey56 => ?_)
                obtain rfl : y56 = 5 := ey56.trans (by decide)
                refine lv_iconst (v := 1) hx hb dX4_turnRow_92 (by decide) ?_
                refine lv_isub hx hb dX4_turnRow_93 ?_
                refine lv_topi (fun y57 ey57 => ?_)
                obtain rfl : y57 = 4 := ey57.trans (by decide)
                refine va_ti hx hb aRG hS (vi_c (by decide +kernel)) rfl dX4_turnRow_94 ?_
                refine lv_topi (fun y58 ey58 => ?_)
                obtain rfl : y58 = 0 := ey58.trans (by decide)
                refine lv_iadd hx hb dX4_turnRow_95 ?_
                refine lv_topi (fun y59 ey59 => ?_)
                obtain rfl : y59 = nI (st + 0) := ey59.trans (nIst st 0 (by decide))
                refine va_iald hx hb hK hP 0 0 rfl rfl (nI_in (by omega) hn) dX4_turnRow_96 ?_
                refine lv_topi (fun y60 ey60 => ?_)
                obtain rfl : y60 = (upd (upd f1 (st + 3) (f1 (st + 1))) (st + 1) ((upd f1 (st + 3) (f1 (st + 1))) (st + 2))) (st + 0) := ey60.trans (congrArg (upd (upd f1 (st + 3) (f1 (st + 1))) (st + 1) ((upd f1 (st + 3) (f1 (st + 1))) (st + 2))) (nI_clamp (by omega)))
                refine va_iast hx hb hK hP hD hS 0 0 rfl rfl (nI_in (by omega) hn) dX4_turnRow_97 (fun H locs hP hD hS => ?_)
                rw [show (nI (st + 2)).toNatClampNeg = st + 2 from nI_clamp (by omega)] at hP hD
                have hP : va_P D vwCl [(a, .inl (cy 0, n, .inl (upd (upd (upd f1 (st + 3) (f1 (st + 1))) (st + 1) ((upd f1 (st + 3) (f1 (st + 1))) (st + 2))) (st + 2) ((upd (upd f1 (st + 3) (f1 (st + 1))) (st + 1) ((upd f1 (st + 3) (f1 (st + 1))) (st + 2))) (st + 0)))))] H := hP
                have hD : va_D A [(a, .inl (cy 0, n, .inl (upd (upd (upd f1 (st + 3) (f1 (st + 1))) (st + 1) ((upd f1 (st + 3) (f1 (st + 1))) (st + 2))) (st + 2) ((upd (upd f1 (st + 3) (f1 (st + 1))) (st + 1) ((upd f1 (st + 3) (f1 (st + 1))) (st + 2))) (st + 0)))))] := hD
                refine lv_iinc (v := 0) (lv' := [(9, .int 0), (8, .int (f1 (st + 3))), (0, .ref a), (1, .int (nI st)), (5, .int (nI S)), (6, .int 4), (7, .int (nI k))]) hx hb dX4_turnRow_98 hl (k := 0) rfl (by decide) (by decide) rfl (fun ls hl => ?_)
                refine lv_goto (tgt := 65) hx hb dX4_turnRow_101 (by decide) ?_
                refine lv_iload hx hb dX4_turnRow_65 (lv_at hl 0 rfl) ?_
                refine lv_if_le (tgt := 104) hx hb dX4_turnRow_67 (by decide) (fun c_67 => ?_) (fun c_67 => ?_)
                · refine lv_aload_n hx hb dX4_turnRow_104 rfl (lv_at hl 2 rfl) ?_
                  refine lv_iload_n hx hb dX4_turnRow_105 rfl (lv_at hl 3 rfl) ?_
                  refine va_gets hx hb zRG hS hown f_134 (fun _ h9 => h9) dX4_turnRow_106 ?_
                  refine lv_iload hx hb dX4_turnRow_109 (lv_at hl 5 rfl) ?_
                  refine va_ti hx hb aRG hS (vi_c (by decide +kernel)) rfl dX4_turnRow_111 ?_
                  refine lv_topi (fun y61 ey61 => ?_)
                  obtain rfl : y61 = 0 := ey61.trans (by decide)
                  refine lv_iadd hx hb dX4_turnRow_112 ?_
                  refine lv_topi (fun y62 ey62 => ?_)
                  obtain rfl : y62 = nI (st + 0) := ey62.trans (nIst st 0 (by decide))
                  refine lv_iload hx hb dX4_turnRow_113 (lv_at hl 1 rfl) ?_
                  refine va_iast hx hb hK hP hD hS 0 0 rfl rfl (nI_in (by omega) hn) dX4_turnRow_115 (fun H locs hP hD hS => ?_)
                  rw [show (nI (st + 0)).toNatClampNeg = st + 0 from nI_clamp (by omega)] at hP hD
                  have hP : va_P D vwCl [(a, .inl (cy 0, n, .inl (upd (upd (upd (upd f1 (st + 3) (f1 (st + 1))) (st + 1) ((upd f1 (st + 3) (f1 (st + 1))) (st + 2))) (st + 2) ((upd (upd f1 (st + 3) (f1 (st + 1))) (st + 1) ((upd f1 (st + 3) (f1 (st + 1))) (st + 2))) (st + 0))) (st + 0) (f1 (st + 3)))))] H := hP
                  have hD : va_D A [(a, .inl (cy 0, n, .inl (upd (upd (upd (upd f1 (st + 3) (f1 (st + 1))) (st + 1) ((upd f1 (st + 3) (f1 (st + 1))) (st + 2))) (st + 2) ((upd (upd f1 (st + 3) (f1 (st + 1))) (st + 1) ((upd f1 (st + 3) (f1 (st + 1))) (st + 2))) (st + 0))) (st + 0) (f1 (st + 3)))))] := hD
                  refine lv_iinc (v := nI (k + 1)) (lv' := [(7, .int (nI (k + 1))), (9, .int 0), (8, .int (f1 (st + 3))), (0, .ref a), (1, .int (nI st)), (5, .int (nI S)), (6, .int 4)]) hx hb dX4_turnRow_116 hl (k := 6) rfl ((nI_succ k).symm) (by decide) rfl (fun ls hl => ?_)
                  refine lv_goto (tgt := 39) hx hb dX4_turnRow_119 (by decide) ?_
                  exact ih_39 S 4 (k + 1) (upd (upd (upd (upd f1 (st + 3) (f1 (st + 1))) (st + 1) ((upd f1 (st + 3) (f1 (st + 1))) (st + 2))) (st + 2) ((upd (upd f1 (st + 3) (f1 (st + 1))) (st + 1) ((upd f1 (st + 3) (f1 (st + 1))) (st + 2))) (st + 0))) (st + 0) (f1 (st + 3))) hrg0 hS9 (by omega) (by show _ = rotR 4 st (itN (rotR 4 st) k f); rw [← hf]; exact (if_neg (by decide)).symm) hfin (by omega) _ _ _ (hP.sub [0] rfl) (hD.sub [0] (by decide +kernel) rfl) hS (lv_sub hl [3, 4, 5, 6, 0] rfl)
                · exact absurd c_67 (by decide)
  rcases t4 ht with rfl | rfl | rfl | rfl
  · have hl : lv_has ls 10 [(0, .ref a), (1, .int (nI st)), (2, .int kd), (3, .int 0)] := hl
    refine lv_iload_n hx hb dX4_turnRow_0 rfl (lv_at hl 2 rfl) ?_
    refine lv_iconst (v := 4) hx hb dX4_turnRow_1 (by decide) ?_
    refine lv_icmp_ne (tgt := 9) hx hb dX4_turnRow_2 (by decide) (fun c_2 => ?_) (fun c_2 => ?_)
    · refine lv_iconst (v := 1) hx hb dX4_turnRow_9 (by decide) ?_
      refine lv_istore (lv' := [(4, .int 1), (0, .ref a), (1, .int (nI st)), (2, .int kd), (3, .int 0)]) hx hb dX4_turnRow_10 hl (by decide) rfl (fun ls hl => ?_)
      refine lv_iload_n hx hb dX4_turnRow_12 rfl (lv_at hl 4 rfl) ?_
      refine lv_iconst (v := 2) hx hb dX4_turnRow_13 (by decide) ?_
      refine lv_irem hx hb dX4_turnRow_14 (by decide) ?_
      refine lv_topi (fun y63 ey63 => ?_)
      obtain rfl : y63 = 0 := ey63.trans (by decide)
      refine lv_if_ne (tgt := 23) hx hb dX4_turnRow_15 (by decide) (fun c_15 => ?_) (fun c_15 => ?_)
      · exact absurd c_15 (by decide)
      · refine lv_iload hx hb dX4_turnRow_18 (lv_at hl 0 rfl) ?_
        refine lv_goto (tgt := 27) hx hb dX4_turnRow_20 (by decide) ?_
        refine lv_istore (lv' := [(5, .int 1), (4, .int 1), (0, .ref a), (1, .int (nI st)), (2, .int kd), (3, .int 0)]) hx hb dX4_turnRow_27 hl (by decide) rfl (fun ls hl => ?_)
        refine lv_iload_n hx hb dX4_turnRow_29 rfl (lv_at hl 5 rfl) ?_
        refine lv_iconst (v := 2) hx hb dX4_turnRow_30 (by decide) ?_
        refine lv_idiv hx hb dX4_turnRow_31 (by decide) ?_
        refine lv_topi (fun y64 ey64 => ?_)
        obtain rfl : y64 = 0 := ey64.trans (by decide)
        refine lv_iconst (v := 4) hx hb dX4_turnRow_32 (by decide) ?_
        refine lv_imul hx hb dX4_turnRow_33 ?_
        refine lv_topi (fun y65 ey65 => ?_)
        obtain rfl : y65 = 0 := ey65.trans (by decide)
        refine lv_istore (lv' := [(6, .int 0), (5, .int 1), (4, .int 1), (0, .ref a), (1, .int (nI st)), (2, .int kd), (3, .int 0)]) hx hb dX4_turnRow_34 hl (by decide) rfl (fun ls hl => ?_)
        refine lv_iconst (v := 0) hx hb dX4_turnRow_36 (by decide) ?_
        refine lv_istore (lv' := [(7, .int 0), (6, .int 0), (5, .int 1), (4, .int 1), (0, .ref a), (1, .int (nI st)), (2, .int kd), (3, .int 0)]) hx hb dX4_turnRow_37 hl (by decide) rfl (fun ls hl => ?_)
        exact lp_39 4 1 0 0 f (by decide) (by decide) (by decide) rfl (congrArg (fun z => itN (rotR 0 st) z f) (show 1 = tr_n kd 0 from (if_neg c_2).symm)) (by omega) _ _ _ (hP.sub [0] rfl) (hD.sub [0] (by decide +kernel) rfl) hS (lv_sub hl [4, 5, 2, 1, 0] rfl)
    · refine lv_iconst (v := 2) hx hb dX4_turnRow_5 (by decide) ?_
      refine lv_goto (tgt := 10) hx hb dX4_turnRow_6 (by decide) ?_
      refine lv_istore (lv' := [(4, .int 2), (0, .ref a), (1, .int (nI st)), (2, .int kd), (3, .int 0)]) hx hb dX4_turnRow_10 hl (by decide) rfl (fun ls hl => ?_)
      refine lv_iload_n hx hb dX4_turnRow_12 rfl (lv_at hl 4 rfl) ?_
      refine lv_iconst (v := 2) hx hb dX4_turnRow_13 (by decide) ?_
      refine lv_irem hx hb dX4_turnRow_14 (by decide) ?_
      refine lv_topi (fun y66 ey66 => ?_)
      obtain rfl : y66 = 0 := ey66.trans (by decide)
      refine lv_if_ne (tgt := 23) hx hb dX4_turnRow_15 (by decide) (fun c_15 => ?_) (fun c_15 => ?_)
      · exact absurd c_15 (by decide)
      · refine lv_iload hx hb dX4_turnRow_18 (lv_at hl 0 rfl) ?_
        refine lv_goto (tgt := 27) hx hb dX4_turnRow_20 (by decide) ?_
        refine lv_istore (lv' := [(5, .int 2), (4, .int 2), (0, .ref a), (1, .int (nI st)), (2, .int kd), (3, .int 0)]) hx hb dX4_turnRow_27 hl (by decide) rfl (fun ls hl => ?_)
        refine lv_iload_n hx hb dX4_turnRow_29 rfl (lv_at hl 5 rfl) ?_
        refine lv_iconst (v := 2) hx hb dX4_turnRow_30 (by decide) ?_
        refine lv_idiv hx hb dX4_turnRow_31 (by decide) ?_
        refine lv_topi (fun y67 ey67 => ?_)
        obtain rfl : y67 = 0 := ey67.trans (by decide)
        refine lv_iconst (v := 4) hx hb dX4_turnRow_32 (by decide) ?_
        refine lv_imul hx hb dX4_turnRow_33 ?_
        refine lv_topi (fun y68 ey68 => ?_)
        obtain rfl : y68 = 0 := ey68.trans (by decide)
        refine lv_istore (lv' := [(6, .int 0), (5, .int 2), (4, .int 2), (0, .ref a), (1, .int (nI st)), (2, .int kd), (3, .int 0)]) hx hb dX4_turnRow_34 hl (by decide) rfl (fun ls hl => ?_)
        refine lv_iconst (v := 0) hx hb dX4_turnRow_36 (by decide) ?_
        refine lv_istore (lv' := [(7, .int 0), (6, .int 0), (5, .int 2), (4, .int 2), (0, .ref a), (1, .int (nI st)), (2, .int kd), (3, .int 0)]) hx hb dX4_turnRow_37 hl (by decide) rfl (fun ls hl => ?_)
        exact lp_39 4 2 0 0 f (by decide) (by decide) (by decide) rfl (congrArg (fun z => itN (rotR 0 st) z f) (show 2 = tr_n kd 0 from (if_pos c_2).symm)) (by omega) _ _ _ (hP.sub [0] rfl) (hD.sub [0] (by decide +kernel) rfl) hS (lv_sub hl [4, 5, 2, 1, 0] rfl)
  · have hl : lv_has ls 10 [(0, .ref a), (1, .int (nI st)), (2, .int kd), (3, .int 1)] := hl
    refine lv_iload_n hx hb dX4_turnRow_0 rfl (lv_at hl 2 rfl) ?_
    refine lv_iconst (v := 4) hx hb dX4_turnRow_1 (by decide) ?_
    refine lv_icmp_ne (tgt := 9) hx hb dX4_turnRow_2 (by decide) (fun c_2 => ?_) (fun c_2 => ?_)
    · refine lv_iconst (v := 1) hx hb dX4_turnRow_9 (by decide) ?_
      refine lv_istore (lv' := [(4, .int 1), (0, .ref a), (1, .int (nI st)), (2, .int kd), (3, .int 1)]) hx hb dX4_turnRow_10 hl (by decide) rfl (fun ls hl => ?_)
      refine lv_iload_n hx hb dX4_turnRow_12 rfl (lv_at hl 4 rfl) ?_
      refine lv_iconst (v := 2) hx hb dX4_turnRow_13 (by decide) ?_
      refine lv_irem hx hb dX4_turnRow_14 (by decide) ?_
      refine lv_topi (fun y69 ey69 => ?_)
      obtain rfl : y69 = 1 := ey69.trans (by decide)
      refine lv_if_ne (tgt := 23) hx hb dX4_turnRow_15 (by decide) (fun c_15 => ?_) (fun c_15 => ?_)
      · refine lv_iconst (v := 4) hx hb dX4_turnRow_23 (by decide) ?_
        refine lv_iload hx hb dX4_turnRow_24 (lv_at hl 0 rfl) ?_
        refine lv_isub hx hb dX4_turnRow_26 ?_
        refine lv_topi (fun y70 ey70 => ?_)
        obtain rfl : y70 = 3 := ey70.trans (by decide)
        refine lv_istore (lv' := [(5, .int 3), (4, .int 1), (0, .ref a), (1, .int (nI st)), (2, .int kd), (3, .int 1)]) hx hb dX4_turnRow_27 hl (by decide) rfl (fun ls hl => ?_)
        refine lv_iload_n hx hb dX4_turnRow_29 rfl (lv_at hl 5 rfl) ?_
        refine lv_iconst (v := 2) hx hb dX4_turnRow_30 (by decide) ?_
        refine lv_idiv hx hb dX4_turnRow_31 (by decide) ?_
        refine lv_topi (fun y71 ey71 => ?_)
        obtain rfl : y71 = 0 := ey71.trans (by decide)
        refine lv_iconst (v := 4) hx hb dX4_turnRow_32 (by decide) ?_
        refine lv_imul hx hb dX4_turnRow_33 ?_
        refine lv_topi (fun y72 ey72 => ?_)
        obtain rfl : y72 = 0 := ey72.trans (by decide)
        refine lv_istore (lv' := [(6, .int 0), (5, .int 3), (4, .int 1), (0, .ref a), (1, .int (nI st)), (2, .int kd), (3, .int 1)]) hx hb dX4_turnRow_34 hl (by decide) rfl (fun ls hl => ?_)
        refine lv_iconst (v := 0) hx hb dX4_turnRow_36 (by decide) ?_
        refine lv_istore (lv' := [(7, .int 0), (6, .int 0), (5, .int 3), (4, .int 1), (0, .ref a), (1, .int (nI st)), (2, .int kd), (3, .int 1)]) hx hb dX4_turnRow_37 hl (by decide) rfl (fun ls hl => ?_)
        exact lp_39 4 3 0 0 f (by decide) (by decide) (by decide) rfl (congrArg (fun z => itN (rotR 0 st) z f) (show 3 = tr_n kd 1 from (if_neg c_2).symm)) (by omega) _ _ _ (hP.sub [0] rfl) (hD.sub [0] (by decide +kernel) rfl) hS (lv_sub hl [4, 5, 2, 1, 0] rfl)
      · exact absurd c_15 (by decide)
    · refine lv_iconst (v := 2) hx hb dX4_turnRow_5 (by decide) ?_
      refine lv_goto (tgt := 10) hx hb dX4_turnRow_6 (by decide) ?_
      refine lv_istore (lv' := [(4, .int 2), (0, .ref a), (1, .int (nI st)), (2, .int kd), (3, .int 1)]) hx hb dX4_turnRow_10 hl (by decide) rfl (fun ls hl => ?_)
      refine lv_iload_n hx hb dX4_turnRow_12 rfl (lv_at hl 4 rfl) ?_
      refine lv_iconst (v := 2) hx hb dX4_turnRow_13 (by decide) ?_
      refine lv_irem hx hb dX4_turnRow_14 (by decide) ?_
      refine lv_topi (fun y73 ey73 => ?_)
      obtain rfl : y73 = 1 := ey73.trans (by decide)
      refine lv_if_ne (tgt := 23) hx hb dX4_turnRow_15 (by decide) (fun c_15 => ?_) (fun c_15 => ?_)
      · refine lv_iconst (v := 4) hx hb dX4_turnRow_23 (by decide) ?_
        refine lv_iload hx hb dX4_turnRow_24 (lv_at hl 0 rfl) ?_
        refine lv_isub hx hb dX4_turnRow_26 ?_
        refine lv_topi (fun y74 ey74 => ?_)
        obtain rfl : y74 = 2 := ey74.trans (by decide)
        refine lv_istore (lv' := [(5, .int 2), (4, .int 2), (0, .ref a), (1, .int (nI st)), (2, .int kd), (3, .int 1)]) hx hb dX4_turnRow_27 hl (by decide) rfl (fun ls hl => ?_)
        refine lv_iload_n hx hb dX4_turnRow_29 rfl (lv_at hl 5 rfl) ?_
        refine lv_iconst (v := 2) hx hb dX4_turnRow_30 (by decide) ?_
        refine lv_idiv hx hb dX4_turnRow_31 (by decide) ?_
        refine lv_topi (fun y75 ey75 => ?_)
        obtain rfl : y75 = 0 := ey75.trans (by decide)
        refine lv_iconst (v := 4) hx hb dX4_turnRow_32 (by decide) ?_
        refine lv_imul hx hb dX4_turnRow_33 ?_
        refine lv_topi (fun y76 ey76 => ?_)
        obtain rfl : y76 = 0 := ey76.trans (by decide)
        refine lv_istore (lv' := [(6, .int 0), (5, .int 2), (4, .int 2), (0, .ref a), (1, .int (nI st)), (2, .int kd), (3, .int 1)]) hx hb dX4_turnRow_34 hl (by decide) rfl (fun ls hl => ?_)
        refine lv_iconst (v := 0) hx hb dX4_turnRow_36 (by decide) ?_
        refine lv_istore (lv' := [(7, .int 0), (6, .int 0), (5, .int 2), (4, .int 2), (0, .ref a), (1, .int (nI st)), (2, .int kd), (3, .int 1)]) hx hb dX4_turnRow_37 hl (by decide) rfl (fun ls hl => ?_)
        exact lp_39 4 2 0 0 f (by decide) (by decide) (by decide) rfl (congrArg (fun z => itN (rotR 0 st) z f) (show 2 = tr_n kd 1 from (if_pos c_2).symm)) (by omega) _ _ _ (hP.sub [0] rfl) (hD.sub [0] (by decide +kernel) rfl) hS (lv_sub hl [4, 5, 2, 1, 0] rfl)
      · exact absurd c_15 (by decide)
  · have hl : lv_has ls 10 [(0, .ref a), (1, .int (nI st)), (2, .int kd), (3, .int 2)] := hl
    refine lv_iload_n hx hb dX4_turnRow_0 rfl (lv_at hl 2 rfl) ?_
    refine lv_iconst (v := 4) hx hb dX4_turnRow_1 (by decide) ?_
    refine lv_icmp_ne (tgt := 9) hx hb dX4_turnRow_2 (by decide) (fun c_2 => ?_) (fun c_2 => ?_)
    · refine lv_iconst (v := 1) hx hb dX4_turnRow_9 (by decide) ?_
      refine lv_istore (lv' := [(4, .int 1), (0, .ref a), (1, .int (nI st)), (2, .int kd), (3, .int 2)]) hx hb dX4_turnRow_10 hl (by decide) rfl (fun ls hl => ?_)
      refine lv_iload_n hx hb dX4_turnRow_12 rfl (lv_at hl 4 rfl) ?_
      refine lv_iconst (v := 2) hx hb dX4_turnRow_13 (by decide) ?_
      refine lv_irem hx hb dX4_turnRow_14 (by decide) ?_
      refine lv_topi (fun y77 ey77 => ?_)
      obtain rfl : y77 = 0 := ey77.trans (by decide)
      refine lv_if_ne (tgt := 23) hx hb dX4_turnRow_15 (by decide) (fun c_15 => ?_) (fun c_15 => ?_)
      · exact absurd c_15 (by decide)
      · refine lv_iload hx hb dX4_turnRow_18 (lv_at hl 0 rfl) ?_
        refine lv_goto (tgt := 27) hx hb dX4_turnRow_20 (by decide) ?_
        refine lv_istore (lv' := [(5, .int 1), (4, .int 1), (0, .ref a), (1, .int (nI st)), (2, .int kd), (3, .int 2)]) hx hb dX4_turnRow_27 hl (by decide) rfl (fun ls hl => ?_)
        refine lv_iload_n hx hb dX4_turnRow_29 rfl (lv_at hl 5 rfl) ?_
        refine lv_iconst (v := 2) hx hb dX4_turnRow_30 (by decide) ?_
        refine lv_idiv hx hb dX4_turnRow_31 (by decide) ?_
        refine lv_topi (fun y78 ey78 => ?_)
        obtain rfl : y78 = 1 := ey78.trans (by decide)
        refine lv_iconst (v := 4) hx hb dX4_turnRow_32 (by decide) ?_
        refine lv_imul hx hb dX4_turnRow_33 ?_
        refine lv_topi (fun y79 ey79 => ?_)
        obtain rfl : y79 = 4 := ey79.trans (by decide)
        refine lv_istore (lv' := [(6, .int 4), (5, .int 1), (4, .int 1), (0, .ref a), (1, .int (nI st)), (2, .int kd), (3, .int 2)]) hx hb dX4_turnRow_34 hl (by decide) rfl (fun ls hl => ?_)
        refine lv_iconst (v := 0) hx hb dX4_turnRow_36 (by decide) ?_
        refine lv_istore (lv' := [(7, .int 0), (6, .int 4), (5, .int 1), (4, .int 1), (0, .ref a), (1, .int (nI st)), (2, .int kd), (3, .int 2)]) hx hb dX4_turnRow_37 hl (by decide) rfl (fun ls hl => ?_)
        exact lp_39 4 1 4 0 f (by decide) (by decide) (by decide) rfl (congrArg (fun z => itN (rotR 4 st) z f) (show 1 = tr_n kd 2 from (if_neg c_2).symm)) (by omega) _ _ _ (hP.sub [0] rfl) (hD.sub [0] (by decide +kernel) rfl) hS (lv_sub hl [4, 5, 2, 1, 0] rfl)
    · refine lv_iconst (v := 2) hx hb dX4_turnRow_5 (by decide) ?_
      refine lv_goto (tgt := 10) hx hb dX4_turnRow_6 (by decide) ?_
      refine lv_istore (lv' := [(4, .int 2), (0, .ref a), (1, .int (nI st)), (2, .int kd), (3, .int 2)]) hx hb dX4_turnRow_10 hl (by decide) rfl (fun ls hl => ?_)
      refine lv_iload_n hx hb dX4_turnRow_12 rfl (lv_at hl 4 rfl) ?_
      refine lv_iconst (v := 2) hx hb dX4_turnRow_13 (by decide) ?_
      refine lv_irem hx hb dX4_turnRow_14 (by decide) ?_
      refine lv_topi (fun y80 ey80 => ?_)
      obtain rfl : y80 = 0 := ey80.trans (by decide)
      refine lv_if_ne (tgt := 23) hx hb dX4_turnRow_15 (by decide) (fun c_15 => ?_) (fun c_15 => ?_)
      · exact absurd c_15 (by decide)
      · refine lv_iload hx hb dX4_turnRow_18 (lv_at hl 0 rfl) ?_
        refine lv_goto (tgt := 27) hx hb dX4_turnRow_20 (by decide) ?_
        refine lv_istore (lv' := [(5, .int 2), (4, .int 2), (0, .ref a), (1, .int (nI st)), (2, .int kd), (3, .int 2)]) hx hb dX4_turnRow_27 hl (by decide) rfl (fun ls hl => ?_)
        refine lv_iload_n hx hb dX4_turnRow_29 rfl (lv_at hl 5 rfl) ?_
        refine lv_iconst (v := 2) hx hb dX4_turnRow_30 (by decide) ?_
        refine lv_idiv hx hb dX4_turnRow_31 (by decide) ?_
        refine lv_topi (fun y81 ey81 => ?_)
        obtain rfl : y81 = 1 := ey81.trans (by decide)
        refine lv_iconst (v := 4) hx hb dX4_turnRow_32 (by decide) ?_
        refine lv_imul hx hb dX4_turnRow_33 ?_
        refine lv_topi (fun y82 ey82 => ?_)
        obtain rfl : y82 = 4 := ey82.trans (by decide)
        refine lv_istore (lv' := [(6, .int 4), (5, .int 2), (4, .int 2), (0, .ref a), (1, .int (nI st)), (2, .int kd), (3, .int 2)]) hx hb dX4_turnRow_34 hl (by decide) rfl (fun ls hl => ?_)
        refine lv_iconst (v := 0) hx hb dX4_turnRow_36 (by decide) ?_
        refine lv_istore (lv' := [(7, .int 0), (6, .int 4), (5, .int 2), (4, .int 2), (0, .ref a), (1, .int (nI st)), (2, .int kd), (3, .int 2)]) hx hb dX4_turnRow_37 hl (by decide) rfl (fun ls hl => ?_)
        exact lp_39 4 2 4 0 f (by decide) (by decide) (by decide) rfl (congrArg (fun z => itN (rotR 4 st) z f) (show 2 = tr_n kd 2 from (if_pos c_2).symm)) (by omega) _ _ _ (hP.sub [0] rfl) (hD.sub [0] (by decide +kernel) rfl) hS (lv_sub hl [4, 5, 2, 1, 0] rfl)
  · have hl : lv_has ls 10 [(0, .ref a), (1, .int (nI st)), (2, .int kd), (3, .int 3)] := hl
    refine lv_iload_n hx hb dX4_turnRow_0 rfl (lv_at hl 2 rfl) ?_
    refine lv_iconst (v := 4) hx hb dX4_turnRow_1 (by decide) ?_
    refine lv_icmp_ne (tgt := 9) hx hb dX4_turnRow_2 (by decide) (fun c_2 => ?_) (fun c_2 => ?_)
    · refine lv_iconst (v := 1) hx hb dX4_turnRow_9 (by decide) ?_
      refine lv_istore (lv' := [(4, .int 1), (0, .ref a), (1, .int (nI st)), (2, .int kd), (3, .int 3)]) hx hb dX4_turnRow_10 hl (by decide) rfl (fun ls hl => ?_)
      refine lv_iload_n hx hb dX4_turnRow_12 rfl (lv_at hl 4 rfl) ?_
      refine lv_iconst (v := 2) hx hb dX4_turnRow_13 (by decide) ?_
      refine lv_irem hx hb dX4_turnRow_14 (by decide) ?_
      refine lv_topi (fun y83 ey83 => ?_)
      obtain rfl : y83 = 1 := ey83.trans (by decide)
      refine lv_if_ne (tgt := 23) hx hb dX4_turnRow_15 (by decide) (fun c_15 => ?_) (fun c_15 => ?_)
      · refine lv_iconst (v := 4) hx hb dX4_turnRow_23 (by decide) ?_
        refine lv_iload hx hb dX4_turnRow_24 (lv_at hl 0 rfl) ?_
        refine lv_isub hx hb dX4_turnRow_26 ?_
        refine lv_topi (fun y84 ey84 => ?_)
        obtain rfl : y84 = 3 := ey84.trans (by decide)
        refine lv_istore (lv' := [(5, .int 3), (4, .int 1), (0, .ref a), (1, .int (nI st)), (2, .int kd), (3, .int 3)]) hx hb dX4_turnRow_27 hl (by decide) rfl (fun ls hl => ?_)
        refine lv_iload_n hx hb dX4_turnRow_29 rfl (lv_at hl 5 rfl) ?_
        refine lv_iconst (v := 2) hx hb dX4_turnRow_30 (by decide) ?_
        refine lv_idiv hx hb dX4_turnRow_31 (by decide) ?_
        refine lv_topi (fun y85 ey85 => ?_)
        obtain rfl : y85 = 1 := ey85.trans (by decide)
        refine lv_iconst (v := 4) hx hb dX4_turnRow_32 (by decide) ?_
        refine lv_imul hx hb dX4_turnRow_33 ?_
        refine lv_topi (fun y86 ey86 => ?_)
        obtain rfl : y86 = 4 := ey86.trans (by decide)
        refine lv_istore (lv' := [(6, .int 4), (5, .int 3), (4, .int 1), (0, .ref a), (1, .int (nI st)), (2, .int kd), (3, .int 3)]) hx hb dX4_turnRow_34 hl (by decide) rfl (fun ls hl => ?_)
        refine lv_iconst (v := 0) hx hb dX4_turnRow_36 (by decide) ?_
        refine lv_istore (lv' := [(7, .int 0), (6, .int 4), (5, .int 3), (4, .int 1), (0, .ref a), (1, .int (nI st)), (2, .int kd), (3, .int 3)]) hx hb dX4_turnRow_37 hl (by decide) rfl (fun ls hl => ?_)
        exact lp_39 4 3 4 0 f (by decide) (by decide) (by decide) rfl (congrArg (fun z => itN (rotR 4 st) z f) (show 3 = tr_n kd 3 from (if_neg c_2).symm)) (by omega) _ _ _ (hP.sub [0] rfl) (hD.sub [0] (by decide +kernel) rfl) hS (lv_sub hl [4, 5, 2, 1, 0] rfl)
      · exact absurd c_15 (by decide)
    · refine lv_iconst (v := 2) hx hb dX4_turnRow_5 (by decide) ?_
      refine lv_goto (tgt := 10) hx hb dX4_turnRow_6 (by decide) ?_
      refine lv_istore (lv' := [(4, .int 2), (0, .ref a), (1, .int (nI st)), (2, .int kd), (3, .int 3)]) hx hb dX4_turnRow_10 hl (by decide) rfl (fun ls hl => ?_)
      refine lv_iload_n hx hb dX4_turnRow_12 rfl (lv_at hl 4 rfl) ?_
      refine lv_iconst (v := 2) hx hb dX4_turnRow_13 (by decide) ?_
      refine lv_irem hx hb dX4_turnRow_14 (by decide) ?_
      refine lv_topi (fun y87 ey87 => ?_)
      obtain rfl : y87 = 1 := ey87.trans (by decide)
      refine lv_if_ne (tgt := 23) hx hb dX4_turnRow_15 (by decide) (fun c_15 => ?_) (fun c_15 => ?_)
      · refine lv_iconst (v := 4) hx hb dX4_turnRow_23 (by decide) ?_
        refine lv_iload hx hb dX4_turnRow_24 (lv_at hl 0 rfl) ?_
        refine lv_isub hx hb dX4_turnRow_26 ?_
        refine lv_topi (fun y88 ey88 => ?_)
        obtain rfl : y88 = 2 := ey88.trans (by decide)
        refine lv_istore (lv' := [(5, .int 2), (4, .int 2), (0, .ref a), (1, .int (nI st)), (2, .int kd), (3, .int 3)]) hx hb dX4_turnRow_27 hl (by decide) rfl (fun ls hl => ?_)
        refine lv_iload_n hx hb dX4_turnRow_29 rfl (lv_at hl 5 rfl) ?_
        refine lv_iconst (v := 2) hx hb dX4_turnRow_30 (by decide) ?_
        refine lv_idiv hx hb dX4_turnRow_31 (by decide) ?_
        refine lv_topi (fun y89 ey89 => ?_)
        obtain rfl : y89 = 1 := ey89.trans (by decide)
        refine lv_iconst (v := 4) hx hb dX4_turnRow_32 (by decide) ?_
        refine lv_imul hx hb dX4_turnRow_33 ?_
        refine lv_topi (fun y90 ey90 => ?_)
        obtain rfl : y90 = 4 := ey90.trans (by decide)
        refine lv_istore (lv' := [(6, .int 4), (5, .int 2), (4, .int 2), (0, .ref a), (1, .int (nI st)), (2, .int kd), (3, .int 3)]) hx hb dX4_turnRow_34 hl (by decide) rfl (fun ls hl => ?_)
        refine lv_iconst (v := 0) hx hb dX4_turnRow_36 (by decide) ?_
        refine lv_istore (lv' := [(7, .int 0), (6, .int 4), (5, .int 2), (4, .int 2), (0, .ref a), (1, .int (nI st)), (2, .int kd), (3, .int 3)]) hx hb dX4_turnRow_37 hl (by decide) rfl (fun ls hl => ?_)
        exact lp_39 4 2 4 0 f (by decide) (by decide) (by decide) rfl (congrArg (fun z => itN (rotR 4 st) z f) (show 2 = tr_n kd 3 from (if_pos c_2).symm)) (by omega) _ _ _ (hP.sub [0] rfl) (hD.sub [0] (by decide +kernel) rfl) hS (lv_sub hl [4, 5, 2, 1, 0] rfl)
      · exact absurd c_15 (by decide)
