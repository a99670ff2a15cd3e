def q_X2_has (cy : Nat → ClassId) (h0 : Nat) (sz : Int32) (tn : Int32) (sn : Int32) (ar : Nat) (cu : Int32) : Int32 → va_W → Prop := fun (r : Int32) (u : va_W) => u = [(h0, .inr (2, [.int sz, .int tn, .int sn, .ref ar]))] ∧ r = (if ¬ cu < 0 ∧ ¬ sz ≤ cu ∧ ¬ 3 ≤ cu then 1 else 0)
set_option maxHeartbeats 4000000 in
set_option maxRecDepth 100000 in
theorem c_X2_has (l : Launch) (D : va_G) (cy : Nat → ClassId) (zz : Nat) (h0 : Nat) (sz : Int32) (tn : Int32) (sn : Int32) (ar : Nat) (cu : Int32) : Met l yX2_has wsX2_has ({ frames := 0, cells := 0, slots := 0, locals := 0 } : Room) (va_Pc [.ref h0, .int cu] (cpre D cy [(h0, .inr (2, [.int sz, .int tn, .int sn, .ref ar]))] zz)) (va_Qi (q_X2_has cy h0 sz tn sn ar cu) (cpost D (va_A [(h0, .inr (2, [.int sz, .int tn, .int sn, .ref ar]))] zz)) (va_A [(h0, .inr (2, [.int sz, .int tn, .int sn, .ref ar]))] zz)) 0 0 (va_A [(h0, .inr (2, [.int sz, .int tn, .int sn, .ref ar]))] zz) := by
  refine Met.ofW (cc := cX2_has) (maxL := 2) (ret := (some .boolean)) (by decide) rfl ?_
  intro p e s m args below meth c s₁ B hml hv
  obtain ⟨rfl, hsz, hP, hD0, hX⟩ := hv
  have hx := B.exec
  have hb := B.bytes
  have hr := B.returns
  have hts := atoms_spec (ws := wsX2_has) B.pre
  have hown : s.vm.findClass RX2 = some m.cls := findClass_of_methodNamed B.named
  have hlocks := B.notSynchronized
  subst hsz
  have hD := hD0.self (sz := s.heap.size)
  generalize hAe : va_A [(h0, .inr (2, [.int sz, .int tn, .int sn, .ref ar]))] s.heap.size = A at hD hX ⊢
  have hA : ∀ q : Nat, s.heap.size ≤ q → A q := fun q h => by rw [← hAe]; exact Or.inr h
  obtain ⟨H, hH⟩ : ∃ H : Heap, H = s.heap := ⟨_, rfl⟩
  have hS : va_S A s.heap H [] := hH ▸ va_S.rf
  have hK := hX.1
  have hP : va_P D vwCl [(h0, .inr (2, [.int sz, .int tn, .int sn, .ref ar]))] H := hH ▸ hP
  rw [← hH]
  have hw_X2 : ∀ w ∈ wsX20, w ∈ wsX2_has := chX2 (by decide +kernel)
  have f_18 := hts (.fieldLink RX2 18 "CubeTower$Tower" "size" "I") (inC wa_717 (by decide +kernel))
  have hl := lv_entry ([.ref h0, .int cu]) (n := 2) (Nat.le_of_ble_eq_true rfl)
  rw [lg_entry_eq]
  generalize (lg_sl ([.ref h0, .int cu]) ++ List.replicate (2 - (lg_sl ([.ref h0, .int cu])).length) Slot.unset).toArray = ls at hl ⊢
  have hl : lv_has ls 2 [(0, .ref h0), (1, .int cu)] := hl
  refine lv_iload_n hx hb dX2_has_0 rfl (lv_at hl 1 rfl) ?_
  refine lv_if_lt (tgt := 21) hx hb dX2_has_1 (by decide) (fun c_1 => ?_) (fun c_1 => ?_)
  · refine lv_iconst (v := 0) hx hb dX2_has_21 (by decide) ?_
    have hP9 := hP.sub (ws' := [(h0, .inr (2, [.int sz, .int tn, .int sn, .ref ar]))]) [0] rfl
    have hD9 := hD.sub (ws' := [(h0, .inr (2, [.int sz, .int tn, .int sn, .ref ar]))]) [0] (by decide +kernel) rfl
    exact W.zret (v := 0) hx hb hr (rfl) (fun t9 ht9 hW9 => ⟨⟨0, [(h0, .inr (2, [.int sz, .int tn, .int sn, .ref ar]))], rfl, ⟨rfl, (if_neg (fun h => h.1 c_1)).symm⟩, by rw [ht9]; exact hP9, hD9⟩, hS.F ht9⟩) hS.2.2 dX2_has_22
  · refine lv_iload_n hx hb dX2_has_4 rfl (lv_at hl 1 rfl) ?_
    refine lv_aload_n hx hb dX2_has_5 rfl (lv_at hl 0 rfl) ?_
    refine va_get (D := D) (ci := 2) (v := .int sz) (C := RX2) (T := TX2) (N := 4) hx hb hts hw_X2 hown hK hP 0 rfl rfl 0 (by decide) f_18 (fun _ h9 => h9) rfl dX2_has_6 ?_
    refine lv_icmp_ge (tgt := 21) hx hb dX2_has_9 (by decide) (fun c_9 => ?_) (fun c_9 => ?_)
    · refine lv_iconst (v := 0) hx hb dX2_has_21 (by decide) ?_
      have hP9 := hP.sub (ws' := [(h0, .inr (2, [.int sz, .int tn, .int sn, .ref ar]))]) [0] rfl
      have hD9 := hD.sub (ws' := [(h0, .inr (2, [.int sz, .int tn, .int sn, .ref ar]))]) [0] (by decide +kernel) rfl
      exact W.zret (v := 0) hx hb hr (rfl) (fun t9 ht9 hW9 => ⟨⟨0, [(h0, .inr (2, [.int sz, .int tn, .int sn, .ref ar]))], rfl, ⟨rfl, (if_neg (fun h => h.2.1 c_9)).symm⟩, by rw [ht9]; exact hP9, hD9⟩, hS.F ht9⟩) hS.2.2 dX2_has_22
    · refine lv_iload_n hx hb dX2_has_12 rfl (lv_at hl 1 rfl) ?_
      refine lv_iconst (v := 3) hx hb dX2_has_13 (by decide) ?_
      refine lv_icmp_ge (tgt := 21) hx hb dX2_has_14 (by decide) (fun c_14 => ?_) (fun c_14 => ?_)
      · refine lv_iconst (v := 0) hx hb dX2_has_21 (by decide) ?_
        have hP9 := hP.sub (ws' := [(h0, .inr (2, [.int sz, .int tn, .int sn, .ref ar]))]) [0] rfl
        have hD9 := hD.sub (ws' := [(h0, .inr (2, [.int sz, .int tn, .int sn, .ref ar]))]) [0] (by decide +kernel) rfl
        exact W.zret (v := 0) hx hb hr (rfl) (fun t9 ht9 hW9 => ⟨⟨0, [(h0, .inr (2, [.int sz, .int tn, .int sn, .ref ar]))], rfl, ⟨rfl, (if_neg (fun h => h.2.2 c_14)).symm⟩, by rw [ht9]; exact hP9, hD9⟩, hS.F ht9⟩) hS.2.2 dX2_has_22
      · refine lv_iconst (v := 1) hx hb dX2_has_17 (by decide) ?_
        refine lv_goto (tgt := 22) hx hb dX2_has_18 (by decide) ?_
        have hP9 := hP.sub (ws' := [(h0, .inr (2, [.int sz, .int tn, .int sn, .ref ar]))]) [0] rfl
        have hD9 := hD.sub (ws' := [(h0, .inr (2, [.int sz, .int tn, .int sn, .ref ar]))]) [0] (by decide +kernel) rfl
        exact W.zret (v := 1) hx hb hr (rfl) (fun t9 ht9 hW9 => ⟨⟨1, [(h0, .inr (2, [.int sz, .int tn, .int sn, .ref ar]))], rfl, ⟨rfl, (if_pos ⟨c_1, c_9, c_14⟩).symm⟩, by rw [ht9]; exact hP9, hD9⟩, hS.F ht9⟩) hS.2.2 dX2_has_22
def q_X4_letter (cy : Nat → ClassId) (h0 : Nat) (pg : Nat) (tr : Int32) (rp : Int32) (t0 : Nat) (t1 : Nat) (t2 : Nat) (sv : Nat) (sd : Int32) (lt : Nat) (f : Nat → Int32) (cu : Int32) : Int32 → va_W → Prop := fun (r : Int32) (u : va_W) => ∃ (l2 : Nat), ∃ (f2 : Nat → Int32), u = [(h0, .inr (4, [.ref pg, .int (nI l2), .int tr, .int rp, .ref t0, .ref t1, .ref t2, .ref sv, .int sd])), (pg, .inl (cy 0, 26, .inl f2))] ∧ (((cu < 32 ∨ ¬ cu ≤ 126) ∧ r = -102 ∧ l2 = lt ∧ f2 = f) ∨ (¬ (cu < 32 ∨ ¬ cu ≤ 126) ∧ lt = 26 ∧ r = -104 ∧ l2 = lt ∧ f2 = f) ∨ (¬ (cu < 32 ∨ ¬ cu ≤ 126) ∧ lt < 26 ∧ r = nI (lt + 1) ∧ l2 = lt + 1 ∧ f2 = upd f lt cu))
set_option maxHeartbeats 4000000 in
set_option maxRecDepth 100000 in
theorem c_X4_letter (l : Launch) (D : va_G) (cy : Nat → ClassId) (zz : Nat) (h0 : Nat) (pg : Nat) (tr : Int32) (rp : Int32) (t0 : Nat) (t1 : Nat) (t2 : Nat) (sv : Nat) (sd : Int32) (lt : Nat) (f : Nat → Int32) (cu : Int32) (hlt : lt ≤ 26) : Met l yX4_letter wsX4_letter ({ frames := 0, cells := 0, slots := 0, locals := 0 } : Room) (va_Pc [.ref h0, .int cu] (cpre D cy [(h0, .inr (4, [.ref pg, .int (nI lt), .int tr, .int rp, .ref t0, .ref t1, .ref t2, .ref sv, .int sd])), (pg, .inl (cy 0, 26, .inl f))] zz)) (va_Qi (q_X4_letter cy h0 pg tr rp t0 t1 t2 sv sd lt f cu) (cpost D (va_A [(h0, .inr (4, [.ref pg, .int (nI lt), .int tr, .int rp, .ref t0, .ref t1, .ref t2, .ref sv, .int sd])), (pg, .inl (cy 0, 26, .inl f))] zz)) (va_A [(h0, .inr (4, [.ref pg, .int (nI lt), .int tr, .int rp, .ref t0, .ref t1, .ref t2, .ref sv, .int sd])), (pg, .inl (cy 0, 26, .inl f))] zz)) 0 0 (va_A [(h0, .inr (4, [.ref pg, .int (nI lt), .int tr, .int rp, .ref t0, .ref t1, .ref t2, .ref sv, .int sd])), (pg, .inl (cy 0, 26, .inl f))] zz) := by
  refine Met.ofW (cc := cX4_letter) (maxL := 2) (ret := (some .int)) (by decide) rfl ?_
  intro p e s m args below meth c s₁ B hml hv
  obtain ⟨rfl, hsz, hP, hD0, hX⟩ := hv
  have hx := B.exec
  have hb := B.bytes
  have hr := B.returns
  have hts := atoms_spec (ws := wsX4_letter) B.pre
  have hown : s.vm.findClass RX4 = some m.cls := findClass_of_methodNamed B.named
  have hlocks := B.notSynchronized
  subst hsz
  have hD := hD0.self (sz := s.heap.size)
  generalize hAe : va_A [(h0, .inr (4, [.ref pg, .int (nI lt), .int tr, .int rp, .ref t0, .ref t1, .ref t2, .ref sv, .int sd])), (pg, .inl (cy 0, 26, .inl f))] s.heap.size = A at hD hX ⊢
  have hA : ∀ q : Nat, s.heap.size ≤ q → A q := fun q h => by rw [← hAe]; exact Or.inr h
  obtain ⟨H, hH⟩ : ∃ H : Heap, H = s.heap := ⟨_, rfl⟩
  have hS : va_S A s.heap H [] := hH ▸ va_S.rf
  have hK := hX.1
  have hP : va_P D vwCl [(h0, .inr (4, [.ref pg, .int (nI lt), .int tr, .int rp, .ref t0, .ref t1, .ref t2, .ref sv, .int sd])), (pg, .inl (cy 0, 26, .inl f))] H := hH ▸ hP
  rw [← hH]
  have hw_X4 : ∀ w ∈ wsX40, w ∈ wsX4_letter := chX4 (by decide +kernel)
  have f_33 := hts (.fieldLink RX4 33 "CubeTower" "letters" "I") (inC wa_262 (by decide +kernel))
  have f_9 := hts (.fieldLink RX4 9 "CubeTower" "page" "[I") (inC wa_13 (by decide +kernel))
  have hl := lv_entry ([.ref h0, .int cu]) (n := 2) (Nat.le_of_ble_eq_true rfl)
  rw [lg_entry_eq]
  generalize (lg_sl ([.ref h0, .int cu]) ++ List.replicate (2 - (lg_sl ([.ref h0, .int cu])).length) Slot.unset).toArray = ls at hl ⊢
  have hl : lv_has ls 2 [(0, .ref h0), (1, .int cu)] := hl
  refine lv_iload_n hx hb dX4_letter_0 rfl (lv_at hl 1 rfl) ?_
  refine lv_bipush (v := 32) hx hb dX4_letter_1 (by decide) ?_
  refine lv_icmp_lt (tgt := 12) hx hb dX4_letter_3 (by decide) (fun c_3 => ?_) (fun c_3 => ?_)
  · refine lv_bipush (v := (-102)) hx hb dX4_letter_12 (by decide) ?_
    have hP9 := hP.sub (ws' := [(h0, .inr (4, [.ref pg, .int (nI lt), .int tr, .int rp, .ref t0, .ref t1, .ref t2, .ref sv, .int sd])), (pg, .inl (cy 0, 26, .inl f))]) [0, 1] rfl
    have hD9 := hD.sub (ws' := [(h0, .inr (4, [.ref pg, .int (nI lt), .int tr, .int rp, .ref t0, .ref t1, .ref t2, .ref sv, .int sd])), (pg, .inl (cy 0, 26, .inl f))]) [0, 1] (by decide +kernel) rfl
    exact W.iret (v := (-102)) hx hb hr (fun t9 ht9 hW9 => ⟨⟨(-102), [(h0, .inr (4, [.ref pg, .int (nI lt), .int tr, .int rp, .ref t0, .ref t1, .ref t2, .ref sv, .int sd])), (pg, .inl (cy 0, 26, .inl f))], rfl, ⟨lt, f, rfl, (Or.inl ⟨Or.inl c_3, rfl, rfl, rfl⟩)⟩, by rw [ht9]; exact hP9, hD9⟩, hS.F ht9⟩) hS.2.2 dX4_letter_14
  · refine lv_iload_n hx hb dX4_letter_6 rfl (lv_at hl 1 rfl) ?_
    refine lv_bipush (v := 126) hx hb dX4_letter_7 (by decide) ?_
    refine lv_icmp_le (tgt := 15) hx hb dX4_letter_9 (by decide) (fun c_9 => ?_) (fun c_9 => ?_)
    · refine lv_aload_n hx hb dX4_letter_15 rfl (lv_at hl 0 rfl) ?_
      refine va_get (D := D) (ci := 4) (v := .int (nI lt)) (C := RX4) (T := TX4) (N := 9) hx hb hts hw_X4 hown hK hP 0 rfl rfl 1 (by decide) f_33 (fun _ h9 => h9) rfl dX4_letter_16 ?_
      refine lv_bipush (v := 26) hx hb dX4_letter_19 (by decide) ?_
      refine lv_icmp_lt (tgt := 27) hx hb dX4_letter_21 (by decide) (fun c_21 => ?_) (fun c_21 => ?_)
      · have hl6 : lt < 26 := nI_ltN (b := 26) (by omega) (Int32.not_le.mpr c_21)
        refine lv_aload_n hx hb dX4_letter_27 rfl (lv_at hl 0 rfl) ?_
        refine va_get (D := D) (ci := 4) (v := .ref pg) (C := RX4) (T := TX4) (N := 9) hx hb hts hw_X4 hown hK hP 0 rfl rfl 0 (by decide) f_9 (fun _ h9 => h9) rfl dX4_letter_28 ?_
        refine lv_aload_n hx hb dX4_letter_31 rfl (lv_at hl 0 rfl) ?_
        refine va_get (D := D) (ci := 4) (v := .int (nI lt)) (C := RX4) (T := TX4) (N := 9) hx hb hts hw_X4 hown hK hP 0 rfl rfl 1 (by decide) f_33 (fun _ h9 => h9) rfl dX4_letter_32 ?_
        refine lv_iload_n hx hb dX4_letter_35 rfl (lv_at hl 1 rfl) ?_
        refine va_iast hx hb hK hP hD hS 1 0 rfl rfl (nI_in (by omega) (by decide)) dX4_letter_36 (fun H locs hP hD hS => ?_)
        rw [show (nI lt).toNatClampNeg = lt from nI_clamp (by omega)] at hP hD
        have hP : va_P D vwCl [(h0, .inr (4, [.ref pg, .int (nI lt), .int tr, .int rp, .ref t0, .ref t1, .ref t2, .ref sv, .int sd])), (pg, .inl (cy 0, 26, .inl (upd f lt cu)))] H := hP
        have hD : va_D A [(h0, .inr (4, [.ref pg, .int (nI lt), .int tr, .int rp, .ref t0, .ref t1, .ref t2, .ref sv, .int sd])), (pg, .inl (cy 0, 26, .inl (upd f lt cu)))] := hD
        refine lv_aload_n hx hb dX4_letter_37 rfl (lv_at hl 0 rfl) ?_
        refine lv_dup hx hb dX4_letter_38 rfl ?_
        refine va_get (D := D) (ci := 4) (v := .int (nI lt)) (C := RX4) (T := TX4) (N := 9) hx hb hts hw_X4 hown hK hP 0 rfl rfl 1 (by decide) f_33 (fun _ h9 => h9) rfl dX4_letter_39 ?_
        refine lv_iconst (v := 1) hx hb dX4_letter_42 (by decide) ?_
        refine lv_iadd hx hb dX4_letter_43 ?_
        refine lv_topi (fun y1 ey1 => ?_)
        obtain rfl : y1 = nI (lt + 1) := ey1.trans ((nI_succ lt).symm)
        refine va_put (D := D) (ci := 4) (v := .int (nI (lt + 1))) (ty := .int) (C := RX4) (T := TX4) (N := 9) hx hb hts hw_X4 tyX4 tyX4_ok nmX4 hown hK hP hD hS 0 rfl rfl 1 (by decide) f_33 (fun _ h9 => h9) rfl (tyX4_ok 1 (by decide)) rfl rfl (Nat.le_of_ble_eq_true rfl) dX4_letter_44 (fun H locs hP hD hS => ?_)
        have hP : va_P D vwCl [(h0, .inr (4, [.ref pg, .int (nI (lt + 1)), .int tr, .int rp, .ref t0, .ref t1, .ref t2, .ref sv, .int sd])), (pg, .inl (cy 0, 26, .inl (upd f lt cu)))] H := hP
        have hD : va_D A [(h0, .inr (4, [.ref pg, .int (nI (lt + 1)), .int tr, .int rp, .ref t0, .ref t1, .ref t2, .ref sv, .int sd])), (pg, .inl (cy 0, 26, .inl (upd f lt cu)))] := hD
        refine lv_aload_n hx hb dX4_letter_47 rfl (lv_at hl 0 rfl) ?_
        refine va_get (D := D) (ci := 4) (v := .int (nI (lt + 1))) (C := RX4) (T := TX4) (N := 9) hx hb hts hw_X4 hown hK hP 0 rfl rfl 1 (by decide) f_33 (fun _ h9 => h9) rfl dX4_letter_48 ?_
        have hP9 := hP.sub (ws' := [(h0, .inr (4, [.ref pg, .int (nI (lt + 1)), .int tr, .int rp, .ref t0, .ref t1, .ref t2, .ref sv, .int sd])), (pg, .inl (cy 0, 26, .inl (upd f lt cu)))]) [0, 1] rfl
        have hD9 := hD.sub (ws' := [(h0, .inr (4, [.ref pg, .int (nI (lt + 1)), .int tr, .int rp, .ref t0, .ref t1, .ref t2, .ref sv, .int sd])), (pg, .inl (cy 0, 26, .inl (upd f lt cu)))]) [0, 1] (by decide +kernel) rfl
        exact W.iret (v := nI (lt + 1)) hx hb hr (fun t9 ht9 hW9 => ⟨⟨nI (lt + 1), [(h0, .inr (4, [.ref pg, .int (nI (lt + 1)), .int tr, .int rp, .ref t0, .ref t1, .ref t2, .ref sv, .int sd])), (pg, .inl (cy 0, 26, .inl (upd f lt cu)))], rfl, ⟨(lt + 1), (upd f lt cu), rfl, (Or.inr (Or.inr ⟨fun h => h.elim c_3 (fun q => q c_9), hl6, rfl, rfl, rfl⟩))⟩, by rw [ht9]; exact hP9, hD9⟩, hS.F ht9⟩) hS.2.2 dX4_letter_51
      · have hl6 : 26 ≤ lt := nI_leN (b := 26) (by decide) (Int32.not_lt.mp c_21)
        refine lv_bipush (v := (-104)) hx hb dX4_letter_24 (by decide) ?_
        have hP9 := hP.sub (ws' := [(h0, .inr (4, [.ref pg, .int (nI lt), .int tr, .int rp, .ref t0, .ref t1, .ref t2, .ref sv, .int sd])), (pg, .inl (cy 0, 26, .inl f))]) [0, 1] rfl
        have hD9 := hD.sub (ws' := [(h0, .inr (4, [.ref pg, .int (nI lt), .int tr, .int rp, .ref t0, .ref t1, .ref t2, .ref sv, .int sd])), (pg, .inl (cy 0, 26, .inl f))]) [0, 1] (by decide +kernel) rfl
        exact W.iret (v := (-104)) hx hb hr (fun t9 ht9 hW9 => ⟨⟨(-104), [(h0, .inr (4, [.ref pg, .int (nI lt), .int tr, .int rp, .ref t0, .ref t1, .ref t2, .ref sv, .int sd])), (pg, .inl (cy 0, 26, .inl f))], rfl, ⟨lt, f, rfl, (Or.inr (Or.inl ⟨fun h => h.elim c_3 (fun q => q c_9), by omega, rfl, rfl, rfl⟩))⟩, by rw [ht9]; exact hP9, hD9⟩, hS.F ht9⟩) hS.2.2 dX4_letter_26
    · refine lv_bipush (v := (-102)) hx hb dX4_letter_12 (by decide) ?_
      have hP9 := hP.sub (ws' := [(h0, .inr (4, [.ref pg, .int (nI lt), .int tr, .int rp, .ref t0, .ref t1, .ref t2, .ref sv, .int sd])), (pg, .inl (cy 0, 26, .inl f))]) [0, 1] rfl
      have hD9 := hD.sub (ws' := [(h0, .inr (4, [.ref pg, .int (nI lt), .int tr, .int rp, .ref t0, .ref t1, .ref t2, .ref sv, .int sd])), (pg, .inl (cy 0, 26, .inl f))]) [0, 1] (by decide +kernel) rfl
      exact W.iret (v := (-102)) hx hb hr (fun t9 ht9 hW9 => ⟨⟨(-102), [(h0, .inr (4, [.ref pg, .int (nI lt), .int tr, .int rp, .ref t0, .ref t1, .ref t2, .ref sv, .int sd])), (pg, .inl (cy 0, 26, .inl f))], rfl, ⟨lt, f, rfl, (Or.inl ⟨Or.inr c_9, rfl, rfl, rfl⟩)⟩, by rw [ht9]; exact hP9, hD9⟩, hS.F ht9⟩) hS.2.2 dX4_letter_14
def q_X4_blank (cy : Nat → ClassId) (h0 : Nat) (pg : Nat) (tr : Int32) (rp : Int32) (t0 : Nat) (t1 : Nat) (t2 : Nat) (sv : Nat) (sd : Int32) (lt : Int32) : Int32 → va_W → Prop := fun (r : Int32) (u : va_W) => u = [(h0, .inr (4, [.ref pg, .int 0, .int tr, .int rp, .ref t0, .ref t1, .ref t2, .ref sv, .int sd]))] ∧ r = lt
set_option maxHeartbeats 4000000 in
set_option maxRecDepth 100000 in
theorem c_X4_blank (l : Launch) (D : va_G) (cy : Nat → ClassId) (zz : Nat) (h0 : Nat) (pg : Nat) (tr : Int32) (rp : Int32) (t0 : Nat) (t1 : Nat) (t2 : Nat) (sv : Nat) (sd : Int32) (lt : Int32) : Met l yX4_blank wsX4_blank ({ frames := 0, cells := 0, slots := 0, locals := 0 } : Room) (va_Pc [.ref h0] (cpre D cy [(h0, .inr (4, [.ref pg, .int lt, .int tr, .int rp, .ref t0, .ref t1, .ref t2, .ref sv, .int sd]))] zz)) (va_Qi (q_X4_blank cy h0 pg tr rp t0 t1 t2 sv sd lt) (cpost D (va_A [(h0, .inr (4, [.ref pg, .int lt, .int tr, .int rp, .ref t0, .ref t1, .ref t2, .ref sv, .int sd]))] zz)) (va_A [(h0, .inr (4, [.ref pg, .int lt, .int tr, .int rp, .ref t0, .ref t1, .ref t2, .ref sv, .int sd]))] zz)) 0 0 (va_A [(h0, .inr (4, [.ref pg, .int lt, .int tr, .int rp, .ref t0, .ref t1, .ref t2, .ref sv, .int sd]))] zz) := by
  refine Met.ofW (cc := cX4_blank) (maxL := 2) (ret := (some .int)) (by decide) rfl ?_
  intro p e s m args below meth c s₁ B hml hv
  obtain ⟨rfl, hsz, hP, hD0, hX⟩ := hv
  have hx := B.exec
  have hb := B.bytes
  have hr := B.returns
  have hts := atoms_spec (ws := wsX4_blank) B.pre
  have hown : s.vm.findClass RX4 = some m.cls := findClass_of_methodNamed B.named
  have hlocks := B.notSynchronized
  subst hsz
  have hD := hD0.self (sz := s.heap.size)
  generalize hAe : va_A [(h0, .inr (4, [.ref pg, .int lt, .int tr, .int rp, .ref t0, .ref t1, .ref t2, .ref sv, .int sd]))] s.heap.size = A at hD hX ⊢
  have hA : ∀ q : Nat, s.heap.size ≤ q → A q := fun q h => by rw [← hAe]; exact Or.inr h
  obtain ⟨H, hH⟩ : ∃ H : Heap, H = s.heap := ⟨_, rfl⟩
  have hS : va_S A s.heap H [] := hH ▸ va_S.rf
  have hK := hX.1
  have hP : va_P D vwCl [(h0, .inr (4, [.ref pg, .int lt, .int tr, .int rp, .ref t0, .ref t1, .ref t2, .ref sv, .int sd]))] H := hH ▸ hP
  rw [← hH]
  have hw_X4 : ∀ w ∈ wsX40, w ∈ wsX4_blank := chX4 (by decide +kernel)
  have f_33 := hts (.fieldLink RX4 33 "CubeTower" "letters" "I") (inC wa_262 (by decide +kernel))
  have hl := lv_entry ([.ref h0]) (n := 2) (Nat.le_of_ble_eq_true rfl)
  rw [lg_entry_eq]
  generalize (lg_sl ([.ref h0]) ++ List.replicate (2 - (lg_sl ([.ref h0])).length) Slot.unset).toArray = ls at hl ⊢
  have hl : lv_has ls 2 [(0, .ref h0)] := hl
  refine lv_aload_n hx hb dX4_blank_0 rfl (lv_at hl 0 rfl) ?_
  refine va_get (D := D) (ci := 4) (v := .int lt) (C := RX4) (T := TX4) (N := 9) hx hb hts hw_X4 hown hK hP 0 rfl rfl 1 (by decide) f_33 (fun _ h9 => h9) rfl dX4_blank_1 ?_
  refine lv_istore_n (lv' := [(1, .int lt), (0, .ref h0)]) hx hb dX4_blank_4 rfl hl (by decide) rfl (fun ls hl => ?_)
  refine lv_aload_n hx hb dX4_blank_5 rfl (lv_at hl 1 rfl) ?_
  refine lv_iconst (v := 0) hx hb dX4_blank_6 (by decide) ?_
  refine va_put (D := D) (ci := 4) (v := .int 0) (ty := .int) (C := RX4) (T := TX4) (N := 9) hx hb hts hw_X4 tyX4 tyX4_ok nmX4 hown hK hP hD hS 0 rfl rfl 1 (by decide) f_33 (fun _ h9 => h9) rfl (tyX4_ok 1 (by decide)) rfl rfl (Nat.le_of_ble_eq_true rfl) dX4_blank_7 (fun H locs hP hD hS => ?_)
  have hP : va_P D vwCl [(h0, .inr (4, [.ref pg, .int 0, .int tr, .int rp, .ref t0, .ref t1, .ref t2, .ref sv, .int sd]))] H := hP
  have hD : va_D A [(h0, .inr (4, [.ref pg, .int 0, .int tr, .int rp, .ref t0, .ref t1, .ref t2, .ref sv, .int sd]))] := hD
  refine lv_iload_n hx hb dX4_blank_10 rfl (lv_at hl 0 rfl) ?_
  have hP9 := hP.sub (ws' := [(h0, .inr (4, [.ref pg, .int 0, .int tr, .int rp, .ref t0, .ref t1, .ref t2, .ref sv, .int sd]))]) [0] rfl
  have hD9 := hD.sub (ws' := [(h0, .inr (4, [.ref pg, .int 0, .int tr, .int rp, .ref t0, .ref t1, .ref t2, .ref sv, .int sd]))]) [0] (by decide +kernel) rfl
  exact W.iret (v := lt) hx hb hr (fun t9 ht9 hW9 => ⟨⟨lt, [(h0, .inr (4, [.ref pg, .int 0, .int tr, .int rp, .ref t0, .ref t1, .ref t2, .ref sv, .int sd]))], rfl, ⟨rfl, rfl⟩, by rw [ht9]; exact hP9, hD9⟩, hS.F ht9⟩) hS.2.2 dX4_blank_11
def q_X2_forgetAll (cy : Nat → ClassId) (h0 : Nat) (ar : Nat) (c0 : Nat) (r0 : Nat) (c1 : Nat) (r1 : Nat) (c2 : Nat) (r2 : Nat) (sz : Int32) (tn : Int32) (sn : Int32) (k0 : Int32) (s0 : Int32) (k1 : Int32) (s1 : Int32) (k2 : Int32) (s2 : Int32) (f0 : Nat → Int32) (f1 : Nat → Int32) (f2 : Nat → Int32) : va_W → Prop := fun (u : va_W) => u = [(h0, .inr (2, [.int sz, .int tn, .int 0, .ref ar])), (ar, .inl (cy 2, 3, .inr (.inr (.inr (.inr (va_up (va_up (va_up (fun _ => none) 0 (some c0)) 1 (some c1)) 2 (some c2))))))), (c0, .inr (0, [.int k0, .int 31, .ref r0])), (r0, .inl (cy 0, 6, .inl f0)), (c1, .inr (0, [.int k1, .int 31, .ref r1])), (r1, .inl (cy 0, 6, .inl f1)), (c2, .inr (0, [.int k2, .int 31, .ref r2])), (r2, .inl (cy 0, 6, .inl f2))]
set_option maxHeartbeats 4000000 in
set_option maxRecDepth 100000 in
theorem c_X2_forgetAll (l : Launch) (D : va_G) (cy : Nat → ClassId) (zz : Nat) (h0 : Nat) (ar : Nat) (c0 : Nat) (r0 : Nat) (c1 : Nat) (r1 : Nat) (c2 : Nat) (r2 : Nat) (sz : Int32) (tn : Int32) (sn : Int32) (k0 : Int32) (s0 : Int32) (k1 : Int32) (s1 : Int32) (k2 : Int32) (s2 : Int32) (f0 : Nat → Int32) (f1 : Nat → Int32) (f2 : Nat → Int32) : Met l yX2_forgetAll wsX2_forgetAll ({ frames := 0, cells := 0, slots := 0, locals := 0 } : Room) (va_Pc [.ref h0] (cpre D cy [(h0, .inr (2, [.int sz, .int tn, .int sn, .ref ar])), (ar, .inl (cy 2, 3, .inr (.inr (.inr (.inr (va_up (va_up (va_up (fun _ => none) 0 (some c0)) 1 (some c1)) 2 (some c2))))))), (c0, .inr (0, [.int k0, .int s0, .ref r0])), (r0, .inl (cy 0, 6, .inl f0)), (c1, .inr (0, [.int k1, .int s1, .ref r1])), (r1, .inl (cy 0, 6, .inl f1)), (c2, .inr (0, [.int k2, .int s2, .ref r2])), (r2, .inl (cy 0, 6, .inl f2))] zz)) (va_Qv (q_X2_forgetAll cy h0 ar c0 r0 c1 r1 c2 r2 sz tn sn k0 s0 k1 s1 k2 s2 f0 f1 f2) (cpost D (va_A [(h0, .inr (2, [.int sz, .int tn, .int sn, .ref ar])), (ar, .inl (cy 2, 3, .inr (.inr (.inr (.inr (va_up (va_up (va_up (fun _ => none) 0 (some c0)) 1 (some c1)) 2 (some c2))))))), (c0, .inr (0, [.int k0, .int s0, .ref r0])), (r0, .inl (cy 0, 6, .inl f0)), (c1, .inr (0, [.int k1, .int s1, .ref r1])), (r1, .inl (cy 0, 6, .inl f1)), (c2, .inr (0, [.int k2, .int s2, .ref r2])), (r2, .inl (cy 0, 6, .inl f2))] zz)) (va_A [(h0, .inr (2, [.int sz, .int tn, .int sn, .ref ar])), (ar, .inl (cy 2, 3, .inr (.inr (.inr (.inr (va_up (va_up (va_up (fun _ => none) 0 (some c0)) 1 (some c1)) 2 (some c2))))))), (c0, .inr (0, [.int k0, .int s0, .ref r0])), (r0, .inl (cy 0, 6, .inl f0)), (c1, .inr (0, [.int k1, .int s1, .ref r1])), (r1, .inl (cy 0, 6, .inl f1)), (c2, .inr (0, [.int k2, .int s2, .ref r2])), (r2, .inl (cy 0, 6, .inl f2))] zz)) 0 0 (va_A [(h0, .inr (2, [.int sz, .int tn, .int sn, .ref ar])), (ar, .inl (cy 2, 3, .inr (.inr (.inr (.inr (va_up (va_up (va_up (fun _ => none) 0 (some c0)) 1 (some c1)) 2 (some c2))))))), (c0, .inr (0, [.int k0, .int s0, .ref r0])), (r0, .inl (cy 0, 6, .inl f0)), (c1, .inr (0, [.int k1, .int s1, .ref r1])), (r1, .inl (cy 0, 6, .inl f1)), (c2, .inr (0, [.int k2, .int s2, .ref r2])), (r2, .inl (cy 0, 6, .inl f2))] zz) := by
  refine Met.ofW (cc := cX2_forgetAll) (maxL := 2) (ret := none) (by decide) rfl ?_
  intro p e s m args below meth c s₁ B hml hv
  obtain ⟨rfl, hsz, hP, hD0, hX⟩ := hv
  have hx := B.exec
  have hb := B.bytes
  have hr := B.returns
  have hts := atoms_spec (ws := wsX2_forgetAll) B.pre
  have hown : s.vm.findClass RX2 = some m.cls := findClass_of_methodNamed B.named
  have hlocks := B.notSynchronized
  subst hsz
  have hD := hD0.self (sz := s.heap.size)
  generalize hAe : va_A [(h0, .inr (2, [.int sz, .int tn, .int sn, .ref ar])), (ar, .inl (cy 2, 3, .inr (.inr (.inr (.inr (va_up (va_up (va_up (fun _ => none) 0 (some c0)) 1 (some c1)) 2 (some c2))))))), (c0, .inr (0, [.int k0, .int s0, .ref r0])), (r0, .inl (cy 0, 6, .inl f0)), (c1, .inr (0, [.int k1, .int s1, .ref r1])), (r1, .inl (cy 0, 6, .inl f1)), (c2, .inr (0, [.int k2, .int s2, .ref r2])), (r2, .inl (cy 0, 6, .inl f2))] s.heap.size = A at hD hX ⊢
  have hA : ∀ q : Nat, s.heap.size ≤ q → A q := fun q h => by rw [← hAe]; exact Or.inr h
  obtain ⟨H, hH⟩ : ∃ H : Heap, H = s.heap := ⟨_, rfl⟩
  have hS : va_S A s.heap H [] := hH ▸ va_S.rf
  have hK := hX.1
  have hP : va_P D vwCl [(h0, .inr (2, [.int sz, .int tn, .int sn, .ref ar])), (ar, .inl (cy 2, 3, .inr (.inr (.inr (.inr (va_up (va_up (va_up (fun _ => none) 0 (some c0)) 1 (some c1)) 2 (some c2))))))), (c0, .inr (0, [.int k0, .int s0, .ref r0])), (r0, .inl (cy 0, 6, .inl f0)), (c1, .inr (0, [.int k1, .int s1, .ref r1])), (r1, .inl (cy 0, 6, .inl f1)), (c2, .inr (0, [.int k2, .int s2, .ref r2])), (r2, .inl (cy 0, 6, .inl f2))] H := hH ▸ hP
  rw [← hH]
  have hw_X0 : ∀ w ∈ wsX00, w ∈ wsX2_forgetAll := chX0 (by decide +kernel)
  have hw_X2 : ∀ w ∈ wsX20, w ∈ wsX2_forgetAll := chX2 (by decide +kernel)
  have f_25 := hts (.fieldLink RX2 25 "CubeTower$Tower" "seen" "I") (inC wa_656 (by decide +kernel))
  have f_12 := hts (.fieldLink RX2 12 "CubeTower$Tower" "cubes" "[LCubeTower$Cube;") (inC wa_70 (by decide +kernel))
  have f_32 := hts (.fieldLink RX2 32 "CubeTower$Cube" "sorts" "I") (inC wa_657 (by decide +kernel))
  have hl := lv_entry ([.ref h0]) (n := 2) (Nat.le_of_ble_eq_true rfl)
  rw [lg_entry_eq]
  generalize (lg_sl ([.ref h0]) ++ List.replicate (2 - (lg_sl ([.ref h0])).length) Slot.unset).toArray = ls at hl ⊢
  have hl : lv_has ls 2 [(0, .ref h0)] := hl
  refine lv_aload_n hx hb dX2_forgetAll_0 rfl (lv_at hl 0 rfl) ?_
  refine lv_iconst (v := 0) hx hb dX2_forgetAll_1 (by decide) ?_
  refine va_put (D := D) (ci := 2) (v := .int 0) (ty := .int) (C := RX2) (T := TX2) (N := 4) hx hb hts hw_X2 tyX2 tyX2_ok nmX2 hown hK hP hD hS 0 rfl rfl 2 (by decide) f_25 (fun _ h9 => h9) rfl (tyX2_ok 2 (by decide)) rfl rfl (Nat.le_of_ble_eq_true rfl) dX2_forgetAll_2 (fun H locs hP hD hS => ?_)
  have hP : va_P D vwCl [(h0, .inr (2, [.int sz, .int tn, .int 0, .ref ar])), (ar, .inl (cy 2, 3, .inr (.inr (.inr (.inr (va_up (va_up (va_up (fun _ => none) 0 (some c0)) 1 (some c1)) 2 (some c2))))))), (c0, .inr (0, [.int k0, .int s0, .ref r0])), (r0, .inl (cy 0, 6, .inl f0)), (c1, .inr (0, [.int k1, .int s1, .ref r1])), (r1, .inl (cy 0, 6, .inl f1)), (c2, .inr (0, [.int k2, .int s2, .ref r2])), (r2, .inl (cy 0, 6, .inl f2))] H := hP
  have hD : va_D A [(h0, .inr (2, [.int sz, .int tn, .int 0, .ref ar])), (ar, .inl (cy 2, 3, .inr (.inr (.inr (.inr (va_up (va_up (va_up (fun _ => none) 0 (some c0)) 1 (some c1)) 2 (some c2))))))), (c0, .inr (0, [.int k0, .int s0, .ref r0])), (r0, .inl (cy 0, 6, .inl f0)), (c1, .inr (0, [.int k1, .int s1, .ref r1])), (r1, .inl (cy 0, 6, .inl f1)), (c2, .inr (0, [.int k2, .int s2, .ref r2])), (r2, .inl (cy 0, 6, .inl f2))] := hD
  refine lv_iconst (v := 0) hx hb dX2_forgetAll_5 (by decide) ?_
  refine lv_istore_n (lv' := [(1, .int 0), (0, .ref h0)]) hx hb dX2_forgetAll_6 rfl hl (by decide) rfl (fun ls hl => ?_)
  refine lv_iload_n hx hb dX2_forgetAll_7 rfl (lv_at hl 0 rfl) ?_
  refine lv_iconst (v := 3) hx hb dX2_forgetAll_8 (by decide) ?_
  refine lv_icmp_ge (tgt := 29) hx hb dX2_forgetAll_9 (by decide) (fun c_9 => ?_) (fun c_9 => ?_)
  · exact absurd c_9 (by decide)
  · refine lv_aload_n hx hb dX2_forgetAll_12 rfl (lv_at hl 1 rfl) ?_
    refine va_get (D := D) (ci := 2) (v := .ref ar) (C := RX2) (T := TX2) (N := 4) hx hb hts hw_X2 hown hK hP 0 rfl rfl 3 (by decide) f_12 (fun _ h9 => h9) rfl dX2_forgetAll_13 ?_
    refine lv_iload_n hx hb dX2_forgetAll_16 rfl (lv_at hl 0 rfl) ?_
    refine va_aldq hx hb hK hP 1 2 rfl rfl (vi_c (by decide +kernel)) dX2_forgetAll_17 ?_
    refine kq (a := c0) (rfl) ?_
    refine lv_bipush (v := 31) hx hb dX2_forgetAll_18 (by decide) ?_
    refine va_put (D := D) (ci := 0) (v := .int 31) (ty := .int) (C := RX0) (T := TX0) (N := 3) hx hb hts hw_X0 tyX0 tyX0_ok nmX0 hown hK hP hD hS 2 rfl rfl 1 (by decide) f_32 (fun _ h9 => h9) rfl (tyX0_ok 1 (by decide)) rfl rfl (Nat.le_of_ble_eq_true rfl) dX2_forgetAll_20 (fun H locs hP hD hS => ?_)
    have hP : va_P D vwCl [(h0, .inr (2, [.int sz, .int tn, .int 0, .ref ar])), (ar, .inl (cy 2, 3, .inr (.inr (.inr (.inr (va_up (va_up (va_up (fun _ => none) 0 (some c0)) 1 (some c1)) 2 (some c2))))))), (c0, .inr (0, [.int k0, .int 31, .ref r0])), (r0, .inl (cy 0, 6, .inl f0)), (c1, .inr (0, [.int k1, .int s1, .ref r1])), (r1, .inl (cy 0, 6, .inl f1)), (c2, .inr (0, [.int k2, .int s2, .ref r2])), (r2, .inl (cy 0, 6, .inl f2))] H := hP
    have hD : va_D A [(h0, .inr (2, [.int sz, .int tn, .int 0, .ref ar])), (ar, .inl (cy 2, 3, .inr (.inr (.inr (.inr (va_up (va_up (va_up (fun _ => none) 0 (some c0)) 1 (some c1)) 2 (some c2))))))), (c0, .inr (0, [.int k0, .int 31, .ref r0])), (r0, .inl (cy 0, 6, .inl f0)), (c1, .inr (0, [.int k1, .int s1, .ref r1])), (r1, .inl (cy 0, 6, .inl f1)), (c2, .inr (0, [.int k2, .int s2, .ref r2])), (r2, .inl (cy 0, 6, .inl f2))] := hD
    refine lv_iinc (v := 1) (lv' := [(1, .int 1), (0, .ref h0)]) hx hb dX2_forgetAll_23 hl (k := 0) rfl (by decide) (by decide) rfl (fun ls hl => ?_)
    refine lv_goto (tgt := 7) hx hb dX2_forgetAll_26 (by decide) ?_
    refine lv_iload_n hx hb dX2_forgetAll_7 rfl (lv_at hl 0 rfl) ?_
    refine lv_iconst (v := 3) hx hb dX2_forgetAll_8 (by decide) ?_
    refine lv_icmp_ge (tgt := 29) hx hb dX2_forgetAll_9 (by decide) (fun c_9 => ?_) (fun c_9 => ?_)
    · exact absurd c_9 (by decide)
    · refine lv_aload_n hx hb dX2_forgetAll_12 rfl (lv_at hl 1 rfl) ?_
      refine va_get (D := D) (ci := 2) (v := .ref ar) (C := RX2) (T := TX2) (N := 4) hx hb hts hw_X2 hown hK hP 0 rfl rfl 3 (by decide) f_12 (fun _ h9 => h9) rfl dX2_forgetAll_13 ?_
      refine lv_iload_n hx hb dX2_forgetAll_16 rfl (lv_at hl 0 rfl) ?_
      refine va_aldq hx hb hK hP 1 2 rfl rfl (vi_c (by decide +kernel)) dX2_forgetAll_17 ?_
      refine kq (a := c1) (rfl) ?_
      refine lv_bipush (v := 31) hx hb dX2_forgetAll_18 (by decide) ?_
      refine va_put (D := D) (ci := 0) (v := .int 31) (ty := .int) (C := RX0) (T := TX0) (N := 3) hx hb hts hw_X0 tyX0 tyX0_ok nmX0 hown hK hP hD hS 4 rfl rfl 1 (by decide) f_32 (fun _ h9 => h9) rfl (tyX0_ok 1 (by decide)) rfl rfl (Nat.le_of_ble_eq_true rfl) dX2_forgetAll_20 (fun H locs hP hD hS => ?_)
      have hP : va_P D vwCl [(h0, .inr (2, [.int sz, .int tn, .int 0, .ref ar])), (ar, .inl (cy 2, 3, .inr (.inr (.inr (.inr (va_up (va_up (va_up (fun _ => none) 0 (some c0)) 1 (some c1)) 2 (some c2))))))), (c0, .inr (0, [.int k0, .int 31, .ref r0])), (r0, .inl (cy 0, 6, .inl f0)), (c1, .inr (0, [.int k1, .int 31, .ref r1])), (r1, .inl (cy 0, 6, .inl f1)), (c2, .inr (0, [.int k2, .int s2, .ref r2])), (r2, .inl (cy 0, 6, .inl f2))] H := hP
      have hD : va_D A [(h0, .inr (2, [.int sz, .int tn, .int 0, .ref ar])), (ar, .inl (cy 2, 3, .inr (.inr (.inr (.inr (va_up (va_up (va_up (fun _ => none) 0 (some c0)) 1 (some c1)) 2 (some c2))))))), (c0, .inr (0, [.int k0, .int 31, .ref r0])), (r0, .inl (cy 0, 6, .inl f0)), (c1, .inr (0, [.int k1, .int 31, .ref r1])), (r1, .inl (cy 0, 6, .inl f1)), (c2, .inr (0, [.int k2, .int s2, .ref r2])), (r2, .inl (cy 0, 6, .inl f2))] := hD
      refine lv_iinc (v := 2) (lv' := [(1, .int 2), (0, .ref h0)]) hx hb dX2_forgetAll_23 hl (k := 0) rfl (by decide) (by decide) rfl (fun ls hl => ?_)
      refine lv_goto (tgt := 7) hx hb dX2_forgetAll_26 (by decide) ?_
      refine lv_iload_n hx hb dX2_forgetAll_7 rfl (lv_at hl 0 rfl) ?_
      refine lv_iconst (v := 3) hx hb dX2_forgetAll_8 (by decide) ?_
      refine lv_icmp_ge (tgt := 29) hx hb dX2_forgetAll_9 (by decide) (fun c_9 => ?_) (fun c_9 => ?_)
      · exact absurd c_9 (by decide)
      · refine lv_aload_n hx hb dX2_forgetAll_12 rfl (lv_at hl 1 rfl) ?_
        refine va_get (D := D) (ci := 2) (v := .ref ar) (C := RX2) (T := TX2) (N := 4) hx hb hts hw_X2 hown hK hP 0 rfl rfl 3 (by decide) f_12 (fun _ h9 => h9) rfl dX2_forgetAll_13 ?_
        refine lv_iload_n hx hb dX2_forgetAll_16 rfl (lv_at hl 0 rfl) ?_
        refine va_aldq hx hb hK hP 1 2 rfl rfl (vi_c (by decide +kernel)) dX2_forgetAll_17 ?_
        refine kq (a := c2) (rfl) ?_
        refine lv_bipush (v := 31) hx hb dX2_forgetAll_18 (by decide) ?_
        refine va_put (D := D) (ci := 0) (v := .int 31) (ty := .int) (C := RX0) (T := TX0) (N := 3) hx hb hts hw_X0 tyX0 tyX0_ok nmX0 hown hK hP hD hS 6 rfl rfl 1 (by decide) f_32 (fun _ h9 => h9) rfl (tyX0_ok 1 (by decide)) rfl rfl (Nat.le_of_ble_eq_true rfl) dX2_forgetAll_20 (fun H locs hP hD hS => ?_)
        have hP : va_P D vwCl [(h0, .inr (2, [.int sz, .int tn, .int 0, .ref ar])), (ar, .inl (cy 2, 3, .inr (.inr (.inr (.inr (va_up (va_up (va_up (fun _ => none) 0 (some c0)) 1 (some c1)) 2 (some c2))))))), (c0, .inr (0, [.int k0, .int 31, .ref r0])), (r0, .inl (cy 0, 6, .inl f0)), (c1, .inr (0, [.int k1, .int 31, .ref r1])), (r1, .inl (cy 0, 6, .inl f1)), (c2, .inr (0, [.int k2, .int 31, .ref r2])), (r2, .inl (cy 0, 6, .inl f2))] H := hP
        have hD : va_D A [(h0, .inr (2, [.int sz, .int tn, .int 0, .ref ar])), (ar, .inl (cy 2, 3, .inr (.inr (.inr (.inr (va_up (va_up (va_up (fun _ => none) 0 (some c0)) 1 (some c1)) 2 (some c2))))))), (c0, .inr (0, [.int k0, .int 31, .ref r0])), (r0, .inl (cy 0, 6, .inl f0)), (c1, .inr (0, [.int k1, .int 31, .ref r1])), (r1, .inl (cy 0, 6, .inl f1)), (c2, .inr (0, [.int k2, .int 31, .ref r2])), (r2, .inl (cy 0, 6, .inl f2))] := hD
        refine lv_iinc (v := 3) (lv' := [(1, .int 3), (0, .ref h0)]) hx hb dX2_forgetAll_23 hl (k := 0) rfl (by decide) (by decide) rfl (fun ls hl => ?_)
        refine lv_goto (tgt := 7) hx hb dX2_forgetAll_26 (by decide) ?_
        refine lv_iload_n hx hb dX2_forgetAll_7 rfl (lv_at hl 0 rfl) ?_
        refine lv_iconst (v := 3) hx hb dX2_forgetAll_8 (by decide) ?_
        refine lv_icmp_ge (tgt := 29) hx hb dX2_forgetAll_9 (by decide) (fun c_9 => ?_) (fun c_9 => ?_)
        · have hP9 := hP.sub (ws' := [(h0, .inr (2, [.int sz, .int tn, .int 0, .ref ar])), (ar, .inl (cy 2, 3, .inr (.inr (.inr (.inr (va_up (va_up (va_up (fun _ => none) 0 (some c0)) 1 (some c1)) 2 (some c2))))))), (c0, .inr (0, [.int k0, .int 31, .ref r0])), (r0, .inl (cy 0, 6, .inl f0)), (c1, .inr (0, [.int k1, .int 31, .ref r1])), (r1, .inl (cy 0, 6, .inl f1)), (c2, .inr (0, [.int k2, .int 31, .ref r2])), (r2, .inl (cy 0, 6, .inl f2))]) [0, 1, 2, 3, 4, 5, 6, 7] rfl
          have hD9 := hD.sub (ws' := [(h0, .inr (2, [.int sz, .int tn, .int 0, .ref ar])), (ar, .inl (cy 2, 3, .inr (.inr (.inr (.inr (va_up (va_up (va_up (fun _ => none) 0 (some c0)) 1 (some c1)) 2 (some c2))))))), (c0, .inr (0, [.int k0, .int 31, .ref r0])), (r0, .inl (cy 0, 6, .inl f0)), (c1, .inr (0, [.int k1, .int 31, .ref r1])), (r1, .inl (cy 0, 6, .inl f1)), (c2, .inr (0, [.int k2, .int 31, .ref r2])), (r2, .inl (cy 0, 6, .inl f2))]) [0, 1, 2, 3, 4, 5, 6, 7] (by decide +kernel) rfl
          exact W.vret hx hb hr (fun t9 ht9 hW9 => ⟨⟨[(h0, .inr (2, [.int sz, .int tn, .int 0, .ref ar])), (ar, .inl (cy 2, 3, .inr (.inr (.inr (.inr (va_up (va_up (va_up (fun _ => none) 0 (some c0)) 1 (some c1)) 2 (some c2))))))), (c0, .inr (0, [.int k0, .int 31, .ref r0])), (r0, .inl (cy 0, 6, .inl f0)), (c1, .inr (0, [.int k1, .int 31, .ref r1])), (r1, .inl (cy 0, 6, .inl f1)), (c2, .inr (0, [.int k2, .int 31, .ref r2])), (r2, .inl (cy 0, 6, .inl f2))], rfl, rfl, by rw [ht9]; exact hP9, hD9⟩, hS.F ht9⟩) hS.2.2 dX2_forgetAll_29
        · exact absurd c_9 (by decide)
