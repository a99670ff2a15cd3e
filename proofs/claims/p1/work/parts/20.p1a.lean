theorem h_0 {c : Int32} : (if ¬ c < 0 ∧ ¬ (0 : Int32) ≤ c ∧ ¬ 3 ≤ c then (1 : Int32) else 0) = 0 := if_neg (fun h => h.2.1 (Int32.not_lt.mp h.1))
theorem cs9 {x : Int32} (h : ¬ (x.toInt < 0 ∨ 8 < x.toInt)) : x = 0 ∨ x = 1 ∨ x = 2 ∨ x = 3 ∨ x = 4 ∨ x = 5 ∨ x = 6 ∨ x = 7 ∨ x = 8 := by
  have h1 : x.toInt = 0 ∨ x.toInt = 1 ∨ x.toInt = 2 ∨ x.toInt = 3 ∨ x.toInt = 4 ∨ x.toInt = 5 ∨ x.toInt = 6 ∨ x.toInt = 7 ∨ x.toInt = 8 := by omega
  have k : ∀ y : Int32, x.toInt = y.toInt → x = y := fun y q => Int32.toInt_inj.mp q
  rcases h1 with q | q | q | q | q | q | q | q | q
  · exact Or.inl (k 0 q)
  · exact Or.inr (Or.inl (k 1 q))
  · exact Or.inr (Or.inr (Or.inl (k 2 q)))
  · exact Or.inr (Or.inr (Or.inr (Or.inl (k 3 q))))
  · exact Or.inr (Or.inr (Or.inr (Or.inr (Or.inl (k 4 q)))))
  · exact Or.inr (Or.inr (Or.inr (Or.inr (Or.inr (Or.inl (k 5 q))))))
  · exact Or.inr (Or.inr (Or.inr (Or.inr (Or.inr (Or.inr (Or.inl (k 6 q)))))))
  · exact Or.inr (Or.inr (Or.inr (Or.inr (Or.inr (Or.inr (Or.inr (Or.inl (k 7 q))))))))
  · exact Or.inr (Or.inr (Or.inr (Or.inr (Or.inr (Or.inr (Or.inr (Or.inr (k 8 q))))))))
def q_X2_has (cy : Nat → ClassId) (h0 : Nat) (sz : Int32) (tn : Int32) (sn : Int32) (ar : Nat) (cu : Int32) : Int32 → va_W → Prop := fun (r : Int32) (u : va_W) => u = [(h0, .inr (2, [.int sz, .int tn, .int sn, .ref ar]))] ∧ r = (if ¬ cu < 0 ∧ ¬ sz ≤ cu ∧ ¬ 3 ≤ cu then 1 else 0)
set_option maxHeartbeats 4000000 in
set_option maxRecDepth 100000 in
theorem c_X2_has (l : Launch) (D : va_G) (cy : Nat → ClassId) (zz : Nat) (h0 : Nat) (sz : Int32) (tn : Int32) (sn : Int32) (ar : Nat) (cu : Int32) : Met l yX2_has wsX2_has ({ frames := 0, cells := 0, slots := 0, locals := 0 } : Room) (va_Pc [.ref h0, .int cu] (cpre D cy [(h0, .inr (2, [.int sz, .int tn, .int sn, .ref ar]))] zz)) (va_Qi (q_X2_has cy h0 sz tn sn ar cu) (cpost D (va_A [(h0, .inr (2, [.int sz, .int tn, .int sn, .ref ar]))] zz)) (va_A [(h0, .inr (2, [.int sz, .int tn, .int sn, .ref ar]))] zz)) 0 0 (va_A [(h0, .inr (2, [.int sz, .int tn, .int sn, .ref ar]))] zz) := by
  refine Met.ofW (cc := cX2_has) (maxL := 2) (ret := (some .boolean)) (by decide) rfl ?_
  intro p e s m args below meth c s₁ B hml hv
  obtain ⟨rfl, hsz, hP, hD0, hX⟩ := hv
  have hx := B.exec
  have hb := B.bytes
  have hr := B.returns
  have hts := atoms_spec (ws := wsX2_has) B.pre
  have hown : s.vm.findClass RX2 = some m.cls := findClass_of_methodNamed B.named
  have hlocks := B.notSynchronized
  subst hsz
  have hD := hD0.self (sz := s.heap.size)
  generalize hAe : va_A [(h0, .inr (2, [.int sz, .int tn, .int sn, .ref ar]))] s.heap.size = A at hD hX ⊢
  have hA : ∀ q : Nat, s.heap.size ≤ q → A q := fun q h => by rw [← hAe]; exact Or.inr h
  obtain ⟨H, hH⟩ : ∃ H : Heap, H = s.heap := ⟨_, rfl⟩
  have hS : va_S A s.heap H [] := hH ▸ va_S.rf
  have hK := hX.1
  have hP : va_P D vwCl [(h0, .inr (2, [.int sz, .int tn, .int sn, .ref ar]))] H := hH ▸ hP
  rw [← hH]
  have hw_X2 : ∀ w ∈ wsX20, w ∈ wsX2_has := by decide +kernel
  have f_18 := hts (.fieldLink RX2 18 "CubeTower$Tower" "size" "I") (by decide +kernel)
  have hl := lv_entry ([.ref h0, .int cu]) (n := 2) (Nat.le_of_ble_eq_true rfl)
  rw [lg_entry_eq]
  generalize (lg_sl ([.ref h0, .int cu]) ++ List.replicate (2 - (lg_sl ([.ref h0, .int cu])).length) Slot.unset).toArray = ls at hl ⊢
  have hl : lv_has ls 2 [(0, .ref h0), (1, .int cu)] := hl
  refine lv_iload_n hx hb dX2_has_0 rfl (lv_at hl 1 rfl) ?_
  refine lv_if_lt (tgt := 21) hx hb dX2_has_1 (by decide) (fun c_1 => ?_) (fun c_1 => ?_)
  · refine lv_iconst (v := 0) hx hb dX2_has_21 (by decide) ?_
    have hP9 := hP.sub (ws' := [(h0, .inr (2, [.int sz, .int tn, .int sn, .ref ar]))]) [0] rfl
    have hD9 := hD.sub (ws' := [(h0, .inr (2, [.int sz, .int tn, .int sn, .ref ar]))]) [0] (by decide +kernel) rfl
    exact W.zret (v := 0) hx hb hr (rfl) (fun t9 ht9 hW9 => ⟨⟨0, [(h0, .inr (2, [.int sz, .int tn, .int sn, .ref ar]))], rfl, ⟨rfl, (if_neg (fun h => h.1 c_1)).symm⟩, by rw [ht9]; exact hP9, hD9⟩, hS.F ht9⟩) hS.2.2 dX2_has_22
  · refine lv_iload_n hx hb dX2_has_4 rfl (lv_at hl 1 rfl) ?_
    refine lv_aload_n hx hb dX2_has_5 rfl (lv_at hl 0 rfl) ?_
    refine va_get (D := D) (ci := 2) (v := .int sz) (C := RX2) (T := TX2) (N := 4) hx hb hts hw_X2 hown hK hP 0 rfl rfl 0 (by decide) f_18 (fun _ h9 => h9) rfl dX2_has_6 ?_
    refine lv_icmp_ge (tgt := 21) hx hb dX2_has_9 (by decide) (fun c_9 => ?_) (fun c_9 => ?_)
    · refine lv_iconst (v := 0) hx hb dX2_has_21 (by decide) ?_
      have hP9 := hP.sub (ws' := [(h0, .inr (2, [.int sz, .int tn, .int sn, .ref ar]))]) [0] rfl
      have hD9 := hD.sub (ws' := [(h0, .inr (2, [.int sz, .int tn, .int sn, .ref ar]))]) [0] (by decide +kernel) rfl
      exact W.zret (v := 0) hx hb hr (rfl) (fun t9 ht9 hW9 => ⟨⟨0, [(h0, .inr (2, [.int sz, .int tn, .int sn, .ref ar]))], rfl, ⟨rfl, (if_neg (fun h => h.2.1 c_9)).symm⟩, by rw [ht9]; exact hP9, hD9⟩, hS.F ht9⟩) hS.2.2 dX2_has_22
    · refine lv_iload_n hx hb dX2_has_12 rfl (lv_at hl 1 rfl) ?_
      refine lv_iconst (v := 3) hx hb dX2_has_13 (by decide) ?_
      refine lv_icmp_ge (tgt := 21) hx hb dX2_has_14 (by decide) (fun c_14 => ?_) (fun c_14 => ?_)
      · refine lv_iconst (v := 0) hx hb dX2_has_21 (by decide) ?_
        have hP9 := hP.sub (ws' := [(h0, .inr (2, [.int sz, .int tn, .int sn, .ref ar]))]) [0] rfl
        have hD9 := hD.sub (ws' := [(h0, .inr (2, [.int sz, .int tn, .int sn, .ref ar]))]) [0] (by decide +kernel) rfl
        exact W.zret (v := 0) hx hb hr (rfl) (fun t9 ht9 hW9 => ⟨⟨0, [(h0, .inr (2, [.int sz, .int tn, .int sn, .ref ar]))], rfl, ⟨rfl, (if_neg (fun h => h.2.2 c_14)).symm⟩, by rw [ht9]; exact hP9, hD9⟩, hS.F ht9⟩) hS.2.2 dX2_has_22
      · refine lv_iconst (v := 1) hx hb dX2_has_17 (by decide) ?_
        refine lv_goto (tgt := 22) hx hb dX2_has_18 (by decide) ?_
        have hP9 := hP.sub (ws' := [(h0, .inr (2, [.int sz, .int tn, .int sn, .ref ar]))]) [0] rfl
        have hD9 := hD.sub (ws' := [(h0, .inr (2, [.int sz, .int tn, .int sn, .ref ar]))]) [0] (by decide +kernel) rfl
        exact W.zret (v := 1) hx hb hr (rfl) (fun t9 ht9 hW9 => ⟨⟨1, [(h0, .inr (2, [.int sz, .int tn, .int sn, .ref ar]))], rfl, ⟨rfl, (if_pos ⟨c_1, c_9, c_14⟩).symm⟩, by rw [ht9]; exact hP9, hD9⟩, hS.F ht9⟩) hS.2.2 dX2_has_22
def q_X4_letter (cy : Nat → ClassId) (h0 : Nat) (pg : Nat) (tr : Int32) (rp : Int32) (t0 : Nat) (t1 : Nat) (t2 : Nat) (sv : Nat) (sd : Int32) (lt : Nat) (f : Nat → Int32) (cu : Int32) : Int32 → va_W → Prop := fun (r : Int32) (u : va_W) => ∃ (l2 : Nat), ∃ (f2 : Nat → Int32), u = [(h0, .inr (4, [.ref pg, .int (nI l2), .int tr, .int rp, .ref t0, .ref t1, .ref t2, .ref sv, .int sd])), (pg, .inl (cy 0, 26, .inl f2))] ∧ (((cu < 32 ∨ ¬ cu ≤ 126) ∧ r = -102 ∧ l2 = lt ∧ f2 = f) ∨ (¬ (cu < 32 ∨ ¬ cu ≤ 126) ∧ lt = 26 ∧ r = -104 ∧ l2 = lt ∧ f2 = f) ∨ (¬ (cu < 32 ∨ ¬ cu ≤ 126) ∧ lt < 26 ∧ r = nI (lt + 1) ∧ l2 = lt + 1 ∧ f2 = upd f lt cu))
set_option maxHeartbeats 4000000 in
set_option maxRecDepth 100000 in
theorem c_X4_letter (l : Launch) (D : va_G) (cy : Nat → ClassId) (zz : Nat) (h0 : Nat) (pg : Nat) (tr : Int32) (rp : Int32) (t0 : Nat) (t1 : Nat) (t2 : Nat) (sv : Nat) (sd : Int32) (lt : Nat) (f : Nat → Int32) (cu : Int32) (hlt : lt ≤ 26) : Met l yX4_letter wsX4_letter ({ frames := 0, cells := 0, slots := 0, locals := 0 } : Room) (va_Pc [.ref h0, .int cu] (cpre D cy [(h0, .inr (4, [.ref pg, .int (nI lt), .int tr, .int rp, .ref t0, .ref t1, .ref t2, .ref sv, .int sd])), (pg, .inl (cy 0, 26, .inl f))] zz)) (va_Qi (q_X4_letter cy h0 pg tr rp t0 t1 t2 sv sd lt f cu) (cpost D (va_A [(h0, .inr (4, [.ref pg, .int (nI lt), .int tr, .int rp, .ref t0, .ref t1, .ref t2, .ref sv, .int sd])), (pg, .inl (cy 0, 26, .inl f))] zz)) (va_A [(h0, .inr (4, [.ref pg, .int (nI lt), .int tr, .int rp, .ref t0, .ref t1, .ref t2, .ref sv, .int sd])), (pg, .inl (cy 0, 26, .inl f))] zz)) 0 0 (va_A [(h0, .inr (4, [.ref pg, .int (nI lt), .int tr, .int rp, .ref t0, .ref t1, .ref t2, .ref sv, .int sd])), (pg, .inl (cy 0, 26, .inl f))] zz) := by
  refine Met.ofW (cc := cX4_letter) (maxL := 2) (ret := (some .int)) (by decide) rfl ?_
  intro p e s m args below meth c s₁ B hml hv
  obtain ⟨rfl, hsz, hP, hD0, hX⟩ := hv
  have hx := B.exec
  have hb := B.bytes
  have hr := B.returns
  have hts := atoms_spec (ws := wsX4_letter) B.pre
  have hown : s.vm.findClass RX4 = some m.cls := findClass_of_methodNamed B.named
  have hlocks := B.notSynchronized
  subst hsz
  have hD := hD0.self (sz := s.heap.size)
  generalize hAe : va_A [(h0, .inr (4, [.ref pg, .int (nI lt), .int tr, .int rp, .ref t0, .ref t1, .ref t2, .ref sv, .int sd])), (pg, .inl (cy 0, 26, .inl f))] s.heap.size = A at hD hX ⊢
  have hA : ∀ q : Nat, s.heap.size ≤ q → A q := fun q h => by rw [← hAe]; exact Or.inr h
  obtain ⟨H, hH⟩ : ∃ H : Heap, H = s.heap := ⟨_, rfl⟩
  have hS : va_S A s.heap H [] := hH ▸ va_S.rf
  have hK := hX.1
  have hP : va_P D vwCl [(h0, .inr (4, [.ref pg, .int (nI lt), .int tr, .int rp, .ref t0, .ref t1, .ref t2, .ref sv, .int sd])), (pg, .inl (cy 0, 26, .inl f))] H := hH ▸ hP
  rw [← hH]
  have hw_X4 : ∀ w ∈ wsX40, w ∈ wsX4_letter := by decide +kernel
  have f_33 := hts (.fieldLink RX4 33 "CubeTower" "letters" "I") (by decide +kernel)
  have f_9 := hts (.fieldLink RX4 9 "CubeTower" "page" "[I") (by decide +kernel)
  have hl := lv_entry ([.ref h0, .int cu]) (n := 2) (Nat.le_of_ble_eq_true rfl)
  rw [lg_entry_eq]
  generalize (lg_sl ([.ref h0, .int cu]) ++ List.replicate (2 - (lg_sl ([.ref h0, .int cu])).length) Slot.unset).toArray = ls at hl ⊢
  have hl : lv_has ls 2 [(0, .ref h0), (1, .int cu)] := hl
  refine lv_iload_n hx hb dX4_letter_0 rfl (lv_at hl 1 rfl) ?_
  refine lv_bipush (v := 32) hx hb dX4_letter_1 (by decide) ?_
  refine lv_icmp_lt (tgt := 12) hx hb dX4_letter_3 (by decide) (fun c_3 => ?_) (fun c_3 => ?_)
  · refine lv_bipush (v := (-102)) hx hb dX4_letter_12 (by decide) ?_
    have hP9 := hP.sub (ws' := [(h0, .inr (4, [.ref pg, .int (nI lt), .int tr, .int rp, .ref t0, .ref t1, .ref t2, .ref sv, .int sd])), (pg, .inl (cy 0, 26, .inl f))]) [0, 1] rfl
    have hD9 := hD.sub (ws' := [(h0, .inr (4, [.ref pg, .int (nI lt), .int tr, .int rp, .ref t0, .ref t1, .ref t2, .ref sv, .int sd])), (pg, .inl (cy 0, 26, .inl f))]) [0, 1] (by decide +kernel) rfl
    exact W.iret (v := (-102)) hx hb hr (fun t9 ht9 hW9 => ⟨⟨(-102), [(h0, .inr (4, [.ref pg, .int (nI lt), .int tr, .int rp, .ref t0, .ref t1, .ref t2, .ref sv, .int sd])), (pg, .inl (cy 0, 26, .inl f))], rfl, ⟨lt, f, rfl, (Or.inl ⟨Or.inl c_3, rfl, rfl, rfl⟩)⟩, by rw [ht9]; exact hP9, hD9⟩, hS.F ht9⟩) hS.2.2 dX4_letter_14
  · refine lv_iload_n hx hb dX4_letter_6 rfl (lv_at hl 1 rfl) ?_
    refine lv_bipush (v := 126) hx hb dX4_letter_7 (by decide) ?_
    refine lv_icmp_le (tgt := 15) hx hb dX4_letter_9 (by decide) (fun c_9 => ?_) (fun c_9 => ?_)
    · refine lv_aload_n hx hb dX4_letter_15 rfl (lv_at hl 0 rfl) ?_
      refine va_get (D := D) (ci := 4) (v := .int (nI lt)) (C := RX4) (T := TX4) (N := 9) hx hb hts hw_X4 hown hK hP 0 rfl rfl 1 (by decide) f_33 (fun _ h9 => h9) rfl dX4_letter_16 ?_
      refine lv_bipush (v := 26) hx hb dX4_letter_19 (by decide) ?_
      refine lv_icmp_lt (tgt := 27) hx hb dX4_letter_21 (by decide) (fun c_21 => ?_) (fun c_21 => ?_)
      · have hl6 : lt < 26 := nI_ltN (b := 26) (by omega) (Int32.not_le.mpr c_21)
        refine lv_aload_n hx hb dX4_letter_27 rfl (lv_at hl 0 rfl) ?_
        refine va_get (D := D) (ci := 4) (v := .ref pg) (C := RX4) (T := TX4) (N := 9) hx hb hts hw_X4 hown hK hP 0 rfl rfl 0 (by decide) f_9 (fun _ h9 => h9) rfl dX4_letter_28 ?_
        refine lv_aload_n hx hb dX4_letter_31 rfl (lv_at hl 0 rfl) ?_
        refine va_get (D := D) (ci := 4) (v := .int (nI lt)) (C := RX4) (T := TX4) (N := 9) hx hb hts hw_X4 hown hK hP 0 rfl rfl 1 (by decide) f_33 (fun _ h9 => h9) rfl dX4_letter_32 ?_
        refine lv_iload_n hx hb dX4_letter_35 rfl (lv_at hl 1 rfl) ?_
        refine va_iast hx hb hK hP hD hS 1 0 rfl rfl (nI_in (by omega) (by decide)) dX4_letter_36 (fun H locs hP hD hS => ?_)
        rw [show (nI lt).toNatClampNeg = lt from nI_clamp (by omega)] at hP hD
        have hP : va_P D vwCl [(h0, .inr (4, [.ref pg, .int (nI lt), .int tr, .int rp, .ref t0, .ref t1, .ref t2, .ref sv, .int sd])), (pg, .inl (cy 0, 26, .inl (upd f lt cu)))] H := hP
        have hD : va_D A [(h0, .inr (4, [.ref pg, .int (nI lt), .int tr, .int rp, .ref t0, .ref t1, .ref t2, .ref sv, .int sd])), (pg, .inl (cy 0, 26, .inl (upd f lt cu)))] := hD
        refine lv_aload_n hx hb dX4_letter_37 rfl (lv_at hl 0 rfl) ?_
        refine lv_dup hx hb dX4_letter_38 rfl ?_
        refine va_get (D := D) (ci := 4) (v := .int (nI lt)) (C := RX4) (T := TX4) (N := 9) hx hb hts hw_X4 hown hK hP 0 rfl rfl 1 (by decide) f_33 (fun _ h9 => h9) rfl dX4_letter_39 ?_
        refine lv_iconst (v := 1) hx hb dX4_letter_42 (by decide) ?_
        refine lv_iadd hx hb dX4_letter_43 ?_
        refine lv_topi (fun y1 ey1 => ?_)
        obtain rfl : y1 = nI (lt + 1) := ey1.trans ((nI_succ lt).symm)
        refine va_put (D := D) (ci := 4) (v := .int (nI (lt + 1))) (ty := .int) (C := RX4) (T := TX4) (N := 9) hx hb hts hw_X4 tyX4 tyX4_ok nmX4 hown hK hP hD hS 0 rfl rfl 1 (by decide) f_33 (fun _ h9 => h9) rfl (by decide +kernel) rfl rfl (Nat.le_of_ble_eq_true rfl) dX4_letter_44 (fun H locs hP hD hS => ?_)
        have hP : va_P D vwCl [(h0, .inr (4, [.ref pg, .int (nI (lt + 1)), .int tr, .int rp, .ref t0, .ref t1, .ref t2, .ref sv, .int sd])), (pg, .inl (cy 0, 26, .inl (upd f lt cu)))] H := hP
        have hD : va_D A [(h0, .inr (4, [.ref pg, .int (nI (lt + 1)), .int tr, .int rp, .ref t0, .ref t1, .ref t2, .ref sv, .int sd])), (pg, .inl (cy 0, 26, .inl (upd f lt cu)))] := hD
        refine lv_aload_n hx hb dX4_letter_47 rfl (lv_at hl 0 rfl) ?_
        refine va_get (D := D) (ci := 4) (v := .int (nI (lt + 1))) (C := RX4) (T := TX4) (N := 9) hx hb hts hw_X4 hown hK hP 0 rfl rfl 1 (by decide) f_33 (fun _ h9 => h9) rfl dX4_letter_48 ?_
        have hP9 := hP.sub (ws' := [(h0, .inr (4, [.ref pg, .int (nI (lt + 1)), .int tr, .int rp, .ref t0, .ref t1, .ref t2, .ref sv, .int sd])), (pg, .inl (cy 0, 26, .inl (upd f lt cu)))]) [0, 1] rfl
        have hD9 := hD.sub (ws' := [(h0, .inr (4, [.ref pg, .int (nI (lt + 1)), .int tr, .int rp, .ref t0, .ref t1, .ref t2, .ref sv, .int sd])), (pg, .inl (cy 0, 26, .inl (upd f lt cu)))]) [0, 1] (by decide +kernel) rfl
        exact W.iret (v := nI (lt + 1)) hx hb hr (fun t9 ht9 hW9 => ⟨⟨nI (lt + 1), [(h0, .inr (4, [.ref pg, .int (nI (lt + 1)), .int tr, .int rp, .ref t0, .ref t1, .ref t2, .ref sv, .int sd])), (pg, .inl (cy 0, 26, .inl (upd f lt cu)))], rfl, ⟨(lt + 1), (upd f lt cu), rfl, (Or.inr (Or.inr ⟨fun h => h.elim c_3 (fun q => q c_9), hl6, rfl, rfl, rfl⟩))⟩, by rw [ht9]; exact hP9, hD9⟩, hS.F ht9⟩) hS.2.2 dX4_letter_51
      · have hl6 : 26 ≤ lt := nI_leN (b := 26) (by decide) (Int32.not_lt.mp c_21)
        refine lv_bipush (v := (-104)) hx hb dX4_letter_24 (by decide) ?_
        have hP9 := hP.sub (ws' := [(h0, .inr (4, [.ref pg, .int (nI lt), .int tr, .int rp, .ref t0, .ref t1, .ref t2, .ref sv, .int sd])), (pg, .inl (cy 0, 26, .inl f))]) [0, 1] rfl
        have hD9 := hD.sub (ws' := [(h0, .inr (4, [.ref pg, .int (nI lt), .int tr, .int rp, .ref t0, .ref t1, .ref t2, .ref sv, .int sd])), (pg, .inl (cy 0, 26, .inl f))]) [0, 1] (by decide +kernel) rfl
        exact W.iret (v := (-104)) hx hb hr (fun t9 ht9 hW9 => ⟨⟨(-104), [(h0, .inr (4, [.ref pg, .int (nI lt), .int tr, .int rp, .ref t0, .ref t1, .ref t2, .ref sv, .int sd])), (pg, .inl (cy 0, 26, .inl f))], rfl, ⟨lt, f, rfl, (Or.inr (Or.inl ⟨fun h => h.elim c_3 (fun q => q c_9), by omega, rfl, rfl, rfl⟩))⟩, by rw [ht9]; exact hP9, hD9⟩, hS.F ht9⟩) hS.2.2 dX4_letter_26
    · refine lv_bipush (v := (-102)) hx hb dX4_letter_12 (by decide) ?_
      have hP9 := hP.sub (ws' := [(h0, .inr (4, [.ref pg, .int (nI lt), .int tr, .int rp, .ref t0, .ref t1, .ref t2, .ref sv, .int sd])), (pg, .inl (cy 0, 26, .inl f))]) [0, 1] rfl
      have hD9 := hD.sub (ws' := [(h0, .inr (4, [.ref pg, .int (nI lt), .int tr, .int rp, .ref t0, .ref t1, .ref t2, .ref sv, .int sd])), (pg, .inl (cy 0, 26, .inl f))]) [0, 1] (by decide +kernel) rfl
      exact W.iret (v := (-102)) hx hb hr (fun t9 ht9 hW9 => ⟨⟨(-102), [(h0, .inr (4, [.ref pg, .int (nI lt), .int tr, .int rp, .ref t0, .ref t1, .ref t2, .ref sv, .int sd])), (pg, .inl (cy 0, 26, .inl f))], rfl, ⟨lt, f, rfl, (Or.inl ⟨Or.inr c_9, rfl, rfl, rfl⟩)⟩, by rw [ht9]; exact hP9, hD9⟩, hS.F ht9⟩) hS.2.2 dX4_letter_14
def q_X4_blank (cy : Nat → ClassId) (h0 : Nat) (pg : Nat) (tr : Int32) (rp : Int32) (t0 : Nat) (t1 : Nat) (t2 : Nat) (sv : Nat) (sd : Int32) (lt : Int32) : Int32 → va_W → Prop := fun (r : Int32) (u : va_W) => u = [(h0, .inr (4, [.ref pg, .int 0, .int tr, .int rp, .ref t0, .ref t1, .ref t2, .ref sv, .int sd]))] ∧ r = lt
set_option maxHeartbeats 4000000 in
set_option maxRecDepth 100000 in
theorem c_X4_blank (l : Launch) (D : va_G) (cy : Nat → ClassId) (zz : Nat) (h0 : Nat) (pg : Nat) (tr : Int32) (rp : Int32) (t0 : Nat) (t1 : Nat) (t2 : Nat) (sv : Nat) (sd : Int32) (lt : Int32) : Met l yX4_blank wsX4_blank ({ frames := 0, cells := 0, slots := 0, locals := 0 } : Room) (va_Pc [.ref h0] (cpre D cy [(h0, .inr (4, [.ref pg, .int lt, .int tr, .int rp, .ref t0, .ref t1, .ref t2, .ref sv, .int sd]))] zz)) (va_Qi (q_X4_blank cy h0 pg tr rp t0 t1 t2 sv sd lt) (cpost D (va_A [(h0, .inr (4, [.ref pg, .int lt, .int tr, .int rp, .ref t0, .ref t1, .ref t2, .ref sv, .int sd]))] zz)) (va_A [(h0, .inr (4, [.ref pg, .int lt, .int tr, .int rp, .ref t0, .ref t1, .ref t2, .ref sv, .int sd]))] zz)) 0 0 (va_A [(h0, .inr (4, [.ref pg, .int lt, .int tr, .int rp, .ref t0, .ref t1, .ref t2, .ref sv, .int sd]))] zz) := by
  refine Met.ofW (cc := cX4_blank) (maxL := 2) (ret := (some .int)) (by decide) rfl ?_
  intro p e s m args below meth c s₁ B hml hv
  obtain ⟨rfl, hsz, hP, hD0, hX⟩ := hv
  have hx := B.exec
  have hb := B.bytes
  have hr := B.returns
  have hts := atoms_spec (ws := wsX4_blank) B.pre
  have hown : s.vm.findClass RX4 = some m.cls := findClass_of_methodNamed B.named
  have hlocks := B.notSynchronized
  subst hsz
  have hD := hD0.self (sz := s.heap.size)
  generalize hAe : va_A [(h0, .inr (4, [.ref pg, .int lt, .int tr, .int rp, .ref t0, .ref t1, .ref t2, .ref sv, .int sd]))] s.heap.size = A at hD hX ⊢
  have hA : ∀ q : Nat, s.heap.size ≤ q → A q := fun q h => by rw [← hAe]; exact Or.inr h
  obtain ⟨H, hH⟩ : ∃ H : Heap, H = s.heap := ⟨_, rfl⟩
  have hS : va_S A s.heap H [] := hH ▸ va_S.rf
  have hK := hX.1
  have hP : va_P D vwCl [(h0, .inr (4, [.ref pg, .int lt, .int tr, .int rp, .ref t0, .ref t1, .ref t2, .ref sv, .int sd]))] H := hH ▸ hP
  rw [← hH]
  have hw_X4 : ∀ w ∈ wsX40, w ∈ wsX4_blank := by decide +kernel
  have f_33 := hts (.fieldLink RX4 33 "CubeTower" "letters" "I") (by decide +kernel)
  have hl := lv_entry ([.ref h0]) (n := 2) (Nat.le_of_ble_eq_true rfl)
  rw [lg_entry_eq]
  generalize (lg_sl ([.ref h0]) ++ List.replicate (2 - (lg_sl ([.ref h0])).length) Slot.unset).toArray = ls at hl ⊢
  have hl : lv_has ls 2 [(0, .ref h0)] := hl
  refine lv_aload_n hx hb dX4_blank_0 rfl (lv_at hl 0 rfl) ?_
  refine va_get (D := D) (ci := 4) (v := .int lt) (C := RX4) (T := TX4) (N := 9) hx hb hts hw_X4 hown hK hP 0 rfl rfl 1 (by decide) f_33 (fun _ h9 => h9) rfl dX4_blank_1 ?_
  refine lv_istore_n (lv' := [(1, .int lt), (0, .ref h0)]) hx hb dX4_blank_4 rfl hl (by decide) rfl (fun ls hl => ?_)
  refine lv_aload_n hx hb dX4_blank_5 rfl (lv_at hl 1 rfl) ?_
  refine lv_iconst (v := 0) hx hb dX4_blank_6 (by decide) ?_
  refine va_put (D := D) (ci := 4) (v := .int 0) (ty := .int) (C := RX4) (T := TX4) (N := 9) hx hb hts hw_X4 tyX4 tyX4_ok nmX4 hown hK hP hD hS 0 rfl rfl 1 (by decide) f_33 (fun _ h9 => h9) rfl (by decide +kernel) rfl rfl (Nat.le_of_ble_eq_true rfl) dX4_blank_7 (fun H locs hP hD hS => ?_)
  have hP : va_P D vwCl [(h0, .inr (4, [.ref pg, .int 0, .int tr, .int rp, .ref t0, .ref t1, .ref t2, .ref sv, .int sd]))] H := hP
  have hD : va_D A [(h0, .inr (4, [.ref pg, .int 0, .int tr, .int rp, .ref t0, .ref t1, .ref t2, .ref sv, .int sd]))] := hD
  refine lv_iload_n hx hb dX4_blank_10 rfl (lv_at hl 0 rfl) ?_
  have hP9 := hP.sub (ws' := [(h0, .inr (4, [.ref pg, .int 0, .int tr, .int rp, .ref t0, .ref t1, .ref t2, .ref sv, .int sd]))]) [0] rfl
  have hD9 := hD.sub (ws' := [(h0, .inr (4, [.ref pg, .int 0, .int tr, .int rp, .ref t0, .ref t1, .ref t2, .ref sv, .int sd]))]) [0] (by decide +kernel) rfl
  exact W.iret (v := lt) hx hb hr (fun t9 ht9 hW9 => ⟨⟨lt, [(h0, .inr (4, [.ref pg, .int 0, .int tr, .int rp, .ref t0, .ref t1, .ref t2, .ref sv, .int sd]))], rfl, ⟨rfl, rfl⟩, by rw [ht9]; exact hP9, hD9⟩, hS.F ht9⟩) hS.2.2 dX4_blank_11
def q_X2_forgetAll (cy : Nat → ClassId) (h0 : Nat) (ar : Nat) (c0 : Nat) (r0 : Nat) (c1 : Nat) (r1 : Nat) (c2 : Nat) (r2 : Nat) (sz : Int32) (tn : Int32) (sn : Int32) (k0 : Int32) (s0 : Int32) (k1 : Int32) (s1 : Int32) (k2 : Int32) (s2 : Int32) (f0 : Nat → Int32) (f1 : Nat → Int32) (f2 : Nat → Int32) : va_W → Prop := fun (u : va_W) => u = [(h0, .inr (2, [.int sz, .int tn, .int 0, .ref ar])), (ar, .inl (cy 2, 3, .inr (.inr (.inr (.inr (va_up (va_up (va_up (fun _ => none) 0 (some c0)) 1 (some c1)) 2 (some c2))))))), (c0, .inr (0, [.int k0, .int 31, .ref r0])), (r0, .inl (cy 0, 6, .inl f0)), (c1, .inr (0, [.int k1, .int 31, .ref r1])), (r1, .inl (cy 0, 6, .inl f1)), (c2, .inr (0, [.int k2, .int 31, .ref r2])), (r2, .inl (cy 0, 6, .inl f2))]
set_option maxHeartbeats 4000000 in
set_option maxRecDepth 100000 in
theorem c_X2_forgetAll (l : Launch) (D : va_G) (cy : Nat → ClassId) (zz : Nat) (h0 : Nat) (ar : Nat) (c0 : Nat) (r0 : Nat) (c1 : Nat) (r1 : Nat) (c2 : Nat) (r2 : Nat) (sz : Int32) (tn : Int32) (sn : Int32) (k0 : Int32) (s0 : Int32) (k1 : Int32) (s1 : Int32) (k2 : Int32) (s2 : Int32) (f0 : Nat → Int32) (f1 : Nat → Int32) (f2 : Nat → Int32) : Met l yX2_forgetAll wsX2_forgetAll ({ frames := 0, cells := 0, slots := 0, locals := 0 } : Room) (va_Pc [.ref h0] (cpre D cy [(h0, .inr (2, [.int sz, .int tn, .int sn, .ref ar])), (ar, .inl (cy 2, 3, .inr (.inr (.inr (.inr (va_up (va_up (va_up (fun _ => none) 0 (some c0)) 1 (some c1)) 2 (some c2))))))), (c0, .inr (0, [.int k0, .int s0, .ref r0])), (r0, .inl (cy 0, 6, .inl f0)), (c1, .inr (0, [.int k1, .int s1, .ref r1])), (r1, .inl (cy 0, 6, .inl f1)), (c2, .inr (0, [.int k2, .int s2, .ref r2])), (r2, .inl (cy 0, 6, .inl f2))] zz)) (va_Qv (q_X2_forgetAll cy h0 ar c0 r0 c1 r1 c2 r2 sz tn sn k0 s0 k1 s1 k2 s2 f0 f1 f2) (cpost D (va_A [(h0, .inr (2, [.int sz, .int tn, .int sn, .ref ar])), (ar, .inl (cy 2, 3, .inr (.inr (.inr (.inr (va_up (va_up (va_up (fun _ => none) 0 (some c0)) 1 (some c1)) 2 (some c2))))))), (c0, .inr (0, [.int k0, .int s0, .ref r0])), (r0, .inl (cy 0, 6, .inl f0)), (c1, .inr (0, [.int k1, .int s1, .ref r1])), (r1, .inl (cy 0, 6, .inl f1)), (c2, .inr (0, [.int k2, .int s2, .ref r2])), (r2, .inl (cy 0, 6, .inl f2))] zz)) (va_A [(h0, .inr (2, [.int sz, .int tn, .int sn, .ref ar])), (ar, .inl (cy 2, 3, .inr (.inr (.inr (.inr (va_up (va_up (va_up (fun _ => none) 0 (some c0)) 1 (some c1)) 2 (some c2))))))), (c0, .inr (0, [.int k0, .int s0, .ref r0])), (r0, .inl (cy 0, 6, .inl f0)), (c1, .inr (0, [.int k1, .int s1, .ref r1])), (r1, .inl (cy 0, 6, .inl f1)), (c2, .inr (0, [.int k2, .int s2, .ref r2])), (r2, .inl (cy 0, 6, .inl f2))] zz)) 0 0 (va_A [(h0, .inr (2, [.int sz, .int tn, .int sn, .ref ar])), (ar, .inl (cy 2, 3, .inr (.inr (.inr (.inr (va_up (va_up (va_up (fun _ => none) 0 (some c0)) 1 (some c1)) 2 (some c2))))))), (c0, .inr (0, [.int k0, .int s0, .ref r0])), (r0, .inl (cy 0, 6, .inl f0)), (c1, .inr (0, [.int k1, .int s1, .ref r1])), (r1, .inl (cy 0, 6, .inl f1)), (c2, .inr (0, [.int k2, .int s2, .ref r2])), (r2, .inl (cy 0, 6, .inl f2))] zz) := by
  refine Met.ofW (cc := cX2_forgetAll) (maxL := 2) (ret := none) (by decide) rfl ?_
  intro p e s m args below meth c s₁ B hml hv
  obtain ⟨rfl, hsz, hP, hD0, hX⟩ := hv
  have hx := B.exec
  have hb := B.bytes
  have hr := B.returns
  have hts := atoms_spec (ws := wsX2_forgetAll) B.pre
  have hown : s.vm.findClass RX2 = some m.cls := findClass_of_methodNamed B.named
  have hlocks := B.notSynchronized
  subst hsz
  have hD := hD0.self (sz := s.heap.size)
  generalize hAe : va_A [(h0, .inr (2, [.int sz, .int tn, .int sn, .ref ar])), (ar, .inl (cy 2, 3, .inr (.inr (.inr (.inr (va_up (va_up (va_up (fun _ => none) 0 (some c0)) 1 (some c1)) 2 (some c2))))))), (c0, .inr (0, [.int k0, .int s0, .ref r0])), (r0, .inl (cy 0, 6, .inl f0)), (c1, .inr (0, [.int k1, .int s1, .ref r1])), (r1, .inl (cy 0, 6, .inl f1)), (c2, .inr (0, [.int k2, .int s2, .ref r2])), (r2, .inl (cy 0, 6, .inl f2))] s.heap.size = A at hD hX ⊢
  have hA : ∀ q : Nat, s.heap.size ≤ q → A q := fun q h => by rw [← hAe]; exact Or.inr h
  obtain ⟨H, hH⟩ : ∃ H : Heap, H = s.heap := ⟨_, rfl⟩
  have hS : va_S A s.heap H [] := hH ▸ va_S.rf
  have hK := hX.1
  have hP : va_P D vwCl [(h0, .inr (2, [.int sz, .int tn, .int sn, .ref ar])), (ar, .inl (cy 2, 3, .inr (.inr (.inr (.inr (va_up (va_up (va_up (fun _ => none) 0 (some c0)) 1 (some c1)) 2 (some c2))))))), (c0, .inr (0, [.int k0, .int s0, .ref r0])), (r0, .inl (cy 0, 6, .inl f0)), (c1, .inr (0, [.int k1, .int s1, .ref r1])), (r1, .inl (cy 0, 6, .inl f1)), (c2, .inr (0, [.int k2, .int s2, .ref r2])), (r2, .inl (cy 0, 6, .inl f2))] H := hH ▸ hP
  rw [← hH]
  have hw_X0 : ∀ w ∈ wsX00, w ∈ wsX2_forgetAll := by decide +kernel
  have hw_X2 : ∀ w ∈ wsX20, w ∈ wsX2_forgetAll := by decide +kernel
  have f_25 := hts (.fieldLink RX2 25 "CubeTower$Tower" "seen" "I") (by decide +kernel)
  have f_12 := hts (.fieldLink RX2 12 "CubeTower$Tower" "cubes" "[LCubeTower$Cube;") (by decide +kernel)
  have f_32 := hts (.fieldLink RX2 32 "CubeTower$Cube" "sorts" "I") (by decide +kernel)
  have hl := lv_entry ([.ref h0]) (n := 2) (Nat.le_of_ble_eq_true rfl)
  rw [lg_entry_eq]
  generalize (lg_sl ([.ref h0]) ++ List.replicate (2 - (lg_sl ([.ref h0])).length) Slot.unset).toArray = ls at hl ⊢
  have hl : lv_has ls 2 [(0, .ref h0)] := hl
  refine lv_aload_n hx hb dX2_forgetAll_0 rfl (lv_at hl 0 rfl) ?_
  refine lv_iconst (v := 0) hx hb dX2_forgetAll_1 (by decide) ?_
  refine va_put (D := D) (ci := 2) (v := .int 0) (ty := .int) (C := RX2) (T := TX2) (N := 4) hx hb hts hw_X2 tyX2 tyX2_ok nmX2 hown hK hP hD hS 0 rfl rfl 2 (by decide) f_25 (fun _ h9 => h9) rfl (by decide +kernel) rfl rfl (Nat.le_of_ble_eq_true rfl) dX2_forgetAll_2 (fun H locs hP hD hS => ?_)
  have hP : va_P D vwCl [(h0, .inr (2, [.int sz, .int tn, .int 0, .ref ar])), (ar, .inl (cy 2, 3, .inr (.inr (.inr (.inr (va_up (va_up (va_up (fun _ => none) 0 (some c0)) 1 (some c1)) 2 (some c2))))))), (c0, .inr (0, [.int k0, .int s0, .ref r0])), (r0, .inl (cy 0, 6, .inl f0)), (c1, .inr (0, [.int k1, .int s1, .ref r1])), (r1, .inl (cy 0, 6, .inl f1)), (c2, .inr (0, [.int k2, .int s2, .ref r2])), (r2, .inl (cy 0, 6, .inl f2))] H := hP
  have hD : va_D A [(h0, .inr (2, [.int sz, .int tn, .int 0, .ref ar])), (ar, .inl (cy 2, 3, .inr (.inr (.inr (.inr (va_up (va_up (va_up (fun _ => none) 0 (some c0)) 1 (some c1)) 2 (some c2))))))), (c0, .inr (0, [.int k0, .int s0, .ref r0])), (r0, .inl (cy 0, 6, .inl f0)), (c1, .inr (0, [.int k1, .int s1, .ref r1])), (r1, .inl (cy 0, 6, .inl f1)), (c2, .inr (0, [.int k2, .int s2, .ref r2])), (r2, .inl (cy 0, 6, .inl f2))] := hD
  refine lv_iconst (v := 0) hx hb dX2_forgetAll_5 (by decide) ?_
  refine lv_istore_n (lv' := [(1, .int 0), (0, .ref h0)]) hx hb dX2_forgetAll_6 rfl hl (by decide) rfl (fun ls hl => ?_)
  refine lv_iload_n hx hb dX2_forgetAll_7 rfl (lv_at hl 0 rfl) ?_
  refine lv_iconst (v := 3) hx hb dX2_forgetAll_8 (by decide) ?_
  refine lv_icmp_ge (tgt := 29) hx hb dX2_forgetAll_9 (by decide) (fun c_9 => ?_) (fun c_9 => ?_)
  · exact absurd c_9 (by decide)
  · refine lv_aload_n hx hb dX2_forgetAll_12 rfl (lv_at hl 1 rfl) ?_
    refine va_get (D := D) (ci := 2) (v := .ref ar) (C := RX2) (T := TX2) (N := 4) hx hb hts hw_X2 hown hK hP 0 rfl rfl 3 (by decide) f_12 (fun _ h9 => h9) rfl dX2_forgetAll_13 ?_
    refine lv_iload_n hx hb dX2_forgetAll_16 rfl (lv_at hl 0 rfl) ?_
    refine va_aldq hx hb hK hP 1 2 rfl rfl (vi_c (by decide +kernel)) dX2_forgetAll_17 ?_
    refine kq (a := c0) (rfl) ?_
    refine lv_bipush (v := 31) hx hb dX2_forgetAll_18 (by decide) ?_
    refine va_put (D := D) (ci := 0) (v := .int 31) (ty := .int) (C := RX0) (T := TX0) (N := 3) hx hb hts hw_X0 tyX0 tyX0_ok nmX0 hown hK hP hD hS 2 rfl rfl 1 (by decide) f_32 (fun _ h9 => h9) rfl (by decide +kernel) rfl rfl (Nat.le_of_ble_eq_true rfl) dX2_forgetAll_20 (fun H locs hP hD hS => ?_)
    have hP : va_P D vwCl [(h0, .inr (2, [.int sz, .int tn, .int 0, .ref ar])), (ar, .inl (cy 2, 3, .inr (.inr (.inr (.inr (va_up (va_up (va_up (fun _ => none) 0 (some c0)) 1 (some c1)) 2 (some c2))))))), (c0, .inr (0, [.int k0, .int 31, .ref r0])), (r0, .inl (cy 0, 6, .inl f0)), (c1, .inr (0, [.int k1, .int s1, .ref r1])), (r1, .inl (cy 0, 6, .inl f1)), (c2, .inr (0, [.int k2, .int s2, .ref r2])), (r2, .inl (cy 0, 6, .inl f2))] H := hP
    have hD : va_D A [(h0, .inr (2, [.int sz, .int tn, .int 0, .ref ar])), (ar, .inl (cy 2, 3, .inr (.inr (.inr (.inr (va_up (va_up (va_up (fun _ => none) 0 (some c0)) 1 (some c1)) 2 (some c2))))))), (c0, .inr (0, [.int k0, .int 31, .ref r0])), (r0, .inl (cy 0, 6, .inl f0)), (c1, .inr (0, [.int k1, .int s1, .ref r1])), (r1, .inl (cy 0, 6, .inl f1)), (c2, .inr (0, [.int k2, .int s2, .ref r2])), (r2, .inl (cy 0, 6, .inl f2))] := hD
    refine lv_iinc (v := 1) (lv' := [(1, .int 1), (0, .ref h0)]) hx hb dX2_forgetAll_23 hl (k := 0) rfl (by decide) (by decide) rfl (fun ls hl => ?_)
    refine lv_goto (tgt := 7) hx hb dX2_forgetAll_26 (by decide) ?_
    refine lv_iload_n hx hb dX2_forgetAll_7 rfl (lv_at hl 0 rfl) ?_
    refine lv_iconst (v := 3) hx hb dX2_forgetAll_8 (by decide) ?_
    refine lv_icmp_ge (tgt := 29) hx hb dX2_forgetAll_9 (by decide) (fun c_9 => ?_) (fun c_9 => ?_)
    · exact absurd c_9 (by decide)
    · refine lv_aload_n hx hb dX2_forgetAll_12 rfl (lv_at hl 1 rfl) ?_
      refine va_get (D := D) (ci := 2) (v := .ref ar) (C := RX2) (T := TX2) (N := 4) hx hb hts hw_X2 hown hK hP 0 rfl rfl 3 (by decide) f_12 (fun _ h9 => h9) rfl dX2_forgetAll_13 ?_
      refine lv_iload_n hx hb dX2_forgetAll_16 rfl (lv_at hl 0 rfl) ?_
      refine va_aldq hx hb hK hP 1 2 rfl rfl (vi_c (by decide +kernel)) dX2_forgetAll_17 ?_
      refine kq (a := c1) (rfl) ?_
      refine lv_bipush (v := 31) hx hb dX2_forgetAll_18 (by decide) ?_
      refine va_put (D := D) (ci := 0) (v := .int 31) (ty := .int) (C := RX0) (T := TX0) (N := 3) hx hb hts hw_X0 tyX0 tyX0_ok nmX0 hown hK hP hD hS 4 rfl rfl 1 (by decide) f_32 (fun _ h9 => h9) rfl (by decide +kernel) rfl rfl (Nat.le_of_ble_eq_true rfl) dX2_forgetAll_20 (fun H locs hP hD hS => ?_)
      have hP : va_P D vwCl [(h0, .inr (2, [.int sz, .int tn, .int 0, .ref ar])), (ar, .inl (cy 2, 3, .inr (.inr (.inr (.inr (va_up (va_up (va_up (fun _ => none) 0 (some c0)) 1 (some c1)) 2 (some c2))))))), (c0, .inr (0, [.int k0, .int 31, .ref r0])), (r0, .inl (cy 0, 6, .inl f0)), (c1, .inr (0, [.int k1, .int 31, .ref r1])), (r1, .inl (cy 0, 6, .inl f1)), (c2, .inr (0, [.int k2, .int s2, .ref r2])), (r2, .inl (cy 0, 6, .inl f2))] H := hP
      have hD : va_D A [(h0, .inr (2, [.int sz, .int tn, .int 0, .ref ar])), (ar, .inl (cy 2, 3, .inr (.inr (.inr (.inr (va_up (va_up (va_up (fun _ => none) 0 (some c0)) 1 (some c1)) 2 (some c2))))))), (c0, .inr (0, [.int k0, .int 31, .ref r0])), (r0, .inl (cy 0, 6, .inl f0)), (c1, .inr (0, [.int k1, .int 31, .ref r1])), (r1, .inl (cy 0, 6, .inl f1)), (c2, .inr (0, [.int k2, .int s2, .ref r2])), (r2, .inl (cy 0, 6, .inl f2))] := hD
      refine lv_iinc (v := 2) (lv' := [(1, .int 2), (0, .ref h0)]) hx hb dX2_forgetAll_23 hl (k := 0) rfl (by decide) (by decide) rfl (fun ls hl => ?_)
      refine lv_goto (tgt := 7) hx hb dX2_forgetAll_26 (by decide) ?_
      refine lv_iload_n hx hb dX2_forgetAll_7 rfl (lv_at hl 0 rfl) ?_
      refine lv_iconst (v := 3) hx hb dX2_forgetAll_8 (by decide) ?_
      refine lv_icmp_ge (tgt := 29) hx hb dX2_forgetAll_9 (by decide) (fun c_9 => ?_) (fun c_9 => ?_)
      · exact absurd c_9 (by decide)
      · refine lv_aload_n hx hb dX2_forgetAll_12 rfl (lv_at hl 1 rfl) ?_
        refine va_get (D := D) (ci := 2) (v := .ref ar) (C := RX2) (T := TX2) (N := 4) hx hb hts hw_X2 hown hK hP 0 rfl rfl 3 (by decide) f_12 (fun _ h9 => h9) rfl dX2_forgetAll_13 ?_
        refine lv_iload_n hx hb dX2_forgetAll_16 rfl (lv_at hl 0 rfl) ?_
        refine va_aldq hx hb hK hP 1 2 rfl rfl (vi_c (by decide +kernel)) dX2_forgetAll_17 ?_
        refine kq (a := c2) (rfl) ?_
        refine lv_bipush (v := 31) hx hb dX2_forgetAll_18 (by decide) ?_
        refine va_put (D := D) (ci := 0) (v := .int 31) (ty := .int) (C := RX0) (T := TX0) (N := 3) hx hb hts hw_X0 tyX0 tyX0_ok nmX0 hown hK hP hD hS 6 rfl rfl 1 (by decide) f_32 (fun _ h9 => h9) rfl (by decide +kernel) rfl rfl (Nat.le_of_ble_eq_true rfl) dX2_forgetAll_20 (fun H locs hP hD hS => ?_)
        have hP : va_P D vwCl [(h0, .inr (2, [.int sz, .int tn, .int 0, .ref ar])), (ar, .inl (cy 2, 3, .inr (.inr (.inr (.inr (va_up (va_up (va_up (fun _ => none) 0 (some c0)) 1 (some c1)) 2 (some c2))))))), (c0, .inr (0, [.int k0, .int 31, .ref r0])), (r0, .inl (cy 0, 6, .inl f0)), (c1, .inr (0, [.int k1, .int 31, .ref r1])), (r1, .inl (cy 0, 6, .inl f1)), (c2, .inr (0, [.int k2, .int 31, .ref r2])), (r2, .inl (cy 0, 6, .inl f2))] H := hP
        have hD : va_D A [(h0, .inr (2, [.int sz, .int tn, .int 0, .ref ar])), (ar, .inl (cy 2, 3, .inr (.inr (.inr (.inr (va_up (va_up (va_up (fun _ => none) 0 (some c0)) 1 (some c1)) 2 (some c2))))))), (c0, .inr (0, [.int k0, .int 31, .ref r0])), (r0, .inl (cy 0, 6, .inl f0)), (c1, .inr (0, [.int k1, .int 31, .ref r1])), (r1, .inl (cy 0, 6, .inl f1)), (c2, .inr (0, [.int k2, .int 31, .ref r2])), (r2, .inl (cy 0, 6, .inl f2))] := hD
        refine lv_iinc (v := 3) (lv' := [(1, .int 3), (0, .ref h0)]) hx hb dX2_forgetAll_23 hl (k := 0) rfl (by decide) (by decide) rfl (fun ls hl => ?_)
        refine lv_goto (tgt := 7) hx hb dX2_forgetAll_26 (by decide) ?_
        refine lv_iload_n hx hb dX2_forgetAll_7 rfl (lv_at hl 0 rfl) ?_
        refine lv_iconst (v := 3) hx hb dX2_forgetAll_8 (by decide) ?_
        refine lv_icmp_ge (tgt := 29) hx hb dX2_forgetAll_9 (by decide) (fun c_9 => ?_) (fun c_9 => ?_)
        · have hP9 := hP.sub (ws' := [(h0, .inr (2, [.int sz, .int tn, .int 0, .ref ar])), (ar, .inl (cy 2, 3, .inr (.inr (.inr (.inr (va_up (va_up (va_up (fun _ => none) 0 (some c0)) 1 (some c1)) 2 (some c2))))))), (c0, .inr (0, [.int k0, .int 31, .ref r0])), (r0, .inl (cy 0, 6, .inl f0)), (c1, .inr (0, [.int k1, .int 31, .ref r1])), (r1, .inl (cy 0, 6, .inl f1)), (c2, .inr (0, [.int k2, .int 31, .ref r2])), (r2, .inl (cy 0, 6, .inl f2))]) [0, 1, 2, 3, 4, 5, 6, 7] rfl
          have hD9 := hD.sub (ws' := [(h0, .inr (2, [.int sz, .int tn, .int 0, .ref ar])), (ar, .inl (cy 2, 3, .inr (.inr (.inr (.inr (va_up (va_up (va_up (fun _ => none) 0 (some c0)) 1 (some c1)) 2 (some c2))))))), (c0, .inr (0, [.int k0, .int 31, .ref r0])), (r0, .inl (cy 0, 6, .inl f0)), (c1, .inr (0, [.int k1, .int 31, .ref r1])), (r1, .inl (cy 0, 6, .inl f1)), (c2, .inr (0, [.int k2, .int 31, .ref r2])), (r2, .inl (cy 0, 6, .inl f2))]) [0, 1, 2, 3, 4, 5, 6, 7] (by decide +kernel) rfl
          exact W.vret hx hb hr (fun t9 ht9 hW9 => ⟨⟨[(h0, .inr (2, [.int sz, .int tn, .int 0, .ref ar])), (ar, .inl (cy 2, 3, .inr (.inr (.inr (.inr (va_up (va_up (va_up (fun _ => none) 0 (some c0)) 1 (some c1)) 2 (some c2))))))), (c0, .inr (0, [.int k0, .int 31, .ref r0])), (r0, .inl (cy 0, 6, .inl f0)), (c1, .inr (0, [.int k1, .int 31, .ref r1])), (r1, .inl (cy 0, 6, .inl f1)), (c2, .inr (0, [.int k2, .int 31, .ref r2])), (r2, .inl (cy 0, 6, .inl f2))], rfl, rfl, by rw [ht9]; exact hP9, hD9⟩, hS.F ht9⟩) hS.2.2 dX2_forgetAll_29
        · exact absurd c_9 (by decide)
def q_X4_forget (cy : Nat → ClassId) (h0 : Nat) (pg : Nat) (t0 : Nat) (t1 : Nat) (t2 : Nat) (sv : Nat) (e0 : Nat) (c0 : Nat) (r0 : Nat) (c1 : Nat) (r1 : Nat) (c2 : Nat) (r2 : Nat) : Int32 → va_W → Prop := fun (r : Int32) (u : va_W) => u = [(h0, .inr (4, [.ref pg, .int 0, .int 0, .int 0, .ref t0, .ref t1, .ref t2, .ref sv, .int 0])), (t0, .inr (2, [.int 0, .int 0, .int 0, .ref e0])), (e0, .inl (cy 2, 3, .inr (.inr (.inr (.inr (va_up (va_up (va_up (fun _ => none) 0 (some c0)) 1 (some c1)) 2 (some c2))))))), (c0, .inr (0, [.int 0, .int 31, .ref r0])), (r0, .inl (cy 0, 6, .inl (fun _ => 0))), (c1, .inr (0, [.int 0, .int 31, .ref r1])), (r1, .inl (cy 0, 6, .inl (fun _ => 0))), (c2, .inr (0, [.int 0, .int 31, .ref r2])), (r2, .inl (cy 0, 6, .inl (fun _ => 0)))] ∧ r = 0
set_option maxHeartbeats 4000000 in
set_option maxRecDepth 100000 in
theorem c_X4_forget (l : Launch) (D : va_G) (cy : Nat → ClassId) (zz : Nat) (h0 : Nat) (pg : Nat) (t0 : Nat) (t1 : Nat) (t2 : Nat) (sv : Nat) (e0 : Nat) (c0 : Nat) (r0 : Nat) (c1 : Nat) (r1 : Nat) (c2 : Nat) (r2 : Nat) : Met l yX4_forget wsX4_forget ({ frames := 1, cells := 0, slots := 0, locals := 21 } : Room) (va_Pc [.ref h0] (cpre D cy [(h0, .inr (4, [.ref pg, .int 0, .int 0, .int 0, .ref t0, .ref t1, .ref t2, .ref sv, .int 0])), (t0, .inr (2, [.int 0, .int 0, .int 0, .ref e0])), (e0, .inl (cy 2, 3, .inr (.inr (.inr (.inr (va_up (va_up (va_up (fun _ => none) 0 (some c0)) 1 (some c1)) 2 (some c2))))))), (c0, .inr (0, [.int 0, .int 31, .ref r0])), (r0, .inl (cy 0, 6, .inl (fun _ => 0))), (c1, .inr (0, [.int 0, .int 31, .ref r1])), (r1, .inl (cy 0, 6, .inl (fun _ => 0))), (c2, .inr (0, [.int 0, .int 31, .ref r2])), (r2, .inl (cy 0, 6, .inl (fun _ => 0)))] zz)) (va_Qi (q_X4_forget cy h0 pg t0 t1 t2 sv e0 c0 r0 c1 r1 c2 r2) (cpost D (va_A [(h0, .inr (4, [.ref pg, .int 0, .int 0, .int 0, .ref t0, .ref t1, .ref t2, .ref sv, .int 0])), (t0, .inr (2, [.int 0, .int 0, .int 0, .ref e0])), (e0, .inl (cy 2, 3, .inr (.inr (.inr (.inr (va_up (va_up (va_up (fun _ => none) 0 (some c0)) 1 (some c1)) 2 (some c2))))))), (c0, .inr (0, [.int 0, .int 31, .ref r0])), (r0, .inl (cy 0, 6, .inl (fun _ => 0))), (c1, .inr (0, [.int 0, .int 31, .ref r1])), (r1, .inl (cy 0, 6, .inl (fun _ => 0))), (c2, .inr (0, [.int 0, .int 31, .ref r2])), (r2, .inl (cy 0, 6, .inl (fun _ => 0)))] zz)) (va_A [(h0, .inr (4, [.ref pg, .int 0, .int 0, .int 0, .ref t0, .ref t1, .ref t2, .ref sv, .int 0])), (t0, .inr (2, [.int 0, .int 0, .int 0, .ref e0])), (e0, .inl (cy 2, 3, .inr (.inr (.inr (.inr (va_up (va_up (va_up (fun _ => none) 0 (some c0)) 1 (some c1)) 2 (some c2))))))), (c0, .inr (0, [.int 0, .int 31, .ref r0])), (r0, .inl (cy 0, 6, .inl (fun _ => 0))), (c1, .inr (0, [.int 0, .int 31, .ref r1])), (r1, .inl (cy 0, 6, .inl (fun _ => 0))), (c2, .inr (0, [.int 0, .int 31, .ref r2])), (r2, .inl (cy 0, 6, .inl (fun _ => 0)))] zz)) 0 0 (va_A [(h0, .inr (4, [.ref pg, .int 0, .int 0, .int 0, .ref t0, .ref t1, .ref t2, .ref sv, .int 0])), (t0, .inr (2, [.int 0, .int 0, .int 0, .ref e0])), (e0, .inl (cy 2, 3, .inr (.inr (.inr (.inr (va_up (va_up (va_up (fun _ => none) 0 (some c0)) 1 (some c1)) 2 (some c2))))))), (c0, .inr (0, [.int 0, .int 31, .ref r0])), (r0, .inl (cy 0, 6, .inl (fun _ => 0))), (c1, .inr (0, [.int 0, .int 31, .ref r1])), (r1, .inl (cy 0, 6, .inl (fun _ => 0))), (c2, .inr (0, [.int 0, .int 31, .ref r2])), (r2, .inl (cy 0, 6, .inl (fun _ => 0)))] zz) := by
  refine Met.ofW (cc := cX4_forget) (maxL := 2) (ret := (some .int)) (by decide) rfl ?_
  intro p e s m args below meth c s₁ B hml hv
  obtain ⟨rfl, hsz, hP, hD0, hX⟩ := hv
  have hx := B.exec
  have hb := B.bytes
  have hr := B.returns
  have hts := atoms_spec (ws := wsX4_forget) B.pre
  have hown : s.vm.findClass RX4 = some m.cls := findClass_of_methodNamed B.named
  have hlocks := B.notSynchronized
  subst hsz
  have hD := hD0.self (sz := s.heap.size)
  generalize hAe : va_A [(h0, .inr (4, [.ref pg, .int 0, .int 0, .int 0, .ref t0, .ref t1, .ref t2, .ref sv, .int 0])), (t0, .inr (2, [.int 0, .int 0, .int 0, .ref e0])), (e0, .inl (cy 2, 3, .inr (.inr (.inr (.inr (va_up (va_up (va_up (fun _ => none) 0 (some c0)) 1 (some c1)) 2 (some c2))))))), (c0, .inr (0, [.int 0, .int 31, .ref r0])), (r0, .inl (cy 0, 6, .inl (fun _ => 0))), (c1, .inr (0, [.int 0, .int 31, .ref r1])), (r1, .inl (cy 0, 6, .inl (fun _ => 0))), (c2, .inr (0, [.int 0, .int 31, .ref r2])), (r2, .inl (cy 0, 6, .inl (fun _ => 0)))] s.heap.size = A at hD hX ⊢
  have hA : ∀ q : Nat, s.heap.size ≤ q → A q := fun q h => by rw [← hAe]; exact Or.inr h
  obtain ⟨H, hH⟩ : ∃ H : Heap, H = s.heap := ⟨_, rfl⟩
  have hS : va_S A s.heap H [] := hH ▸ va_S.rf
  have hK := hX.1
  have hP : va_P D vwCl [(h0, .inr (4, [.ref pg, .int 0, .int 0, .int 0, .ref t0, .ref t1, .ref t2, .ref sv, .int 0])), (t0, .inr (2, [.int 0, .int 0, .int 0, .ref e0])), (e0, .inl (cy 2, 3, .inr (.inr (.inr (.inr (va_up (va_up (va_up (fun _ => none) 0 (some c0)) 1 (some c1)) 2 (some c2))))))), (c0, .inr (0, [.int 0, .int 31, .ref r0])), (r0, .inl (cy 0, 6, .inl (fun _ => 0))), (c1, .inr (0, [.int 0, .int 31, .ref r1])), (r1, .inl (cy 0, 6, .inl (fun _ => 0))), (c2, .inr (0, [.int 0, .int 31, .ref r2])), (r2, .inl (cy 0, 6, .inl (fun _ => 0)))] H := hH ▸ hP
  rw [← hH]
  have hw_X2 : ∀ w ∈ wsX20, w ∈ wsX4_forget := by decide +kernel
  have hw_X4 : ∀ w ∈ wsX40, w ∈ wsX4_forget := by decide +kernel
  have f_16 := hts (.fieldLink RX4 16 "CubeTower" "now" "LCubeTower$Tower;") (by decide +kernel)
  have f_168 := hts (.fieldLink RX4 168 "CubeTower$Tower" "seen" "I") (by decide +kernel)
  have hl := lv_entry ([.ref h0]) (n := 2) (Nat.le_of_ble_eq_true rfl)
  rw [lg_entry_eq]
  generalize (lg_sl ([.ref h0]) ++ List.replicate (2 - (lg_sl ([.ref h0])).length) Slot.unset).toArray = ls at hl ⊢
  have hl : lv_has ls 2 [(0, .ref h0)] := hl
  refine lv_aload_n hx hb dX4_forget_0 rfl (lv_at hl 0 rfl) ?_
  refine va_get (D := D) (ci := 4) (v := .ref t0) (C := RX4) (T := TX4) (N := 9) hx hb hts hw_X4 hown hK hP 0 rfl rfl 4 (by decide) f_16 (fun _ h9 => h9) rfl dX4_forget_1 ?_
  refine va_get (D := D) (ci := 2) (v := .int 0) (C := RX2) (T := TX2) (N := 4) hx hb hts hw_X2 hown hK hP 1 rfl rfl 2 (by decide) f_168 (fun _ h9 => h9) rfl dX4_forget_4 ?_
  refine lv_istore_n (lv' := [(1, .int 0), (0, .ref h0)]) hx hb dX4_forget_7 rfl hl (by decide) rfl (fun ls hl => ?_)
  refine lv_aload_n hx hb dX4_forget_8 rfl (lv_at hl 1 rfl) ?_
  refine va_get (D := D) (ci := 4) (v := .ref t0) (C := RX4) (T := TX4) (N := 9) hx hb hts hw_X4 hown hK hP 0 rfl rfl 4 (by decide) f_16 (fun _ h9 => h9) rfl dX4_forget_9 ?_
  refine kc_v (wc := [(t0, .inr (2, [.int 0, .int 0, .int 0, .ref e0])), (e0, .inl (cy 2, 3, .inr (.inr (.inr (.inr (va_up (va_up (va_up (fun _ => none) 0 (some c0)) 1 (some c1)) 2 (some c2))))))), (c0, .inr (0, [.int 0, .int 31, .ref r0])), (r0, .inl (cy 0, 6, .inl (fun _ => 0))), (c1, .inr (0, [.int 0, .int 31, .ref r1])), (r1, .inl (cy 0, 6, .inl (fun _ => 0))), (c2, .inr (0, [.int 0, .int 31, .ref r2])), (r2, .inl (cy 0, 6, .inl (fun _ => 0)))]) (wr := [(h0, .inr (4, [.ref pg, .int 0, .int 0, .int 0, .ref t0, .ref t1, .ref t2, .ref sv, .int 0]))]) (va_runV (As := []) (rest := []) ⟨hx, hb, hml, hown, hts⟩ (c_X2_forgetAll l D cy H.size t0 e0 c0 r0 c1 r1 c2 r2 0 0 0 0 31 0 31 0 31 (fun _ => 0) (fun _ => 0) (fun _ => 0) ) (cwV 0 hts gX4_forget_X2_forgetAll rfl rfl rfl (by decide +kernel) ⟨Nat.le_of_ble_eq_true rfl, Nat.le_of_ble_eq_true rfl⟩) (cpre_V (wc := [(t0, .inr (2, [.int 0, .int 0, .int 0, .ref e0])), (e0, .inl (cy 2, 3, .inr (.inr (.inr (.inr (va_up (va_up (va_up (fun _ => none) 0 (some c0)) 1 (some c1)) 2 (some c2))))))), (c0, .inr (0, [.int 0, .int 31, .ref r0])), (r0, .inl (cy 0, 6, .inl (fun _ => 0))), (c1, .inr (0, [.int 0, .int 31, .ref r1])), (r1, .inl (cy 0, 6, .inl (fun _ => 0))), (c2, .inr (0, [.int 0, .int 31, .ref r2])), (r2, .inl (cy 0, 6, .inl (fun _ => 0)))]) 1 2 rfl rfl hX hP hD hS hA [1, 2, 3, 4, 5, 6, 7, 8] (by decide +kernel) rfl) rfl rfl hl.1 rfl (lv_room (Nat.le_of_ble_eq_true rfl)) dX4_forget_12 ⟨Nat.le_of_ble_eq_true rfl, Nat.le_of_ble_eq_true rfl⟩) hP hD hS hA [1, 2, 3, 4, 5, 6, 7, 8] [0] rfl rfl (by decide +kernel) (by decide +kernel) (fun u2 H locs hw hP hD hS => ?_)
  have hu := hw
  subst hu
  have hP : va_P D vwCl [(h0, .inr (4, [.ref pg, .int 0, .int 0, .int 0, .ref t0, .ref t1, .ref t2, .ref sv, .int 0])), (t0, .inr (2, [.int 0, .int 0, .int 0, .ref e0])), (e0, .inl (cy 2, 3, .inr (.inr (.inr (.inr (va_up (va_up (va_up (fun _ => none) 0 (some c0)) 1 (some c1)) 2 (some c2))))))), (c0, .inr (0, [.int 0, .int 31, .ref r0])), (r0, .inl (cy 0, 6, .inl (fun _ => 0))), (c1, .inr (0, [.int 0, .int 31, .ref r1])), (r1, .inl (cy 0, 6, .inl (fun _ => 0))), (c2, .inr (0, [.int 0, .int 31, .ref r2])), (r2, .inl (cy 0, 6, .inl (fun _ => 0)))] H := hP
  have hD : va_D A [(h0, .inr (4, [.ref pg, .int 0, .int 0, .int 0, .ref t0, .ref t1, .ref t2, .ref sv, .int 0])), (t0, .inr (2, [.int 0, .int 0, .int 0, .ref e0])), (e0, .inl (cy 2, 3, .inr (.inr (.inr (.inr (va_up (va_up (va_up (fun _ => none) 0 (some c0)) 1 (some c1)) 2 (some c2))))))), (c0, .inr (0, [.int 0, .int 31, .ref r0])), (r0, .inl (cy 0, 6, .inl (fun _ => 0))), (c1, .inr (0, [.int 0, .int 31, .ref r1])), (r1, .inl (cy 0, 6, .inl (fun _ => 0))), (c2, .inr (0, [.int 0, .int 31, .ref r2])), (r2, .inl (cy 0, 6, .inl (fun _ => 0)))] := hD
  refine lv_iload_n hx hb dX4_forget_15 rfl (lv_at hl 0 rfl) ?_
  have hP9 := hP.sub (ws' := [(h0, .inr (4, [.ref pg, .int 0, .int 0, .int 0, .ref t0, .ref t1, .ref t2, .ref sv, .int 0])), (t0, .inr (2, [.int 0, .int 0, .int 0, .ref e0])), (e0, .inl (cy 2, 3, .inr (.inr (.inr (.inr (va_up (va_up (va_up (fun _ => none) 0 (some c0)) 1 (some c1)) 2 (some c2))))))), (c0, .inr (0, [.int 0, .int 31, .ref r0])), (r0, .inl (cy 0, 6, .inl (fun _ => 0))), (c1, .inr (0, [.int 0, .int 31, .ref r1])), (r1, .inl (cy 0, 6, .inl (fun _ => 0))), (c2, .inr (0, [.int 0, .int 31, .ref r2])), (r2, .inl (cy 0, 6, .inl (fun _ => 0)))]) [0, 1, 2, 3, 4, 5, 6, 7, 8] rfl
  have hD9 := hD.sub (ws' := [(h0, .inr (4, [.ref pg, .int 0, .int 0, .int 0, .ref t0, .ref t1, .ref t2, .ref sv, .int 0])), (t0, .inr (2, [.int 0, .int 0, .int 0, .ref e0])), (e0, .inl (cy 2, 3, .inr (.inr (.inr (.inr (va_up (va_up (va_up (fun _ => none) 0 (some c0)) 1 (some c1)) 2 (some c2))))))), (c0, .inr (0, [.int 0, .int 31, .ref r0])), (r0, .inl (cy 0, 6, .inl (fun _ => 0))), (c1, .inr (0, [.int 0, .int 31, .ref r1])), (r1, .inl (cy 0, 6, .inl (fun _ => 0))), (c2, .inr (0, [.int 0, .int 31, .ref r2])), (r2, .inl (cy 0, 6, .inl (fun _ => 0)))]) [0, 1, 2, 3, 4, 5, 6, 7, 8] (by decide +kernel) rfl
  exact W.iret (v := 0) hx hb hr (fun t9 ht9 hW9 => ⟨⟨0, [(h0, .inr (4, [.ref pg, .int 0, .int 0, .int 0, .ref t0, .ref t1, .ref t2, .ref sv, .int 0])), (t0, .inr (2, [.int 0, .int 0, .int 0, .ref e0])), (e0, .inl (cy 2, 3, .inr (.inr (.inr (.inr (va_up (va_up (va_up (fun _ => none) 0 (some c0)) 1 (some c1)) 2 (some c2))))))), (c0, .inr (0, [.int 0, .int 31, .ref r0])), (r0, .inl (cy 0, 6, .inl (fun _ => 0))), (c1, .inr (0, [.int 0, .int 31, .ref r1])), (r1, .inl (cy 0, 6, .inl (fun _ => 0))), (c2, .inr (0, [.int 0, .int 31, .ref r2])), (r2, .inl (cy 0, 6, .inl (fun _ => 0)))], rfl, ⟨rfl, rfl⟩, by rw [ht9]; exact hP9, hD9⟩, hS.F ht9⟩) hS.2.2 dX4_forget_16
def q_X2_clashesOn (cy : Nat → ClassId) (h0 : Nat) (ar : Nat) (w : Int32) : Int32 → va_W → Prop := fun (r : Int32) (u : va_W) => u = [(h0, .inr (2, [.int 0, .int 0, .int 0, .ref ar]))] ∧ r = 0
set_option maxHeartbeats 4000000 in
set_option maxRecDepth 100000 in
theorem c_X2_clashesOn (l : Launch) (D : va_G) (cy : Nat → ClassId) (zz : Nat) (h0 : Nat) (ar : Nat) (w : Int32) : Met l yX2_clashesOn wsX2_clashesOn ({ frames := 0, cells := 0, slots := 0, locals := 0 } : Room) (va_Pc [.ref h0, .int w] (cpre D cy [(h0, .inr (2, [.int 0, .int 0, .int 0, .ref ar]))] zz)) (va_Qi (q_X2_clashesOn cy h0 ar w) (cpost D (va_A [(h0, .inr (2, [.int 0, .int 0, .int 0, .ref ar]))] zz)) (va_A [(h0, .inr (2, [.int 0, .int 0, .int 0, .ref ar]))] zz)) 0 0 (va_A [(h0, .inr (2, [.int 0, .int 0, .int 0, .ref ar]))] zz) := by
  refine Met.ofW (cc := cX2_clashesOn) (maxL := 6) (ret := (some .int)) (by decide) rfl ?_
  intro p e s m args below meth c s₁ B hml hv
  obtain ⟨rfl, hsz, hP, hD0, hX⟩ := hv
  have hx := B.exec
  have hb := B.bytes
  have hr := B.returns
  have hts := atoms_spec (ws := wsX2_clashesOn) B.pre
  have hown : s.vm.findClass RX2 = some m.cls := findClass_of_methodNamed B.named
  have hlocks := B.notSynchronized
  subst hsz
  have hD := hD0.self (sz := s.heap.size)
  generalize hAe : va_A [(h0, .inr (2, [.int 0, .int 0, .int 0, .ref ar]))] s.heap.size = A at hD hX ⊢
  have hA : ∀ q : Nat, s.heap.size ≤ q → A q := fun q h => by rw [← hAe]; exact Or.inr h
  obtain ⟨H, hH⟩ : ∃ H : Heap, H = s.heap := ⟨_, rfl⟩
  have hS : va_S A s.heap H [] := hH ▸ va_S.rf
  have hK := hX.1
  have hP : va_P D vwCl [(h0, .inr (2, [.int 0, .int 0, .int 0, .ref ar]))] H := hH ▸ hP
  rw [← hH]
  have hw_X2 : ∀ w ∈ wsX20, w ∈ wsX2_clashesOn := by decide +kernel
  have f_18 := hts (.fieldLink RX2 18 "CubeTower$Tower" "size" "I") (by decide +kernel)
  have hl := lv_entry ([.ref h0, .int w]) (n := 6) (Nat.le_of_ble_eq_true rfl)
  rw [lg_entry_eq]
  generalize (lg_sl ([.ref h0, .int w]) ++ List.replicate (6 - (lg_sl ([.ref h0, .int w])).length) Slot.unset).toArray = ls at hl ⊢
  have hl : lv_has ls 6 [(0, .ref h0), (1, .int w)] := hl
  refine lv_iconst (v := 2) hx hb dX2_clashesOn_0 (by decide) ?_
  refine lv_iload_n hx hb dX2_clashesOn_1 rfl (lv_at hl 1 rfl) ?_
  refine lv_iadd hx hb dX2_clashesOn_2 ?_
  refine lv_istore_n (lv' := [(2, .int (2 + w)), (0, .ref h0), (1, .int w)]) hx hb dX2_clashesOn_3 rfl hl (by decide) rfl (fun ls hl => ?_)
  refine lv_iconst (v := 0) hx hb dX2_clashesOn_4 (by decide) ?_
  refine lv_istore_n (lv' := [(3, .int 0), (2, .int (2 + w)), (0, .ref h0), (1, .int w)]) hx hb dX2_clashesOn_5 rfl hl (by decide) rfl (fun ls hl => ?_)
  refine lv_iconst (v := 1) hx hb dX2_clashesOn_6 (by decide) ?_
  refine lv_istore (lv' := [(4, .int 1), (3, .int 0), (2, .int (2 + w)), (0, .ref h0), (1, .int w)]) hx hb dX2_clashesOn_7 hl (by decide) rfl (fun ls hl => ?_)
  refine lv_iload hx hb dX2_clashesOn_9 (lv_at hl 0 rfl) ?_
  refine lv_aload_n hx hb dX2_clashesOn_11 rfl (lv_at hl 3 rfl) ?_
  refine va_get (D := D) (ci := 2) (v := .int 0) (C := RX2) (T := TX2) (N := 4) hx hb hts hw_X2 hown hK hP 0 rfl rfl 0 (by decide) f_18 (fun _ h9 => h9) rfl dX2_clashesOn_12 ?_
  refine lv_icmp_ge (tgt := 76) hx hb dX2_clashesOn_15 (by decide) (fun c_15 => ?_) (fun c_15 => ?_)
  · refine lv_iload_n hx hb dX2_clashesOn_76 rfl (lv_at hl 1 rfl) ?_
    have hP9 := hP.sub (ws' := [(h0, .inr (2, [.int 0, .int 0, .int 0, .ref ar]))]) [0] rfl
    have hD9 := hD.sub (ws' := [(h0, .inr (2, [.int 0, .int 0, .int 0, .ref ar]))]) [0] (by decide +kernel) rfl
    exact W.iret (v := 0) hx hb hr (fun t9 ht9 hW9 => ⟨⟨0, [(h0, .inr (2, [.int 0, .int 0, .int 0, .ref ar]))], rfl, ⟨rfl, rfl⟩, by rw [ht9]; exact hP9, hD9⟩, hS.F ht9⟩) hS.2.2 dX2_clashesOn_77
  · exact absurd c_15 (by decide)
def q_X2_clashes (cy : Nat → ClassId) (h0 : Nat) (ar : Nat) : Int32 → va_W → Prop := fun (r : Int32) (u : va_W) => u = [(h0, .inr (2, [.int 0, .int 0, .int 0, .ref ar]))] ∧ r = 0
set_option maxHeartbeats 4000000 in
set_option maxRecDepth 100000 in
theorem c_X2_clashes (l : Launch) (D : va_G) (cy : Nat → ClassId) (zz : Nat) (h0 : Nat) (ar : Nat) : Met l yX2_clashes wsX2_clashes ({ frames := 1, cells := 0, slots := 0, locals := 25 } : Room) (va_Pc [.ref h0] (cpre D cy [(h0, .inr (2, [.int 0, .int 0, .int 0, .ref ar]))] zz)) (va_Qi (q_X2_clashes cy h0 ar) (cpost D (va_A [(h0, .inr (2, [.int 0, .int 0, .int 0, .ref ar]))] zz)) (va_A [(h0, .inr (2, [.int 0, .int 0, .int 0, .ref ar]))] zz)) 0 0 (va_A [(h0, .inr (2, [.int 0, .int 0, .int 0, .ref ar]))] zz) := by
  refine Met.ofW (cc := cX2_clashes) (maxL := 3) (ret := (some .int)) (by decide) rfl ?_
  intro p e s m args below meth c s₁ B hml hv
  obtain ⟨rfl, hsz, hP, hD0, hX⟩ := hv
  have hx := B.exec
  have hb := B.bytes
  have hr := B.returns
  have hts := atoms_spec (ws := wsX2_clashes) B.pre
  have hown : s.vm.findClass RX2 = some m.cls := findClass_of_methodNamed B.named
  have hlocks := B.notSynchronized
  subst hsz
  have hD := hD0.self (sz := s.heap.size)
  generalize hAe : va_A [(h0, .inr (2, [.int 0, .int 0, .int 0, .ref ar]))] s.heap.size = A at hD hX ⊢
  have hA : ∀ q : Nat, s.heap.size ≤ q → A q := fun q h => by rw [← hAe]; exact Or.inr h
  obtain ⟨H, hH⟩ : ∃ H : Heap, H = s.heap := ⟨_, rfl⟩
  have hS : va_S A s.heap H [] := hH ▸ va_S.rf
  have hK := hX.1
  have hP : va_P D vwCl [(h0, .inr (2, [.int 0, .int 0, .int 0, .ref ar]))] H := hH ▸ hP
  rw [← hH]
  have hl := lv_entry ([.ref h0]) (n := 3) (Nat.le_of_ble_eq_true rfl)
  rw [lg_entry_eq]
  generalize (lg_sl ([.ref h0]) ++ List.replicate (3 - (lg_sl ([.ref h0])).length) Slot.unset).toArray = ls at hl ⊢
  have hl : lv_has ls 3 [(0, .ref h0)] := hl
  refine lv_iconst (v := 0) hx hb dX2_clashes_0 (by decide) ?_
  refine lv_istore_n (lv' := [(1, .int 0), (0, .ref h0)]) hx hb dX2_clashes_1 rfl hl (by decide) rfl (fun ls hl => ?_)
  refine lv_iconst (v := 0) hx hb dX2_clashes_2 (by decide) ?_
  refine lv_istore_n (lv' := [(2, .int 0), (1, .int 0), (0, .ref h0)]) hx hb dX2_clashes_3 rfl hl (by decide) rfl (fun ls hl => ?_)
  refine lv_iload_n hx hb dX2_clashes_4 rfl (lv_at hl 0 rfl) ?_
  refine lv_iconst (v := 4) hx hb dX2_clashes_5 (by decide) ?_
  refine lv_icmp_ge (tgt := 23) hx hb dX2_clashes_6 (by decide) (fun c_6 => ?_) (fun c_6 => ?_)
  · exact absurd c_6 (by decide)
  · refine lv_iload_n hx hb dX2_clashes_9 rfl (lv_at hl 1 rfl) ?_
    refine lv_aload_n hx hb dX2_clashes_10 rfl (lv_at hl 2 rfl) ?_
    refine lv_iload_n hx hb dX2_clashes_11 rfl (lv_at hl 0 rfl) ?_
    refine kc_i (wc := [(h0, .inr (2, [.int 0, .int 0, .int 0, .ref ar]))]) (wr := []) (va_runV (As := [.int 0]) (rest := [.int 0]) ⟨hx, hb, hml, hown, hts⟩ (c_X2_clashesOn l D cy H.size h0 ar 0 ) (cwV 1 hts gX2_clashes_X2_clashesOn rfl rfl rfl (by decide +kernel) ⟨Nat.le_of_ble_eq_true rfl, Nat.le_of_ble_eq_true rfl⟩) (cpre_V (wc := [(h0, .inr (2, [.int 0, .int 0, .int 0, .ref ar]))]) 0 2 rfl rfl hX hP hD hS hA [0] (by decide +kernel) rfl) rfl rfl hl.1 rfl (lv_room (Nat.le_of_ble_eq_true rfl)) dX2_clashes_12 ⟨Nat.le_of_ble_eq_true rfl, Nat.le_of_ble_eq_true rfl⟩) hP hD hS hA [0] [] rfl rfl (by decide +kernel) (by decide +kernel) (fun ro u1 H locs hw hP hD hS => ?_)
    obtain ⟨hu, hro⟩ := hw
    subst hu
    have hP : va_P D vwCl [(h0, .inr (2, [.int 0, .int 0, .int 0, .ref ar]))] H := hP
    have hD : va_D A [(h0, .inr (2, [.int 0, .int 0, .int 0, .ref ar]))] := hD
    subst hro
    refine lv_iadd hx hb dX2_clashes_15 ?_
    refine lv_topi (fun y2 ey2 => ?_)
    obtain rfl : y2 = 0 := ey2.trans (by decide)
    refine lv_istore_n (lv' := [(1, .int 0), (2, .int 0), (0, .ref h0)]) hx hb dX2_clashes_16 rfl hl (by decide) rfl (fun ls hl => ?_)
    refine lv_iinc (v := 1) (lv' := [(2, .int 1), (1, .int 0), (0, .ref h0)]) hx hb dX2_clashes_17 hl (k := 1) rfl (by decide) (by decide) rfl (fun ls hl => ?_)
    refine lv_goto (tgt := 4) hx hb dX2_clashes_20 (by decide) ?_
    refine lv_iload_n hx hb dX2_clashes_4 rfl (lv_at hl 0 rfl) ?_
    refine lv_iconst (v := 4) hx hb dX2_clashes_5 (by decide) ?_
    refine lv_icmp_ge (tgt := 23) hx hb dX2_clashes_6 (by decide) (fun c_6 => ?_) (fun c_6 => ?_)
    · exact absurd c_6 (by decide)
    · refine lv_iload_n hx hb dX2_clashes_9 rfl (lv_at hl 1 rfl) ?_
      refine lv_aload_n hx hb dX2_clashes_10 rfl (lv_at hl 2 rfl) ?_
      refine lv_iload_n hx hb dX2_clashes_11 rfl (lv_at hl 0 rfl) ?_
      refine kc_i (wc := [(h0, .inr (2, [.int 0, .int 0, .int 0, .ref ar]))]) (wr := []) (va_runV (As := [.int 1]) (rest := [.int 0]) ⟨hx, hb, hml, hown, hts⟩ (c_X2_clashesOn l D cy H.size h0 ar 1 ) (cwV 1 hts gX2_clashes_X2_clashesOn rfl rfl rfl (by decide +kernel) ⟨Nat.le_of_ble_eq_true rfl, Nat.le_of_ble_eq_true rfl⟩) (cpre_V (wc := [(h0, .inr (2, [.int 0, .int 0, .int 0, .ref ar]))]) 0 2 rfl rfl hX hP hD hS hA [0] (by decide +kernel) rfl) rfl rfl hl.1 rfl (lv_room (Nat.le_of_ble_eq_true rfl)) dX2_clashes_12 ⟨Nat.le_of_ble_eq_true rfl, Nat.le_of_ble_eq_true rfl⟩) hP hD hS hA [0] [] rfl rfl (by decide +kernel) (by decide +kernel) (fun ro u3 H locs hw hP hD hS => ?_)
      obtain ⟨hu, hro⟩ := hw
      subst hu
      have hP : va_P D vwCl [(h0, .inr (2, [.int 0, .int 0, .int 0, .ref ar]))] H := hP
      have hD : va_D A [(h0, .inr (2, [.int 0, .int 0, .int 0, .ref ar]))] := hD
      subst hro
      refine lv_iadd hx hb dX2_clashes_15 ?_
      refine lv_topi (fun y4 ey4 => ?_)
      obtain rfl : y4 = 0 := ey4.trans (by decide)
      refine lv_istore_n (lv' := [(1, .int 0), (2, .int 1), (0, .ref h0)]) hx hb dX2_clashes_16 rfl hl (by decide) rfl (fun ls hl => ?_)
      refine lv_iinc (v := 2) (lv' := [(2, .int 2), (1, .int 0), (0, .ref h0)]) hx hb dX2_clashes_17 hl (k := 1) rfl (by decide) (by decide) rfl (fun ls hl => ?_)
      refine lv_goto (tgt := 4) hx hb dX2_clashes_20 (by decide) ?_
      refine lv_iload_n hx hb dX2_clashes_4 rfl (lv_at hl 0 rfl) ?_
      refine lv_iconst (v := 4) hx hb dX2_clashes_5 (by decide) ?_
      refine lv_icmp_ge (tgt := 23) hx hb dX2_clashes_6 (by decide) (fun c_6 => ?_) (fun c_6 => ?_)
      · exact absurd c_6 (by decide)
      · refine lv_iload_n hx hb dX2_clashes_9 rfl (lv_at hl 1 rfl) ?_
        refine lv_aload_n hx hb dX2_clashes_10 rfl (lv_at hl 2 rfl) ?_
        refine lv_iload_n hx hb dX2_clashes_11 rfl (lv_at hl 0 rfl) ?_
        refine kc_i (wc := [(h0, .inr (2, [.int 0, .int 0, .int 0, .ref ar]))]) (wr := []) (va_runV (As := [.int 2]) (rest := [.int 0]) ⟨hx, hb, hml, hown, hts⟩ (c_X2_clashesOn l D cy H.size h0 ar 2 ) (cwV 1 hts gX2_clashes_X2_clashesOn rfl rfl rfl (by decide +kernel) ⟨Nat.le_of_ble_eq_true rfl, Nat.le_of_ble_eq_true rfl⟩) (cpre_V (wc := [(h0, .inr (2, [.int 0, .int 0, .int 0, .ref ar]))]) 0 2 rfl rfl hX hP hD hS hA [0] (by decide +kernel) rfl) rfl rfl hl.1 rfl (lv_room (Nat.le_of_ble_eq_true rfl)) dX2_clashes_12 ⟨Nat.le_of_ble_eq_true rfl, Nat.le_of_ble_eq_true rfl⟩) hP hD hS hA [0] [] rfl rfl (by decide +kernel) (by decide +kernel) (fun ro u5 H locs hw hP hD hS => ?_)
        obtain ⟨hu, hro⟩ := hw
        subst hu
        have hP : va_P D vwCl [(h0, .inr (2, [.int 0, .int 0, .int 0, .ref ar]))] H := hP
        have hD : va_D A [(h0, .inr (2, [.int 0, .int 0, .int 0, .ref ar]))] := hD
        subst hro
        refine lv_iadd hx hb dX2_clashes_15 ?_
        refine lv_topi (fun y6 ey6 => ?_)
        obtain rfl : y6 = 0 := ey6.trans (by decide)
        refine lv_istore_n (lv' := [(1, .int 0), (2, .int 2), (0, .ref h0)]) hx hb dX2_clashes_16 rfl hl (by decide) rfl (fun ls hl => ?_)
        refine lv_iinc (v := 3) (lv' := [(2, .int 3), (1, .int 0), (0, .ref h0)]) hx hb dX2_clashes_17 hl (k := 1) rfl (by decide) (by decide) rfl (fun ls hl => ?_)
        refine lv_goto (tgt := 4) hx hb dX2_clashes_20 (by decide) ?_
        refine lv_iload_n hx hb dX2_clashes_4 rfl (lv_at hl 0 rfl) ?_
        refine lv_iconst (v := 4) hx hb dX2_clashes_5 (by decide) ?_
        refine lv_icmp_ge (tgt := 23) hx hb dX2_clashes_6 (by decide) (fun c_6 => ?_) (fun c_6 => ?_)
        · exact absurd c_6 (by decide)
        · refine lv_iload_n hx hb dX2_clashes_9 rfl (lv_at hl 1 rfl) ?_
          refine lv_aload_n hx hb dX2_clashes_10 rfl (lv_at hl 2 rfl) ?_
          refine lv_iload_n hx hb dX2_clashes_11 rfl (lv_at hl 0 rfl) ?_
          refine kc_i (wc := [(h0, .inr (2, [.int 0, .int 0, .int 0, .ref ar]))]) (wr := []) (va_runV (As := [.int 3]) (rest := [.int 0]) ⟨hx, hb, hml, hown, hts⟩ (c_X2_clashesOn l D cy H.size h0 ar 3 ) (cwV 1 hts gX2_clashes_X2_clashesOn rfl rfl rfl (by decide +kernel) ⟨Nat.le_of_ble_eq_true rfl, Nat.le_of_ble_eq_true rfl⟩) (cpre_V (wc := [(h0, .inr (2, [.int 0, .int 0, .int 0, .ref ar]))]) 0 2 rfl rfl hX hP hD hS hA [0] (by decide +kernel) rfl) rfl rfl hl.1 rfl (lv_room (Nat.le_of_ble_eq_true rfl)) dX2_clashes_12 ⟨Nat.le_of_ble_eq_true rfl, Nat.le_of_ble_eq_true rfl⟩) hP hD hS hA [0] [] rfl rfl (by decide +kernel) (by decide +kernel) (fun ro u7 H locs hw hP hD hS => ?_)
          obtain ⟨hu, hro⟩ := hw
          subst hu
          have hP : va_P D vwCl [(h0, .inr (2, [.int 0, .int 0, .int 0, .ref ar]))] H := hP
          have hD : va_D A [(h0, .inr (2, [.int 0, .int 0, .int 0, .ref ar]))] := hD
          subst hro
          refine lv_iadd hx hb dX2_clashes_15 ?_
          refine lv_topi (fun y8 ey8 => ?_)
          obtain rfl : y8 = 0 := ey8.trans (by decide)
          refine lv_istore_n (lv' := [(1, .int 0), (2, .int 3), (0, .ref h0)]) hx hb dX2_clashes_16 rfl hl (by decide) rfl (fun ls hl => ?_)
          refine lv_iinc (v := 4) (lv' := [(2, .int 4), (1, .int 0), (0, .ref h0)]) hx hb dX2_clashes_17 hl (k := 1) rfl (by decide) (by decide) rfl (fun ls hl => ?_)
          refine lv_goto (tgt := 4) hx hb dX2_clashes_20 (by decide) ?_
          refine lv_iload_n hx hb dX2_clashes_4 rfl (lv_at hl 0 rfl) ?_
          refine lv_iconst (v := 4) hx hb dX2_clashes_5 (by decide) ?_
          refine lv_icmp_ge (tgt := 23) hx hb dX2_clashes_6 (by decide) (fun c_6 => ?_) (fun c_6 => ?_)
          · refine lv_iload_n hx hb dX2_clashes_23 rfl (lv_at hl 1 rfl) ?_
            have hP9 := hP.sub (ws' := [(h0, .inr (2, [.int 0, .int 0, .int 0, .ref ar]))]) [0] rfl
            have hD9 := hD.sub (ws' := [(h0, .inr (2, [.int 0, .int 0, .int 0, .ref ar]))]) [0] (by decide +kernel) rfl
            exact W.iret (v := 0) hx hb hr (fun t9 ht9 hW9 => ⟨⟨0, [(h0, .inr (2, [.int 0, .int 0, .int 0, .ref ar]))], rfl, ⟨rfl, rfl⟩, by rw [ht9]; exact hP9, hD9⟩, hS.F ht9⟩) hS.2.2 dX2_clashes_24
          · exact absurd c_6 (by decide)
def q_X2_goodWalls (cy : Nat → ClassId) (h0 : Nat) (ar : Nat) : Int32 → va_W → Prop := fun (r : Int32) (u : va_W) => u = [(h0, .inr (2, [.int 0, .int 0, .int 0, .ref ar]))] ∧ r = 0
set_option maxHeartbeats 4000000 in
set_option maxRecDepth 100000 in
theorem c_X2_goodWalls (l : Launch) (D : va_G) (cy : Nat → ClassId) (zz : Nat) (h0 : Nat) (ar : Nat) : Met l yX2_goodWalls wsX2_goodWalls ({ frames := 0, cells := 0, slots := 0, locals := 0 } : Room) (va_Pc [.ref h0] (cpre D cy [(h0, .inr (2, [.int 0, .int 0, .int 0, .ref ar]))] zz)) (va_Qi (q_X2_goodWalls cy h0 ar) (cpost D (va_A [(h0, .inr (2, [.int 0, .int 0, .int 0, .ref ar]))] zz)) (va_A [(h0, .inr (2, [.int 0, .int 0, .int 0, .ref ar]))] zz)) 0 0 (va_A [(h0, .inr (2, [.int 0, .int 0, .int 0, .ref ar]))] zz) := by
  refine Met.ofW (cc := cX2_goodWalls) (maxL := 3) (ret := (some .int)) (by decide) rfl ?_
  intro p e s m args below meth c s₁ B hml hv
  obtain ⟨rfl, hsz, hP, hD0, hX⟩ := hv
  have hx := B.exec
  have hb := B.bytes
  have hr := B.returns
  have hts := atoms_spec (ws := wsX2_goodWalls) B.pre
  have hown : s.vm.findClass RX2 = some m.cls := findClass_of_methodNamed B.named
  have hlocks := B.notSynchronized
  subst hsz
  have hD := hD0.self (sz := s.heap.size)
  generalize hAe : va_A [(h0, .inr (2, [.int 0, .int 0, .int 0, .ref ar]))] s.heap.size = A at hD hX ⊢
  have hA : ∀ q : Nat, s.heap.size ≤ q → A q := fun q h => by rw [← hAe]; exact Or.inr h
  obtain ⟨H, hH⟩ : ∃ H : Heap, H = s.heap := ⟨_, rfl⟩
  have hS : va_S A s.heap H [] := hH ▸ va_S.rf
  have hK := hX.1
  have hP : va_P D vwCl [(h0, .inr (2, [.int 0, .int 0, .int 0, .ref ar]))] H := hH ▸ hP
  rw [← hH]
  have hw_X2 : ∀ w ∈ wsX20, w ∈ wsX2_goodWalls := by decide +kernel
  have f_18 := hts (.fieldLink RX2 18 "CubeTower$Tower" "size" "I") (by decide +kernel)
  have hl := lv_entry ([.ref h0]) (n := 3) (Nat.le_of_ble_eq_true rfl)
  rw [lg_entry_eq]
  generalize (lg_sl ([.ref h0]) ++ List.replicate (3 - (lg_sl ([.ref h0])).length) Slot.unset).toArray = ls at hl ⊢
  have hl : lv_has ls 3 [(0, .ref h0)] := hl
  refine lv_iconst (v := 0) hx hb dX2_goodWalls_0 (by decide) ?_
  refine lv_istore_n (lv' := [(1, .int 0), (0, .ref h0)]) hx hb dX2_goodWalls_1 rfl hl (by decide) rfl (fun ls hl => ?_)
  refine lv_iconst (v := 0) hx hb dX2_goodWalls_2 (by decide) ?_
  refine lv_istore_n (lv' := [(2, .int 0), (1, .int 0), (0, .ref h0)]) hx hb dX2_goodWalls_3 rfl hl (by decide) rfl (fun ls hl => ?_)
  refine lv_iload_n hx hb dX2_goodWalls_4 rfl (lv_at hl 0 rfl) ?_
  refine lv_iconst (v := 4) hx hb dX2_goodWalls_5 (by decide) ?_
  refine lv_icmp_ge (tgt := 33) hx hb dX2_goodWalls_6 (by decide) (fun c_6 => ?_) (fun c_6 => ?_)
  · exact absurd c_6 (by decide)
  · refine lv_aload_n hx hb dX2_goodWalls_9 rfl (lv_at hl 2 rfl) ?_
    refine va_get (D := D) (ci := 2) (v := .int 0) (C := RX2) (T := TX2) (N := 4) hx hb hts hw_X2 hown hK hP 0 rfl rfl 0 (by decide) f_18 (fun _ h9 => h9) rfl dX2_goodWalls_10 ?_
    refine lv_if_le (tgt := 33) hx hb dX2_goodWalls_13 (by decide) (fun c_13 => ?_) (fun c_13 => ?_)
    · refine lv_iload_n hx hb dX2_goodWalls_33 rfl (lv_at hl 1 rfl) ?_
      have hP9 := hP.sub (ws' := [(h0, .inr (2, [.int 0, .int 0, .int 0, .ref ar]))]) [0] rfl
      have hD9 := hD.sub (ws' := [(h0, .inr (2, [.int 0, .int 0, .int 0, .ref ar]))]) [0] (by decide +kernel) rfl
      exact W.iret (v := 0) hx hb hr (fun t9 ht9 hW9 => ⟨⟨0, [(h0, .inr (2, [.int 0, .int 0, .int 0, .ref ar]))], rfl, ⟨rfl, rfl⟩, by rw [ht9]; exact hP9, hD9⟩, hS.F ht9⟩) hS.2.2 dX2_goodWalls_34
    · exact absurd c_13 (by decide)
def q_J6_bitCount_0f7a4 (cy : Nat → ClassId) : Int32 → va_W → Prop := fun (r : Int32) (u : va_W) => u = [] ∧ r = 0
set_option maxHeartbeats 4000000 in
set_option maxRecDepth 100000 in
theorem c_J6_bitCount_0f7a4 (l : Launch) (D : va_G) (cy : Nat → ClassId) (zz : Nat) : Met l yJ6_bitCount_0f7a4 wsJ6_bitCount_0f7a4 ({ frames := 0, cells := 0, slots := 0, locals := 0 } : Room) (va_Pc [.int 0] (cpre D cy [] zz)) (va_Qi (q_J6_bitCount_0f7a4 cy ) (cpost D (va_A [] zz)) (va_A [] zz)) 0 0 (va_A [] zz) := by
  refine Met.ofW (cc := cJ6_bitCount_0f7a4) (maxL := 1) (ret := (some .int)) (by decide) rfl ?_
  intro p e s m args below meth c s₁ B hml hv
  obtain ⟨rfl, hsz, hP, hD0, hX⟩ := hv
  have hx := B.exec
  have hb := B.bytes
  have hr := B.returns
  have hts := atoms_spec (ws := wsJ6_bitCount_0f7a4) B.pre
  have hown : s.vm.findClass RJ6 = some m.cls := findClass_of_methodNamed B.named
  have hlocks := B.notSynchronized
  subst hsz
  have hD := hD0.self (sz := s.heap.size)
  generalize hAe : va_A [] s.heap.size = A at hD hX ⊢
  have hA : ∀ q : Nat, s.heap.size ≤ q → A q := fun q h => by rw [← hAe]; exact Or.inr h
  obtain ⟨H, hH⟩ : ∃ H : Heap, H = s.heap := ⟨_, rfl⟩
  have hS : va_S A s.heap H [] := hH ▸ va_S.rf
  have hK := hX.1
  have hP : va_P D vwCl [] H := hH ▸ hP
  rw [← hH]
  have k_265 := hts (.constant RJ6 265 (1431655765)) (by decide +kernel)
  have k_266 := hts (.constant RJ6 266 (858993459)) (by decide +kernel)
  have k_267 := hts (.constant RJ6 267 (252645135)) (by decide +kernel)
  have hl := lv_entry ([.int 0]) (n := 1) (Nat.le_of_ble_eq_true rfl)
  rw [lg_entry_eq]
  generalize (lg_sl ([.int 0]) ++ List.replicate (1 - (lg_sl ([.int 0])).length) Slot.unset).toArray = ls at hl ⊢
  have hl : lv_has ls 1 [(0, .int 0)] := hl
  refine lv_iload_n hx hb dJ6_bitCount_0f7a4_0 rfl (lv_at hl 0 rfl) ?_
  refine lv_iload_n hx hb dJ6_bitCount_0f7a4_1 rfl (lv_at hl 0 rfl) ?_
  refine lv_iconst (v := 1) hx hb dJ6_bitCount_0f7a4_2 (by decide) ?_
  refine lv_iushr hx hb dJ6_bitCount_0f7a4_3 rfl ?_
  refine lv_topi (fun y1 ey1 => ?_)
  obtain rfl : y1 = 0 := ey1.trans (by decide)
  refine lv_ldcw hx hb hown k_265 dJ6_bitCount_0f7a4_4 ?_
  refine lv_iand hx hb dJ6_bitCount_0f7a4_7 ?_
  refine lv_topi (fun y2 ey2 => ?_)
  obtain rfl : y2 = 0 := ey2.trans (by decide)
  refine lv_isub hx hb dJ6_bitCount_0f7a4_8 ?_
  refine lv_topi (fun y3 ey3 => ?_)
  obtain rfl : y3 = 0 := ey3.trans (by decide)
  refine lv_istore_n (lv' := [(0, .int 0)]) hx hb dJ6_bitCount_0f7a4_9 rfl hl (by decide) rfl (fun ls hl => ?_)
  refine lv_iload_n hx hb dJ6_bitCount_0f7a4_10 rfl (lv_at hl 0 rfl) ?_
  refine lv_ldcw hx hb hown k_266 dJ6_bitCount_0f7a4_11 ?_
  refine lv_iand hx hb dJ6_bitCount_0f7a4_14 ?_
  refine lv_topi (fun y4 ey4 => ?_)
  obtain rfl : y4 = 0 := ey4.trans (by decide)
  refine lv_iload_n hx hb dJ6_bitCount_0f7a4_15 rfl (lv_at hl 0 rfl) ?_
  refine lv_iconst (v := 2) hx hb dJ6_bitCount_0f7a4_16 (by decide) ?_
  refine lv_iushr hx hb dJ6_bitCount_0f7a4_17 rfl ?_
  refine lv_topi (fun y5 ey5 => ?_)
  obtain rfl : y5 = 0 := ey5.trans (by decide)
  refine lv_ldcw hx hb hown k_266 dJ6_bitCount_0f7a4_18 ?_
  refine lv_iand hx hb dJ6_bitCount_0f7a4_21 ?_
  refine lv_topi (fun y6 ey6 => ?_)
  obtain rfl : y6 = 0 := ey6.trans (by decide)
  refine lv_iadd hx hb dJ6_bitCount_0f7a4_22 ?_
  refine lv_topi (fun y7 ey7 => ?_)
  obtain rfl : y7 = 0 := ey7.trans (by decide)
  refine lv_istore_n (lv' := [(0, .int 0)]) hx hb dJ6_bitCount_0f7a4_23 rfl hl (by decide) rfl (fun ls hl => ?_)
  refine lv_iload_n hx hb dJ6_bitCount_0f7a4_24 rfl (lv_at hl 0 rfl) ?_
  refine lv_iload_n hx hb dJ6_bitCount_0f7a4_25 rfl (lv_at hl 0 rfl) ?_
  refine lv_iconst (v := 4) hx hb dJ6_bitCount_0f7a4_26 (by decide) ?_
  refine lv_iushr hx hb dJ6_bitCount_0f7a4_27 rfl ?_
  refine lv_topi (fun y8 ey8 => ?_)
  obtain rfl : y8 = 0 := ey8.trans (by decide)
  refine lv_iadd hx hb dJ6_bitCount_0f7a4_28 ?_
  refine lv_topi (fun y9 ey9 => ?_)
  obtain rfl : y9 = 0 := ey9.trans (by decide)
  refine lv_ldcw hx hb hown k_267 dJ6_bitCount_0f7a4_29 ?_
  refine lv_iand hx hb dJ6_bitCount_0f7a4_32 ?_
  refine lv_topi (fun y10 ey10 => ?_)
  obtain rfl : y10 = 0 := ey10.trans (by decide)
  refine lv_istore_n (lv' := [(0, .int 0)]) hx hb dJ6_bitCount_0f7a4_33 rfl hl (by decide) rfl (fun ls hl => ?_)
  refine lv_iload_n hx hb dJ6_bitCount_0f7a4_34 rfl (lv_at hl 0 rfl) ?_
  refine lv_iload_n hx hb dJ6_bitCount_0f7a4_35 rfl (lv_at hl 0 rfl) ?_
  refine lv_bipush (v := 8) hx hb dJ6_bitCount_0f7a4_36 (by decide) ?_
  refine lv_iushr hx hb dJ6_bitCount_0f7a4_38 rfl ?_
  refine lv_topi (fun y11 ey11 => ?_)
  obtain rfl : y11 = 0 := ey11.trans (by decide)
  refine lv_iadd hx hb dJ6_bitCount_0f7a4_39 ?_
  refine lv_topi (fun y12 ey12 => ?_)
  obtain rfl : y12 = 0 := ey12.trans (by decide)
  refine lv_istore_n (lv' := [(0, .int 0)]) hx hb dJ6_bitCount_0f7a4_40 rfl hl (by decide) rfl (fun ls hl => ?_)
  refine lv_iload_n hx hb dJ6_bitCount_0f7a4_41 rfl (lv_at hl 0 rfl) ?_
  refine lv_iload_n hx hb dJ6_bitCount_0f7a4_42 rfl (lv_at hl 0 rfl) ?_
  refine lv_bipush (v := 16) hx hb dJ6_bitCount_0f7a4_43 (by decide) ?_
  refine lv_iushr hx hb dJ6_bitCount_0f7a4_45 rfl ?_
  refine lv_topi (fun y13 ey13 => ?_)
  obtain rfl : y13 = 0 := ey13.trans (by decide)
  refine lv_iadd hx hb dJ6_bitCount_0f7a4_46 ?_
  refine lv_topi (fun y14 ey14 => ?_)
  obtain rfl : y14 = 0 := ey14.trans (by decide)
  refine lv_istore_n (lv' := [(0, .int 0)]) hx hb dJ6_bitCount_0f7a4_47 rfl hl (by decide) rfl (fun ls hl => ?_)
  refine lv_iload_n hx hb dJ6_bitCount_0f7a4_48 rfl (lv_at hl 0 rfl) ?_
  refine lv_bipush (v := 63) hx hb dJ6_bitCount_0f7a4_49 (by decide) ?_
  refine lv_iand hx hb dJ6_bitCount_0f7a4_51 ?_
  refine lv_topi (fun y15 ey15 => ?_)
  obtain rfl : y15 = 0 := ey15.trans (by decide)
  have hP9 := hP.sub (ws' := []) [] rfl
  have hD9 := hD.sub (ws' := []) [] (by decide +kernel) rfl
  exact W.iret (v := 0) hx hb hr (fun t9 ht9 hW9 => ⟨⟨0, [], rfl, ⟨rfl, rfl⟩, by rw [ht9]; exact hP9, hD9⟩, hS.F ht9⟩) hS.2.2 dJ6_bitCount_0f7a4_52
def q_X2_coloursUsed (cy : Nat → ClassId) (h0 : Nat) (ar : Nat) : Int32 → va_W → Prop := fun (r : Int32) (u : va_W) => u = [(h0, .inr (2, [.int 0, .int 0, .int 0, .ref ar]))] ∧ r = 0
set_option maxHeartbeats 4000000 in
set_option maxRecDepth 100000 in
theorem c_X2_coloursUsed (l : Launch) (D : va_G) (cy : Nat → ClassId) (zz : Nat) (h0 : Nat) (ar : Nat) : Met l yX2_coloursUsed wsX2_coloursUsed ({ frames := 1, cells := 0, slots := 0, locals := 20 } : Room) (va_Pc [.ref h0] (cpre D cy [(h0, .inr (2, [.int 0, .int 0, .int 0, .ref ar]))] zz)) (va_Qi (q_X2_coloursUsed cy h0 ar) (cpost D (va_A [(h0, .inr (2, [.int 0, .int 0, .int 0, .ref ar]))] zz)) (va_A [(h0, .inr (2, [.int 0, .int 0, .int 0, .ref ar]))] zz)) 0 0 (va_A [(h0, .inr (2, [.int 0, .int 0, .int 0, .ref ar]))] zz) := by
  refine Met.ofW (cc := cX2_coloursUsed) (maxL := 4) (ret := (some .int)) (by decide) rfl ?_
  intro p e s m args below meth c s₁ B hml hv
  obtain ⟨rfl, hsz, hP, hD0, hX⟩ := hv
  have hx := B.exec
  have hb := B.bytes
  have hr := B.returns
  have hts := atoms_spec (ws := wsX2_coloursUsed) B.pre
  have hown : s.vm.findClass RX2 = some m.cls := findClass_of_methodNamed B.named
  have hlocks := B.notSynchronized
  subst hsz
  have hD := hD0.self (sz := s.heap.size)
  generalize hAe : va_A [(h0, .inr (2, [.int 0, .int 0, .int 0, .ref ar]))] s.heap.size = A at hD hX ⊢
  have hA : ∀ q : Nat, s.heap.size ≤ q → A q := fun q h => by rw [← hAe]; exact Or.inr h
  obtain ⟨H, hH⟩ : ∃ H : Heap, H = s.heap := ⟨_, rfl⟩
  have hS : va_S A s.heap H [] := hH ▸ va_S.rf
  have hK := hX.1
  have hP : va_P D vwCl [(h0, .inr (2, [.int 0, .int 0, .int 0, .ref ar]))] H := hH ▸ hP
  rw [← hH]
  have hw_X2 : ∀ w ∈ wsX20, w ∈ wsX2_coloursUsed := by decide +kernel
  have f_18 := hts (.fieldLink RX2 18 "CubeTower$Tower" "size" "I") (by decide +kernel)
  have hl := lv_entry ([.ref h0]) (n := 4) (Nat.le_of_ble_eq_true rfl)
  rw [lg_entry_eq]
  generalize (lg_sl ([.ref h0]) ++ List.replicate (4 - (lg_sl ([.ref h0])).length) Slot.unset).toArray = ls at hl ⊢
  have hl : lv_has ls 4 [(0, .ref h0)] := hl
  refine lv_iconst (v := 0) hx hb dX2_coloursUsed_0 (by decide) ?_
  refine lv_istore_n (lv' := [(1, .int 0), (0, .ref h0)]) hx hb dX2_coloursUsed_1 rfl hl (by decide) rfl (fun ls hl => ?_)
  refine lv_iconst (v := 0) hx hb dX2_coloursUsed_2 (by decide) ?_
  refine lv_istore_n (lv' := [(2, .int 0), (1, .int 0), (0, .ref h0)]) hx hb dX2_coloursUsed_3 rfl hl (by decide) rfl (fun ls hl => ?_)
  refine lv_iload_n hx hb dX2_coloursUsed_4 rfl (lv_at hl 0 rfl) ?_
  refine lv_aload_n hx hb dX2_coloursUsed_5 rfl (lv_at hl 2 rfl) ?_
  refine va_get (D := D) (ci := 2) (v := .int 0) (C := RX2) (T := TX2) (N := 4) hx hb hts hw_X2 hown hK hP 0 rfl rfl 0 (by decide) f_18 (fun _ h9 => h9) rfl dX2_coloursUsed_6 ?_
  refine lv_icmp_ge (tgt := 53) hx hb dX2_coloursUsed_9 (by decide) (fun c_9 => ?_) (fun c_9 => ?_)
  · refine lv_iload_n hx hb dX2_coloursUsed_53 rfl (lv_at hl 1 rfl) ?_
    refine kc_i (wc := []) (wr := [(h0, .inr (2, [.int 0, .int 0, .int 0, .ref ar]))]) (va_runS (As := [.int 0]) (rest := []) ⟨hx, hb, hml, hown, hts⟩ (c_J6_bitCount_0f7a4 l D cy H.size  ) (va_cwS 1 hts gX2_coloursUsed_J6_bitCount_0f7a4 rfl rfl rfl (by decide +kernel) ⟨Nat.le_of_ble_eq_true rfl, Nat.le_of_ble_eq_true rfl⟩) (cpre_S (wc := []) hX hP hD hS hA [] (by decide +kernel) rfl) rfl rfl hl.1 rfl (lv_room (Nat.le_of_ble_eq_true rfl)) dX2_coloursUsed_54 ⟨Nat.le_of_ble_eq_true rfl, Nat.le_of_ble_eq_true rfl⟩) hP hD hS hA [] [0] rfl rfl (by decide +kernel) (by decide +kernel) (fun rb u1 H locs hw hP hD hS => ?_)
    obtain ⟨hu, hb0⟩ := hw
    subst hu
    have hP : va_P D vwCl [(h0, .inr (2, [.int 0, .int 0, .int 0, .ref ar]))] H := hP
    have hD : va_D A [(h0, .inr (2, [.int 0, .int 0, .int 0, .ref ar]))] := hD
    have hP9 := hP.sub (ws' := [(h0, .inr (2, [.int 0, .int 0, .int 0, .ref ar]))]) [0] rfl
    have hD9 := hD.sub (ws' := [(h0, .inr (2, [.int 0, .int 0, .int 0, .ref ar]))]) [0] (by decide +kernel) rfl
    exact W.iret (v := rb) hx hb hr (fun t9 ht9 hW9 => ⟨⟨rb, [(h0, .inr (2, [.int 0, .int 0, .int 0, .ref ar]))], rfl, ⟨rfl, hb0⟩, by rw [ht9]; exact hP9, hD9⟩, hS.F ht9⟩) hS.2.2 dX2_coloursUsed_57
  · exact absurd c_9 (by decide)
