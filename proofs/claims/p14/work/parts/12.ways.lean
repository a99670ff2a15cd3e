def q_X3_sameRows (cy : Nat → ClassId) (h0 : Nat) (q1 : Nat) (q2 : Nat) (q3 : Nat) (zv : Int32) (f : Nat → Int32) (a : Nat) (b : Nat) : Int32 → va_W → Prop := fun (r : Int32) (u : va_W) => u = [(h0, .inr (3, [.int zv, .ref q1, .ref q2, .ref q3])), (q1, .inl (cy 0, 150, .inl f))] ∧ ((r = 1 ∧ sameR f a b) ∨ (r = 0 ∧ ¬ sameR f a b))
set_option maxHeartbeats 4000000 in
set_option maxRecDepth 100000 in
theorem c_X3_sameRows (l : Launch) (D : va_G) (cy : Nat → ClassId) (zz : Nat) (h0 : Nat) (q1 : Nat) (q2 : Nat) (q3 : Nat) (zv : Int32) (f : Nat → Int32) (a : Nat) (b : Nat) (ha : a ≤ 24) (hb9 : b ≤ 24) : Met l yX3_sameRows wsX3_sameRows ({ frames := 0, cells := 0, slots := 0, locals := 0 } : Room) (va_Pc [.ref h0, .int (nI a), .int (nI b)] (cpre D cy [(h0, .inr (3, [.int zv, .ref q1, .ref q2, .ref q3])), (q1, .inl (cy 0, 150, .inl f))] zz)) (va_Qi (q_X3_sameRows cy h0 q1 q2 q3 zv f a b) (cpost D (va_A [(h0, .inr (3, [.int zv, .ref q1, .ref q2, .ref q3])), (q1, .inl (cy 0, 150, .inl f))] zz)) (va_A [(h0, .inr (3, [.int zv, .ref q1, .ref q2, .ref q3])), (q1, .inl (cy 0, 150, .inl f))] zz)) 0 0 (va_A [(h0, .inr (3, [.int zv, .ref q1, .ref q2, .ref q3])), (q1, .inl (cy 0, 150, .inl f))] zz) := by
  refine Met.ofW (cc := cX3_sameRows) (maxL := 4) (ret := (some .boolean)) (by decide) rfl ?_
  intro p e s m args below meth c s₁ B hml hv
  obtain ⟨rfl, hsz, hP, hD0, hX⟩ := hv
  have hx := B.exec
  have hb := B.bytes
  have hr := B.returns
  have hts := atoms_spec (ws := wsX3_sameRows) B.pre
  have hown : s.vm.findClass RX3 = some m.cls := findClass_of_methodNamed B.named
  have hlocks := B.notSynchronized
  subst hsz
  have hD := hD0.self (sz := s.heap.size)
  generalize hAe : va_A [(h0, .inr (3, [.int zv, .ref q1, .ref q2, .ref q3])), (q1, .inl (cy 0, 150, .inl f))] s.heap.size = A at hD hX ⊢
  have hA : ∀ q : Nat, s.heap.size ≤ q → A q := fun q h => by rw [← hAe]; exact Or.inr h
  obtain ⟨H, hH⟩ : ∃ H : Heap, H = s.heap := ⟨_, rfl⟩
  have hS : va_S A s.heap H [] := hH ▸ va_S.rf
  have hK := hX.1
  have hP : va_P D vwCl [(h0, .inr (3, [.int zv, .ref q1, .ref q2, .ref q3])), (q1, .inl (cy 0, 150, .inl f))] H := hH ▸ hP
  rw [← hH]
  have hw_X3 : ∀ w ∈ wsX30, w ∈ wsX3_sameRows := chX3 (by decide +kernel)
  have f_15 := hts (.fieldLink RX3 15 "CubeTower$Ways" "sideAt" "[I") (inC wa_132 (by decide +kernel))
  have hl := lv_entry ([.ref h0, .int (nI a), .int (nI b)]) (n := 4) (Nat.le_of_ble_eq_true rfl)
  rw [lg_entry_eq]
  generalize (lg_sl ([.ref h0, .int (nI a), .int (nI b)]) ++ List.replicate (4 - (lg_sl ([.ref h0, .int (nI a), .int (nI b)])).length) Slot.unset).toArray = ls at hl ⊢
  have hl : lv_has ls 4 [(0, .ref h0), (1, .int (nI a)), (2, .int (nI b))] := hl
  refine lv_iconst (v := 0) hx hb dX3_sameRows_0 (by decide) ?_
  refine lv_istore_n (lv' := [(3, .int 0), (0, .ref h0), (1, .int (nI a)), (2, .int (nI b))]) hx hb dX3_sameRows_1 rfl hl (by decide) rfl (fun ls hl => ?_)
  have lp_2 : ∀ (n_2 : Nat) (k : Nat) (hk : k ≤ 6) (hI : ∀ j, j < k → f (a * 6 + j) = f (b * 6 + j)) (hm : 6 < k + n_2) (H : Heap) (locs : List Loc) (ls : Array Slot), va_P D vwCl [(h0, .inr (3, [.int zv, .ref q1, .ref q2, .ref q3])), (q1, .inl (cy 0, 150, .inl f))] H → va_D A [(h0, .inr (3, [.int zv, .ref q1, .ref q2, .ref q3])), (q1, .inl (cy 0, 150, .inl f))] → va_S A s.heap H locs → lv_has ls 4 [(0, .ref h0), (1, .int (nI a)), (2, .int (nI b)), (3, .int (nI k))] → W p l e (headSpec wsX3_sameRows ({ frames := 0, cells := 0, slots := 0, locals := 0 } : Room)).room s m ([.ref h0, .int (nI a), .int (nI b)] : List Value).toArray below meth c H locs 0 0 (MQ below (va_Qi (q_X3_sameRows cy h0 q1 q2 q3 zv f a b) (cpost D A) A) ([.ref h0, .int (nI a), .int (nI b)] : List Value).toArray s 0 0 A) (F0 m 2 ls []) := by
    intro n_2
    induction n_2 with
    | zero => intro k hk hI hm; exact absurd hm (by omega)
    | succ n_2 ih_2 =>
      intro k hk hI hm H locs ls hP hD hS hl
      refine lv_iload_n hx hb dX3_sameRows_2 rfl (lv_at hl 3 rfl) ?_
      refine lv_bipush (v := 6) hx hb dX3_sameRows_3 (by decide) ?_
      refine lv_icmp_ge (tgt := 41) hx hb dX3_sameRows_5 (by decide) (fun c_5 => ?_) (fun c_5 => ?_)
      · have hk6 : 6 ≤ k := nI_leN (b := 6) (by decide) c_5
        refine lv_iconst (v := 1) hx hb dX3_sameRows_41 (by decide) ?_
        have hP9 := hP.sub (ws' := [(h0, .inr (3, [.int zv, .ref q1, .ref q2, .ref q3])), (q1, .inl (cy 0, 150, .inl f))]) [0, 1] rfl
        have hD9 := hD.sub (ws' := [(h0, .inr (3, [.int zv, .ref q1, .ref q2, .ref q3])), (q1, .inl (cy 0, 150, .inl f))]) [0, 1] (by decide +kernel) rfl
        exact W.zret (v := 1) hx hb hr (rfl) (fun t9 ht9 hW9 => ⟨⟨1, [(h0, .inr (3, [.int zv, .ref q1, .ref q2, .ref q3])), (q1, .inl (cy 0, 150, .inl f))], rfl, ⟨rfl, (Or.inl ⟨rfl, fun j h => hI j (by omega)⟩)⟩, by rw [ht9]; exact hP9, hD9⟩, hS.F ht9⟩) hS.2.2 dX3_sameRows_42
      · have hk6 : k < 6 := nI_ltN (b := 6) (by omega) c_5
        refine lv_aload_n hx hb dX3_sameRows_8 rfl (lv_at hl 0 rfl) ?_
        refine va_get (D := D) (ci := 3) (v := .ref q1) (C := RX3) (T := TX3) (N := 4) hx hb hts hw_X3 hown hK hP 0 rfl rfl 1 (by decide) f_15 (fun _ h9 => h9) rfl dX3_sameRows_9 ?_
        refine lv_iload_n hx hb dX3_sameRows_12 rfl (lv_at hl 1 rfl) ?_
        refine lv_bipush (v := 6) hx hb dX3_sameRows_13 (by decide) ?_
        refine lv_imul hx hb dX3_sameRows_15 ?_
        refine lv_topi (fun y1 ey1 => ?_)
        obtain rfl : y1 = nI (a * 6) := ey1.trans (nIx6 a)
        refine lv_iload_n hx hb dX3_sameRows_16 rfl (lv_at hl 3 rfl) ?_
        refine lv_iadd hx hb dX3_sameRows_17 ?_
        refine lv_topi (fun y2 ey2 => ?_)
        obtain rfl : y2 = nI (a * 6 + k) := ey2.trans (nI6 a k)
        refine va_iald hx hb hK hP 1 0 rfl rfl (nI_in (by omega) (by decide)) dX3_sameRows_18 ?_
        refine lv_topi (fun y3 ey3 => ?_)
        obtain rfl : y3 = f (a * 6 + k) := ey3.trans (congrArg f (nI_clamp (by omega)))
        refine lv_aload_n hx hb dX3_sameRows_19 rfl (lv_at hl 0 rfl) ?_
        refine va_get (D := D) (ci := 3) (v := .ref q1) (C := RX3) (T := TX3) (N := 4) hx hb hts hw_X3 hown hK hP 0 rfl rfl 1 (by decide) f_15 (fun _ h9 => h9) rfl dX3_sameRows_20 ?_
        refine lv_iload_n hx hb dX3_sameRows_23 rfl (lv_at hl 2 rfl) ?_
        refine lv_bipush (v := 6) hx hb dX3_sameRows_24 (by decide) ?_
        refine lv_imul hx hb dX3_sameRows_26 ?_
        refine lv_topi (fun y4 ey4 => ?_)
        obtain rfl : y4 = nI (b * 6) := ey4.trans (nIx6 b)
        refine lv_iload_n hx hb dX3_sameRows_27 rfl (lv_at hl 3 rfl) ?_
        refine lv_iadd hx hb dX3_sameRows_28 ?_
        refine lv_topi (fun y5 ey5 => ?_)
        obtain rfl : y5 = nI (b * 6 + k) := ey5.trans (nI6 b k)
        refine va_iald hx hb hK hP 1 0 rfl rfl (nI_in (by omega) (by decide)) dX3_sameRows_29 ?_
        refine lv_topi (fun y6 ey6 => ?_)
        obtain rfl : y6 = f (b * 6 + k) := ey6.trans (congrArg f (nI_clamp (by omega)))
        refine lv_icmp_eq (tgt := 35) hx hb dX3_sameRows_30 (by decide) (fun c_30 => ?_) (fun c_30 => ?_)
        · refine lv_iinc (v := nI (k + 1)) (lv' := [(3, .int (nI (k + 1))), (0, .ref h0), (1, .int (nI a)), (2, .int (nI b))]) hx hb dX3_sameRows_35 hl (k := 3) rfl ((nI_succ k).symm) (by decide) rfl (fun ls hl => ?_)
          refine lv_goto (tgt := 2) hx hb dX3_sameRows_38 (by decide) ?_
          exact ih_2 (k + 1) (by omega) (fun j h => (Nat.lt_succ_iff_lt_or_eq.mp h).elim (hI j) (fun q => by rw [q]; exact c_30)) (by omega) _ _ _ (hP.sub [0, 1] rfl) (hD.sub [0, 1] (by decide +kernel) rfl) hS (lv_sub hl [1, 2, 3, 0] rfl)
        · refine lv_iconst (v := 0) hx hb dX3_sameRows_33 (by decide) ?_
          have hP9 := hP.sub (ws' := [(h0, .inr (3, [.int zv, .ref q1, .ref q2, .ref q3])), (q1, .inl (cy 0, 150, .inl f))]) [0, 1] rfl
          have hD9 := hD.sub (ws' := [(h0, .inr (3, [.int zv, .ref q1, .ref q2, .ref q3])), (q1, .inl (cy 0, 150, .inl f))]) [0, 1] (by decide +kernel) rfl
          exact W.zret (v := 0) hx hb hr (rfl) (fun t9 ht9 hW9 => ⟨⟨0, [(h0, .inr (3, [.int zv, .ref q1, .ref q2, .ref q3])), (q1, .inl (cy 0, 150, .inl f))], rfl, ⟨rfl, (Or.inr ⟨rfl, fun h => c_30 (h k hk6)⟩)⟩, by rw [ht9]; exact hP9, hD9⟩, hS.F ht9⟩) hS.2.2 dX3_sameRows_34
  exact lp_2 7 0 (by decide) (fun j h => absurd h (Nat.not_lt_zero j)) (by omega) _ _ _ (hP.sub [0, 1] rfl) (hD.sub [0, 1] (by decide +kernel) rfl) hS (lv_sub hl [1, 2, 3, 0] rfl)
def q_X3_find (cy : Nat → ClassId) (h0 : Nat) (q1 : Nat) (q2 : Nat) (q3 : Nat) (z : Nat) (f : Nat → Int32) : Int32 → va_W → Prop := fun (r : Int32) (u : va_W) => ∃ (w : Nat), u = [(h0, .inr (3, [.int (nI z), .ref q1, .ref q2, .ref q3])), (q1, .inl (cy 0, 150, .inl f))] ∧ r = nI w ∧ w ≤ z ∧ (∀ v, v < w → ¬ sameR f v z) ∧ (w < z → sameR f w z)
set_option maxHeartbeats 4000000 in
set_option maxRecDepth 100000 in
theorem c_X3_find (l : Launch) (D : va_G) (cy : Nat → ClassId) (zz : Nat) (h0 : Nat) (q1 : Nat) (q2 : Nat) (q3 : Nat) (z : Nat) (f : Nat → Int32) (hz : z ≤ 24) : Met l yX3_find wsX3_find ({ frames := 1, cells := 0, slots := 0, locals := 23 } : Room) (va_Pc [.ref h0] (cpre D cy [(h0, .inr (3, [.int (nI z), .ref q1, .ref q2, .ref q3])), (q1, .inl (cy 0, 150, .inl f))] zz)) (va_Qi (q_X3_find cy h0 q1 q2 q3 z f) (cpost D (va_A [(h0, .inr (3, [.int (nI z), .ref q1, .ref q2, .ref q3])), (q1, .inl (cy 0, 150, .inl f))] zz)) (va_A [(h0, .inr (3, [.int (nI z), .ref q1, .ref q2, .ref q3])), (q1, .inl (cy 0, 150, .inl f))] zz)) 0 0 (va_A [(h0, .inr (3, [.int (nI z), .ref q1, .ref q2, .ref q3])), (q1, .inl (cy 0, 150, .inl f))] zz) := by
  refine Met.ofW (cc := cX3_find) (maxL := 2) (ret := (some .int)) (by decide) rfl ?_
  intro p e s m args below meth c s₁ B hml hv
  obtain ⟨rfl, hsz, hP, hD0, hX⟩ := hv
  have hx := B.exec
  have hb := B.bytes
  have hr := B.returns
  have hts := atoms_spec (ws := wsX3_find) B.pre
  have hown : s.vm.findClass RX3 = some m.cls := findClass_of_methodNamed B.named
  have hlocks := B.notSynchronized
  subst hsz
  have hD := hD0.self (sz := s.heap.size)
  generalize hAe : va_A [(h0, .inr (3, [.int (nI z), .ref q1, .ref q2, .ref q3])), (q1, .inl (cy 0, 150, .inl f))] s.heap.size = A at hD hX ⊢
  have hA : ∀ q : Nat, s.heap.size ≤ q → A q := fun q h => by rw [← hAe]; exact Or.inr h
  obtain ⟨H, hH⟩ : ∃ H : Heap, H = s.heap := ⟨_, rfl⟩
  have hS : va_S A s.heap H [] := hH ▸ va_S.rf
  have hK := hX.1
  have hP : va_P D vwCl [(h0, .inr (3, [.int (nI z), .ref q1, .ref q2, .ref q3])), (q1, .inl (cy 0, 150, .inl f))] H := hH ▸ hP
  rw [← hH]
  have hw_X3 : ∀ w ∈ wsX30, w ∈ wsX3_find := chX3 (by decide +kernel)
  have f_9 := hts (.fieldLink RX3 9 "CubeTower$Ways" "size" "I") (inC wa_131 (by decide +kernel))
  have hl := lv_entry ([.ref h0]) (n := 2) (Nat.le_of_ble_eq_true rfl)
  rw [lg_entry_eq]
  generalize (lg_sl ([.ref h0]) ++ List.replicate (2 - (lg_sl ([.ref h0])).length) Slot.unset).toArray = ls at hl ⊢
  have hl : lv_has ls 2 [(0, .ref h0)] := hl
  refine lv_iconst (v := 0) hx hb dX3_find_0 (by decide) ?_
  refine lv_istore_n (lv' := [(1, .int 0), (0, .ref h0)]) hx hb dX3_find_1 rfl hl (by decide) rfl (fun ls hl => ?_)
  have lp_2 : ∀ (n_2 : Nat) (k : Nat) (hk : k ≤ z) (hI : ∀ v, v < k → ¬ sameR f v z) (hm : z < k + n_2) (H : Heap) (locs : List Loc) (ls : Array Slot), va_P D vwCl [(h0, .inr (3, [.int (nI z), .ref q1, .ref q2, .ref q3])), (q1, .inl (cy 0, 150, .inl f))] H → va_D A [(h0, .inr (3, [.int (nI z), .ref q1, .ref q2, .ref q3])), (q1, .inl (cy 0, 150, .inl f))] → va_S A s.heap H locs → lv_has ls 2 [(0, .ref h0), (1, .int (nI k))] → W p l e (headSpec wsX3_find ({ frames := 1, cells := 0, slots := 0, locals := 23 } : Room)).room s m ([.ref h0] : List Value).toArray below meth c H locs 0 0 (MQ below (va_Qi (q_X3_find cy h0 q1 q2 q3 z f) (cpost D A) A) ([.ref h0] : List Value).toArray s 0 0 A) (F0 m 2 ls []) := by
    intro n_2
    induction n_2 with
    | zero => intro k hk hI hm; exact absurd hm (by omega)
    | succ n_2 ih_2 =>
      intro k hk hI hm H locs ls hP hD hS hl
      refine lv_iload_n hx hb dX3_find_2 rfl (lv_at hl 1 rfl) ?_
      refine lv_aload_n hx hb dX3_find_3 rfl (lv_at hl 0 rfl) ?_
      refine va_get (D := D) (ci := 3) (v := .int (nI z)) (C := RX3) (T := TX3) (N := 4) hx hb hts hw_X3 hown hK hP 0 rfl rfl 0 (by decide) f_9 (fun _ h9 => h9) rfl dX3_find_4 ?_
      refine lv_icmp_ge (tgt := 28) hx hb dX3_find_7 (by decide) (fun c_7 => ?_) (fun c_7 => ?_)
      · have hkz : z ≤ k := nI_leN (by omega) c_7
        refine lv_iload_n hx hb dX3_find_28 rfl (lv_at hl 1 rfl) ?_
        have hP9 := hP.sub (ws' := [(h0, .inr (3, [.int (nI z), .ref q1, .ref q2, .ref q3])), (q1, .inl (cy 0, 150, .inl f))]) [0, 1] rfl
        have hD9 := hD.sub (ws' := [(h0, .inr (3, [.int (nI z), .ref q1, .ref q2, .ref q3])), (q1, .inl (cy 0, 150, .inl f))]) [0, 1] (by decide +kernel) rfl
        exact W.iret (v := nI k) hx hb hr (fun t9 ht9 hW9 => ⟨⟨nI k, [(h0, .inr (3, [.int (nI z), .ref q1, .ref q2, .ref q3])), (q1, .inl (cy 0, 150, .inl f))], rfl, ⟨k, rfl, rfl, hk, hI, (fun h => by first | exact hsame | exact absurd h (by omega))⟩, by rw [ht9]; exact hP9, hD9⟩, hS.F ht9⟩) hS.2.2 dX3_find_29
      · have hkz : k < z := nI_ltN (by omega) c_7
        refine lv_aload_n hx hb dX3_find_10 rfl (lv_at hl 0 rfl) ?_
        refine lv_iload_n hx hb dX3_find_11 rfl (lv_at hl 1 rfl) ?_
        refine lv_aload_n hx hb dX3_find_12 rfl (lv_at hl 0 rfl) ?_
        refine va_get (D := D) (ci := 3) (v := .int (nI z)) (C := RX3) (T := TX3) (N := 4) hx hb hts hw_X3 hown hK hP 0 rfl rfl 0 (by decide) f_9 (fun _ h9 => h9) rfl dX3_find_13 ?_
        refine kc_i (wc := [(h0, .inr (3, [.int (nI z), .ref q1, .ref q2, .ref q3])), (q1, .inl (cy 0, 150, .inl f))]) (wr := []) (va_runV (As := [.int (nI k), .int (nI z)]) (rest := []) ⟨hx, hb, hml, hown, hts⟩ (c_X3_sameRows l D cy H.size h0 q1 q2 q3 (nI z) f k z (by omega) hz) (cwV 2 hts gX3_find_X3_sameRows rfl rfl rfl hdc_X3_sameRows ⟨Nat.le_of_ble_eq_true rfl, Nat.le_of_ble_eq_true rfl⟩) (cpre_V (wc := [(h0, .inr (3, [.int (nI z), .ref q1, .ref q2, .ref q3])), (q1, .inl (cy 0, 150, .inl f))]) 0 3 rfl rfl hX hP hD hS hA [0, 1] (by decide +kernel) rfl) rfl rfl hl.1 rfl (lv_room (Nat.le_of_ble_eq_true rfl)) dX3_find_16 ⟨Nat.le_of_ble_eq_true rfl, Nat.le_of_ble_eq_true rfl⟩) hP hD hS hA [0, 1] [] rfl rfl (by decide +kernel) (by decide +kernel) (fun rs u1 H locs hw hP hD hS => ?_)
        obtain ⟨hu, hsm⟩ := hw
        subst hu
        have hP : va_P D vwCl [(h0, .inr (3, [.int (nI z), .ref q1, .ref q2, .ref q3])), (q1, .inl (cy 0, 150, .inl f))] H := hP
        have hD : va_D A [(h0, .inr (3, [.int (nI z), .ref q1, .ref q2, .ref q3])), (q1, .inl (cy 0, 150, .inl f))] := hD
        refine lv_if_ne (tgt := 28) hx hb dX3_find_19 (by decide) (fun c_19 => ?_) (fun c_19 => ?_)
        · have hsame : sameR f k z := by
            rcases hsm with ⟨_, e⟩ | ⟨e, _⟩
            · exact e
            · exact absurd e c_19
          refine lv_iload_n hx hb dX3_find_28 rfl (lv_at hl 1 rfl) ?_
          have hP9 := hP.sub (ws' := [(h0, .inr (3, [.int (nI z), .ref q1, .ref q2, .ref q3])), (q1, .inl (cy 0, 150, .inl f))]) [0, 1] rfl
          have hD9 := hD.sub (ws' := [(h0, .inr (3, [.int (nI z), .ref q1, .ref q2, .ref q3])), (q1, .inl (cy 0, 150, .inl f))]) [0, 1] (by decide +kernel) rfl
          exact W.iret (v := nI k) hx hb hr (fun t9 ht9 hW9 => ⟨⟨nI k, [(h0, .inr (3, [.int (nI z), .ref q1, .ref q2, .ref q3])), (q1, .inl (cy 0, 150, .inl f))], rfl, ⟨k, rfl, rfl, hk, hI, (fun h => by first | exact hsame | exact absurd h (by omega))⟩, by rw [ht9]; exact hP9, hD9⟩, hS.F ht9⟩) hS.2.2 dX3_find_29
        · have hns : ¬ sameR f k z := by
            rcases hsm with ⟨e, _⟩ | ⟨_, e⟩
            · rw [e] at c_19; exact absurd c_19 (by decide)
            · exact e
          refine lv_iinc (v := nI (k + 1)) (lv' := [(1, .int (nI (k + 1))), (0, .ref h0)]) hx hb dX3_find_22 hl (k := 1) rfl ((nI_succ k).symm) (by decide) rfl (fun ls hl => ?_)
          refine lv_goto (tgt := 2) hx hb dX3_find_25 (by decide) ?_
          exact ih_2 (k + 1) (by omega) (fun v h => (Nat.lt_succ_iff_lt_or_eq.mp h).elim (hI v) (fun q => by rw [q]; exact hns)) (by omega) _ _ _ (hP.sub [0, 1] rfl) (hD.sub [0, 1] (by decide +kernel) rfl) hS (lv_sub hl [1, 0] rfl)
  exact lp_2 (z + 1) 0 (Nat.zero_le z) (fun j h => absurd h (Nat.not_lt_zero j)) (by omega) _ _ _ (hP.sub [0, 1] rfl) (hD.sub [0, 1] (by decide +kernel) rfl) hS (lv_sub hl [1, 0] rfl)
def q_X3_reach (cy : Nat → ClassId) (h0 : Nat) (q1 : Nat) (q2 : Nat) (q3 : Nat) (z : Nat) (f : Nat → Int32) (g : Nat → Int32) (h : Nat → Int32) (fr : Nat) (kd : Nat) (t : Nat) : va_W → Prop := fun (u : va_W) => ∃ (z2 : Nat), ∃ (f2 : Nat → Int32), ∃ (g2 : Nat → Int32), ∃ (h2 : Nat → Int32), u = [(h0, .inr (3, [.int (nI z2), .ref q1, .ref q2, .ref q3])), (q1, .inl (cy 0, 150, .inl f2)), (q2, .inl (cy 0, 24, .inl g2)), (q3, .inl (cy 0, 24, .inl h2))] ∧ z ≤ z2 ∧ z2 ≤ 24 ∧ (∀ P : Int32 → Prop, (∀ j, P (f j)) → ∀ j, P (f2 j)) ∧ ReF f g h z fr kd t z2 f2 g2 h2
set_option maxHeartbeats 4000000 in
set_option maxRecDepth 100000 in
theorem c_X3_reach (l : Launch) (D : va_G) (cy : Nat → ClassId) (zz : Nat) (h0 : Nat) (q1 : Nat) (q2 : Nat) (q3 : Nat) (z : Nat) (f : Nat → Int32) (g : Nat → Int32) (h : Nat → Int32) (fr : Nat) (kd : Nat) (t : Nat) (hz : z ≤ 24) (hfr : fr < z) (hkd : kd < 5) (ht : t < 4) : Met l yX3_reach wsX3_reach ({ frames := 2, cells := 0, slots := 0, locals := 44 } : Room) (va_Pc [.ref h0, .int (nI fr), .int (nI kd), .int (nI t)] (cpre D cy [(h0, .inr (3, [.int (nI z), .ref q1, .ref q2, .ref q3])), (q1, .inl (cy 0, 150, .inl f)), (q2, .inl (cy 0, 24, .inl g)), (q3, .inl (cy 0, 24, .inl h))] zz)) (va_Qv (q_X3_reach cy h0 q1 q2 q3 z f g h fr kd t) (cpost D (va_A [(h0, .inr (3, [.int (nI z), .ref q1, .ref q2, .ref q3])), (q1, .inl (cy 0, 150, .inl f)), (q2, .inl (cy 0, 24, .inl g)), (q3, .inl (cy 0, 24, .inl h))] zz)) (va_A [(h0, .inr (3, [.int (nI z), .ref q1, .ref q2, .ref q3])), (q1, .inl (cy 0, 150, .inl f)), (q2, .inl (cy 0, 24, .inl g)), (q3, .inl (cy 0, 24, .inl h))] zz)) 0 0 (va_A [(h0, .inr (3, [.int (nI z), .ref q1, .ref q2, .ref q3])), (q1, .inl (cy 0, 150, .inl f)), (q2, .inl (cy 0, 24, .inl g)), (q3, .inl (cy 0, 24, .inl h))] zz) := by
  refine Met.ofW (cc := cX3_reach) (maxL := 5) (ret := none) (by decide) rfl ?_
  intro p e s m args below meth c s₁ B hml hv
  obtain ⟨rfl, hsz, hP, hD0, hX⟩ := hv
  have hx := B.exec
  have hb := B.bytes
  have hr := B.returns
  have hts := atoms_spec (ws := wsX3_reach) B.pre
  have hown : s.vm.findClass RX3 = some m.cls := findClass_of_methodNamed B.named
  have hlocks := B.notSynchronized
  subst hsz
  have hD := hD0.self (sz := s.heap.size)
  generalize hAe : va_A [(h0, .inr (3, [.int (nI z), .ref q1, .ref q2, .ref q3])), (q1, .inl (cy 0, 150, .inl f)), (q2, .inl (cy 0, 24, .inl g)), (q3, .inl (cy 0, 24, .inl h))] s.heap.size = A at hD hX ⊢
  have hA : ∀ q : Nat, s.heap.size ≤ q → A q := fun q h => by rw [← hAe]; exact Or.inr h
  obtain ⟨H, hH⟩ : ∃ H : Heap, H = s.heap := ⟨_, rfl⟩
  have hS : va_S A s.heap H [] := hH ▸ va_S.rf
  have hK := hX.1
  have hP : va_P D vwCl [(h0, .inr (3, [.int (nI z), .ref q1, .ref q2, .ref q3])), (q1, .inl (cy 0, 150, .inl f)), (q2, .inl (cy 0, 24, .inl g)), (q3, .inl (cy 0, 24, .inl h))] H := hH ▸ hP
  rw [← hH]
  have hw_X3 : ∀ w ∈ wsX30, w ∈ wsX3_reach := chX3 (by decide +kernel)
  have f_15 := hts (.fieldLink RX3 15 "CubeTower$Ways" "sideAt" "[I") (inC wa_132 (by decide +kernel))
  have f_9 := hts (.fieldLink RX3 9 "CubeTower$Ways" "size" "I") (inC wa_131 (by decide +kernel))
  have m_33 := hts (.methodLink RX3 33 arraycopyName) (inC wa_142 (by decide +kernel))
  have cp_n := hts (.native arraycopyName) (inC wa_143 (by decide +kernel))
  have cp_s := hts (.static arraycopyName) (inC wa_144 (by decide +kernel))
  have cp_i := hts (.initialized "java/lang/System") (inC wa_145 (by decide +kernel))
  have ini_X4 := hts (.initialized RX4) (inC wa_2 (by decide +kernel))
  have st_X4_turnRow := hts (.static yX4_turnRow) (inC wa_146 (by decide +kernel))
  have f_19 := hts (.fieldLink RX3 19 "CubeTower$Ways" "turnsTo" "[I") (inC wa_133 (by decide +kernel))
  have f_22 := hts (.fieldLink RX3 22 "CubeTower$Ways" "firstTurns" "[I") (inC wa_134 (by decide +kernel))
  have hl := lv_entry ([.ref h0, .int (nI fr), .int (nI kd), .int (nI t)]) (n := 5) (Nat.le_of_ble_eq_true rfl)
  rw [lg_entry_eq]
  generalize (lg_sl ([.ref h0, .int (nI fr), .int (nI kd), .int (nI t)]) ++ List.replicate (5 - (lg_sl ([.ref h0, .int (nI fr), .int (nI kd), .int (nI t)])).length) Slot.unset).toArray = ls at hl ⊢
  have hl : lv_has ls 5 [(0, .ref h0), (1, .int (nI fr)), (2, .int (nI kd)), (3, .int (nI t))] := hl
  refine lv_aload_n hx hb dX3_reach_0 rfl (lv_at hl 0 rfl) ?_
  refine va_get (D := D) (ci := 3) (v := .ref q1) (C := RX3) (T := TX3) (N := 4) hx hb hts hw_X3 hown hK hP 0 rfl rfl 1 (by decide) f_15 (fun _ h9 => h9) rfl dX3_reach_1 ?_
  refine lv_iload_n hx hb dX3_reach_4 rfl (lv_at hl 1 rfl) ?_
  refine lv_bipush (v := 6) hx hb dX3_reach_5 (by decide) ?_
  refine lv_imul hx hb dX3_reach_7 ?_
  refine lv_topi (fun y1 ey1 => ?_)
  obtain rfl : y1 = nI (fr * 6) := ey1.trans (nIx6 fr)
  refine lv_aload_n hx hb dX3_reach_8 rfl (lv_at hl 0 rfl) ?_
  refine va_get (D := D) (ci := 3) (v := .ref q1) (C := RX3) (T := TX3) (N := 4) hx hb hts hw_X3 hown hK hP 0 rfl rfl 1 (by decide) f_15 (fun _ h9 => h9) rfl dX3_reach_9 ?_
  refine lv_aload_n hx hb dX3_reach_12 rfl (lv_at hl 0 rfl) ?_
  refine va_get (D := D) (ci := 3) (v := .int (nI z)) (C := RX3) (T := TX3) (N := 4) hx hb hts hw_X3 hown hK hP 0 rfl rfl 0 (by decide) f_9 (fun _ h9 => h9) rfl dX3_reach_13 ?_
  refine lv_bipush (v := 6) hx hb dX3_reach_16 (by decide) ?_
  refine lv_imul hx hb dX3_reach_18 ?_
  refine lv_topi (fun y2 ey2 => ?_)
  obtain rfl : y2 = nI (z * 6) := ey2.trans (nIx6 z)
  refine lv_bipush (v := 6) hx hb dX3_reach_19 (by decide) ?_
  refine va_copyi hx hb (by rw [hml]; exact hl.1.symm) hown m_33 cp_n cp_s cp_i hK hP hD hS 1 1 0 0 rfl rfl rfl rfl rfl (nI_pos (by omega)) (nI_pos (by omega)) (by decide) (by rw [nI_clamp (n := fr * 6) (by omega)]; show fr * 6 + 6 ≤ 150; omega) (by rw [nI_clamp (n := z * 6) (by omega)]; show z * 6 + 6 ≤ 150; omega) (fun _ _ => rfl) (Nat.le_of_ble_eq_true rfl) (Nat.le_of_ble_eq_true rfl) dX3_reach_21 (fun H locs hP hD hS => ?_)
  have hP : va_P D vwCl [(h0, .inr (3, [.int (nI z), .ref q1, .ref q2, .ref q3])), (q1, .inl (cy 0, 150, .inl (va_cpy f f (nI (fr * 6)).toNatClampNeg (nI (z * 6)).toNatClampNeg (6 : Int32).toNatClampNeg))), (q2, .inl (cy 0, 24, .inl g)), (q3, .inl (cy 0, 24, .inl h))] H := hP
  have hD : va_D A [(h0, .inr (3, [.int (nI z), .ref q1, .ref q2, .ref q3])), (q1, .inl (cy 0, 150, .inl (va_cpy f f (nI (fr * 6)).toNatClampNeg (nI (z * 6)).toNatClampNeg (6 : Int32).toNatClampNeg))), (q2, .inl (cy 0, 24, .inl g)), (q3, .inl (cy 0, 24, .inl h))] := hD
  obtain ⟨fa, e_fa⟩ : ∃ z9 : Nat → Int32, z9 = va_cpy f f (nI (fr * 6)).toNatClampNeg (nI (z * 6)).toNatClampNeg (6 : Int32).toNatClampNeg := ⟨_, rfl⟩
  rw [← e_fa] at hP hD
  have hfa : ∀ P : Int32 → Prop, (∀ j, P (f j)) → ∀ j, P (fa j) := fun P hp j => by rw [e_fa]; exact cpy_P hp hp j
  have hfc : fa = va_cpy f f (fr * 6) (z * 6) 6 := by rw [e_fa, nI_clamp (n := fr * 6) (by omega), nI_clamp (n := z * 6) (by omega)]; rfl
  have hP : va_P D vwCl [(h0, .inr (3, [.int (nI z), .ref q1, .ref q2, .ref q3])), (q1, .inl (cy 0, 150, .inl fa)), (q2, .inl (cy 0, 24, .inl g)), (q3, .inl (cy 0, 24, .inl h))] H := hP
  have hD : va_D A [(h0, .inr (3, [.int (nI z), .ref q1, .ref q2, .ref q3])), (q1, .inl (cy 0, 150, .inl fa)), (q2, .inl (cy 0, 24, .inl g)), (q3, .inl (cy 0, 24, .inl h))] := hD
  refine lv_aload_n hx hb dX3_reach_24 rfl (lv_at hl 0 rfl) ?_
  refine va_get (D := D) (ci := 3) (v := .ref q1) (C := RX3) (T := TX3) (N := 4) hx hb hts hw_X3 hown hK hP 0 rfl rfl 1 (by decide) f_15 (fun _ h9 => h9) rfl dX3_reach_25 ?_
  refine lv_aload_n hx hb dX3_reach_28 rfl (lv_at hl 0 rfl) ?_
  refine va_get (D := D) (ci := 3) (v := .int (nI z)) (C := RX3) (T := TX3) (N := 4) hx hb hts hw_X3 hown hK hP 0 rfl rfl 0 (by decide) f_9 (fun _ h9 => h9) rfl dX3_reach_29 ?_
  refine lv_bipush (v := 6) hx hb dX3_reach_32 (by decide) ?_
  refine lv_imul hx hb dX3_reach_34 ?_
  refine lv_topi (fun y3 ey3 => ?_)
  obtain rfl : y3 = nI (z * 6) := ey3.trans (nIx6 z)
  refine lv_iload_n hx hb dX3_reach_35 rfl (lv_at hl 2 rfl) ?_
  refine lv_iload_n hx hb dX3_reach_36 rfl (lv_at hl 3 rfl) ?_
  refine kc_v (wc := [(q1, .inl (cy 0, 150, .inl fa))]) (wr := [(h0, .inr (3, [.int (nI z), .ref q1, .ref q2, .ref q3])), (q2, .inl (cy 0, 24, .inl g)), (q3, .inl (cy 0, 24, .inl h))]) (va_runSN (As := [.ref q1, .int (nI (z * 6)), .int (nI kd), .int (nI t)]) (rest := []) ⟨hx, hb, hml, hown, hts⟩ (c_X4_turnRow l D cy H.size q1 150 fa (z * 6) (nI kd) t (by decide) (by omega) ht) ⟨va_cnB 4 hts gX3_reach_X4_turnRow_n39 rfl rfl rfl hX.2.2.1.2.2.2.2.1 ini_X4 hdc_X4_turnRow.2 ⟨Nat.le_of_ble_eq_true rfl, Nat.le_of_ble_eq_true rfl⟩, st_X4_turnRow, trivial⟩ (cpre_S (wc := [(q1, .inl (cy 0, 150, .inl fa))]) hX hP hD hS hA [1] (by decide +kernel) rfl) rfl rfl hl.1 rfl (lv_room (Nat.le_of_ble_eq_true rfl)) dX3_reach_37 ⟨Nat.le_of_ble_eq_true rfl, Nat.le_of_ble_eq_true rfl⟩) hP hD hS hA [1] [0, 2, 3] rfl rfl (by decide +kernel) (by decide +kernel) (fun u5 H locs hw hP hD hS => ?_)
  have hu := hw
  subst hu
  have hP : va_P D vwCl [(h0, .inr (3, [.int (nI z), .ref q1, .ref q2, .ref q3])), (q2, .inl (cy 0, 24, .inl g)), (q3, .inl (cy 0, 24, .inl h)), (q1, .inl (cy 0, 150, .inl (tr_f (nI kd) t (z * 6) fa)))] H := hP
  have hD : va_D A [(h0, .inr (3, [.int (nI z), .ref q1, .ref q2, .ref q3])), (q2, .inl (cy 0, 24, .inl g)), (q3, .inl (cy 0, 24, .inl h)), (q1, .inl (cy 0, 150, .inl (tr_f (nI kd) t (z * 6) fa)))] := hD
  obtain ⟨fb, e_fb⟩ : ∃ z9 : Nat → Int32, z9 = tr_f (nI kd) t (z * 6) fa := ⟨_, rfl⟩
  rw [← e_fb] at hP hD
  have hfb : ∀ P : Int32 → Prop, (∀ j, P (f j)) → ∀ j, P (fb j) := fun P hp j => by rw [e_fb]; exact tr_P (hfa P hp) j
  have hP : va_P D vwCl [(h0, .inr (3, [.int (nI z), .ref q1, .ref q2, .ref q3])), (q2, .inl (cy 0, 24, .inl g)), (q3, .inl (cy 0, 24, .inl h)), (q1, .inl (cy 0, 150, .inl fb))] H := hP
  have hD : va_D A [(h0, .inr (3, [.int (nI z), .ref q1, .ref q2, .ref q3])), (q2, .inl (cy 0, 24, .inl g)), (q3, .inl (cy 0, 24, .inl h)), (q1, .inl (cy 0, 150, .inl fb))] := hD
  refine lv_aload_n hx hb dX3_reach_40 rfl (lv_at hl 0 rfl) ?_
  refine kc_i (wc := [(h0, .inr (3, [.int (nI z), .ref q1, .ref q2, .ref q3])), (q1, .inl (cy 0, 150, .inl fb))]) (wr := [(q2, .inl (cy 0, 24, .inl g)), (q3, .inl (cy 0, 24, .inl h))]) (va_runV (As := []) (rest := []) ⟨hx, hb, hml, hown, hts⟩ (c_X3_find l D cy H.size h0 q1 q2 q3 z fb hz) (cwV 0 hts gX3_reach_X3_find rfl rfl rfl hdc_X3_find ⟨Nat.le_of_ble_eq_true rfl, Nat.le_of_ble_eq_true rfl⟩) (cpre_V (wc := [(h0, .inr (3, [.int (nI z), .ref q1, .ref q2, .ref q3])), (q1, .inl (cy 0, 150, .inl fb))]) 0 3 rfl rfl hX hP hD hS hA [0, 3] (by decide +kernel) rfl) rfl rfl hl.1 rfl (lv_room (Nat.le_of_ble_eq_true rfl)) dX3_reach_41 ⟨Nat.le_of_ble_eq_true rfl, Nat.le_of_ble_eq_true rfl⟩) hP hD hS hA [0, 3] [1, 2] rfl rfl (by decide +kernel) (by decide +kernel) (fun rw u6 H locs hw hP hD hS => ?_)
  obtain ⟨w1, hu, hrw, hwz9, hv1, hv2⟩ := hw
  subst hu
  have hP : va_P D vwCl [(q2, .inl (cy 0, 24, .inl g)), (q3, .inl (cy 0, 24, .inl h)), (h0, .inr (3, [.int (nI z), .ref q1, .ref q2, .ref q3])), (q1, .inl (cy 0, 150, .inl fb))] H := hP
  have hD : va_D A [(q2, .inl (cy 0, 24, .inl g)), (q3, .inl (cy 0, 24, .inl h)), (h0, .inr (3, [.int (nI z), .ref q1, .ref q2, .ref q3])), (q1, .inl (cy 0, 150, .inl fb))] := hD
  subst hrw
  refine lv_istore (lv' := [(4, .int (nI w1)), (0, .ref h0), (1, .int (nI fr)), (2, .int (nI kd)), (3, .int (nI t))]) hx hb dX3_reach_44 hl (by decide) rfl (fun ls hl => ?_)
  have lp_89 : ∀ (z2 : Nat) (g1 : Nat → Int32) (w : Nat) (hz1 : z ≤ z2) (hz2 : z2 ≤ 24) (hw1 : w ≤ 24) (hw9 : w = w1) (hg9 : (w1 = z ∧ z < 24 ∧ z2 = z + 1 ∧ g1 = upd g z (g fr + 1)) ∨ (¬ (w1 = z ∧ z < 24) ∧ z2 = z ∧ g1 = g)) (H : Heap) (locs : List Loc) (ls : Array Slot), va_P D vwCl [(h0, .inr (3, [.int (nI z2), .ref q1, .ref q2, .ref q3])), (q1, .inl (cy 0, 150, .inl fb)), (q2, .inl (cy 0, 24, .inl g1)), (q3, .inl (cy 0, 24, .inl h))] H → va_D A [(h0, .inr (3, [.int (nI z2), .ref q1, .ref q2, .ref q3])), (q1, .inl (cy 0, 150, .inl fb)), (q2, .inl (cy 0, 24, .inl g1)), (q3, .inl (cy 0, 24, .inl h))] → va_S A s.heap H locs → lv_has ls 5 [(0, .ref h0), (1, .int (nI fr)), (3, .int (nI t)), (4, .int (nI w))] → W p l e (headSpec wsX3_reach ({ frames := 2, cells := 0, slots := 0, locals := 44 } : Room)).room s m ([.ref h0, .int (nI fr), .int (nI kd), .int (nI t)] : List Value).toArray below meth c H locs 0 0 (MQ below (va_Qv (q_X3_reach cy h0 q1 q2 q3 z f g h fr kd t) (cpost D A) A) ([.ref h0, .int (nI fr), .int (nI kd), .int (nI t)] : List Value).toArray s 0 0 A) (F0 m 89 ls []) := by
    intro z2 g1 w hz1 hz2 hw1 hw9 hg9 H locs ls hP hD hS hl
    refine lv_iload hx hb dX3_reach_89 (lv_at hl 3 rfl) ?_
    refine lv_aload_n hx hb dX3_reach_91 rfl (lv_at hl 0 rfl) ?_
    refine va_get (D := D) (ci := 3) (v := .int (nI z2)) (C := RX3) (T := TX3) (N := 4) hx hb hts hw_X3 hown hK hP 0 rfl rfl 0 (by decide) f_9 (fun _ h9 => h9) rfl dX3_reach_92 ?_
    refine lv_icmp_ge (tgt := 142) hx hb dX3_reach_95 (by decide) (fun c_95 => ?_) (fun c_95 => ?_)
    · have hP9 := hP.sub (ws' := [(h0, .inr (3, [.int (nI z2), .ref q1, .ref q2, .ref q3])), (q1, .inl (cy 0, 150, .inl fb)), (q2, .inl (cy 0, 24, .inl g1)), (q3, .inl (cy 0, 24, .inl h))]) [0, 1, 2, 3] rfl
      have hD9 := hD.sub (ws' := [(h0, .inr (3, [.int (nI z2), .ref q1, .ref q2, .ref q3])), (q1, .inl (cy 0, 150, .inl fb)), (q2, .inl (cy 0, 24, .inl g1)), (q3, .inl (cy 0, 24, .inl h))]) [0, 1, 2, 3] (by decide +kernel) rfl
      exact W.vret hx hb hr (fun t9 ht9 hW9 => ⟨⟨[(h0, .inr (3, [.int (nI z2), .ref q1, .ref q2, .ref q3])), (q1, .inl (cy 0, 150, .inl fb)), (q2, .inl (cy 0, 24, .inl g1)), (q3, .inl (cy 0, 24, .inl h))], rfl, ⟨z2, fb, g1, h, rfl, hz1, hz2, hfb, ⟨by rw [e_fb, hfc], w1, hwz9, hv1, hv2, hg9, Or.inr ⟨fun q => absurd (nI_lt (a := w) (b := z2) (by have h9 := q.1; omega) (by omega)) (Int32.not_lt.mpr c_95), rfl⟩⟩⟩, by rw [ht9]; exact hP9, hD9⟩, hS.F ht9⟩) hS.2.2 dX3_reach_142
    · have hw2 : w < z2 := nI_ltN (by omega) c_95
      refine lv_aload_n hx hb dX3_reach_98 rfl (lv_at hl 0 rfl) ?_
      refine va_get (D := D) (ci := 3) (v := .ref q2) (C := RX3) (T := TX3) (N := 4) hx hb hts hw_X3 hown hK hP 0 rfl rfl 2 (by decide) f_19 (fun _ h9 => h9) rfl dX3_reach_99 ?_
      refine lv_iload hx hb dX3_reach_102 (lv_at hl 3 rfl) ?_
      refine va_iald hx hb hK hP 2 0 rfl rfl (nI_in (by omega) (by decide)) dX3_reach_104 ?_
      refine lv_topi (fun y7 ey7 => ?_)
      obtain rfl : y7 = g1 w := ey7.trans (congrArg g1 (nI_clamp (by omega)))
      refine lv_aload_n hx hb dX3_reach_105 rfl (lv_at hl 0 rfl) ?_
      refine va_get (D := D) (ci := 3) (v := .ref q2) (C := RX3) (T := TX3) (N := 4) hx hb hts hw_X3 hown hK hP 0 rfl rfl 2 (by decide) f_19 (fun _ h9 => h9) rfl dX3_reach_106 ?_
      refine lv_iload_n hx hb dX3_reach_109 rfl (lv_at hl 1 rfl) ?_
      refine va_iald hx hb hK hP 2 0 rfl rfl (nI_in (by omega) (by decide)) dX3_reach_110 ?_
      refine lv_topi (fun y8 ey8 => ?_)
      obtain rfl : y8 = g1 fr := ey8.trans (congrArg g1 (nI_clamp (by omega)))
      refine lv_iconst (v := 1) hx hb dX3_reach_111 (by decide) ?_
      refine lv_iadd hx hb dX3_reach_112 ?_
      refine lv_icmp_ne (tgt := 142) hx hb dX3_reach_113 (by decide) (fun c_113 => ?_) (fun c_113 => ?_)
      · have hP9 := hP.sub (ws' := [(h0, .inr (3, [.int (nI z2), .ref q1, .ref q2, .ref q3])), (q1, .inl (cy 0, 150, .inl fb)), (q2, .inl (cy 0, 24, .inl g1)), (q3, .inl (cy 0, 24, .inl h))]) [0, 1, 2, 3] rfl
        have hD9 := hD.sub (ws' := [(h0, .inr (3, [.int (nI z2), .ref q1, .ref q2, .ref q3])), (q1, .inl (cy 0, 150, .inl fb)), (q2, .inl (cy 0, 24, .inl g1)), (q3, .inl (cy 0, 24, .inl h))]) [0, 1, 2, 3] (by decide +kernel) rfl
        exact W.vret hx hb hr (fun t9 ht9 hW9 => ⟨⟨[(h0, .inr (3, [.int (nI z2), .ref q1, .ref q2, .ref q3])), (q1, .inl (cy 0, 150, .inl fb)), (q2, .inl (cy 0, 24, .inl g1)), (q3, .inl (cy 0, 24, .inl h))], rfl, ⟨z2, fb, g1, h, rfl, hz1, hz2, hfb, ⟨by rw [e_fb, hfc], w1, hwz9, hv1, hv2, hg9, Or.inr ⟨fun q => c_113 (by rw [hw9]; exact q.2), rfl⟩⟩⟩, by rw [ht9]; exact hP9, hD9⟩, hS.F ht9⟩) hS.2.2 dX3_reach_142
      · refine lv_aload_n hx hb dX3_reach_116 rfl (lv_at hl 0 rfl) ?_
        refine va_get (D := D) (ci := 3) (v := .ref q3) (C := RX3) (T := TX3) (N := 4) hx hb hts hw_X3 hown hK hP 0 rfl rfl 3 (by decide) f_22 (fun _ h9 => h9) rfl dX3_reach_117 ?_
        refine lv_iload hx hb dX3_reach_120 (lv_at hl 3 rfl) ?_
        refine lv_dup2_11 hx hb dX3_reach_122 rfl rfl ?_
        refine va_iald hx hb hK hP 3 0 rfl rfl (nI_in (by omega) (by decide)) dX3_reach_123 ?_
        refine lv_topi (fun y9 ey9 => ?_)
        obtain rfl : y9 = h w := ey9.trans (congrArg h (nI_clamp (by omega)))
        refine lv_iload_n hx hb dX3_reach_124 rfl (lv_at hl 1 rfl) ?_
        refine lv_if_ne (tgt := 134) hx hb dX3_reach_125 (by decide) (fun c_125 => ?_) (fun c_125 => ?_)
        · refine lv_aload_n hx hb dX3_reach_134 rfl (lv_at hl 0 rfl) ?_
          refine va_get (D := D) (ci := 3) (v := .ref q3) (C := RX3) (T := TX3) (N := 4) hx hb hts hw_X3 hown hK hP 0 rfl rfl 3 (by decide) f_22 (fun _ h9 => h9) rfl dX3_reach_135 ?_
          refine lv_iload_n hx hb dX3_reach_138 rfl (lv_at hl 1 rfl) ?_
          refine va_iald hx hb hK hP 3 0 rfl rfl (nI_in (by omega) (by decide)) dX3_reach_139 ?_
          refine lv_topi (fun y10 ey10 => ?_)
          obtain rfl : y10 = h fr := ey10.trans (congrArg h (nI_clamp (by omega)))
          refine lv_ior hx hb dX3_reach_140 ?_
          refine va_iast hx hb hK hP hD hS 3 0 rfl rfl (nI_in (by omega) (by decide)) dX3_reach_141 (fun H locs hP hD hS => ?_)
          rw [show (nI w).toNatClampNeg = w from nI_clamp (by omega)] at hP hD
          have hP : va_P D vwCl [(h0, .inr (3, [.int (nI z2), .ref q1, .ref q2, .ref q3])), (q1, .inl (cy 0, 150, .inl fb)), (q2, .inl (cy 0, 24, .inl g1)), (q3, .inl (cy 0, 24, .inl (upd h w ((h w) ||| (h fr)))))] H := hP
          have hD : va_D A [(h0, .inr (3, [.int (nI z2), .ref q1, .ref q2, .ref q3])), (q1, .inl (cy 0, 150, .inl fb)), (q2, .inl (cy 0, 24, .inl g1)), (q3, .inl (cy 0, 24, .inl (upd h w ((h w) ||| (h fr)))))] := hD
          have hP9 := hP.sub (ws' := [(h0, .inr (3, [.int (nI z2), .ref q1, .ref q2, .ref q3])), (q1, .inl (cy 0, 150, .inl fb)), (q2, .inl (cy 0, 24, .inl g1)), (q3, .inl (cy 0, 24, .inl (upd h w ((h w) ||| (h fr)))))]) [0, 1, 2, 3] rfl
          have hD9 := hD.sub (ws' := [(h0, .inr (3, [.int (nI z2), .ref q1, .ref q2, .ref q3])), (q1, .inl (cy 0, 150, .inl fb)), (q2, .inl (cy 0, 24, .inl g1)), (q3, .inl (cy 0, 24, .inl (upd h w ((h w) ||| (h fr)))))]) [0, 1, 2, 3] (by decide +kernel) rfl
          exact W.vret hx hb hr (fun t9 ht9 hW9 => ⟨⟨[(h0, .inr (3, [.int (nI z2), .ref q1, .ref q2, .ref q3])), (q1, .inl (cy 0, 150, .inl fb)), (q2, .inl (cy 0, 24, .inl g1)), (q3, .inl (cy 0, 24, .inl (upd h w ((h w) ||| (h fr)))))], rfl, ⟨z2, fb, g1, (upd h w ((h w) ||| (h fr))), rfl, hz1, hz2, hfb, ⟨by rw [e_fb, hfc], w1, hwz9, hv1, hv2, hg9, Or.inl ⟨by rw [← hw9]; exact hw2, by rw [← hw9]; exact c_113, by rw [← hw9, if_neg (fun q => c_125 (by rw [q]; rfl))]⟩⟩⟩, by rw [ht9]; exact hP9, hD9⟩, hS.F ht9⟩) hS.2.2 dX3_reach_142
        · refine lv_iconst (v := 1) hx hb dX3_reach_128 (by decide) ?_
          refine lv_iload_n hx hb dX3_reach_129 rfl (lv_at hl 2 rfl) ?_
          refine lv_ishl hx hb dX3_reach_130 ?_
          refine lv_goto (tgt := 140) hx hb dX3_reach_131 (by decide) ?_
          refine lv_ior hx hb dX3_reach_140 ?_
          refine va_iast hx hb hK hP hD hS 3 0 rfl rfl (nI_in (by omega) (by decide)) dX3_reach_141 (fun H locs hP hD hS => ?_)
          rw [show (nI w).toNatClampNeg = w from nI_clamp (by omega)] at hP hD
          have hP : va_P D vwCl [(h0, .inr (3, [.int (nI z2), .ref q1, .ref q2, .ref q3])), (q1, .inl (cy 0, 150, .inl fb)), (q2, .inl (cy 0, 24, .inl g1)), (q3, .inl (cy 0, 24, .inl (upd h w ((h w) ||| (1 <<< ((nI t) &&& 31))))))] H := hP
          have hD : va_D A [(h0, .inr (3, [.int (nI z2), .ref q1, .ref q2, .ref q3])), (q1, .inl (cy 0, 150, .inl fb)), (q2, .inl (cy 0, 24, .inl g1)), (q3, .inl (cy 0, 24, .inl (upd h w ((h w) ||| (1 <<< ((nI t) &&& 31))))))] := hD
          have hP9 := hP.sub (ws' := [(h0, .inr (3, [.int (nI z2), .ref q1, .ref q2, .ref q3])), (q1, .inl (cy 0, 150, .inl fb)), (q2, .inl (cy 0, 24, .inl g1)), (q3, .inl (cy 0, 24, .inl (upd h w ((h w) ||| (1 <<< ((nI t) &&& 31))))))]) [0, 1, 2, 3] rfl
          have hD9 := hD.sub (ws' := [(h0, .inr (3, [.int (nI z2), .ref q1, .ref q2, .ref q3])), (q1, .inl (cy 0, 150, .inl fb)), (q2, .inl (cy 0, 24, .inl g1)), (q3, .inl (cy 0, 24, .inl (upd h w ((h w) ||| (1 <<< ((nI t) &&& 31))))))]) [0, 1, 2, 3] (by decide +kernel) rfl
          exact W.vret hx hb hr (fun t9 ht9 hW9 => ⟨⟨[(h0, .inr (3, [.int (nI z2), .ref q1, .ref q2, .ref q3])), (q1, .inl (cy 0, 150, .inl fb)), (q2, .inl (cy 0, 24, .inl g1)), (q3, .inl (cy 0, 24, .inl (upd h w ((h w) ||| (1 <<< ((nI t) &&& 31))))))], rfl, ⟨z2, fb, g1, (upd h w ((h w) ||| (1 <<< ((nI t) &&& 31)))), rfl, hz1, hz2, hfb, ⟨by rw [e_fb, hfc], w1, hwz9, hv1, hv2, hg9, Or.inl ⟨by rw [← hw9]; exact hw2, by rw [← hw9]; exact c_113, by rw [← hw9, if_pos (nI_z (by omega) c_125)]⟩⟩⟩, by rw [ht9]; exact hP9, hD9⟩, hS.F ht9⟩) hS.2.2 dX3_reach_142
  refine lv_iload hx hb dX3_reach_46 (lv_at hl 0 rfl) ?_
  refine lv_aload_n hx hb dX3_reach_48 rfl (lv_at hl 1 rfl) ?_
  refine va_get (D := D) (ci := 3) (v := .int (nI z)) (C := RX3) (T := TX3) (N := 4) hx hb hts hw_X3 hown hK hP 2 rfl rfl 0 (by decide) f_9 (fun _ h9 => h9) rfl dX3_reach_49 ?_
  refine lv_icmp_ne (tgt := 89) hx hb dX3_reach_52 (by decide) (fun c_52 => ?_) (fun c_52 => ?_)
  · exact lp_89 z g w1 (by omega) (by omega) (by omega) rfl (Or.inr ⟨fun q => c_52 (by rw [q.1]), rfl, rfl⟩) _ _ _ (hP.sub [2, 3, 0, 1] rfl) (hD.sub [2, 3, 0, 1] (by decide +kernel) rfl) hS (lv_sub hl [1, 2, 4, 0] rfl)
  · have hwz : w1 = z := (nI_eq (a := w1) (b := z) (by omega) (by omega)).mp c_52
    refine lv_aload_n hx hb dX3_reach_55 rfl (lv_at hl 1 rfl) ?_
    refine va_get (D := D) (ci := 3) (v := .int (nI z)) (C := RX3) (T := TX3) (N := 4) hx hb hts hw_X3 hown hK hP 2 rfl rfl 0 (by decide) f_9 (fun _ h9 => h9) rfl dX3_reach_56 ?_
    refine lv_bipush (v := 24) hx hb dX3_reach_59 (by decide) ?_
    refine lv_icmp_ge (tgt := 89) hx hb dX3_reach_61 (by decide) (fun c_61 => ?_) (fun c_61 => ?_)
    · exact lp_89 z g w1 (by omega) (by omega) (by omega) rfl (Or.inr ⟨fun q => absurd (nI_leN (b := 24) (by decide) c_61) (Nat.not_le.mpr q.2), rfl, rfl⟩) _ _ _ (hP.sub [2, 3, 0, 1] rfl) (hD.sub [2, 3, 0, 1] (by decide +kernel) rfl) hS (lv_sub hl [1, 2, 4, 0] rfl)
    · have hz24 : z < 24 := nI_ltN (b := 24) (by omega) c_61
      refine lv_aload_n hx hb dX3_reach_64 rfl (lv_at hl 1 rfl) ?_
      refine va_get (D := D) (ci := 3) (v := .ref q2) (C := RX3) (T := TX3) (N := 4) hx hb hts hw_X3 hown hK hP 2 rfl rfl 2 (by decide) f_19 (fun _ h9 => h9) rfl dX3_reach_65 ?_
      refine lv_iload hx hb dX3_reach_68 (lv_at hl 0 rfl) ?_
      refine lv_aload_n hx hb dX3_reach_70 rfl (lv_at hl 1 rfl) ?_
      refine va_get (D := D) (ci := 3) (v := .ref q2) (C := RX3) (T := TX3) (N := 4) hx hb hts hw_X3 hown hK hP 2 rfl rfl 2 (by decide) f_19 (fun _ h9 => h9) rfl dX3_reach_71 ?_
      refine lv_iload_n hx hb dX3_reach_74 rfl (lv_at hl 2 rfl) ?_
      refine va_iald hx hb hK hP 0 0 rfl rfl (nI_in (by omega) (by decide)) dX3_reach_75 ?_
      refine lv_topi (fun y11 ey11 => ?_)
      obtain rfl : y11 = g fr := ey11.trans (congrArg g (nI_clamp (by omega)))
      refine lv_iconst (v := 1) hx hb dX3_reach_76 (by decide) ?_
      refine lv_iadd hx hb dX3_reach_77 ?_
      refine va_iast hx hb hK hP hD hS 0 0 rfl rfl (nI_in (by omega) (by decide)) dX3_reach_78 (fun H locs hP hD hS => ?_)
      rw [show (nI w1).toNatClampNeg = z from by rw [hwz]; exact nI_clamp (by omega)] at hP hD
      have hP : va_P D vwCl [(q2, .inl (cy 0, 24, .inl (upd g z ((g fr) + 1)))), (q3, .inl (cy 0, 24, .inl h)), (h0, .inr (3, [.int (nI z), .ref q1, .ref q2, .ref q3])), (q1, .inl (cy 0, 150, .inl fb))] H := hP
      have hD : va_D A [(q2, .inl (cy 0, 24, .inl (upd g z ((g fr) + 1)))), (q3, .inl (cy 0, 24, .inl h)), (h0, .inr (3, [.int (nI z), .ref q1, .ref q2, .ref q3])), (q1, .inl (cy 0, 150, .inl fb))] := hD
      refine lv_aload_n hx hb dX3_reach_79 rfl (lv_at hl 1 rfl) ?_
      refine lv_dup hx hb dX3_reach_80 rfl ?_
      refine va_get (D := D) (ci := 3) (v := .int (nI z)) (C := RX3) (T := TX3) (N := 4) hx hb hts hw_X3 hown hK hP 2 rfl rfl 0 (by decide) f_9 (fun _ h9 => h9) rfl dX3_reach_81 ?_
      refine lv_iconst (v := 1) hx hb dX3_reach_84 (by decide) ?_
      refine lv_iadd hx hb dX3_reach_85 ?_
      refine lv_topi (fun y12 ey12 => ?_)
      obtain rfl : y12 = nI (z + 1) := ey12.trans ((nI_succ z).symm)
      refine va_put (D := D) (ci := 3) (v := .int (nI (z + 1))) (ty := .int) (C := RX3) (T := TX3) (N := 4) hx hb hts hw_X3 tyX3 tyX3_ok nmX3 hown hK hP hD hS 2 rfl rfl 0 (by decide) f_9 (fun _ h9 => h9) rfl (tyX3_ok 0 (by decide)) rfl rfl (Nat.le_of_ble_eq_true rfl) dX3_reach_86 (fun H locs hP hD hS => ?_)
      have hP : va_P D vwCl [(q2, .inl (cy 0, 24, .inl (upd g z ((g fr) + 1)))), (q3, .inl (cy 0, 24, .inl h)), (h0, .inr (3, [.int (nI (z + 1)), .ref q1, .ref q2, .ref q3])), (q1, .inl (cy 0, 150, .inl fb))] H := hP
      have hD : va_D A [(q2, .inl (cy 0, 24, .inl (upd g z ((g fr) + 1)))), (q3, .inl (cy 0, 24, .inl h)), (h0, .inr (3, [.int (nI (z + 1)), .ref q1, .ref q2, .ref q3])), (q1, .inl (cy 0, 150, .inl fb))] := hD
      exact lp_89 (z + 1) (upd g z ((g fr) + 1)) w1 (by omega) (by omega) (by omega) rfl (Or.inl ⟨hwz, hz24, rfl, rfl⟩) _ _ _ (hP.sub [2, 3, 0, 1] rfl) (hD.sub [2, 3, 0, 1] (by decide +kernel) rfl) hS (lv_sub hl [1, 2, 4, 0] rfl)
def q_X3_init (cy : Nat → ClassId) (h0 : Nat) (kd : Nat) : va_W → Prop := fun (u : va_W) => ∃ (q1 : Nat), ∃ (q2 : Nat), ∃ (q3 : Nat), ∃ (z : Nat), ∃ (f : Nat → Int32), ∃ (g : Nat → Int32), ∃ (h : Nat → Int32), u = [(h0, .inr (3, [.int (nI z), .ref q1, .ref q2, .ref q3])), (q1, .inl (cy 0, 150, .inl f)), (q2, .inl (cy 0, 24, .inl g)), (q3, .inl (cy 0, 24, .inl h))] ∧ 1 ≤ z ∧ z ≤ 24 ∧ (∀ j, okv (f j)) ∧ WRel z f g h (RT kd)
set_option maxHeartbeats 4000000 in
set_option maxRecDepth 100000 in
theorem c_X3_init (l : Launch) (D : va_G) (cy : Nat → ClassId) (zz : Nat) (h0 : Nat) (kd : Nat) (hkd : kd < 5) : Met l yX3_init wsX3_init ({ frames := 3, cells := 3, slots := 198, locals := 68 } : Room) (va_Pc [.ref h0, .int (nI kd)] (cpre D cy [(h0, .inr (3, [.int 0, .null, .null, .null]))] zz)) (va_Qv (q_X3_init cy h0 kd) (cpost D (va_A [(h0, .inr (3, [.int 0, .null, .null, .null]))] zz)) (va_A [(h0, .inr (3, [.int 0, .null, .null, .null]))] zz)) 3 198 (va_A [(h0, .inr (3, [.int 0, .null, .null, .null]))] zz) := by
  refine Met.ofW (cc := cX3_init) (maxL := 4) (ret := none) (by decide) rfl ?_
  intro p e s m args below meth c s₁ B hml hv
  obtain ⟨rfl, hsz, hP, hD0, hX⟩ := hv
  have hx := B.exec
  have hb := B.bytes
  have hr := B.returns
  have hts := atoms_spec (ws := wsX3_init) B.pre
  have hown : s.vm.findClass RX3 = some m.cls := findClass_of_methodNamed B.named
  have hlocks := B.notSynchronized
  have hin : meth.name = "<init>" := (name_of_methodNamed B.named B.method).1
  subst hsz
  have hD := hD0.self (sz := s.heap.size)
  generalize hAe : va_A [(h0, .inr (3, [.int 0, .null, .null, .null]))] s.heap.size = A at hD hX ⊢
  have hA : ∀ q : Nat, s.heap.size ≤ q → A q := fun q h => by rw [← hAe]; exact Or.inr h
  obtain ⟨H, hH⟩ : ∃ H : Heap, H = s.heap := ⟨_, rfl⟩
  have hS : va_S A s.heap H [] := hH ▸ va_S.rf
  have hK := hX.1
  have hP : va_P D vwCl [(h0, .inr (3, [.int 0, .null, .null, .null]))] H := hH ▸ hP
  rw [← hH]
  have hw_X3 : ∀ w ∈ wsX30, w ∈ wsX3_init := chX3 (by decide +kernel)
  have m_3 := hts (.methodLink RX3 3 objectInit) (inC wa_130 (by decide +kernel))
  have oi_i := hts (.instanceMethod objectInit) (inC wa_10 (by decide +kernel))
  have oi_c := hts (.code objectInit ⟨#[0xb1]⟩ 1 none) (inC wa_11 (by decide +kernel))
  have f_9 := hts (.fieldLink RX3 9 "CubeTower$Ways" "size" "I") (inC wa_131 (by decide +kernel))
  have ac_I := hts (.arrayClass .int) (inC wa_12 (by decide +kernel))
  have f_15 := hts (.fieldLink RX3 15 "CubeTower$Ways" "sideAt" "[I") (inC wa_132 (by decide +kernel))
  have f_19 := hts (.fieldLink RX3 19 "CubeTower$Ways" "turnsTo" "[I") (inC wa_133 (by decide +kernel))
  have f_22 := hts (.fieldLink RX3 22 "CubeTower$Ways" "firstTurns" "[I") (inC wa_134 (by decide +kernel))
  have ini_X4 := hts (.initialized RX4) (inC wa_2 (by decide +kernel))
  have st_X4_canTurn := hts (.static yX4_canTurn) (inC wa_135 (by decide +kernel))
  have hl := lv_entry ([.ref h0, .int (nI kd)]) (n := 4) (Nat.le_of_ble_eq_true rfl)
  rw [lg_entry_eq]
  generalize (lg_sl ([.ref h0, .int (nI kd)]) ++ List.replicate (4 - (lg_sl ([.ref h0, .int (nI kd)])).length) Slot.unset).toArray = ls at hl ⊢
  have hl : lv_has ls 4 [(0, .ref h0), (1, .int (nI kd))] := hl
  refine lv_aload_n hx hb dX3_init_0 rfl (lv_at hl 0 rfl) ?_
  refine W.objInit hx hb hown m_3 oi_i oi_c rfl (by rw [hml]; exact hl.1) rfl dX3_init_1 (Nat.le_of_ble_eq_true rfl) (Nat.le_of_ble_eq_true rfl) ?_
  refine W.eq (g2 := F0 m 4 ls []) rfl ?_
  refine lv_aload_n hx hb dX3_init_4 rfl (lv_at hl 0 rfl) ?_
  refine lv_iconst (v := 1) hx hb dX3_init_5 (by decide) ?_
  refine va_put (D := D) (ci := 3) (v := .int 1) (ty := .int) (C := RX3) (T := TX3) (N := 4) hx hb hts hw_X3 tyX3 tyX3_ok nmX3 hown hK hP hD hS 0 rfl rfl 0 (by decide) f_9 (fun _ h9 => h9) rfl (tyX3_ok 0 (by decide)) rfl rfl (Nat.le_of_ble_eq_true rfl) dX3_init_6 (fun H locs hP hD hS => ?_)
  have hP : va_P D vwCl [(h0, .inr (3, [.int 1, .null, .null, .null]))] H := hP
  have hD : va_D A [(h0, .inr (3, [.int 1, .null, .null, .null]))] := hD
  refine lv_aload_n hx hb dX3_init_9 rfl (lv_at hl 0 rfl) ?_
  refine lv_sipush (v := 150) hx hb dX3_init_10 (by decide) ?_
  refine nw_i (N' := 150) hx hb hX ac_I hP hD hS hA (by decide) (by decide) (by decide) (Nat.le_of_ble_eq_true rfl) (Nat.le_of_ble_eq_true rfl) dX3_init_13 (fun q1 H hP hD hS => ?_)
  refine W.widen (k := 1) (n := 150) (Nat.le_of_ble_eq_true rfl) (Nat.le_of_ble_eq_true rfl) ?_
  have hP : va_P D vwCl [(h0, .inr (3, [.int 1, .null, .null, .null])), (q1, .inl (cy 0, 150, .inl (fun _ => 0)))] H := hP
  have hD : va_D A [(h0, .inr (3, [.int 1, .null, .null, .null])), (q1, .inl (cy 0, 150, .inl (fun _ => 0)))] := hD
  refine va_putF (D := D) (ci := 3) (v := .ref q1) (ty := (.array .int)) (C := RX3) (T := TX3) (N := 4) hx hb hts hw_X3 tyX3 tyX3_ok nmX3 hown hK hP hD hS 0 rfl rfl 1 (by decide) f_15 (fun _ h9 => h9) rfl hin rfl (tyX3_ok 1 (by decide)) rfl rfl (Nat.le_of_ble_eq_true rfl) dX3_init_15 (fun H locs hP hD hS => ?_)
  have hP : va_P D vwCl [(h0, .inr (3, [.int 1, .ref q1, .null, .null])), (q1, .inl (cy 0, 150, .inl (fun _ => 0)))] H := hP
  have hD : va_D A [(h0, .inr (3, [.int 1, .ref q1, .null, .null])), (q1, .inl (cy 0, 150, .inl (fun _ => 0)))] := hD
  refine lv_aload_n hx hb dX3_init_18 rfl (lv_at hl 0 rfl) ?_
  refine lv_bipush (v := 24) hx hb dX3_init_19 (by decide) ?_
  refine nw_i (N' := 24) hx hb hX ac_I hP hD hS hA (by decide) (by decide) (by decide) (Nat.le_of_ble_eq_true rfl) (Nat.le_of_ble_eq_true rfl) dX3_init_21 (fun q2 H hP hD hS => ?_)
  refine W.widen (k := 2) (n := 174) (Nat.le_of_ble_eq_true rfl) (Nat.le_of_ble_eq_true rfl) ?_
  have hP : va_P D vwCl [(h0, .inr (3, [.int 1, .ref q1, .null, .null])), (q1, .inl (cy 0, 150, .inl (fun _ => 0))), (q2, .inl (cy 0, 24, .inl (fun _ => 0)))] H := hP
  have hD : va_D A [(h0, .inr (3, [.int 1, .ref q1, .null, .null])), (q1, .inl (cy 0, 150, .inl (fun _ => 0))), (q2, .inl (cy 0, 24, .inl (fun _ => 0)))] := hD
  refine va_putF (D := D) (ci := 3) (v := .ref q2) (ty := (.array .int)) (C := RX3) (T := TX3) (N := 4) hx hb hts hw_X3 tyX3 tyX3_ok nmX3 hown hK hP hD hS 0 rfl rfl 2 (by decide) f_19 (fun _ h9 => h9) rfl hin rfl (tyX3_ok 2 (by decide)) rfl rfl (Nat.le_of_ble_eq_true rfl) dX3_init_23 (fun H locs hP hD hS => ?_)
  have hP : va_P D vwCl [(h0, .inr (3, [.int 1, .ref q1, .ref q2, .null])), (q1, .inl (cy 0, 150, .inl (fun _ => 0))), (q2, .inl (cy 0, 24, .inl (fun _ => 0)))] H := hP
  have hD : va_D A [(h0, .inr (3, [.int 1, .ref q1, .ref q2, .null])), (q1, .inl (cy 0, 150, .inl (fun _ => 0))), (q2, .inl (cy 0, 24, .inl (fun _ => 0)))] := hD
  refine lv_aload_n hx hb dX3_init_26 rfl (lv_at hl 0 rfl) ?_
  refine lv_bipush (v := 24) hx hb dX3_init_27 (by decide) ?_
  refine nw_i (N' := 24) hx hb hX ac_I hP hD hS hA (by decide) (by decide) (by decide) (Nat.le_of_ble_eq_true rfl) (Nat.le_of_ble_eq_true rfl) dX3_init_29 (fun q3 H hP hD hS => ?_)
  refine W.widen (k := 3) (n := 198) (Nat.le_of_ble_eq_true rfl) (Nat.le_of_ble_eq_true rfl) ?_
  have hP : va_P D vwCl [(h0, .inr (3, [.int 1, .ref q1, .ref q2, .null])), (q1, .inl (cy 0, 150, .inl (fun _ => 0))), (q2, .inl (cy 0, 24, .inl (fun _ => 0))), (q3, .inl (cy 0, 24, .inl (fun _ => 0)))] H := hP
  have hD : va_D A [(h0, .inr (3, [.int 1, .ref q1, .ref q2, .null])), (q1, .inl (cy 0, 150, .inl (fun _ => 0))), (q2, .inl (cy 0, 24, .inl (fun _ => 0))), (q3, .inl (cy 0, 24, .inl (fun _ => 0)))] := hD
  refine va_putF (D := D) (ci := 3) (v := .ref q3) (ty := (.array .int)) (C := RX3) (T := TX3) (N := 4) hx hb hts hw_X3 tyX3 tyX3_ok nmX3 hown hK hP hD hS 0 rfl rfl 3 (by decide) f_22 (fun _ h9 => h9) rfl hin rfl (tyX3_ok 3 (by decide)) rfl rfl (Nat.le_of_ble_eq_true rfl) dX3_init_31 (fun H locs hP hD hS => ?_)
  have hP : va_P D vwCl [(h0, .inr (3, [.int 1, .ref q1, .ref q2, .ref q3])), (q1, .inl (cy 0, 150, .inl (fun _ => 0))), (q2, .inl (cy 0, 24, .inl (fun _ => 0))), (q3, .inl (cy 0, 24, .inl (fun _ => 0)))] H := hP
  have hD : va_D A [(h0, .inr (3, [.int 1, .ref q1, .ref q2, .ref q3])), (q1, .inl (cy 0, 150, .inl (fun _ => 0))), (q2, .inl (cy 0, 24, .inl (fun _ => 0))), (q3, .inl (cy 0, 24, .inl (fun _ => 0)))] := hD
  refine lv_iconst (v := 0) hx hb dX3_init_34 (by decide) ?_
  refine lv_istore_n (lv' := [(2, .int 0), (0, .ref h0), (1, .int (nI kd))]) hx hb dX3_init_35 rfl hl (by decide) rfl (fun ls hl => ?_)
  refine lv_iload_n hx hb dX3_init_36 rfl (lv_at hl 0 rfl) ?_
  refine lv_bipush (v := 6) hx hb dX3_init_37 (by decide) ?_
  refine lv_icmp_ge (tgt := 55) hx hb dX3_init_39 (by decide) (fun c_39 => ?_) (fun c_39 => ?_)
  · exact absurd c_39 (by decide)
  · refine lv_aload_n hx hb dX3_init_42 rfl (lv_at hl 1 rfl) ?_
    refine va_get (D := D) (ci := 3) (v := .ref q1) (C := RX3) (T := TX3) (N := 4) hx hb hts hw_X3 hown hK hP 0 rfl rfl 1 (by decide) f_15 (fun _ h9 => h9) rfl dX3_init_43 ?_
    refine lv_iload_n hx hb dX3_init_46 rfl (lv_at hl 0 rfl) ?_
    refine lv_iload_n hx hb dX3_init_47 rfl (lv_at hl 0 rfl) ?_
    refine va_iast hx hb hK hP hD hS 1 0 rfl rfl (vi_c (by decide +kernel)) dX3_init_48 (fun H locs hP hD hS => ?_)
    have hP : va_P D vwCl [(h0, .inr (3, [.int 1, .ref q1, .ref q2, .ref q3])), (q1, .inl (cy 0, 150, .inl (upd (fun _ => 0) 0 0))), (q2, .inl (cy 0, 24, .inl (fun _ => 0))), (q3, .inl (cy 0, 24, .inl (fun _ => 0)))] H := hP
    have hD : va_D A [(h0, .inr (3, [.int 1, .ref q1, .ref q2, .ref q3])), (q1, .inl (cy 0, 150, .inl (upd (fun _ => 0) 0 0))), (q2, .inl (cy 0, 24, .inl (fun _ => 0))), (q3, .inl (cy 0, 24, .inl (fun _ => 0)))] := hD
    refine lv_iinc (v := 1) (lv' := [(2, .int 1), (0, .ref h0), (1, .int (nI kd))]) hx hb dX3_init_49 hl (k := 0) rfl (by decide) (by decide) rfl (fun ls hl => ?_)
    refine lv_goto (tgt := 36) hx hb dX3_init_52 (by decide) ?_
    refine lv_iload_n hx hb dX3_init_36 rfl (lv_at hl 0 rfl) ?_
    refine lv_bipush (v := 6) hx hb dX3_init_37 (by decide) ?_
    refine lv_icmp_ge (tgt := 55) hx hb dX3_init_39 (by decide) (fun c_39 => ?_) (fun c_39 => ?_)
    · exact absurd c_39 (by decide)
    · refine lv_aload_n hx hb dX3_init_42 rfl (lv_at hl 1 rfl) ?_
      refine va_get (D := D) (ci := 3) (v := .ref q1) (C := RX3) (T := TX3) (N := 4) hx hb hts hw_X3 hown hK hP 0 rfl rfl 1 (by decide) f_15 (fun _ h9 => h9) rfl dX3_init_43 ?_
      refine lv_iload_n hx hb dX3_init_46 rfl (lv_at hl 0 rfl) ?_
      refine lv_iload_n hx hb dX3_init_47 rfl (lv_at hl 0 rfl) ?_
      refine va_iast hx hb hK hP hD hS 1 0 rfl rfl (vi_c (by decide +kernel)) dX3_init_48 (fun H locs hP hD hS => ?_)
      have hP : va_P D vwCl [(h0, .inr (3, [.int 1, .ref q1, .ref q2, .ref q3])), (q1, .inl (cy 0, 150, .inl (upd (upd (fun _ => 0) 0 0) 1 1))), (q2, .inl (cy 0, 24, .inl (fun _ => 0))), (q3, .inl (cy 0, 24, .inl (fun _ => 0)))] H := hP
      have hD : va_D A [(h0, .inr (3, [.int 1, .ref q1, .ref q2, .ref q3])), (q1, .inl (cy 0, 150, .inl (upd (upd (fun _ => 0) 0 0) 1 1))), (q2, .inl (cy 0, 24, .inl (fun _ => 0))), (q3, .inl (cy 0, 24, .inl (fun _ => 0)))] := hD
      refine lv_iinc (v := 2) (lv' := [(2, .int 2), (0, .ref h0), (1, .int (nI kd))]) hx hb dX3_init_49 hl (k := 0) rfl (by decide) (by decide) rfl (fun ls hl => ?_)
      refine lv_goto (tgt := 36) hx hb dX3_init_52 (by decide) ?_
      refine lv_iload_n hx hb dX3_init_36 rfl (lv_at hl 0 rfl) ?_
      refine lv_bipush (v := 6) hx hb dX3_init_37 (by decide) ?_
      refine lv_icmp_ge (tgt := 55) hx hb dX3_init_39 (by decide) (fun c_39 => ?_) (fun c_39 => ?_)
      · exact absurd c_39 (by decide)
      · refine lv_aload_n hx hb dX3_init_42 rfl (lv_at hl 1 rfl) ?_
        refine va_get (D := D) (ci := 3) (v := .ref q1) (C := RX3) (T := TX3) (N := 4) hx hb hts hw_X3 hown hK hP 0 rfl rfl 1 (by decide) f_15 (fun _ h9 => h9) rfl dX3_init_43 ?_
        refine lv_iload_n hx hb dX3_init_46 rfl (lv_at hl 0 rfl) ?_
        refine lv_iload_n hx hb dX3_init_47 rfl (lv_at hl 0 rfl) ?_
        refine va_iast hx hb hK hP hD hS 1 0 rfl rfl (vi_c (by decide +kernel)) dX3_init_48 (fun H locs hP hD hS => ?_)
        have hP : va_P D vwCl [(h0, .inr (3, [.int 1, .ref q1, .ref q2, .ref q3])), (q1, .inl (cy 0, 150, .inl (upd (upd (upd (fun _ => 0) 0 0) 1 1) 2 2))), (q2, .inl (cy 0, 24, .inl (fun _ => 0))), (q3, .inl (cy 0, 24, .inl (fun _ => 0)))] H := hP
        have hD : va_D A [(h0, .inr (3, [.int 1, .ref q1, .ref q2, .ref q3])), (q1, .inl (cy 0, 150, .inl (upd (upd (upd (fun _ => 0) 0 0) 1 1) 2 2))), (q2, .inl (cy 0, 24, .inl (fun _ => 0))), (q3, .inl (cy 0, 24, .inl (fun _ => 0)))] := hD
        refine lv_iinc (v := 3) (lv' := [(2, .int 3), (0, .ref h0), (1, .int (nI kd))]) hx hb dX3_init_49 hl (k := 0) rfl (by decide) (by decide) rfl (fun ls hl => ?_)
        refine lv_goto (tgt := 36) hx hb dX3_init_52 (by decide) ?_
        refine lv_iload_n hx hb dX3_init_36 rfl (lv_at hl 0 rfl) ?_
        refine lv_bipush (v := 6) hx hb dX3_init_37 (by decide) ?_
        refine lv_icmp_ge (tgt := 55) hx hb dX3_init_39 (by decide) (fun c_39 => ?_) (fun c_39 => ?_)
        · exact absurd c_39 (by decide)
        · refine lv_aload_n hx hb dX3_init_42 rfl (lv_at hl 1 rfl) ?_
          refine va_get (D := D) (ci := 3) (v := .ref q1) (C := RX3) (T := TX3) (N := 4) hx hb hts hw_X3 hown hK hP 0 rfl rfl 1 (by decide) f_15 (fun _ h9 => h9) rfl dX3_init_43 ?_
          refine lv_iload_n hx hb dX3_init_46 rfl (lv_at hl 0 rfl) ?_
          refine lv_iload_n hx hb dX3_init_47 rfl (lv_at hl 0 rfl) ?_
          refine va_iast hx hb hK hP hD hS 1 0 rfl rfl (vi_c (by decide +kernel)) dX3_init_48 (fun H locs hP hD hS => ?_)
          have hP : va_P D vwCl [(h0, .inr (3, [.int 1, .ref q1, .ref q2, .ref q3])), (q1, .inl (cy 0, 150, .inl (upd (upd (upd (upd (fun _ => 0) 0 0) 1 1) 2 2) 3 3))), (q2, .inl (cy 0, 24, .inl (fun _ => 0))), (q3, .inl (cy 0, 24, .inl (fun _ => 0)))] H := hP
          have hD : va_D A [(h0, .inr (3, [.int 1, .ref q1, .ref q2, .ref q3])), (q1, .inl (cy 0, 150, .inl (upd (upd (upd (upd (fun _ => 0) 0 0) 1 1) 2 2) 3 3))), (q2, .inl (cy 0, 24, .inl (fun _ => 0))), (q3, .inl (cy 0, 24, .inl (fun _ => 0)))] := hD
          refine lv_iinc (v := 4) (lv' := [(2, .int 4), (0, .ref h0), (1, .int (nI kd))]) hx hb dX3_init_49 hl (k := 0) rfl (by decide) (by decide) rfl (fun ls hl => ?_)
          refine lv_goto (tgt := 36) hx hb dX3_init_52 (by decide) ?_
          refine lv_iload_n hx hb dX3_init_36 rfl (lv_at hl 0 rfl) ?_
          refine lv_bipush (v := 6) hx hb dX3_init_37 (by decide) ?_
          refine lv_icmp_ge (tgt := 55) hx hb dX3_init_39 (by decide) (fun c_39 => ?_) (fun c_39 => ?_)
          · exact absurd c_39 (by decide)
          · refine lv_aload_n hx hb dX3_init_42 rfl (lv_at hl 1 rfl) ?_
            refine va_get (D := D) (ci := 3) (v := .ref q1) (C := RX3) (T := TX3) (N := 4) hx hb hts hw_X3 hown hK hP 0 rfl rfl 1 (by decide) f_15 (fun _ h9 => h9) rfl dX3_init_43 ?_
            refine lv_iload_n hx hb dX3_init_46 rfl (lv_at hl 0 rfl) ?_
            refine lv_iload_n hx hb dX3_init_47 rfl (lv_at hl 0 rfl) ?_
            refine va_iast hx hb hK hP hD hS 1 0 rfl rfl (vi_c (by decide +kernel)) dX3_init_48 (fun H locs hP hD hS => ?_)
            have hP : va_P D vwCl [(h0, .inr (3, [.int 1, .ref q1, .ref q2, .ref q3])), (q1, .inl (cy 0, 150, .inl (upd (upd (upd (upd (upd (fun _ => 0) 0 0) 1 1) 2 2) 3 3) 4 4))), (q2, .inl (cy 0, 24, .inl (fun _ => 0))), (q3, .inl (cy 0, 24, .inl (fun _ => 0)))] H := hP
            have hD : va_D A [(h0, .inr (3, [.int 1, .ref q1, .ref q2, .ref q3])), (q1, .inl (cy 0, 150, .inl (upd (upd (upd (upd (upd (fun _ => 0) 0 0) 1 1) 2 2) 3 3) 4 4))), (q2, .inl (cy 0, 24, .inl (fun _ => 0))), (q3, .inl (cy 0, 24, .inl (fun _ => 0)))] := hD
            refine lv_iinc (v := 5) (lv' := [(2, .int 5), (0, .ref h0), (1, .int (nI kd))]) hx hb dX3_init_49 hl (k := 0) rfl (by decide) (by decide) rfl (fun ls hl => ?_)
            refine lv_goto (tgt := 36) hx hb dX3_init_52 (by decide) ?_
            refine lv_iload_n hx hb dX3_init_36 rfl (lv_at hl 0 rfl) ?_
            refine lv_bipush (v := 6) hx hb dX3_init_37 (by decide) ?_
            refine lv_icmp_ge (tgt := 55) hx hb dX3_init_39 (by decide) (fun c_39 => ?_) (fun c_39 => ?_)
            · exact absurd c_39 (by decide)
            · refine lv_aload_n hx hb dX3_init_42 rfl (lv_at hl 1 rfl) ?_
              refine va_get (D := D) (ci := 3) (v := .ref q1) (C := RX3) (T := TX3) (N := 4) hx hb hts hw_X3 hown hK hP 0 rfl rfl 1 (by decide) f_15 (fun _ h9 => h9) rfl dX3_init_43 ?_
              refine lv_iload_n hx hb dX3_init_46 rfl (lv_at hl 0 rfl) ?_
              refine lv_iload_n hx hb dX3_init_47 rfl (lv_at hl 0 rfl) ?_
              refine va_iast hx hb hK hP hD hS 1 0 rfl rfl (vi_c (by decide +kernel)) dX3_init_48 (fun H locs hP hD hS => ?_)
              have hP : va_P D vwCl [(h0, .inr (3, [.int 1, .ref q1, .ref q2, .ref q3])), (q1, .inl (cy 0, 150, .inl (upd (upd (upd (upd (upd (upd (fun _ => 0) 0 0) 1 1) 2 2) 3 3) 4 4) 5 5))), (q2, .inl (cy 0, 24, .inl (fun _ => 0))), (q3, .inl (cy 0, 24, .inl (fun _ => 0)))] H := hP
              have hD : va_D A [(h0, .inr (3, [.int 1, .ref q1, .ref q2, .ref q3])), (q1, .inl (cy 0, 150, .inl (upd (upd (upd (upd (upd (upd (fun _ => 0) 0 0) 1 1) 2 2) 3 3) 4 4) 5 5))), (q2, .inl (cy 0, 24, .inl (fun _ => 0))), (q3, .inl (cy 0, 24, .inl (fun _ => 0)))] := hD
              refine lv_iinc (v := 6) (lv' := [(2, .int 6), (0, .ref h0), (1, .int (nI kd))]) hx hb dX3_init_49 hl (k := 0) rfl (by decide) (by decide) rfl (fun ls hl => ?_)
              refine lv_goto (tgt := 36) hx hb dX3_init_52 (by decide) ?_
              refine lv_iload_n hx hb dX3_init_36 rfl (lv_at hl 0 rfl) ?_
              refine lv_bipush (v := 6) hx hb dX3_init_37 (by decide) ?_
              refine lv_icmp_ge (tgt := 55) hx hb dX3_init_39 (by decide) (fun c_39 => ?_) (fun c_39 => ?_)
              · refine lv_iconst (v := 0) hx hb dX3_init_55 (by decide) ?_
                refine lv_istore_n (lv' := [(2, .int 0), (0, .ref h0), (1, .int (nI kd))]) hx hb dX3_init_56 rfl hl (by decide) rfl (fun ls hl => ?_)
                have lp_57 : ∀ (n_57 : Nat) (z : Nat) (f : Nat → Int32) (g : Nat → Int32) (h : Nat → Int32) (fr : Nat) (hz1 : 1 ≤ z) (hz2 : z ≤ 24) (hok : ∀ j, okv (f j)) (hfr : fr ≤ 24) (hW : WRel z f g h (runS kd (4 * fr))) (hm : 24 < fr + n_57) (H : Heap) (locs : List Loc) (ls : Array Slot), va_P D vwCl [(h0, .inr (3, [.int (nI z), .ref q1, .ref q2, .ref q3])), (q1, .inl (cy 0, 150, .inl f)), (q2, .inl (cy 0, 24, .inl g)), (q3, .inl (cy 0, 24, .inl h))] H → va_D A [(h0, .inr (3, [.int (nI z), .ref q1, .ref q2, .ref q3])), (q1, .inl (cy 0, 150, .inl f)), (q2, .inl (cy 0, 24, .inl g)), (q3, .inl (cy 0, 24, .inl h))] → va_S A s.heap H locs → lv_has ls 4 [(0, .ref h0), (1, .int (nI kd)), (2, .int (nI fr))] → W p l e (headSpec wsX3_init ({ frames := 3, cells := 3, slots := 198, locals := 68 } : Room)).room s m ([.ref h0, .int (nI kd)] : List Value).toArray below meth c H locs 3 198 (MQ below (va_Qv (q_X3_init cy h0 kd) (cpost D A) A) ([.ref h0, .int (nI kd)] : List Value).toArray s 3 198 A) (F0 m 57 ls []) := by
                  intro n_57
                  induction n_57 with
                  | zero => intro z f g h fr hz1 hz2 hok hfr hW hm; exact absurd hm (by omega)
                  | succ n_57 ih_57 =>
                    intro z f g h fr hz1 hz2 hok hfr hW hm H locs ls hP hD hS hl
                    refine lv_iload_n hx hb dX3_init_57 rfl (lv_at hl 2 rfl) ?_
                    refine lv_aload_n hx hb dX3_init_58 rfl (lv_at hl 0 rfl) ?_
                    refine va_get (D := D) (ci := 3) (v := .int (nI z)) (C := RX3) (T := TX3) (N := 4) hx hb hts hw_X3 hown hK hP 0 rfl rfl 0 (by decide) f_9 (fun _ h9 => h9) rfl dX3_init_59 ?_
                    refine lv_icmp_ge (tgt := 105) hx hb dX3_init_62 (by decide) (fun c_62 => ?_) (fun c_62 => ?_)
                    · have hP9 := hP.sub (ws' := [(h0, .inr (3, [.int (nI z), .ref q1, .ref q2, .ref q3])), (q1, .inl (cy 0, 150, .inl f)), (q2, .inl (cy 0, 24, .inl g)), (q3, .inl (cy 0, 24, .inl h))]) [0, 1, 2, 3] rfl
                      have hD9 := hD.sub (ws' := [(h0, .inr (3, [.int (nI z), .ref q1, .ref q2, .ref q3])), (q1, .inl (cy 0, 150, .inl f)), (q2, .inl (cy 0, 24, .inl g)), (q3, .inl (cy 0, 24, .inl h))]) [0, 1, 2, 3] (by decide +kernel) rfl
                      exact W.vret hx hb hr (fun t9 ht9 hW9 => ⟨⟨[(h0, .inr (3, [.int (nI z), .ref q1, .ref q2, .ref q3])), (q1, .inl (cy 0, 150, .inl f)), (q2, .inl (cy 0, 24, .inl g)), (q3, .inl (cy 0, 24, .inl h))], rfl, ⟨q1, q2, q3, z, f, g, h, rfl, hz1, hz2, hok, (by rw [← rt_eq kd hkd, run_end (fr := fr) hfr (by rw [hW.1]; exact nI_leN (by omega) c_62)]; exact hW)⟩, by rw [ht9]; exact hP9, hD9⟩, hS.F ht9⟩) hS.2.2 dX3_init_105
                    · have hfz : fr < z := nI_ltN (by omega) c_62
                      refine lv_iload_n hx hb dX3_init_65 rfl (lv_at hl 2 rfl) ?_
                      refine lv_bipush (v := 24) hx hb dX3_init_66 (by decide) ?_
                      refine lv_icmp_ge (tgt := 105) hx hb dX3_init_68 (by decide) (fun c_68 => ?_) (fun c_68 => ?_)
                      · have hP9 := hP.sub (ws' := [(h0, .inr (3, [.int (nI z), .ref q1, .ref q2, .ref q3])), (q1, .inl (cy 0, 150, .inl f)), (q2, .inl (cy 0, 24, .inl g)), (q3, .inl (cy 0, 24, .inl h))]) [0, 1, 2, 3] rfl
                        have hD9 := hD.sub (ws' := [(h0, .inr (3, [.int (nI z), .ref q1, .ref q2, .ref q3])), (q1, .inl (cy 0, 150, .inl f)), (q2, .inl (cy 0, 24, .inl g)), (q3, .inl (cy 0, 24, .inl h))]) [0, 1, 2, 3] (by decide +kernel) rfl
                        exact W.vret hx hb hr (fun t9 ht9 hW9 => ⟨⟨[(h0, .inr (3, [.int (nI z), .ref q1, .ref q2, .ref q3])), (q1, .inl (cy 0, 150, .inl f)), (q2, .inl (cy 0, 24, .inl g)), (q3, .inl (cy 0, 24, .inl h))], rfl, ⟨q1, q2, q3, z, f, g, h, rfl, hz1, hz2, hok, (by obtain rfl : fr = 24 := Nat.le_antisymm hfr (nI_leN (b := 24) (by decide) c_68); rw [← rt_eq kd hkd]; exact hW)⟩, by rw [ht9]; exact hP9, hD9⟩, hS.F ht9⟩) hS.2.2 dX3_init_105
                      · have hf24 : fr < 24 := nI_ltN (b := 24) (by omega) c_68
                        refine lv_iconst (v := 0) hx hb dX3_init_71 (by decide) ?_
                        refine lv_istore_n (lv' := [(3, .int 0), (0, .ref h0), (1, .int (nI kd)), (2, .int (nI fr))]) hx hb dX3_init_72 rfl hl (by decide) rfl (fun ls hl => ?_)
                        have lp_73 : ∀ (n_73 : Nat) (z1 : Nat) (f1 : Nat → Int32) (g1 : Nat → Int32) (h1 : Nat → Int32) (t : Nat) (hz3 : 1 ≤ z1) (hz4 : z1 ≤ 24) (hfz : fr < z1) (hok1 : ∀ j, okv (f1 j)) (ht : t ≤ 4) (hW1 : WRel z1 f1 g1 h1 (runS kd (4 * fr + t))) (hm : 4 < t + n_73) (H : Heap) (locs : List Loc) (ls : Array Slot), va_P D vwCl [(h0, .inr (3, [.int (nI z1), .ref q1, .ref q2, .ref q3])), (q1, .inl (cy 0, 150, .inl f1)), (q2, .inl (cy 0, 24, .inl g1)), (q3, .inl (cy 0, 24, .inl h1))] H → va_D A [(h0, .inr (3, [.int (nI z1), .ref q1, .ref q2, .ref q3])), (q1, .inl (cy 0, 150, .inl f1)), (q2, .inl (cy 0, 24, .inl g1)), (q3, .inl (cy 0, 24, .inl h1))] → va_S A s.heap H locs → lv_has ls 4 [(0, .ref h0), (1, .int (nI kd)), (2, .int (nI fr)), (3, .int (nI t))] → W p l e (headSpec wsX3_init ({ frames := 3, cells := 3, slots := 198, locals := 68 } : Room)).room s m ([.ref h0, .int (nI kd)] : List Value).toArray below meth c H locs 3 198 (MQ below (va_Qv (q_X3_init cy h0 kd) (cpost D A) A) ([.ref h0, .int (nI kd)] : List Value).toArray s 3 198 A) (F0 m 73 ls []) := by
                          intro n_73
                          induction n_73 with
                          | zero => intro z1 f1 g1 h1 t hz3 hz4 hfz hok1 ht hW1 hm; exact absurd hm (by omega)
                          | succ n_73 ih_73 =>
                            intro z1 f1 g1 h1 t hz3 hz4 hfz hok1 ht hW1 hm H locs ls hP hD hS hl
                            refine lv_iload_n hx hb dX3_init_73 rfl (lv_at hl 3 rfl) ?_
                            refine lv_iconst (v := 4) hx hb dX3_init_74 (by decide) ?_
                            refine lv_icmp_ge (tgt := 99) hx hb dX3_init_75 (by decide) (fun c_75 => ?_) (fun c_75 => ?_)
                            · have ht5 : 4 ≤ t := nI_leN (b := 4) (by decide) c_75
                              refine lv_iinc (v := nI (fr + 1)) (lv' := [(2, .int (nI (fr + 1))), (0, .ref h0), (1, .int (nI kd)), (3, .int (nI t))]) hx hb dX3_init_99 hl (k := 2) rfl ((nI_succ fr).symm) (by decide) rfl (fun ls hl => ?_)
                              refine lv_goto (tgt := 57) hx hb dX3_init_102 (by decide) ?_
                              exact ih_57 z1 f1 g1 h1 (fr + 1) hz3 hz4 hok1 (by omega) (by rw [show 4 * (fr + 1) = 4 * fr + t by omega]; exact hW1) (by omega) _ _ _ (hP.sub [0, 1, 2, 3] rfl) (hD.sub [0, 1, 2, 3] (by decide +kernel) rfl) hS (lv_sub hl [1, 2, 0] rfl)
                            · have ht4 : t < 4 := nI_ltN (b := 4) (by omega) c_75
                              refine lv_iload_n hx hb dX3_init_78 rfl (lv_at hl 1 rfl) ?_
                              refine lv_iload_n hx hb dX3_init_79 rfl (lv_at hl 3 rfl) ?_
                              refine kc_i (wc := []) (wr := [(h0, .inr (3, [.int (nI z1), .ref q1, .ref q2, .ref q3])), (q1, .inl (cy 0, 150, .inl f1)), (q2, .inl (cy 0, 24, .inl g1)), (q3, .inl (cy 0, 24, .inl h1))]) (va_runSN (As := [.int (nI kd), .int (nI t)]) (rest := []) ⟨hx, hb, hml, hown, hts⟩ (c_X4_canTurn l D cy H.size kd (nI t) hkd) ⟨va_cnB 2 hts gX3_init_X4_canTurn_n25 rfl rfl rfl hX.2.2.1.2.2.2.1 ini_X4 hdc_X4_canTurn.2 ⟨Nat.le_of_ble_eq_true rfl, Nat.le_of_ble_eq_true rfl⟩, st_X4_canTurn, trivial⟩ (cpre_S (wc := []) hX hP hD hS hA [] (by decide +kernel) rfl) rfl rfl hl.1 rfl (lv_room (Nat.le_of_ble_eq_true rfl)) dX3_init_80 ⟨Nat.le_of_ble_eq_true rfl, Nat.le_of_ble_eq_true rfl⟩) hP hD hS hA [] [0, 1, 2, 3] rfl rfl (by decide +kernel) (by decide +kernel) (fun rcn u4 H locs hw hP hD hS => ?_)
                              obtain ⟨hu, hcn⟩ := hw
                              subst hu
                              have hP : va_P D vwCl [(h0, .inr (3, [.int (nI z1), .ref q1, .ref q2, .ref q3])), (q1, .inl (cy 0, 150, .inl f1)), (q2, .inl (cy 0, 24, .inl g1)), (q3, .inl (cy 0, 24, .inl h1))] H := hP
                              have hD : va_D A [(h0, .inr (3, [.int (nI z1), .ref q1, .ref q2, .ref q3])), (q1, .inl (cy 0, 150, .inl f1)), (q2, .inl (cy 0, 24, .inl g1)), (q3, .inl (cy 0, 24, .inl h1))] := hD
                              refine lv_if_eq (tgt := 93) hx hb dX3_init_83 (by decide) (fun c_83 => ?_) (fun c_83 => ?_)
                              · refine lv_iinc (v := nI (t + 1)) (lv' := [(3, .int (nI (t + 1))), (0, .ref h0), (1, .int (nI kd)), (2, .int (nI fr))]) hx hb dX3_init_93 hl (k := 3) rfl ((nI_succ t).symm) (by decide) rfl (fun ls hl => ?_)
                                refine lv_goto (tgt := 73) hx hb dX3_init_96 (by decide) ?_
                                exact ih_73 z1 f1 g1 h1 (t + 1) hz3 hz4 hfz hok1 (by omega) (run_n ht4 (hs0 _ hcn c_83) hW1) (by omega) _ _ _ (hP.sub [0, 1, 2, 3] rfl) (hD.sub [0, 1, 2, 3] (by decide +kernel) rfl) hS (lv_sub hl [1, 2, 3, 0] rfl)
                              · refine lv_aload_n hx hb dX3_init_86 rfl (lv_at hl 0 rfl) ?_
                                refine lv_iload_n hx hb dX3_init_87 rfl (lv_at hl 2 rfl) ?_
                                refine lv_iload_n hx hb dX3_init_88 rfl (lv_at hl 1 rfl) ?_
                                refine lv_iload_n hx hb dX3_init_89 rfl (lv_at hl 3 rfl) ?_
                                refine kc_v (wc := [(h0, .inr (3, [.int (nI z1), .ref q1, .ref q2, .ref q3])), (q1, .inl (cy 0, 150, .inl f1)), (q2, .inl (cy 0, 24, .inl g1)), (q3, .inl (cy 0, 24, .inl h1))]) (wr := []) (va_runV (As := [.int (nI fr), .int (nI kd), .int (nI t)]) (rest := []) ⟨hx, hb, hml, hown, hts⟩ (c_X3_reach l D cy H.size h0 q1 q2 q3 z1 f1 g1 h1 fr kd t hz4 hfz hkd ht4) (cwV 3 hts gX3_init_X3_reach rfl rfl rfl hdc_X3_reach ⟨Nat.le_of_ble_eq_true rfl, Nat.le_of_ble_eq_true rfl⟩) (cpre_V (wc := [(h0, .inr (3, [.int (nI z1), .ref q1, .ref q2, .ref q3])), (q1, .inl (cy 0, 150, .inl f1)), (q2, .inl (cy 0, 24, .inl g1)), (q3, .inl (cy 0, 24, .inl h1))]) 0 3 rfl rfl hX hP hD hS hA [0, 1, 2, 3] (by decide +kernel) rfl) rfl rfl hl.1 rfl (lv_room (Nat.le_of_ble_eq_true rfl)) dX3_init_90 ⟨Nat.le_of_ble_eq_true rfl, Nat.le_of_ble_eq_true rfl⟩) hP hD hS hA [0, 1, 2, 3] [] rfl rfl (by decide +kernel) (by decide +kernel) (fun u6 H locs hw hP hD hS => ?_)
                                obtain ⟨z5, f5, g5, h5, hu, hy1, hy2, hy3, hy4⟩ := hw
                                subst hu
                                have hP : va_P D vwCl [(h0, .inr (3, [.int (nI z5), .ref q1, .ref q2, .ref q3])), (q1, .inl (cy 0, 150, .inl f5)), (q2, .inl (cy 0, 24, .inl g5)), (q3, .inl (cy 0, 24, .inl h5))] H := hP
                                have hD : va_D A [(h0, .inr (3, [.int (nI z5), .ref q1, .ref q2, .ref q3])), (q1, .inl (cy 0, 150, .inl f5)), (q2, .inl (cy 0, 24, .inl g5)), (q3, .inl (cy 0, 24, .inl h5))] := hD
                                refine lv_iinc (v := nI (t + 1)) (lv' := [(3, .int (nI (t + 1))), (0, .ref h0), (1, .int (nI kd)), (2, .int (nI fr))]) hx hb dX3_init_93 hl (k := 3) rfl ((nI_succ t).symm) (by decide) rfl (fun ls hl => ?_)
                                refine lv_goto (tgt := 73) hx hb dX3_init_96 (by decide) ?_
                                exact ih_73 z5 f5 g5 h5 (t + 1) (by omega) hy2 (by omega) (hy3 _ hok1) (by omega) (run_y hfz ht4 (hs1 _ hcn c_83) hW1 (reach_rel hz4 hfz hkd ht4 hW1 hy4)) (by omega) _ _ _ (hP.sub [0, 1, 2, 3] rfl) (hD.sub [0, 1, 2, 3] (by decide +kernel) rfl) hS (lv_sub hl [1, 2, 3, 0] rfl)
                        exact lp_73 5 z f g h 0 hz1 hz2 hfz hok (by decide) hW (by omega) _ _ _ (hP.sub [0, 1, 2, 3] rfl) (hD.sub [0, 1, 2, 3] (by decide +kernel) rfl) hS (lv_sub hl [1, 2, 3, 0] rfl)
                exact lp_57 25 1 (upd (upd (upd (upd (upd (upd (fun _ => 0) 0 0) 1 1) 2 2) 3 3) 4 4) 5 5) (fun _ => 0) (fun _ => 0) 0 (by decide) (by decide) okv0 (by decide) WRel0k (by omega) _ _ _ (hP.sub [0, 1, 2, 3] rfl) (hD.sub [0, 1, 2, 3] (by decide +kernel) rfl) hS (lv_sub hl [1, 2, 0] rfl)
              · exact absurd c_39 (by decide)
