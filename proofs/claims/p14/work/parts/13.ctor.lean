def q_X0_init (cy : Nat → ClassId) (h0 : Nat) : va_W → Prop := fun (u : va_W) => ∃ (qa : Nat), u = [(h0, .inr (0, [.int 0, .int 31, .ref qa])), (qa, .inl (cy 0, 6, .inl (fun _ => 0)))]
set_option maxHeartbeats 4000000 in
set_option maxRecDepth 100000 in
theorem c_X0_init (l : Launch) (D : va_G) (cy : Nat → ClassId) (zz : Nat) (h0 : Nat) : Met l yX0_init wsX0_init ({ frames := 1, cells := 1, slots := 6, locals := 24 } : Room) (va_Pc [.ref h0] (cpre D cy [(h0, .inr (0, [.int 0, .int 0, .null]))] zz)) (va_Qv (q_X0_init cy h0) (cpost D (va_A [(h0, .inr (0, [.int 0, .int 0, .null]))] zz)) (va_A [(h0, .inr (0, [.int 0, .int 0, .null]))] zz)) 1 6 (va_A [(h0, .inr (0, [.int 0, .int 0, .null]))] zz) := by
  refine Met.ofW (cc := cX0_init) (maxL := 1) (ret := none) (by decide) rfl ?_
  intro p e s m args below meth c s₁ B hml hv
  obtain ⟨rfl, hsz, hP, hD0, hX⟩ := hv
  have hx := B.exec
  have hb := B.bytes
  have hr := B.returns
  have hts := atoms_spec (ws := wsX0_init) B.pre
  have hown : s.vm.findClass RX0 = some m.cls := findClass_of_methodNamed B.named
  have hlocks := B.notSynchronized
  have hin : meth.name = "<init>" := (name_of_methodNamed B.named B.method).1
  subst hsz
  have hD := hD0.self (sz := s.heap.size)
  generalize hAe : va_A [(h0, .inr (0, [.int 0, .int 0, .null]))] s.heap.size = A at hD hX ⊢
  have hA : ∀ q : Nat, s.heap.size ≤ q → A q := fun q h => by rw [← hAe]; exact Or.inr h
  obtain ⟨H, hH⟩ : ∃ H : Heap, H = s.heap := ⟨_, rfl⟩
  have hS : va_S A s.heap H [] := hH ▸ va_S.rf
  have hK := hX.1
  have hP : va_P D vwCl [(h0, .inr (0, [.int 0, .int 0, .null]))] H := hH ▸ hP
  rw [← hH]
  have hw_X0 : ∀ w ∈ wsX00, w ∈ wsX0_init := chX0 (by decide +kernel)
  have m_3 := hts (.methodLink RX0 3 objectInit) (inC wa_73 (by decide +kernel))
  have oi_i := hts (.instanceMethod objectInit) (inC wa_10 (by decide +kernel))
  have oi_c := hts (.code objectInit ⟨#[0xb1]⟩ 1 none) (inC wa_11 (by decide +kernel))
  have f_9 := hts (.fieldLink RX0 9 "CubeTower$Cube" "sorts" "I") (inC wa_74 (by decide +kernel))
  have ac_I := hts (.arrayClass .int) (inC wa_12 (by decide +kernel))
  have f_15 := hts (.fieldLink RX0 15 "CubeTower$Cube" "colours" "[I") (inC wa_75 (by decide +kernel))
  have hl := lv_entry ([.ref h0]) (n := 1) (Nat.le_of_ble_eq_true rfl)
  rw [lg_entry_eq]
  generalize (lg_sl ([.ref h0]) ++ List.replicate (1 - (lg_sl ([.ref h0])).length) Slot.unset).toArray = ls at hl ⊢
  have hl : lv_has ls 1 [(0, .ref h0)] := hl
  refine lv_aload_n hx hb dX0_init_0 rfl (lv_at hl 0 rfl) ?_
  refine W.objInit hx hb hown m_3 oi_i oi_c rfl (by rw [hml]; exact hl.1) rfl dX0_init_1 (Nat.le_of_ble_eq_true rfl) (Nat.le_of_ble_eq_true rfl) ?_
  refine W.eq (g2 := F0 m 4 ls []) rfl ?_
  refine lv_aload_n hx hb dX0_init_4 rfl (lv_at hl 0 rfl) ?_
  refine lv_bipush (v := 31) hx hb dX0_init_5 (by decide) ?_
  refine va_put (D := D) (ci := 0) (v := .int 31) (ty := .int) (C := RX0) (T := TX0) (N := 3) hx hb hts hw_X0 tyX0 tyX0_ok nmX0 hown hK hP hD hS 0 rfl rfl 1 (by decide) f_9 (fun _ h9 => h9) rfl (tyX0_ok 1 (by decide)) rfl rfl (Nat.le_of_ble_eq_true rfl) dX0_init_7 (fun H locs hP hD hS => ?_)
  have hP : va_P D vwCl [(h0, .inr (0, [.int 0, .int 31, .null]))] H := hP
  have hD : va_D A [(h0, .inr (0, [.int 0, .int 31, .null]))] := hD
  refine lv_aload_n hx hb dX0_init_10 rfl (lv_at hl 0 rfl) ?_
  refine lv_bipush (v := 6) hx hb dX0_init_11 (by decide) ?_
  refine nw_i (N' := 6) hx hb hX ac_I hP hD hS hA (by decide) (by decide) (by decide) (Nat.le_of_ble_eq_true rfl) (Nat.le_of_ble_eq_true rfl) dX0_init_13 (fun q1 H hP hD hS => ?_)
  refine W.widen (k := 1) (n := 6) (Nat.le_of_ble_eq_true rfl) (Nat.le_of_ble_eq_true rfl) ?_
  have hP : va_P D vwCl [(h0, .inr (0, [.int 0, .int 31, .null])), (q1, .inl (cy 0, 6, .inl (fun _ => 0)))] H := hP
  have hD : va_D A [(h0, .inr (0, [.int 0, .int 31, .null])), (q1, .inl (cy 0, 6, .inl (fun _ => 0)))] := hD
  refine va_putF (D := D) (ci := 0) (v := .ref q1) (ty := (.array .int)) (C := RX0) (T := TX0) (N := 3) hx hb hts hw_X0 tyX0 tyX0_ok nmX0 hown hK hP hD hS 0 rfl rfl 2 (by decide) f_15 (fun _ h9 => h9) rfl hin rfl (tyX0_ok 2 (by decide)) rfl rfl (Nat.le_of_ble_eq_true rfl) dX0_init_15 (fun H locs hP hD hS => ?_)
  have hP : va_P D vwCl [(h0, .inr (0, [.int 0, .int 31, .ref q1])), (q1, .inl (cy 0, 6, .inl (fun _ => 0)))] H := hP
  have hD : va_D A [(h0, .inr (0, [.int 0, .int 31, .ref q1])), (q1, .inl (cy 0, 6, .inl (fun _ => 0)))] := hD
  have hP9 := hP.sub (ws' := [(h0, .inr (0, [.int 0, .int 31, .ref q1])), (q1, .inl (cy 0, 6, .inl (fun _ => 0)))]) [0, 1] rfl
  have hD9 := hD.sub (ws' := [(h0, .inr (0, [.int 0, .int 31, .ref q1])), (q1, .inl (cy 0, 6, .inl (fun _ => 0)))]) [0, 1] (by decide +kernel) rfl
  exact W.vret hx hb hr (fun t9 ht9 hW9 => ⟨⟨[(h0, .inr (0, [.int 0, .int 31, .ref q1])), (q1, .inl (cy 0, 6, .inl (fun _ => 0)))], rfl, ⟨q1, rfl⟩, by rw [ht9]; exact hP9, hD9⟩, hS.F ht9⟩) hS.2.2 dX0_init_18
def q_X2_init (cy : Nat → ClassId) (h0 : Nat) : va_W → Prop := fun (u : va_W) => ∃ (ar : Nat), ∃ (c0 : Nat), ∃ (r0 : Nat), ∃ (c1 : Nat), ∃ (r1 : Nat), ∃ (c2 : Nat), ∃ (r2 : Nat), u = [(h0, .inr (2, [.int 0, .int 0, .int 0, .ref ar])), (ar, .inl (cy 2, 3, .inr (.inr (.inr (.inr (va_up (va_up (va_up (fun _ => none) 0 (some c0)) 1 (some c1)) 2 (some c2))))))), (c0, .inr (0, [.int 0, .int 31, .ref r0])), (r0, .inl (cy 0, 6, .inl (fun _ => 0))), (c1, .inr (0, [.int 0, .int 31, .ref r1])), (r1, .inl (cy 0, 6, .inl (fun _ => 0))), (c2, .inr (0, [.int 0, .int 31, .ref r2])), (r2, .inl (cy 0, 6, .inl (fun _ => 0)))]
set_option maxHeartbeats 4000000 in
set_option maxRecDepth 100000 in
theorem c_X2_init (l : Launch) (D : va_G) (cy : Nat → ClassId) (zz : Nat) (h0 : Nat) : Met l yX2_init wsX2_init ({ frames := 2, cells := 7, slots := 30, locals := 44 } : Room) (va_Pc [.ref h0] (cpre D cy [(h0, .inr (2, [.int 0, .int 0, .int 0, .null]))] zz)) (va_Qv (q_X2_init cy h0) (cpost D (va_A [(h0, .inr (2, [.int 0, .int 0, .int 0, .null]))] zz)) (va_A [(h0, .inr (2, [.int 0, .int 0, .int 0, .null]))] zz)) 7 30 (va_A [(h0, .inr (2, [.int 0, .int 0, .int 0, .null]))] zz) := by
  refine Met.ofW (cc := cX2_init) (maxL := 1) (ret := none) (by decide) rfl ?_
  intro p e s m args below meth c s₁ B hml hv
  obtain ⟨rfl, hsz, hP, hD0, hX⟩ := hv
  have hx := B.exec
  have hb := B.bytes
  have hr := B.returns
  have hts := atoms_spec (ws := wsX2_init) B.pre
  have hown : s.vm.findClass RX2 = some m.cls := findClass_of_methodNamed B.named
  have hlocks := B.notSynchronized
  have hin : meth.name = "<init>" := (name_of_methodNamed B.named B.method).1
  subst hsz
  have hD := hD0.self (sz := s.heap.size)
  generalize hAe : va_A [(h0, .inr (2, [.int 0, .int 0, .int 0, .null]))] s.heap.size = A at hD hX ⊢
  have hA : ∀ q : Nat, s.heap.size ≤ q → A q := fun q h => by rw [← hAe]; exact Or.inr h
  obtain ⟨H, hH⟩ : ∃ H : Heap, H = s.heap := ⟨_, rfl⟩
  have hS : va_S A s.heap H [] := hH ▸ va_S.rf
  have hK := hX.1
  have hP : va_P D vwCl [(h0, .inr (2, [.int 0, .int 0, .int 0, .null]))] H := hH ▸ hP
  rw [← hH]
  have hw_X0 : ∀ w ∈ wsX00, w ∈ wsX2_init := chX0 (by decide +kernel)
  have hw_X2 : ∀ w ∈ wsX20, w ∈ wsX2_init := chX2 (by decide +kernel)
  have m_3 := hts (.methodLink RX2 3 objectInit) (inC wa_66 (by decide +kernel))
  have oi_i := hts (.instanceMethod objectInit) (inC wa_10 (by decide +kernel))
  have oi_c := hts (.code objectInit ⟨#[0xb1]⟩ 1 none) (inC wa_11 (by decide +kernel))
  have cl_9 := hts (.classLink RX2 9 RX0) (inC wa_67 (by decide +kernel))
  have ins_X0 := hts (.instantiable RX0 3) (inC wa_68 (by decide +kernel))
  have ini_X0 := hts (.initialized RX0) (inC wa_69 (by decide +kernel))
  have im_X0_init := hts (.instanceMethod yX0_init) (inC wa_71 (by decide +kernel))
  have f_12 := hts (.fieldLink RX2 12 "CubeTower$Tower" "cubes" "[LCubeTower$Cube;") (inC wa_70 (by decide +kernel))
  have hl := lv_entry ([.ref h0]) (n := 1) (Nat.le_of_ble_eq_true rfl)
  rw [lg_entry_eq]
  generalize (lg_sl ([.ref h0]) ++ List.replicate (1 - (lg_sl ([.ref h0])).length) Slot.unset).toArray = ls at hl ⊢
  have hl : lv_has ls 1 [(0, .ref h0)] := hl
  refine lv_aload_n hx hb dX2_init_0 rfl (lv_at hl 0 rfl) ?_
  refine W.objInit hx hb hown m_3 oi_i oi_c rfl (by rw [hml]; exact hl.1) rfl dX2_init_1 (Nat.le_of_ble_eq_true rfl) (Nat.le_of_ble_eq_true rfl) ?_
  refine W.eq (g2 := F0 m 4 ls []) rfl ?_
  refine lv_aload_n hx hb dX2_init_4 rfl (lv_at hl 0 rfl) ?_
  refine lv_iconst (v := 3) hx hb dX2_init_5 (by decide) ?_
  refine nw_q (N' := 3) hx hb hX 2 rfl hown cl_9 hX.2.2.2.1 hP hD hS hA (by decide) (by decide) (by decide) (Nat.le_of_ble_eq_true rfl) (Nat.le_of_ble_eq_true rfl) dX2_init_6 (fun q1 H hP hD hS => ?_)
  refine W.widen (k := 1) (n := 3) (Nat.le_of_ble_eq_true rfl) (Nat.le_of_ble_eq_true rfl) ?_
  have hP : va_P D vwCl [(h0, .inr (2, [.int 0, .int 0, .int 0, .null])), (q1, .inl (cy 2, 3, .inr (.inr (.inr (.inr (fun _ => none))))))] H := hP
  have hD : va_D A [(h0, .inr (2, [.int 0, .int 0, .int 0, .null])), (q1, .inl (cy 2, 3, .inr (.inr (.inr (.inr (fun _ => none))))))] := hD
  refine lv_dup hx hb dX2_init_9 rfl ?_
  refine lv_iconst (v := 0) hx hb dX2_init_10 (by decide) ?_
  refine va_new (ci := 0) (fs := [.int 0, .int 0, .null]) (C := RX0) (T := TX0) (N := 3) hx hb hts hw_X0 tyX0 tyX0_ok hown cl_9 ins_X0 ini_X0 hK hP hD hS hA rfl (fun j hj => by rcases (show j = 0 ∨ j = 1 ∨ j = 2 by omega) with rfl | rfl | rfl <;> rfl) (Nat.le_of_ble_eq_true rfl) (Nat.le_of_ble_eq_true rfl) dX2_init_11 (fun q2 H hP hD hS => ?_)
  refine W.widen (k := 2) (n := 6) (Nat.le_of_ble_eq_true rfl) (Nat.le_of_ble_eq_true rfl) ?_
  have hP : va_P D vwCl [(h0, .inr (2, [.int 0, .int 0, .int 0, .null])), (q1, .inl (cy 2, 3, .inr (.inr (.inr (.inr (fun _ => none)))))), (q2, .inr (0, [.int 0, .int 0, .null]))] H := hP
  have hD : va_D A [(h0, .inr (2, [.int 0, .int 0, .int 0, .null])), (q1, .inl (cy 2, 3, .inr (.inr (.inr (.inr (fun _ => none)))))), (q2, .inr (0, [.int 0, .int 0, .null]))] := hD
  refine lv_dup hx hb dX2_init_14 rfl ?_
  refine kc_v (wc := [(q2, .inr (0, [.int 0, .int 0, .null]))]) (wr := [(h0, .inr (2, [.int 0, .int 0, .int 0, .null])), (q1, .inl (cy 2, 3, .inr (.inr (.inr (.inr (fun _ => none))))))]) (va_runIN (As := []) (rest := [.ref q2, .int 0, .ref q1, .ref q1, .ref h0]) ⟨hx, hb, hml, hown, hts⟩ (c_X0_init l D cy H.size q2 ) ⟨va_cnB 0 hts gX2_init_X0_init_n11 rfl rfl rfl hX.2.2.1.2.1 ini_X0 hdc_X0_init.2 ⟨Nat.le_of_ble_eq_true rfl, Nat.le_of_ble_eq_true rfl⟩, rfl, im_X0_init⟩ (cpre_S (wc := [(q2, .inr (0, [.int 0, .int 0, .null]))]) hX hP hD hS hA [2] (by decide +kernel) rfl) rfl rfl hl.1 rfl (lv_room (Nat.le_of_ble_eq_true rfl)) dX2_init_15 ⟨Nat.le_of_ble_eq_true rfl, Nat.le_of_ble_eq_true rfl⟩) hP hD hS hA [2] [0, 1] rfl rfl (by decide +kernel) (by decide +kernel) (fun u4 H locs hw hP hD hS => ?_)
  obtain ⟨qa5, hu⟩ := hw
  subst hu
  refine W.widen (k := 3) (n := 12) (Nat.le_of_ble_eq_true rfl) (Nat.le_of_ble_eq_true rfl) ?_
  have hP : va_P D vwCl [(h0, .inr (2, [.int 0, .int 0, .int 0, .null])), (q1, .inl (cy 2, 3, .inr (.inr (.inr (.inr (fun _ => none)))))), (q2, .inr (0, [.int 0, .int 31, .ref qa5])), (qa5, .inl (cy 0, 6, .inl (fun _ => 0)))] H := hP
  have hD : va_D A [(h0, .inr (2, [.int 0, .int 0, .int 0, .null])), (q1, .inl (cy 2, 3, .inr (.inr (.inr (.inr (fun _ => none)))))), (q2, .inr (0, [.int 0, .int 31, .ref qa5])), (qa5, .inl (cy 0, 6, .inl (fun _ => 0)))] := hD
  refine va_astq hx hb hK hP hD hS 1 2 2 0 rfl rfl rfl rfl (vi_c (by decide +kernel)) dX2_init_18 (fun H locs hP hD hS => ?_)
  have hP : va_P D vwCl [(h0, .inr (2, [.int 0, .int 0, .int 0, .null])), (q1, .inl (cy 2, 3, .inr (.inr (.inr (.inr (va_up (fun _ => none) (0 : Int32).toNatClampNeg (some q2))))))), (q2, .inr (0, [.int 0, .int 31, .ref qa5])), (qa5, .inl (cy 0, 6, .inl (fun _ => 0)))] H := hP
  have hD : va_D A [(h0, .inr (2, [.int 0, .int 0, .int 0, .null])), (q1, .inl (cy 2, 3, .inr (.inr (.inr (.inr (va_up (fun _ => none) (0 : Int32).toNatClampNeg (some q2))))))), (q2, .inr (0, [.int 0, .int 31, .ref qa5])), (qa5, .inl (cy 0, 6, .inl (fun _ => 0)))] := hD
  have hP : va_P D vwCl [(h0, .inr (2, [.int 0, .int 0, .int 0, .null])), (q1, .inl (cy 2, 3, .inr (.inr (.inr (.inr (va_up (fun _ => none) 0 (some q2))))))), (q2, .inr (0, [.int 0, .int 31, .ref qa5])), (qa5, .inl (cy 0, 6, .inl (fun _ => 0)))] H := hP
  have hD : va_D A [(h0, .inr (2, [.int 0, .int 0, .int 0, .null])), (q1, .inl (cy 2, 3, .inr (.inr (.inr (.inr (va_up (fun _ => none) 0 (some q2))))))), (q2, .inr (0, [.int 0, .int 31, .ref qa5])), (qa5, .inl (cy 0, 6, .inl (fun _ => 0)))] := hD
  refine lv_dup hx hb dX2_init_19 rfl ?_
  refine lv_iconst (v := 1) hx hb dX2_init_20 (by decide) ?_
  refine va_new (ci := 0) (fs := [.int 0, .int 0, .null]) (C := RX0) (T := TX0) (N := 3) hx hb hts hw_X0 tyX0 tyX0_ok hown cl_9 ins_X0 ini_X0 hK hP hD hS hA rfl (fun j hj => by rcases (show j = 0 ∨ j = 1 ∨ j = 2 by omega) with rfl | rfl | rfl <;> rfl) (Nat.le_of_ble_eq_true rfl) (Nat.le_of_ble_eq_true rfl) dX2_init_21 (fun q6 H hP hD hS => ?_)
  refine W.widen (k := 4) (n := 15) (Nat.le_of_ble_eq_true rfl) (Nat.le_of_ble_eq_true rfl) ?_
  have hP : va_P D vwCl [(h0, .inr (2, [.int 0, .int 0, .int 0, .null])), (q1, .inl (cy 2, 3, .inr (.inr (.inr (.inr (va_up (fun _ => none) 0 (some q2))))))), (q2, .inr (0, [.int 0, .int 31, .ref qa5])), (qa5, .inl (cy 0, 6, .inl (fun _ => 0))), (q6, .inr (0, [.int 0, .int 0, .null]))] H := hP
  have hD : va_D A [(h0, .inr (2, [.int 0, .int 0, .int 0, .null])), (q1, .inl (cy 2, 3, .inr (.inr (.inr (.inr (va_up (fun _ => none) 0 (some q2))))))), (q2, .inr (0, [.int 0, .int 31, .ref qa5])), (qa5, .inl (cy 0, 6, .inl (fun _ => 0))), (q6, .inr (0, [.int 0, .int 0, .null]))] := hD
  refine lv_dup hx hb dX2_init_24 rfl ?_
  refine kc_v (wc := [(q6, .inr (0, [.int 0, .int 0, .null]))]) (wr := [(h0, .inr (2, [.int 0, .int 0, .int 0, .null])), (q1, .inl (cy 2, 3, .inr (.inr (.inr (.inr (va_up (fun _ => none) 0 (some q2))))))), (q2, .inr (0, [.int 0, .int 31, .ref qa5])), (qa5, .inl (cy 0, 6, .inl (fun _ => 0)))]) (va_runIN (As := []) (rest := [.ref q6, .int 1, .ref q1, .ref q1, .ref h0]) ⟨hx, hb, hml, hown, hts⟩ (c_X0_init l D cy H.size q6 ) ⟨va_cnB 0 hts gX2_init_X0_init_n11 rfl rfl rfl hX.2.2.1.2.1 ini_X0 hdc_X0_init.2 ⟨Nat.le_of_ble_eq_true rfl, Nat.le_of_ble_eq_true rfl⟩, rfl, im_X0_init⟩ (cpre_S (wc := [(q6, .inr (0, [.int 0, .int 0, .null]))]) hX hP hD hS hA [4] (by decide +kernel) rfl) rfl rfl hl.1 rfl (lv_room (Nat.le_of_ble_eq_true rfl)) dX2_init_25 ⟨Nat.le_of_ble_eq_true rfl, Nat.le_of_ble_eq_true rfl⟩) hP hD hS hA [4] [0, 1, 2, 3] rfl rfl (by decide +kernel) (by decide +kernel) (fun u8 H locs hw hP hD hS => ?_)
  obtain ⟨qa9, hu⟩ := hw
  subst hu
  refine W.widen (k := 5) (n := 21) (Nat.le_of_ble_eq_true rfl) (Nat.le_of_ble_eq_true rfl) ?_
  have hP : va_P D vwCl [(h0, .inr (2, [.int 0, .int 0, .int 0, .null])), (q1, .inl (cy 2, 3, .inr (.inr (.inr (.inr (va_up (fun _ => none) 0 (some q2))))))), (q2, .inr (0, [.int 0, .int 31, .ref qa5])), (qa5, .inl (cy 0, 6, .inl (fun _ => 0))), (q6, .inr (0, [.int 0, .int 31, .ref qa9])), (qa9, .inl (cy 0, 6, .inl (fun _ => 0)))] H := hP
  have hD : va_D A [(h0, .inr (2, [.int 0, .int 0, .int 0, .null])), (q1, .inl (cy 2, 3, .inr (.inr (.inr (.inr (va_up (fun _ => none) 0 (some q2))))))), (q2, .inr (0, [.int 0, .int 31, .ref qa5])), (qa5, .inl (cy 0, 6, .inl (fun _ => 0))), (q6, .inr (0, [.int 0, .int 31, .ref qa9])), (qa9, .inl (cy 0, 6, .inl (fun _ => 0)))] := hD
  refine va_astq hx hb hK hP hD hS 1 2 4 0 rfl rfl rfl rfl (vi_c (by decide +kernel)) dX2_init_28 (fun H locs hP hD hS => ?_)
  have hP : va_P D vwCl [(h0, .inr (2, [.int 0, .int 0, .int 0, .null])), (q1, .inl (cy 2, 3, .inr (.inr (.inr (.inr (va_up (va_up (fun _ => none) 0 (some q2)) (1 : Int32).toNatClampNeg (some q6))))))), (q2, .inr (0, [.int 0, .int 31, .ref qa5])), (qa5, .inl (cy 0, 6, .inl (fun _ => 0))), (q6, .inr (0, [.int 0, .int 31, .ref qa9])), (qa9, .inl (cy 0, 6, .inl (fun _ => 0)))] H := hP
  have hD : va_D A [(h0, .inr (2, [.int 0, .int 0, .int 0, .null])), (q1, .inl (cy 2, 3, .inr (.inr (.inr (.inr (va_up (va_up (fun _ => none) 0 (some q2)) (1 : Int32).toNatClampNeg (some q6))))))), (q2, .inr (0, [.int 0, .int 31, .ref qa5])), (qa5, .inl (cy 0, 6, .inl (fun _ => 0))), (q6, .inr (0, [.int 0, .int 31, .ref qa9])), (qa9, .inl (cy 0, 6, .inl (fun _ => 0)))] := hD
  have hP : va_P D vwCl [(h0, .inr (2, [.int 0, .int 0, .int 0, .null])), (q1, .inl (cy 2, 3, .inr (.inr (.inr (.inr (va_up (va_up (fun _ => none) 0 (some q2)) 1 (some q6))))))), (q2, .inr (0, [.int 0, .int 31, .ref qa5])), (qa5, .inl (cy 0, 6, .inl (fun _ => 0))), (q6, .inr (0, [.int 0, .int 31, .ref qa9])), (qa9, .inl (cy 0, 6, .inl (fun _ => 0)))] H := hP
  have hD : va_D A [(h0, .inr (2, [.int 0, .int 0, .int 0, .null])), (q1, .inl (cy 2, 3, .inr (.inr (.inr (.inr (va_up (va_up (fun _ => none) 0 (some q2)) 1 (some q6))))))), (q2, .inr (0, [.int 0, .int 31, .ref qa5])), (qa5, .inl (cy 0, 6, .inl (fun _ => 0))), (q6, .inr (0, [.int 0, .int 31, .ref qa9])), (qa9, .inl (cy 0, 6, .inl (fun _ => 0)))] := hD
  refine lv_dup hx hb dX2_init_29 rfl ?_
  refine lv_iconst (v := 2) hx hb dX2_init_30 (by decide) ?_
  refine va_new (ci := 0) (fs := [.int 0, .int 0, .null]) (C := RX0) (T := TX0) (N := 3) hx hb hts hw_X0 tyX0 tyX0_ok hown cl_9 ins_X0 ini_X0 hK hP hD hS hA rfl (fun j hj => by rcases (show j = 0 ∨ j = 1 ∨ j = 2 by omega) with rfl | rfl | rfl <;> rfl) (Nat.le_of_ble_eq_true rfl) (Nat.le_of_ble_eq_true rfl) dX2_init_31 (fun q10 H hP hD hS => ?_)
  refine W.widen (k := 6) (n := 24) (Nat.le_of_ble_eq_true rfl) (Nat.le_of_ble_eq_true rfl) ?_
  have hP : va_P D vwCl [(h0, .inr (2, [.int 0, .int 0, .int 0, .null])), (q1, .inl (cy 2, 3, .inr (.inr (.inr (.inr (va_up (va_up (fun _ => none) 0 (some q2)) 1 (some q6))))))), (q2, .inr (0, [.int 0, .int 31, .ref qa5])), (qa5, .inl (cy 0, 6, .inl (fun _ => 0))), (q6, .inr (0, [.int 0, .int 31, .ref qa9])), (qa9, .inl (cy 0, 6, .inl (fun _ => 0))), (q10, .inr (0, [.int 0, .int 0, .null]))] H := hP
  have hD : va_D A [(h0, .inr (2, [.int 0, .int 0, .int 0, .null])), (q1, .inl (cy 2, 3, .inr (.inr (.inr (.inr (va_up (va_up (fun _ => none) 0 (some q2)) 1 (some q6))))))), (q2, .inr (0, [.int 0, .int 31, .ref qa5])), (qa5, .inl (cy 0, 6, .inl (fun _ => 0))), (q6, .inr (0, [.int 0, .int 31, .ref qa9])), (qa9, .inl (cy 0, 6, .inl (fun _ => 0))), (q10, .inr (0, [.int 0, .int 0, .null]))] := hD
  refine lv_dup hx hb dX2_init_34 rfl ?_
  refine kc_v (wc := [(q10, .inr (0, [.int 0, .int 0, .null]))]) (wr := [(h0, .inr (2, [.int 0, .int 0, .int 0, .null])), (q1, .inl (cy 2, 3, .inr (.inr (.inr (.inr (va_up (va_up (fun _ => none) 0 (some q2)) 1 (some q6))))))), (q2, .inr (0, [.int 0, .int 31, .ref qa5])), (qa5, .inl (cy 0, 6, .inl (fun _ => 0))), (q6, .inr (0, [.int 0, .int 31, .ref qa9])), (qa9, .inl (cy 0, 6, .inl (fun _ => 0)))]) (va_runIN (As := []) (rest := [.ref q10, .int 2, .ref q1, .ref q1, .ref h0]) ⟨hx, hb, hml, hown, hts⟩ (c_X0_init l D cy H.size q10 ) ⟨va_cnB 0 hts gX2_init_X0_init_n11 rfl rfl rfl hX.2.2.1.2.1 ini_X0 hdc_X0_init.2 ⟨Nat.le_of_ble_eq_true rfl, Nat.le_of_ble_eq_true rfl⟩, rfl, im_X0_init⟩ (cpre_S (wc := [(q10, .inr (0, [.int 0, .int 0, .null]))]) hX hP hD hS hA [6] (by decide +kernel) rfl) rfl rfl hl.1 rfl (lv_room (Nat.le_of_ble_eq_true rfl)) dX2_init_35 ⟨Nat.le_of_ble_eq_true rfl, Nat.le_of_ble_eq_true rfl⟩) hP hD hS hA [6] [0, 1, 2, 3, 4, 5] rfl rfl (by decide +kernel) (by decide +kernel) (fun u12 H locs hw hP hD hS => ?_)
  obtain ⟨qa13, hu⟩ := hw
  subst hu
  refine W.widen (k := 7) (n := 30) (Nat.le_of_ble_eq_true rfl) (Nat.le_of_ble_eq_true rfl) ?_
  have hP : va_P D vwCl [(h0, .inr (2, [.int 0, .int 0, .int 0, .null])), (q1, .inl (cy 2, 3, .inr (.inr (.inr (.inr (va_up (va_up (fun _ => none) 0 (some q2)) 1 (some q6))))))), (q2, .inr (0, [.int 0, .int 31, .ref qa5])), (qa5, .inl (cy 0, 6, .inl (fun _ => 0))), (q6, .inr (0, [.int 0, .int 31, .ref qa9])), (qa9, .inl (cy 0, 6, .inl (fun _ => 0))), (q10, .inr (0, [.int 0, .int 31, .ref qa13])), (qa13, .inl (cy 0, 6, .inl (fun _ => 0)))] H := hP
  have hD : va_D A [(h0, .inr (2, [.int 0, .int 0, .int 0, .null])), (q1, .inl (cy 2, 3, .inr (.inr (.inr (.inr (va_up (va_up (fun _ => none) 0 (some q2)) 1 (some q6))))))), (q2, .inr (0, [.int 0, .int 31, .ref qa5])), (qa5, .inl (cy 0, 6, .inl (fun _ => 0))), (q6, .inr (0, [.int 0, .int 31, .ref qa9])), (qa9, .inl (cy 0, 6, .inl (fun _ => 0))), (q10, .inr (0, [.int 0, .int 31, .ref qa13])), (qa13, .inl (cy 0, 6, .inl (fun _ => 0)))] := hD
  refine va_astq hx hb hK hP hD hS 1 2 6 0 rfl rfl rfl rfl (vi_c (by decide +kernel)) dX2_init_38 (fun H locs hP hD hS => ?_)
  have hP : va_P D vwCl [(h0, .inr (2, [.int 0, .int 0, .int 0, .null])), (q1, .inl (cy 2, 3, .inr (.inr (.inr (.inr (va_up (va_up (va_up (fun _ => none) 0 (some q2)) 1 (some q6)) (2 : Int32).toNatClampNeg (some q10))))))), (q2, .inr (0, [.int 0, .int 31, .ref qa5])), (qa5, .inl (cy 0, 6, .inl (fun _ => 0))), (q6, .inr (0, [.int 0, .int 31, .ref qa9])), (qa9, .inl (cy 0, 6, .inl (fun _ => 0))), (q10, .inr (0, [.int 0, .int 31, .ref qa13])), (qa13, .inl (cy 0, 6, .inl (fun _ => 0)))] H := hP
  have hD : va_D A [(h0, .inr (2, [.int 0, .int 0, .int 0, .null])), (q1, .inl (cy 2, 3, .inr (.inr (.inr (.inr (va_up (va_up (va_up (fun _ => none) 0 (some q2)) 1 (some q6)) (2 : Int32).toNatClampNeg (some q10))))))), (q2, .inr (0, [.int 0, .int 31, .ref qa5])), (qa5, .inl (cy 0, 6, .inl (fun _ => 0))), (q6, .inr (0, [.int 0, .int 31, .ref qa9])), (qa9, .inl (cy 0, 6, .inl (fun _ => 0))), (q10, .inr (0, [.int 0, .int 31, .ref qa13])), (qa13, .inl (cy 0, 6, .inl (fun _ => 0)))] := hD
  have hP : va_P D vwCl [(h0, .inr (2, [.int 0, .int 0, .int 0, .null])), (q1, .inl (cy 2, 3, .inr (.inr (.inr (.inr (va_up (va_up (va_up (fun _ => none) 0 (some q2)) 1 (some q6)) 2 (some q10))))))), (q2, .inr (0, [.int 0, .int 31, .ref qa5])), (qa5, .inl (cy 0, 6, .inl (fun _ => 0))), (q6, .inr (0, [.int 0, .int 31, .ref qa9])), (qa9, .inl (cy 0, 6, .inl (fun _ => 0))), (q10, .inr (0, [.int 0, .int 31, .ref qa13])), (qa13, .inl (cy 0, 6, .inl (fun _ => 0)))] H := hP
  have hD : va_D A [(h0, .inr (2, [.int 0, .int 0, .int 0, .null])), (q1, .inl (cy 2, 3, .inr (.inr (.inr (.inr (va_up (va_up (va_up (fun _ => none) 0 (some q2)) 1 (some q6)) 2 (some q10))))))), (q2, .inr (0, [.int 0, .int 31, .ref qa5])), (qa5, .inl (cy 0, 6, .inl (fun _ => 0))), (q6, .inr (0, [.int 0, .int 31, .ref qa9])), (qa9, .inl (cy 0, 6, .inl (fun _ => 0))), (q10, .inr (0, [.int 0, .int 31, .ref qa13])), (qa13, .inl (cy 0, 6, .inl (fun _ => 0)))] := hD
  refine va_putF (D := D) (ci := 2) (v := .ref q1) (ty := (.array (.object "CubeTower$Cube"))) (C := RX2) (T := TX2) (N := 4) hx hb hts hw_X2 tyX2 tyX2_ok nmX2 hown hK hP hD hS 0 rfl rfl 3 (by decide) f_12 (fun _ h9 => h9) rfl hin rfl (tyX2_ok 3 (by decide)) rfl rfl (Nat.le_of_ble_eq_true rfl) dX2_init_39 (fun H locs hP hD hS => ?_)
  have hP : va_P D vwCl [(h0, .inr (2, [.int 0, .int 0, .int 0, .ref q1])), (q1, .inl (cy 2, 3, .inr (.inr (.inr (.inr (va_up (va_up (va_up (fun _ => none) 0 (some q2)) 1 (some q6)) 2 (some q10))))))), (q2, .inr (0, [.int 0, .int 31, .ref qa5])), (qa5, .inl (cy 0, 6, .inl (fun _ => 0))), (q6, .inr (0, [.int 0, .int 31, .ref qa9])), (qa9, .inl (cy 0, 6, .inl (fun _ => 0))), (q10, .inr (0, [.int 0, .int 31, .ref qa13])), (qa13, .inl (cy 0, 6, .inl (fun _ => 0)))] H := hP
  have hD : va_D A [(h0, .inr (2, [.int 0, .int 0, .int 0, .ref q1])), (q1, .inl (cy 2, 3, .inr (.inr (.inr (.inr (va_up (va_up (va_up (fun _ => none) 0 (some q2)) 1 (some q6)) 2 (some q10))))))), (q2, .inr (0, [.int 0, .int 31, .ref qa5])), (qa5, .inl (cy 0, 6, .inl (fun _ => 0))), (q6, .inr (0, [.int 0, .int 31, .ref qa9])), (qa9, .inl (cy 0, 6, .inl (fun _ => 0))), (q10, .inr (0, [.int 0, .int 31, .ref qa13])), (qa13, .inl (cy 0, 6, .inl (fun _ => 0)))] := hD
  have hP9 := hP.sub (ws' := [(h0, .inr (2, [.int 0, .int 0, .int 0, .ref q1])), (q1, .inl (cy 2, 3, .inr (.inr (.inr (.inr (va_up (va_up (va_up (fun _ => none) 0 (some q2)) 1 (some q6)) 2 (some q10))))))), (q2, .inr (0, [.int 0, .int 31, .ref qa5])), (qa5, .inl (cy 0, 6, .inl (fun _ => 0))), (q6, .inr (0, [.int 0, .int 31, .ref qa9])), (qa9, .inl (cy 0, 6, .inl (fun _ => 0))), (q10, .inr (0, [.int 0, .int 31, .ref qa13])), (qa13, .inl (cy 0, 6, .inl (fun _ => 0)))]) [0, 1, 2, 3, 4, 5, 6, 7] rfl
  have hD9 := hD.sub (ws' := [(h0, .inr (2, [.int 0, .int 0, .int 0, .ref q1])), (q1, .inl (cy 2, 3, .inr (.inr (.inr (.inr (va_up (va_up (va_up (fun _ => none) 0 (some q2)) 1 (some q6)) 2 (some q10))))))), (q2, .inr (0, [.int 0, .int 31, .ref qa5])), (qa5, .inl (cy 0, 6, .inl (fun _ => 0))), (q6, .inr (0, [.int 0, .int 31, .ref qa9])), (qa9, .inl (cy 0, 6, .inl (fun _ => 0))), (q10, .inr (0, [.int 0, .int 31, .ref qa13])), (qa13, .inl (cy 0, 6, .inl (fun _ => 0)))]) [0, 1, 2, 3, 4, 5, 6, 7] (by decide +kernel) rfl
  exact W.vret hx hb hr (fun t9 ht9 hW9 => ⟨⟨[(h0, .inr (2, [.int 0, .int 0, .int 0, .ref q1])), (q1, .inl (cy 2, 3, .inr (.inr (.inr (.inr (va_up (va_up (va_up (fun _ => none) 0 (some q2)) 1 (some q6)) 2 (some q10))))))), (q2, .inr (0, [.int 0, .int 31, .ref qa5])), (qa5, .inl (cy 0, 6, .inl (fun _ => 0))), (q6, .inr (0, [.int 0, .int 31, .ref qa9])), (qa9, .inl (cy 0, 6, .inl (fun _ => 0))), (q10, .inr (0, [.int 0, .int 31, .ref qa13])), (qa13, .inl (cy 0, 6, .inl (fun _ => 0)))], rfl, ⟨q1, q2, qa5, q6, qa9, q10, qa13, rfl⟩, by rw [ht9]; exact hP9, hD9⟩, hS.F ht9⟩) hS.2.2 dX2_init_42
