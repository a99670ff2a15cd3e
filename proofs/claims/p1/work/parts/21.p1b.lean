def q_X4_cube (cy : Nat → ClassId) (h0 : Nat) (pg : Nat) (t0 : Nat) (t1 : Nat) (t2 : Nat) (sv : Nat) (e0 : Nat) (x_c : Int32) (x_w : Int32) : Int32 → va_W → Prop := fun (r : Int32) (u : va_W) => u = [(h0, .inr (4, [.ref pg, .int 0, .int 0, .int 0, .ref t0, .ref t1, .ref t2, .ref sv, .int 0])), (t0, .inr (2, [.int 0, .int 0, .int 0, .ref e0]))] ∧ r = -101
set_option maxHeartbeats 4000000 in
set_option maxRecDepth 100000 in
theorem c_X4_cube (l : Launch) (D : va_G) (cy : Nat → ClassId) (zz : Nat) (h0 : Nat) (pg : Nat) (t0 : Nat) (t1 : Nat) (t2 : Nat) (sv : Nat) (e0 : Nat) (x_c : Int32) (x_w : Int32) : Met l yX4_cube wsX4_cube ({ frames := 1, cells := 0, slots := 0, locals := 21 } : Room) (va_Pc [.ref h0, .int x_c, .int x_w] (cpre D cy [(h0, .inr (4, [.ref pg, .int 0, .int 0, .int 0, .ref t0, .ref t1, .ref t2, .ref sv, .int 0])), (t0, .inr (2, [.int 0, .int 0, .int 0, .ref e0]))] zz)) (va_Qi (q_X4_cube cy h0 pg t0 t1 t2 sv e0 x_c x_w) (cpost D (va_A [(h0, .inr (4, [.ref pg, .int 0, .int 0, .int 0, .ref t0, .ref t1, .ref t2, .ref sv, .int 0])), (t0, .inr (2, [.int 0, .int 0, .int 0, .ref e0]))] zz)) (va_A [(h0, .inr (4, [.ref pg, .int 0, .int 0, .int 0, .ref t0, .ref t1, .ref t2, .ref sv, .int 0])), (t0, .inr (2, [.int 0, .int 0, .int 0, .ref e0]))] zz)) 0 0 (va_A [(h0, .inr (4, [.ref pg, .int 0, .int 0, .int 0, .ref t0, .ref t1, .ref t2, .ref sv, .int 0])), (t0, .inr (2, [.int 0, .int 0, .int 0, .ref e0]))] zz) := by
  refine Met.ofW (cc := cX4_cube) (maxL := 4) (ret := (some .int)) (by decide) rfl ?_
  intro p e s m args below meth c s₁ B hml hv
  obtain ⟨rfl, hsz, hP, hD0, hX⟩ := hv
  have hx := B.exec
  have hb := B.bytes
  have hr := B.returns
  have hts := atoms_spec (ws := wsX4_cube) B.pre
  have hown : s.vm.findClass RX4 = some m.cls := findClass_of_methodNamed B.named
  have hlocks := B.notSynchronized
  subst hsz
  have hD := hD0.self (sz := s.heap.size)
  generalize hAe : va_A [(h0, .inr (4, [.ref pg, .int 0, .int 0, .int 0, .ref t0, .ref t1, .ref t2, .ref sv, .int 0])), (t0, .inr (2, [.int 0, .int 0, .int 0, .ref e0]))] s.heap.size = A at hD hX ⊢
  have hA : ∀ q : Nat, s.heap.size ≤ q → A q := fun q h => by rw [← hAe]; exact Or.inr h
  obtain ⟨H, hH⟩ : ∃ H : Heap, H = s.heap := ⟨_, rfl⟩
  have hS : va_S A s.heap H [] := hH ▸ va_S.rf
  have hK := hX.1
  have hP : va_P D vwCl [(h0, .inr (4, [.ref pg, .int 0, .int 0, .int 0, .ref t0, .ref t1, .ref t2, .ref sv, .int 0])), (t0, .inr (2, [.int 0, .int 0, .int 0, .ref e0]))] H := hH ▸ hP
  rw [← hH]
  have hw_X4 : ∀ w ∈ wsX40, w ∈ wsX4_cube := by decide +kernel
  have f_16 := hts (.fieldLink RX4 16 "CubeTower" "now" "LCubeTower$Tower;") (by decide +kernel)
  have hl := lv_entry ([.ref h0, .int x_c, .int x_w]) (n := 4) (Nat.le_of_ble_eq_true rfl)
  rw [lg_entry_eq]
  generalize (lg_sl ([.ref h0, .int x_c, .int x_w]) ++ List.replicate (4 - (lg_sl ([.ref h0, .int x_c, .int x_w])).length) Slot.unset).toArray = ls at hl ⊢
  have hl : lv_has ls 4 [(0, .ref h0), (1, .int x_c), (2, .int x_w)] := hl
  refine lv_aload_n hx hb dX4_cube_0 rfl (lv_at hl 0 rfl) ?_
  refine va_get (D := D) (ci := 4) (v := .ref t0) (C := RX4) (T := TX4) (N := 9) hx hb hts hw_X4 hown hK hP 0 rfl rfl 4 (by decide) f_16 (fun _ h9 => h9) rfl dX4_cube_1 ?_
  refine lv_iload_n hx hb dX4_cube_4 rfl (lv_at hl 1 rfl) ?_
  refine kc_i (wc := [(t0, .inr (2, [.int 0, .int 0, .int 0, .ref e0]))]) (wr := [(h0, .inr (4, [.ref pg, .int 0, .int 0, .int 0, .ref t0, .ref t1, .ref t2, .ref sv, .int 0]))]) (va_runV (As := [.int x_c]) (rest := []) ⟨hx, hb, hml, hown, hts⟩ (c_X2_has l D cy H.size t0 0 0 0 e0 x_c ) (cwV 1 hts gX4_cube_X2_has rfl rfl rfl (by decide +kernel) ⟨Nat.le_of_ble_eq_true rfl, Nat.le_of_ble_eq_true rfl⟩) (cpre_V (wc := [(t0, .inr (2, [.int 0, .int 0, .int 0, .ref e0]))]) 1 2 rfl rfl hX hP hD hS hA [1] (by decide +kernel) rfl) rfl rfl hl.1 rfl (lv_room (Nat.le_of_ble_eq_true rfl)) dX4_cube_5 ⟨Nat.le_of_ble_eq_true rfl, Nat.le_of_ble_eq_true rfl⟩) hP hD hS hA [1] [0] rfl rfl (by decide +kernel) (by decide +kernel) (fun rh u1 H locs hw hP hD hS => ?_)
  obtain ⟨hu, hrh⟩ := hw
  subst hu
  have hP : va_P D vwCl [(h0, .inr (4, [.ref pg, .int 0, .int 0, .int 0, .ref t0, .ref t1, .ref t2, .ref sv, .int 0])), (t0, .inr (2, [.int 0, .int 0, .int 0, .ref e0]))] H := hP
  have hD : va_D A [(h0, .inr (4, [.ref pg, .int 0, .int 0, .int 0, .ref t0, .ref t1, .ref t2, .ref sv, .int 0])), (t0, .inr (2, [.int 0, .int 0, .int 0, .ref e0]))] := hD
  have hrh := hrh.trans h_0
  subst hrh
  refine lv_if_ne (tgt := 14) hx hb dX4_cube_8 (by decide) (fun c_8 => ?_) (fun c_8 => ?_)
  · exact absurd c_8 (by decide)
  · refine lv_bipush (v := (-101)) hx hb dX4_cube_11 (by decide) ?_
    have hP9 := hP.sub (ws' := [(h0, .inr (4, [.ref pg, .int 0, .int 0, .int 0, .ref t0, .ref t1, .ref t2, .ref sv, .int 0])), (t0, .inr (2, [.int 0, .int 0, .int 0, .ref e0]))]) [0, 1] rfl
    have hD9 := hD.sub (ws' := [(h0, .inr (4, [.ref pg, .int 0, .int 0, .int 0, .ref t0, .ref t1, .ref t2, .ref sv, .int 0])), (t0, .inr (2, [.int 0, .int 0, .int 0, .ref e0]))]) [0, 1] (by decide +kernel) rfl
    exact W.iret (v := (-101)) hx hb hr (fun t9 ht9 hW9 => ⟨⟨(-101), [(h0, .inr (4, [.ref pg, .int 0, .int 0, .int 0, .ref t0, .ref t1, .ref t2, .ref sv, .int 0])), (t0, .inr (2, [.int 0, .int 0, .int 0, .ref e0]))], rfl, ⟨rfl, rfl⟩, by rw [ht9]; exact hP9, hD9⟩, hS.F ht9⟩) hS.2.2 dX4_cube_13
def q_X4_as (cy : Nat → ClassId) (h0 : Nat) (pg : Nat) (t0 : Nat) (t1 : Nat) (t2 : Nat) (sv : Nat) (e0 : Nat) (x_c : Int32) (x_k : Int32) : Int32 → va_W → Prop := fun (r : Int32) (u : va_W) => u = [(h0, .inr (4, [.ref pg, .int 0, .int 0, .int 0, .ref t0, .ref t1, .ref t2, .ref sv, .int 0])), (t0, .inr (2, [.int 0, .int 0, .int 0, .ref e0]))] ∧ r = -101
set_option maxHeartbeats 4000000 in
set_option maxRecDepth 100000 in
theorem c_X4_as (l : Launch) (D : va_G) (cy : Nat → ClassId) (zz : Nat) (h0 : Nat) (pg : Nat) (t0 : Nat) (t1 : Nat) (t2 : Nat) (sv : Nat) (e0 : Nat) (x_c : Int32) (x_k : Int32) : Met l yX4_as wsX4_as ({ frames := 1, cells := 0, slots := 0, locals := 21 } : Room) (va_Pc [.ref h0, .int x_c, .int x_k] (cpre D cy [(h0, .inr (4, [.ref pg, .int 0, .int 0, .int 0, .ref t0, .ref t1, .ref t2, .ref sv, .int 0])), (t0, .inr (2, [.int 0, .int 0, .int 0, .ref e0]))] zz)) (va_Qi (q_X4_as cy h0 pg t0 t1 t2 sv e0 x_c x_k) (cpost D (va_A [(h0, .inr (4, [.ref pg, .int 0, .int 0, .int 0, .ref t0, .ref t1, .ref t2, .ref sv, .int 0])), (t0, .inr (2, [.int 0, .int 0, .int 0, .ref e0]))] zz)) (va_A [(h0, .inr (4, [.ref pg, .int 0, .int 0, .int 0, .ref t0, .ref t1, .ref t2, .ref sv, .int 0])), (t0, .inr (2, [.int 0, .int 0, .int 0, .ref e0]))] zz)) 0 0 (va_A [(h0, .inr (4, [.ref pg, .int 0, .int 0, .int 0, .ref t0, .ref t1, .ref t2, .ref sv, .int 0])), (t0, .inr (2, [.int 0, .int 0, .int 0, .ref e0]))] zz) := by
  refine Met.ofW (cc := cX4_as) (maxL := 3) (ret := (some .int)) (by decide) rfl ?_
  intro p e s m args below meth c s₁ B hml hv
  obtain ⟨rfl, hsz, hP, hD0, hX⟩ := hv
  have hx := B.exec
  have hb := B.bytes
  have hr := B.returns
  have hts := atoms_spec (ws := wsX4_as) B.pre
  have hown : s.vm.findClass RX4 = some m.cls := findClass_of_methodNamed B.named
  have hlocks := B.notSynchronized
  subst hsz
  have hD := hD0.self (sz := s.heap.size)
  generalize hAe : va_A [(h0, .inr (4, [.ref pg, .int 0, .int 0, .int 0, .ref t0, .ref t1, .ref t2, .ref sv, .int 0])), (t0, .inr (2, [.int 0, .int 0, .int 0, .ref e0]))] s.heap.size = A at hD hX ⊢
  have hA : ∀ q : Nat, s.heap.size ≤ q → A q := fun q h => by rw [← hAe]; exact Or.inr h
  obtain ⟨H, hH⟩ : ∃ H : Heap, H = s.heap := ⟨_, rfl⟩
  have hS : va_S A s.heap H [] := hH ▸ va_S.rf
  have hK := hX.1
  have hP : va_P D vwCl [(h0, .inr (4, [.ref pg, .int 0, .int 0, .int 0, .ref t0, .ref t1, .ref t2, .ref sv, .int 0])), (t0, .inr (2, [.int 0, .int 0, .int 0, .ref e0]))] H := hH ▸ hP
  rw [← hH]
  have hw_X4 : ∀ w ∈ wsX40, w ∈ wsX4_as := by decide +kernel
  have f_16 := hts (.fieldLink RX4 16 "CubeTower" "now" "LCubeTower$Tower;") (by decide +kernel)
  have hl := lv_entry ([.ref h0, .int x_c, .int x_k]) (n := 3) (Nat.le_of_ble_eq_true rfl)
  rw [lg_entry_eq]
  generalize (lg_sl ([.ref h0, .int x_c, .int x_k]) ++ List.replicate (3 - (lg_sl ([.ref h0, .int x_c, .int x_k])).length) Slot.unset).toArray = ls at hl ⊢
  have hl : lv_has ls 3 [(0, .ref h0), (1, .int x_c), (2, .int x_k)] := hl
  refine lv_aload_n hx hb dX4_as_0 rfl (lv_at hl 0 rfl) ?_
  refine va_get (D := D) (ci := 4) (v := .ref t0) (C := RX4) (T := TX4) (N := 9) hx hb hts hw_X4 hown hK hP 0 rfl rfl 4 (by decide) f_16 (fun _ h9 => h9) rfl dX4_as_1 ?_
  refine lv_iload_n hx hb dX4_as_4 rfl (lv_at hl 1 rfl) ?_
  refine kc_i (wc := [(t0, .inr (2, [.int 0, .int 0, .int 0, .ref e0]))]) (wr := [(h0, .inr (4, [.ref pg, .int 0, .int 0, .int 0, .ref t0, .ref t1, .ref t2, .ref sv, .int 0]))]) (va_runV (As := [.int x_c]) (rest := []) ⟨hx, hb, hml, hown, hts⟩ (c_X2_has l D cy H.size t0 0 0 0 e0 x_c ) (cwV 1 hts gX4_as_X2_has rfl rfl rfl (by decide +kernel) ⟨Nat.le_of_ble_eq_true rfl, Nat.le_of_ble_eq_true rfl⟩) (cpre_V (wc := [(t0, .inr (2, [.int 0, .int 0, .int 0, .ref e0]))]) 1 2 rfl rfl hX hP hD hS hA [1] (by decide +kernel) rfl) rfl rfl hl.1 rfl (lv_room (Nat.le_of_ble_eq_true rfl)) dX4_as_5 ⟨Nat.le_of_ble_eq_true rfl, Nat.le_of_ble_eq_true rfl⟩) hP hD hS hA [1] [0] rfl rfl (by decide +kernel) (by decide +kernel) (fun rh u1 H locs hw hP hD hS => ?_)
  obtain ⟨hu, hrh⟩ := hw
  subst hu
  have hP : va_P D vwCl [(h0, .inr (4, [.ref pg, .int 0, .int 0, .int 0, .ref t0, .ref t1, .ref t2, .ref sv, .int 0])), (t0, .inr (2, [.int 0, .int 0, .int 0, .ref e0]))] H := hP
  have hD : va_D A [(h0, .inr (4, [.ref pg, .int 0, .int 0, .int 0, .ref t0, .ref t1, .ref t2, .ref sv, .int 0])), (t0, .inr (2, [.int 0, .int 0, .int 0, .ref e0]))] := hD
  have hrh := hrh.trans h_0
  subst hrh
  refine lv_if_ne (tgt := 14) hx hb dX4_as_8 (by decide) (fun c_8 => ?_) (fun c_8 => ?_)
  · exact absurd c_8 (by decide)
  · refine lv_bipush (v := (-101)) hx hb dX4_as_11 (by decide) ?_
    have hP9 := hP.sub (ws' := [(h0, .inr (4, [.ref pg, .int 0, .int 0, .int 0, .ref t0, .ref t1, .ref t2, .ref sv, .int 0])), (t0, .inr (2, [.int 0, .int 0, .int 0, .ref e0]))]) [0, 1] rfl
    have hD9 := hD.sub (ws' := [(h0, .inr (4, [.ref pg, .int 0, .int 0, .int 0, .ref t0, .ref t1, .ref t2, .ref sv, .int 0])), (t0, .inr (2, [.int 0, .int 0, .int 0, .ref e0]))]) [0, 1] (by decide +kernel) rfl
    exact W.iret (v := (-101)) hx hb hr (fun t9 ht9 hW9 => ⟨⟨(-101), [(h0, .inr (4, [.ref pg, .int 0, .int 0, .int 0, .ref t0, .ref t1, .ref t2, .ref sv, .int 0])), (t0, .inr (2, [.int 0, .int 0, .int 0, .ref e0]))], rfl, ⟨rfl, rfl⟩, by rw [ht9]; exact hP9, hD9⟩, hS.F ht9⟩) hS.2.2 dX4_as_13
def q_X4_turn (cy : Nat → ClassId) (h0 : Nat) (pg : Nat) (t0 : Nat) (t1 : Nat) (t2 : Nat) (sv : Nat) (e0 : Nat) (x_c : Int32) (x_t : Int32) : Int32 → va_W → Prop := fun (r : Int32) (u : va_W) => u = [(h0, .inr (4, [.ref pg, .int 0, .int 0, .int 0, .ref t0, .ref t1, .ref t2, .ref sv, .int 0])), (t0, .inr (2, [.int 0, .int 0, .int 0, .ref e0]))] ∧ r = -101
set_option maxHeartbeats 4000000 in
set_option maxRecDepth 100000 in
theorem c_X4_turn (l : Launch) (D : va_G) (cy : Nat → ClassId) (zz : Nat) (h0 : Nat) (pg : Nat) (t0 : Nat) (t1 : Nat) (t2 : Nat) (sv : Nat) (e0 : Nat) (x_c : Int32) (x_t : Int32) : Met l yX4_turn wsX4_turn ({ frames := 1, cells := 0, slots := 0, locals := 21 } : Room) (va_Pc [.ref h0, .int x_c, .int x_t] (cpre D cy [(h0, .inr (4, [.ref pg, .int 0, .int 0, .int 0, .ref t0, .ref t1, .ref t2, .ref sv, .int 0])), (t0, .inr (2, [.int 0, .int 0, .int 0, .ref e0]))] zz)) (va_Qi (q_X4_turn cy h0 pg t0 t1 t2 sv e0 x_c x_t) (cpost D (va_A [(h0, .inr (4, [.ref pg, .int 0, .int 0, .int 0, .ref t0, .ref t1, .ref t2, .ref sv, .int 0])), (t0, .inr (2, [.int 0, .int 0, .int 0, .ref e0]))] zz)) (va_A [(h0, .inr (4, [.ref pg, .int 0, .int 0, .int 0, .ref t0, .ref t1, .ref t2, .ref sv, .int 0])), (t0, .inr (2, [.int 0, .int 0, .int 0, .ref e0]))] zz)) 0 0 (va_A [(h0, .inr (4, [.ref pg, .int 0, .int 0, .int 0, .ref t0, .ref t1, .ref t2, .ref sv, .int 0])), (t0, .inr (2, [.int 0, .int 0, .int 0, .ref e0]))] zz) := by
  refine Met.ofW (cc := cX4_turn) (maxL := 3) (ret := (some .int)) (by decide) rfl ?_
  intro p e s m args below meth c s₁ B hml hv
  obtain ⟨rfl, hsz, hP, hD0, hX⟩ := hv
  have hx := B.exec
  have hb := B.bytes
  have hr := B.returns
  have hts := atoms_spec (ws := wsX4_turn) B.pre
  have hown : s.vm.findClass RX4 = some m.cls := findClass_of_methodNamed B.named
  have hlocks := B.notSynchronized
  subst hsz
  have hD := hD0.self (sz := s.heap.size)
  generalize hAe : va_A [(h0, .inr (4, [.ref pg, .int 0, .int 0, .int 0, .ref t0, .ref t1, .ref t2, .ref sv, .int 0])), (t0, .inr (2, [.int 0, .int 0, .int 0, .ref e0]))] s.heap.size = A at hD hX ⊢
  have hA : ∀ q : Nat, s.heap.size ≤ q → A q := fun q h => by rw [← hAe]; exact Or.inr h
  obtain ⟨H, hH⟩ : ∃ H : Heap, H = s.heap := ⟨_, rfl⟩
  have hS : va_S A s.heap H [] := hH ▸ va_S.rf
  have hK := hX.1
  have hP : va_P D vwCl [(h0, .inr (4, [.ref pg, .int 0, .int 0, .int 0, .ref t0, .ref t1, .ref t2, .ref sv, .int 0])), (t0, .inr (2, [.int 0, .int 0, .int 0, .ref e0]))] H := hH ▸ hP
  rw [← hH]
  have hw_X4 : ∀ w ∈ wsX40, w ∈ wsX4_turn := by decide +kernel
  have f_16 := hts (.fieldLink RX4 16 "CubeTower" "now" "LCubeTower$Tower;") (by decide +kernel)
  have hl := lv_entry ([.ref h0, .int x_c, .int x_t]) (n := 3) (Nat.le_of_ble_eq_true rfl)
  rw [lg_entry_eq]
  generalize (lg_sl ([.ref h0, .int x_c, .int x_t]) ++ List.replicate (3 - (lg_sl ([.ref h0, .int x_c, .int x_t])).length) Slot.unset).toArray = ls at hl ⊢
  have hl : lv_has ls 3 [(0, .ref h0), (1, .int x_c), (2, .int x_t)] := hl
  refine lv_aload_n hx hb dX4_turn_0 rfl (lv_at hl 0 rfl) ?_
  refine va_get (D := D) (ci := 4) (v := .ref t0) (C := RX4) (T := TX4) (N := 9) hx hb hts hw_X4 hown hK hP 0 rfl rfl 4 (by decide) f_16 (fun _ h9 => h9) rfl dX4_turn_1 ?_
  refine lv_iload_n hx hb dX4_turn_4 rfl (lv_at hl 1 rfl) ?_
  refine kc_i (wc := [(t0, .inr (2, [.int 0, .int 0, .int 0, .ref e0]))]) (wr := [(h0, .inr (4, [.ref pg, .int 0, .int 0, .int 0, .ref t0, .ref t1, .ref t2, .ref sv, .int 0]))]) (va_runV (As := [.int x_c]) (rest := []) ⟨hx, hb, hml, hown, hts⟩ (c_X2_has l D cy H.size t0 0 0 0 e0 x_c ) (cwV 1 hts gX4_turn_X2_has rfl rfl rfl (by decide +kernel) ⟨Nat.le_of_ble_eq_true rfl, Nat.le_of_ble_eq_true rfl⟩) (cpre_V (wc := [(t0, .inr (2, [.int 0, .int 0, .int 0, .ref e0]))]) 1 2 rfl rfl hX hP hD hS hA [1] (by decide +kernel) rfl) rfl rfl hl.1 rfl (lv_room (Nat.le_of_ble_eq_true rfl)) dX4_turn_5 ⟨Nat.le_of_ble_eq_true rfl, Nat.le_of_ble_eq_true rfl⟩) hP hD hS hA [1] [0] rfl rfl (by decide +kernel) (by decide +kernel) (fun rh u1 H locs hw hP hD hS => ?_)
  obtain ⟨hu, hrh⟩ := hw
  subst hu
  have hP : va_P D vwCl [(h0, .inr (4, [.ref pg, .int 0, .int 0, .int 0, .ref t0, .ref t1, .ref t2, .ref sv, .int 0])), (t0, .inr (2, [.int 0, .int 0, .int 0, .ref e0]))] H := hP
  have hD : va_D A [(h0, .inr (4, [.ref pg, .int 0, .int 0, .int 0, .ref t0, .ref t1, .ref t2, .ref sv, .int 0])), (t0, .inr (2, [.int 0, .int 0, .int 0, .ref e0]))] := hD
  have hrh := hrh.trans h_0
  subst hrh
  refine lv_if_ne (tgt := 14) hx hb dX4_turn_8 (by decide) (fun c_8 => ?_) (fun c_8 => ?_)
  · exact absurd c_8 (by decide)
  · refine lv_bipush (v := (-101)) hx hb dX4_turn_11 (by decide) ?_
    have hP9 := hP.sub (ws' := [(h0, .inr (4, [.ref pg, .int 0, .int 0, .int 0, .ref t0, .ref t1, .ref t2, .ref sv, .int 0])), (t0, .inr (2, [.int 0, .int 0, .int 0, .ref e0]))]) [0, 1] rfl
    have hD9 := hD.sub (ws' := [(h0, .inr (4, [.ref pg, .int 0, .int 0, .int 0, .ref t0, .ref t1, .ref t2, .ref sv, .int 0])), (t0, .inr (2, [.int 0, .int 0, .int 0, .ref e0]))]) [0, 1] (by decide +kernel) rfl
    exact W.iret (v := (-101)) hx hb hr (fun t9 ht9 hW9 => ⟨⟨(-101), [(h0, .inr (4, [.ref pg, .int 0, .int 0, .int 0, .ref t0, .ref t1, .ref t2, .ref sv, .int 0])), (t0, .inr (2, [.int 0, .int 0, .int 0, .ref e0]))], rfl, ⟨rfl, rfl⟩, by rw [ht9]; exact hP9, hD9⟩, hS.F ht9⟩) hS.2.2 dX4_turn_13
def q_X4_paint (cy : Nat → ClassId) (h0 : Nat) (pg : Nat) (t0 : Nat) (t1 : Nat) (t2 : Nat) (sv : Nat) (e0 : Nat) (x_c : Int32) (x_s : Int32) (x_k : Int32) : Int32 → va_W → Prop := fun (r : Int32) (u : va_W) => u = [(h0, .inr (4, [.ref pg, .int 0, .int 0, .int 0, .ref t0, .ref t1, .ref t2, .ref sv, .int 0])), (t0, .inr (2, [.int 0, .int 0, .int 0, .ref e0]))] ∧ r = -101
set_option maxHeartbeats 4000000 in
set_option maxRecDepth 100000 in
theorem c_X4_paint (l : Launch) (D : va_G) (cy : Nat → ClassId) (zz : Nat) (h0 : Nat) (pg : Nat) (t0 : Nat) (t1 : Nat) (t2 : Nat) (sv : Nat) (e0 : Nat) (x_c : Int32) (x_s : Int32) (x_k : Int32) : Met l yX4_paint wsX4_paint ({ frames := 1, cells := 0, slots := 0, locals := 21 } : Room) (va_Pc [.ref h0, .int x_c, .int x_s, .int x_k] (cpre D cy [(h0, .inr (4, [.ref pg, .int 0, .int 0, .int 0, .ref t0, .ref t1, .ref t2, .ref sv, .int 0])), (t0, .inr (2, [.int 0, .int 0, .int 0, .ref e0]))] zz)) (va_Qi (q_X4_paint cy h0 pg t0 t1 t2 sv e0 x_c x_s x_k) (cpost D (va_A [(h0, .inr (4, [.ref pg, .int 0, .int 0, .int 0, .ref t0, .ref t1, .ref t2, .ref sv, .int 0])), (t0, .inr (2, [.int 0, .int 0, .int 0, .ref e0]))] zz)) (va_A [(h0, .inr (4, [.ref pg, .int 0, .int 0, .int 0, .ref t0, .ref t1, .ref t2, .ref sv, .int 0])), (t0, .inr (2, [.int 0, .int 0, .int 0, .ref e0]))] zz)) 0 0 (va_A [(h0, .inr (4, [.ref pg, .int 0, .int 0, .int 0, .ref t0, .ref t1, .ref t2, .ref sv, .int 0])), (t0, .inr (2, [.int 0, .int 0, .int 0, .ref e0]))] zz) := by
  refine Met.ofW (cc := cX4_paint) (maxL := 5) (ret := (some .int)) (by decide) rfl ?_
  intro p e s m args below meth c s₁ B hml hv
  obtain ⟨rfl, hsz, hP, hD0, hX⟩ := hv
  have hx := B.exec
  have hb := B.bytes
  have hr := B.returns
  have hts := atoms_spec (ws := wsX4_paint) B.pre
  have hown : s.vm.findClass RX4 = some m.cls := findClass_of_methodNamed B.named
  have hlocks := B.notSynchronized
  subst hsz
  have hD := hD0.self (sz := s.heap.size)
  generalize hAe : va_A [(h0, .inr (4, [.ref pg, .int 0, .int 0, .int 0, .ref t0, .ref t1, .ref t2, .ref sv, .int 0])), (t0, .inr (2, [.int 0, .int 0, .int 0, .ref e0]))] s.heap.size = A at hD hX ⊢
  have hA : ∀ q : Nat, s.heap.size ≤ q → A q := fun q h => by rw [← hAe]; exact Or.inr h
  obtain ⟨H, hH⟩ : ∃ H : Heap, H = s.heap := ⟨_, rfl⟩
  have hS : va_S A s.heap H [] := hH ▸ va_S.rf
  have hK := hX.1
  have hP : va_P D vwCl [(h0, .inr (4, [.ref pg, .int 0, .int 0, .int 0, .ref t0, .ref t1, .ref t2, .ref sv, .int 0])), (t0, .inr (2, [.int 0, .int 0, .int 0, .ref e0]))] H := hH ▸ hP
  rw [← hH]
  have hw_X4 : ∀ w ∈ wsX40, w ∈ wsX4_paint := by decide +kernel
  have f_16 := hts (.fieldLink RX4 16 "CubeTower" "now" "LCubeTower$Tower;") (by decide +kernel)
  have hl := lv_entry ([.ref h0, .int x_c, .int x_s, .int x_k]) (n := 5) (Nat.le_of_ble_eq_true rfl)
  rw [lg_entry_eq]
  generalize (lg_sl ([.ref h0, .int x_c, .int x_s, .int x_k]) ++ List.replicate (5 - (lg_sl ([.ref h0, .int x_c, .int x_s, .int x_k])).length) Slot.unset).toArray = ls at hl ⊢
  have hl : lv_has ls 5 [(0, .ref h0), (1, .int x_c), (2, .int x_s), (3, .int x_k)] := hl
  refine lv_aload_n hx hb dX4_paint_0 rfl (lv_at hl 0 rfl) ?_
  refine va_get (D := D) (ci := 4) (v := .ref t0) (C := RX4) (T := TX4) (N := 9) hx hb hts hw_X4 hown hK hP 0 rfl rfl 4 (by decide) f_16 (fun _ h9 => h9) rfl dX4_paint_1 ?_
  refine lv_iload_n hx hb dX4_paint_4 rfl (lv_at hl 1 rfl) ?_
  refine kc_i (wc := [(t0, .inr (2, [.int 0, .int 0, .int 0, .ref e0]))]) (wr := [(h0, .inr (4, [.ref pg, .int 0, .int 0, .int 0, .ref t0, .ref t1, .ref t2, .ref sv, .int 0]))]) (va_runV (As := [.int x_c]) (rest := []) ⟨hx, hb, hml, hown, hts⟩ (c_X2_has l D cy H.size t0 0 0 0 e0 x_c ) (cwV 1 hts gX4_paint_X2_has rfl rfl rfl (by decide +kernel) ⟨Nat.le_of_ble_eq_true rfl, Nat.le_of_ble_eq_true rfl⟩) (cpre_V (wc := [(t0, .inr (2, [.int 0, .int 0, .int 0, .ref e0]))]) 1 2 rfl rfl hX hP hD hS hA [1] (by decide +kernel) rfl) rfl rfl hl.1 rfl (lv_room (Nat.le_of_ble_eq_true rfl)) dX4_paint_5 ⟨Nat.le_of_ble_eq_true rfl, Nat.le_of_ble_eq_true rfl⟩) hP hD hS hA [1] [0] rfl rfl (by decide +kernel) (by decide +kernel) (fun rh u1 H locs hw hP hD hS => ?_)
  obtain ⟨hu, hrh⟩ := hw
  subst hu
  have hP : va_P D vwCl [(h0, .inr (4, [.ref pg, .int 0, .int 0, .int 0, .ref t0, .ref t1, .ref t2, .ref sv, .int 0])), (t0, .inr (2, [.int 0, .int 0, .int 0, .ref e0]))] H := hP
  have hD : va_D A [(h0, .inr (4, [.ref pg, .int 0, .int 0, .int 0, .ref t0, .ref t1, .ref t2, .ref sv, .int 0])), (t0, .inr (2, [.int 0, .int 0, .int 0, .ref e0]))] := hD
  have hrh := hrh.trans h_0
  subst hrh
  refine lv_if_eq (tgt := 21) hx hb dX4_paint_8 (by decide) (fun c_8 => ?_) (fun c_8 => ?_)
  · refine lv_bipush (v := (-101)) hx hb dX4_paint_21 (by decide) ?_
    have hP9 := hP.sub (ws' := [(h0, .inr (4, [.ref pg, .int 0, .int 0, .int 0, .ref t0, .ref t1, .ref t2, .ref sv, .int 0])), (t0, .inr (2, [.int 0, .int 0, .int 0, .ref e0]))]) [0, 1] rfl
    have hD9 := hD.sub (ws' := [(h0, .inr (4, [.ref pg, .int 0, .int 0, .int 0, .ref t0, .ref t1, .ref t2, .ref sv, .int 0])), (t0, .inr (2, [.int 0, .int 0, .int 0, .ref e0]))]) [0, 1] (by decide +kernel) rfl
    exact W.iret (v := (-101)) hx hb hr (fun t9 ht9 hW9 => ⟨⟨(-101), [(h0, .inr (4, [.ref pg, .int 0, .int 0, .int 0, .ref t0, .ref t1, .ref t2, .ref sv, .int 0])), (t0, .inr (2, [.int 0, .int 0, .int 0, .ref e0]))], rfl, ⟨rfl, rfl⟩, by rw [ht9]; exact hP9, hD9⟩, hS.F ht9⟩) hS.2.2 dX4_paint_23
  · exact absurd c_8 (by decide)
def q_X4_swap (cy : Nat → ClassId) (h0 : Nat) (pg : Nat) (t0 : Nat) (t1 : Nat) (t2 : Nat) (sv : Nat) (e0 : Nat) (x_a : Int32) (x_b : Int32) : Int32 → va_W → Prop := fun (r : Int32) (u : va_W) => u = [(h0, .inr (4, [.ref pg, .int 0, .int 0, .int 0, .ref t0, .ref t1, .ref t2, .ref sv, .int 0])), (t0, .inr (2, [.int 0, .int 0, .int 0, .ref e0]))] ∧ r = -101
set_option maxHeartbeats 4000000 in
set_option maxRecDepth 100000 in
theorem c_X4_swap (l : Launch) (D : va_G) (cy : Nat → ClassId) (zz : Nat) (h0 : Nat) (pg : Nat) (t0 : Nat) (t1 : Nat) (t2 : Nat) (sv : Nat) (e0 : Nat) (x_a : Int32) (x_b : Int32) : Met l yX4_swap wsX4_swap ({ frames := 1, cells := 0, slots := 0, locals := 21 } : Room) (va_Pc [.ref h0, .int x_a, .int x_b] (cpre D cy [(h0, .inr (4, [.ref pg, .int 0, .int 0, .int 0, .ref t0, .ref t1, .ref t2, .ref sv, .int 0])), (t0, .inr (2, [.int 0, .int 0, .int 0, .ref e0]))] zz)) (va_Qi (q_X4_swap cy h0 pg t0 t1 t2 sv e0 x_a x_b) (cpost D (va_A [(h0, .inr (4, [.ref pg, .int 0, .int 0, .int 0, .ref t0, .ref t1, .ref t2, .ref sv, .int 0])), (t0, .inr (2, [.int 0, .int 0, .int 0, .ref e0]))] zz)) (va_A [(h0, .inr (4, [.ref pg, .int 0, .int 0, .int 0, .ref t0, .ref t1, .ref t2, .ref sv, .int 0])), (t0, .inr (2, [.int 0, .int 0, .int 0, .ref e0]))] zz)) 0 0 (va_A [(h0, .inr (4, [.ref pg, .int 0, .int 0, .int 0, .ref t0, .ref t1, .ref t2, .ref sv, .int 0])), (t0, .inr (2, [.int 0, .int 0, .int 0, .ref e0]))] zz) := by
  refine Met.ofW (cc := cX4_swap) (maxL := 4) (ret := (some .int)) (by decide) rfl ?_
  intro p e s m args below meth c s₁ B hml hv
  obtain ⟨rfl, hsz, hP, hD0, hX⟩ := hv
  have hx := B.exec
  have hb := B.bytes
  have hr := B.returns
  have hts := atoms_spec (ws := wsX4_swap) B.pre
  have hown : s.vm.findClass RX4 = some m.cls := findClass_of_methodNamed B.named
  have hlocks := B.notSynchronized
  subst hsz
  have hD := hD0.self (sz := s.heap.size)
  generalize hAe : va_A [(h0, .inr (4, [.ref pg, .int 0, .int 0, .int 0, .ref t0, .ref t1, .ref t2, .ref sv, .int 0])), (t0, .inr (2, [.int 0, .int 0, .int 0, .ref e0]))] s.heap.size = A at hD hX ⊢
  have hA : ∀ q : Nat, s.heap.size ≤ q → A q := fun q h => by rw [← hAe]; exact Or.inr h
  obtain ⟨H, hH⟩ : ∃ H : Heap, H = s.heap := ⟨_, rfl⟩
  have hS : va_S A s.heap H [] := hH ▸ va_S.rf
  have hK := hX.1
  have hP : va_P D vwCl [(h0, .inr (4, [.ref pg, .int 0, .int 0, .int 0, .ref t0, .ref t1, .ref t2, .ref sv, .int 0])), (t0, .inr (2, [.int 0, .int 0, .int 0, .ref e0]))] H := hH ▸ hP
  rw [← hH]
  have hw_X4 : ∀ w ∈ wsX40, w ∈ wsX4_swap := by decide +kernel
  have f_16 := hts (.fieldLink RX4 16 "CubeTower" "now" "LCubeTower$Tower;") (by decide +kernel)
  have hl := lv_entry ([.ref h0, .int x_a, .int x_b]) (n := 4) (Nat.le_of_ble_eq_true rfl)
  rw [lg_entry_eq]
  generalize (lg_sl ([.ref h0, .int x_a, .int x_b]) ++ List.replicate (4 - (lg_sl ([.ref h0, .int x_a, .int x_b])).length) Slot.unset).toArray = ls at hl ⊢
  have hl : lv_has ls 4 [(0, .ref h0), (1, .int x_a), (2, .int x_b)] := hl
  refine lv_aload_n hx hb dX4_swap_0 rfl (lv_at hl 0 rfl) ?_
  refine va_get (D := D) (ci := 4) (v := .ref t0) (C := RX4) (T := TX4) (N := 9) hx hb hts hw_X4 hown hK hP 0 rfl rfl 4 (by decide) f_16 (fun _ h9 => h9) rfl dX4_swap_1 ?_
  refine lv_iload_n hx hb dX4_swap_4 rfl (lv_at hl 1 rfl) ?_
  refine kc_i (wc := [(t0, .inr (2, [.int 0, .int 0, .int 0, .ref e0]))]) (wr := [(h0, .inr (4, [.ref pg, .int 0, .int 0, .int 0, .ref t0, .ref t1, .ref t2, .ref sv, .int 0]))]) (va_runV (As := [.int x_a]) (rest := []) ⟨hx, hb, hml, hown, hts⟩ (c_X2_has l D cy H.size t0 0 0 0 e0 x_a ) (cwV 1 hts gX4_swap_X2_has rfl rfl rfl (by decide +kernel) ⟨Nat.le_of_ble_eq_true rfl, Nat.le_of_ble_eq_true rfl⟩) (cpre_V (wc := [(t0, .inr (2, [.int 0, .int 0, .int 0, .ref e0]))]) 1 2 rfl rfl hX hP hD hS hA [1] (by decide +kernel) rfl) rfl rfl hl.1 rfl (lv_room (Nat.le_of_ble_eq_true rfl)) dX4_swap_5 ⟨Nat.le_of_ble_eq_true rfl, Nat.le_of_ble_eq_true rfl⟩) hP hD hS hA [1] [0] rfl rfl (by decide +kernel) (by decide +kernel) (fun rh u1 H locs hw hP hD hS => ?_)
  obtain ⟨hu, hrh⟩ := hw
  subst hu
  have hP : va_P D vwCl [(h0, .inr (4, [.ref pg, .int 0, .int 0, .int 0, .ref t0, .ref t1, .ref t2, .ref sv, .int 0])), (t0, .inr (2, [.int 0, .int 0, .int 0, .ref e0]))] H := hP
  have hD : va_D A [(h0, .inr (4, [.ref pg, .int 0, .int 0, .int 0, .ref t0, .ref t1, .ref t2, .ref sv, .int 0])), (t0, .inr (2, [.int 0, .int 0, .int 0, .ref e0]))] := hD
  have hrh := hrh.trans h_0
  subst hrh
  refine lv_if_eq (tgt := 27) hx hb dX4_swap_8 (by decide) (fun c_8 => ?_) (fun c_8 => ?_)
  · refine lv_bipush (v := (-101)) hx hb dX4_swap_27 (by decide) ?_
    have hP9 := hP.sub (ws' := [(h0, .inr (4, [.ref pg, .int 0, .int 0, .int 0, .ref t0, .ref t1, .ref t2, .ref sv, .int 0])), (t0, .inr (2, [.int 0, .int 0, .int 0, .ref e0]))]) [0, 1] rfl
    have hD9 := hD.sub (ws' := [(h0, .inr (4, [.ref pg, .int 0, .int 0, .int 0, .ref t0, .ref t1, .ref t2, .ref sv, .int 0])), (t0, .inr (2, [.int 0, .int 0, .int 0, .ref e0]))]) [0, 1] (by decide +kernel) rfl
    exact W.iret (v := (-101)) hx hb hr (fun t9 ht9 hW9 => ⟨⟨(-101), [(h0, .inr (4, [.ref pg, .int 0, .int 0, .int 0, .ref t0, .ref t1, .ref t2, .ref sv, .int 0])), (t0, .inr (2, [.int 0, .int 0, .int 0, .ref e0]))], rfl, ⟨rfl, rfl⟩, by rw [ht9]; exact hP9, hD9⟩, hS.F ht9⟩) hS.2.2 dX4_swap_29
  · exact absurd c_8 (by decide)
def q_X4_be (cy : Nat → ClassId) (h0 : Nat) (pg : Nat) (t0 : Nat) (t1 : Nat) (t2 : Nat) (sv : Nat) (e0 : Nat) (x_c : Int32) (x_k : Int32) : Int32 → va_W → Prop := fun (r : Int32) (u : va_W) => u = [(h0, .inr (4, [.ref pg, .int 0, .int 0, .int 0, .ref t0, .ref t1, .ref t2, .ref sv, .int 0])), (t0, .inr (2, [.int 0, .int 0, .int 0, .ref e0]))] ∧ r = -101
set_option maxHeartbeats 4000000 in
set_option maxRecDepth 100000 in
theorem c_X4_be (l : Launch) (D : va_G) (cy : Nat → ClassId) (zz : Nat) (h0 : Nat) (pg : Nat) (t0 : Nat) (t1 : Nat) (t2 : Nat) (sv : Nat) (e0 : Nat) (x_c : Int32) (x_k : Int32) : Met l yX4_be wsX4_be ({ frames := 1, cells := 0, slots := 0, locals := 21 } : Room) (va_Pc [.ref h0, .int x_c, .int x_k] (cpre D cy [(h0, .inr (4, [.ref pg, .int 0, .int 0, .int 0, .ref t0, .ref t1, .ref t2, .ref sv, .int 0])), (t0, .inr (2, [.int 0, .int 0, .int 0, .ref e0]))] zz)) (va_Qi (q_X4_be cy h0 pg t0 t1 t2 sv e0 x_c x_k) (cpost D (va_A [(h0, .inr (4, [.ref pg, .int 0, .int 0, .int 0, .ref t0, .ref t1, .ref t2, .ref sv, .int 0])), (t0, .inr (2, [.int 0, .int 0, .int 0, .ref e0]))] zz)) (va_A [(h0, .inr (4, [.ref pg, .int 0, .int 0, .int 0, .ref t0, .ref t1, .ref t2, .ref sv, .int 0])), (t0, .inr (2, [.int 0, .int 0, .int 0, .ref e0]))] zz)) 0 0 (va_A [(h0, .inr (4, [.ref pg, .int 0, .int 0, .int 0, .ref t0, .ref t1, .ref t2, .ref sv, .int 0])), (t0, .inr (2, [.int 0, .int 0, .int 0, .ref e0]))] zz) := by
  refine Met.ofW (cc := cX4_be) (maxL := 4) (ret := (some .int)) (by decide) rfl ?_
  intro p e s m args below meth c s₁ B hml hv
  obtain ⟨rfl, hsz, hP, hD0, hX⟩ := hv
  have hx := B.exec
  have hb := B.bytes
  have hr := B.returns
  have hts := atoms_spec (ws := wsX4_be) B.pre
  have hown : s.vm.findClass RX4 = some m.cls := findClass_of_methodNamed B.named
  have hlocks := B.notSynchronized
  subst hsz
  have hD := hD0.self (sz := s.heap.size)
  generalize hAe : va_A [(h0, .inr (4, [.ref pg, .int 0, .int 0, .int 0, .ref t0, .ref t1, .ref t2, .ref sv, .int 0])), (t0, .inr (2, [.int 0, .int 0, .int 0, .ref e0]))] s.heap.size = A at hD hX ⊢
  have hA : ∀ q : Nat, s.heap.size ≤ q → A q := fun q h => by rw [← hAe]; exact Or.inr h
  obtain ⟨H, hH⟩ : ∃ H : Heap, H = s.heap := ⟨_, rfl⟩
  have hS : va_S A s.heap H [] := hH ▸ va_S.rf
  have hK := hX.1
  have hP : va_P D vwCl [(h0, .inr (4, [.ref pg, .int 0, .int 0, .int 0, .ref t0, .ref t1, .ref t2, .ref sv, .int 0])), (t0, .inr (2, [.int 0, .int 0, .int 0, .ref e0]))] H := hH ▸ hP
  rw [← hH]
  have hw_X4 : ∀ w ∈ wsX40, w ∈ wsX4_be := by decide +kernel
  have f_16 := hts (.fieldLink RX4 16 "CubeTower" "now" "LCubeTower$Tower;") (by decide +kernel)
  have hl := lv_entry ([.ref h0, .int x_c, .int x_k]) (n := 4) (Nat.le_of_ble_eq_true rfl)
  rw [lg_entry_eq]
  generalize (lg_sl ([.ref h0, .int x_c, .int x_k]) ++ List.replicate (4 - (lg_sl ([.ref h0, .int x_c, .int x_k])).length) Slot.unset).toArray = ls at hl ⊢
  have hl : lv_has ls 4 [(0, .ref h0), (1, .int x_c), (2, .int x_k)] := hl
  refine lv_aload_n hx hb dX4_be_0 rfl (lv_at hl 0 rfl) ?_
  refine va_get (D := D) (ci := 4) (v := .ref t0) (C := RX4) (T := TX4) (N := 9) hx hb hts hw_X4 hown hK hP 0 rfl rfl 4 (by decide) f_16 (fun _ h9 => h9) rfl dX4_be_1 ?_
  refine lv_iload_n hx hb dX4_be_4 rfl (lv_at hl 1 rfl) ?_
  refine kc_i (wc := [(t0, .inr (2, [.int 0, .int 0, .int 0, .ref e0]))]) (wr := [(h0, .inr (4, [.ref pg, .int 0, .int 0, .int 0, .ref t0, .ref t1, .ref t2, .ref sv, .int 0]))]) (va_runV (As := [.int x_c]) (rest := []) ⟨hx, hb, hml, hown, hts⟩ (c_X2_has l D cy H.size t0 0 0 0 e0 x_c ) (cwV 1 hts gX4_be_X2_has rfl rfl rfl (by decide +kernel) ⟨Nat.le_of_ble_eq_true rfl, Nat.le_of_ble_eq_true rfl⟩) (cpre_V (wc := [(t0, .inr (2, [.int 0, .int 0, .int 0, .ref e0]))]) 1 2 rfl rfl hX hP hD hS hA [1] (by decide +kernel) rfl) rfl rfl hl.1 rfl (lv_room (Nat.le_of_ble_eq_true rfl)) dX4_be_5 ⟨Nat.le_of_ble_eq_true rfl, Nat.le_of_ble_eq_true rfl⟩) hP hD hS hA [1] [0] rfl rfl (by decide +kernel) (by decide +kernel) (fun rh u1 H locs hw hP hD hS => ?_)
  obtain ⟨hu, hrh⟩ := hw
  subst hu
  have hP : va_P D vwCl [(h0, .inr (4, [.ref pg, .int 0, .int 0, .int 0, .ref t0, .ref t1, .ref t2, .ref sv, .int 0])), (t0, .inr (2, [.int 0, .int 0, .int 0, .ref e0]))] H := hP
  have hD : va_D A [(h0, .inr (4, [.ref pg, .int 0, .int 0, .int 0, .ref t0, .ref t1, .ref t2, .ref sv, .int 0])), (t0, .inr (2, [.int 0, .int 0, .int 0, .ref e0]))] := hD
  have hrh := hrh.trans h_0
  subst hrh
  refine lv_if_ne (tgt := 14) hx hb dX4_be_8 (by decide) (fun c_8 => ?_) (fun c_8 => ?_)
  · exact absurd c_8 (by decide)
  · refine lv_bipush (v := (-101)) hx hb dX4_be_11 (by decide) ?_
    have hP9 := hP.sub (ws' := [(h0, .inr (4, [.ref pg, .int 0, .int 0, .int 0, .ref t0, .ref t1, .ref t2, .ref sv, .int 0])), (t0, .inr (2, [.int 0, .int 0, .int 0, .ref e0]))]) [0, 1] rfl
    have hD9 := hD.sub (ws' := [(h0, .inr (4, [.ref pg, .int 0, .int 0, .int 0, .ref t0, .ref t1, .ref t2, .ref sv, .int 0])), (t0, .inr (2, [.int 0, .int 0, .int 0, .ref e0]))]) [0, 1] (by decide +kernel) rfl
    exact W.iret (v := (-101)) hx hb hr (fun t9 ht9 hW9 => ⟨⟨(-101), [(h0, .inr (4, [.ref pg, .int 0, .int 0, .int 0, .ref t0, .ref t1, .ref t2, .ref sv, .int 0])), (t0, .inr (2, [.int 0, .int 0, .int 0, .ref e0]))], rfl, ⟨rfl, rfl⟩, by rw [ht9]; exact hP9, hD9⟩, hS.F ht9⟩) hS.2.2 dX4_be_13
def q_X4_see (cy : Nat → ClassId) (h0 : Nat) (pg : Nat) (t0 : Nat) (t1 : Nat) (t2 : Nat) (sv : Nat) (e0 : Nat) (x_c : Int32) (x_w : Int32) (x_b : Int32) : Int32 → va_W → Prop := fun (r : Int32) (u : va_W) => u = [(h0, .inr (4, [.ref pg, .int 0, .int 0, .int 0, .ref t0, .ref t1, .ref t2, .ref sv, .int 0])), (t0, .inr (2, [.int 0, .int 0, .int 0, .ref e0]))] ∧ r = -101
set_option maxHeartbeats 4000000 in
set_option maxRecDepth 100000 in
theorem c_X4_see (l : Launch) (D : va_G) (cy : Nat → ClassId) (zz : Nat) (h0 : Nat) (pg : Nat) (t0 : Nat) (t1 : Nat) (t2 : Nat) (sv : Nat) (e0 : Nat) (x_c : Int32) (x_w : Int32) (x_b : Int32) : Met l yX4_see wsX4_see ({ frames := 1, cells := 0, slots := 0, locals := 21 } : Room) (va_Pc [.ref h0, .int x_c, .int x_w, .int x_b] (cpre D cy [(h0, .inr (4, [.ref pg, .int 0, .int 0, .int 0, .ref t0, .ref t1, .ref t2, .ref sv, .int 0])), (t0, .inr (2, [.int 0, .int 0, .int 0, .ref e0]))] zz)) (va_Qi (q_X4_see cy h0 pg t0 t1 t2 sv e0 x_c x_w x_b) (cpost D (va_A [(h0, .inr (4, [.ref pg, .int 0, .int 0, .int 0, .ref t0, .ref t1, .ref t2, .ref sv, .int 0])), (t0, .inr (2, [.int 0, .int 0, .int 0, .ref e0]))] zz)) (va_A [(h0, .inr (4, [.ref pg, .int 0, .int 0, .int 0, .ref t0, .ref t1, .ref t2, .ref sv, .int 0])), (t0, .inr (2, [.int 0, .int 0, .int 0, .ref e0]))] zz)) 0 0 (va_A [(h0, .inr (4, [.ref pg, .int 0, .int 0, .int 0, .ref t0, .ref t1, .ref t2, .ref sv, .int 0])), (t0, .inr (2, [.int 0, .int 0, .int 0, .ref e0]))] zz) := by
  refine Met.ofW (cc := cX4_see) (maxL := 5) (ret := (some .int)) (by decide) rfl ?_
  intro p e s m args below meth c s₁ B hml hv
  obtain ⟨rfl, hsz, hP, hD0, hX⟩ := hv
  have hx := B.exec
  have hb := B.bytes
  have hr := B.returns
  have hts := atoms_spec (ws := wsX4_see) B.pre
  have hown : s.vm.findClass RX4 = some m.cls := findClass_of_methodNamed B.named
  have hlocks := B.notSynchronized
  subst hsz
  have hD := hD0.self (sz := s.heap.size)
  generalize hAe : va_A [(h0, .inr (4, [.ref pg, .int 0, .int 0, .int 0, .ref t0, .ref t1, .ref t2, .ref sv, .int 0])), (t0, .inr (2, [.int 0, .int 0, .int 0, .ref e0]))] s.heap.size = A at hD hX ⊢
  have hA : ∀ q : Nat, s.heap.size ≤ q → A q := fun q h => by rw [← hAe]; exact Or.inr h
  obtain ⟨H, hH⟩ : ∃ H : Heap, H = s.heap := ⟨_, rfl⟩
  have hS : va_S A s.heap H [] := hH ▸ va_S.rf
  have hK := hX.1
  have hP : va_P D vwCl [(h0, .inr (4, [.ref pg, .int 0, .int 0, .int 0, .ref t0, .ref t1, .ref t2, .ref sv, .int 0])), (t0, .inr (2, [.int 0, .int 0, .int 0, .ref e0]))] H := hH ▸ hP
  rw [← hH]
  have hw_X4 : ∀ w ∈ wsX40, w ∈ wsX4_see := by decide +kernel
  have f_16 := hts (.fieldLink RX4 16 "CubeTower" "now" "LCubeTower$Tower;") (by decide +kernel)
  have hl := lv_entry ([.ref h0, .int x_c, .int x_w, .int x_b]) (n := 5) (Nat.le_of_ble_eq_true rfl)
  rw [lg_entry_eq]
  generalize (lg_sl ([.ref h0, .int x_c, .int x_w, .int x_b]) ++ List.replicate (5 - (lg_sl ([.ref h0, .int x_c, .int x_w, .int x_b])).length) Slot.unset).toArray = ls at hl ⊢
  have hl : lv_has ls 5 [(0, .ref h0), (1, .int x_c), (2, .int x_w), (3, .int x_b)] := hl
  refine lv_aload_n hx hb dX4_see_0 rfl (lv_at hl 0 rfl) ?_
  refine va_get (D := D) (ci := 4) (v := .ref t0) (C := RX4) (T := TX4) (N := 9) hx hb hts hw_X4 hown hK hP 0 rfl rfl 4 (by decide) f_16 (fun _ h9 => h9) rfl dX4_see_1 ?_
  refine lv_iload_n hx hb dX4_see_4 rfl (lv_at hl 1 rfl) ?_
  refine kc_i (wc := [(t0, .inr (2, [.int 0, .int 0, .int 0, .ref e0]))]) (wr := [(h0, .inr (4, [.ref pg, .int 0, .int 0, .int 0, .ref t0, .ref t1, .ref t2, .ref sv, .int 0]))]) (va_runV (As := [.int x_c]) (rest := []) ⟨hx, hb, hml, hown, hts⟩ (c_X2_has l D cy H.size t0 0 0 0 e0 x_c ) (cwV 1 hts gX4_see_X2_has rfl rfl rfl (by decide +kernel) ⟨Nat.le_of_ble_eq_true rfl, Nat.le_of_ble_eq_true rfl⟩) (cpre_V (wc := [(t0, .inr (2, [.int 0, .int 0, .int 0, .ref e0]))]) 1 2 rfl rfl hX hP hD hS hA [1] (by decide +kernel) rfl) rfl rfl hl.1 rfl (lv_room (Nat.le_of_ble_eq_true rfl)) dX4_see_5 ⟨Nat.le_of_ble_eq_true rfl, Nat.le_of_ble_eq_true rfl⟩) hP hD hS hA [1] [0] rfl rfl (by decide +kernel) (by decide +kernel) (fun rh u1 H locs hw hP hD hS => ?_)
  obtain ⟨hu, hrh⟩ := hw
  subst hu
  have hP : va_P D vwCl [(h0, .inr (4, [.ref pg, .int 0, .int 0, .int 0, .ref t0, .ref t1, .ref t2, .ref sv, .int 0])), (t0, .inr (2, [.int 0, .int 0, .int 0, .ref e0]))] H := hP
  have hD : va_D A [(h0, .inr (4, [.ref pg, .int 0, .int 0, .int 0, .ref t0, .ref t1, .ref t2, .ref sv, .int 0])), (t0, .inr (2, [.int 0, .int 0, .int 0, .ref e0]))] := hD
  have hrh := hrh.trans h_0
  subst hrh
  refine lv_if_ne (tgt := 14) hx hb dX4_see_8 (by decide) (fun c_8 => ?_) (fun c_8 => ?_)
  · exact absurd c_8 (by decide)
  · refine lv_bipush (v := (-101)) hx hb dX4_see_11 (by decide) ?_
    have hP9 := hP.sub (ws' := [(h0, .inr (4, [.ref pg, .int 0, .int 0, .int 0, .ref t0, .ref t1, .ref t2, .ref sv, .int 0])), (t0, .inr (2, [.int 0, .int 0, .int 0, .ref e0]))]) [0, 1] rfl
    have hD9 := hD.sub (ws' := [(h0, .inr (4, [.ref pg, .int 0, .int 0, .int 0, .ref t0, .ref t1, .ref t2, .ref sv, .int 0])), (t0, .inr (2, [.int 0, .int 0, .int 0, .ref e0]))]) [0, 1] (by decide +kernel) rfl
    exact W.iret (v := (-101)) hx hb hr (fun t9 ht9 hW9 => ⟨⟨(-101), [(h0, .inr (4, [.ref pg, .int 0, .int 0, .int 0, .ref t0, .ref t1, .ref t2, .ref sv, .int 0])), (t0, .inr (2, [.int 0, .int 0, .int 0, .ref e0]))], rfl, ⟨rfl, rfl⟩, by rw [ht9]; exact hP9, hD9⟩, hS.F ht9⟩) hS.2.2 dX4_see_13
def q_X4_wall (cy : Nat → ClassId) (h0 : Nat) (pg : Nat) (t0 : Nat) (t1 : Nat) (t2 : Nat) (sv : Nat) (e0 : Nat) (w : Int32) (v : Int32) : Int32 → va_W → Prop := fun (r : Int32) (u : va_W) => u = [(h0, .inr (4, [.ref pg, .int 0, .int 0, .int 0, .ref t0, .ref t1, .ref t2, .ref sv, .int 0])), (t0, .inr (2, [.int 0, .int 0, .int 0, .ref e0]))] ∧ r = -101
set_option maxHeartbeats 4000000 in
set_option maxRecDepth 100000 in
theorem c_X4_wall (l : Launch) (D : va_G) (cy : Nat → ClassId) (zz : Nat) (h0 : Nat) (pg : Nat) (t0 : Nat) (t1 : Nat) (t2 : Nat) (sv : Nat) (e0 : Nat) (w : Int32) (v : Int32) : Met l yX4_wall wsX4_wall ({ frames := 0, cells := 0, slots := 0, locals := 0 } : Room) (va_Pc [.ref h0, .int w, .int v] (cpre D cy [(h0, .inr (4, [.ref pg, .int 0, .int 0, .int 0, .ref t0, .ref t1, .ref t2, .ref sv, .int 0])), (t0, .inr (2, [.int 0, .int 0, .int 0, .ref e0]))] zz)) (va_Qi (q_X4_wall cy h0 pg t0 t1 t2 sv e0 w v) (cpost D (va_A [(h0, .inr (4, [.ref pg, .int 0, .int 0, .int 0, .ref t0, .ref t1, .ref t2, .ref sv, .int 0])), (t0, .inr (2, [.int 0, .int 0, .int 0, .ref e0]))] zz)) (va_A [(h0, .inr (4, [.ref pg, .int 0, .int 0, .int 0, .ref t0, .ref t1, .ref t2, .ref sv, .int 0])), (t0, .inr (2, [.int 0, .int 0, .int 0, .ref e0]))] zz)) 0 0 (va_A [(h0, .inr (4, [.ref pg, .int 0, .int 0, .int 0, .ref t0, .ref t1, .ref t2, .ref sv, .int 0])), (t0, .inr (2, [.int 0, .int 0, .int 0, .ref e0]))] zz) := by
  refine Met.ofW (cc := cX4_wall) (maxL := 4) (ret := (some .int)) (by decide) rfl ?_
  intro p e s m args below meth c s₁ B hml hv
  obtain ⟨rfl, hsz, hP, hD0, hX⟩ := hv
  have hx := B.exec
  have hb := B.bytes
  have hr := B.returns
  have hts := atoms_spec (ws := wsX4_wall) B.pre
  have hown : s.vm.findClass RX4 = some m.cls := findClass_of_methodNamed B.named
  have hlocks := B.notSynchronized
  subst hsz
  have hD := hD0.self (sz := s.heap.size)
  generalize hAe : va_A [(h0, .inr (4, [.ref pg, .int 0, .int 0, .int 0, .ref t0, .ref t1, .ref t2, .ref sv, .int 0])), (t0, .inr (2, [.int 0, .int 0, .int 0, .ref e0]))] s.heap.size = A at hD hX ⊢
  have hA : ∀ q : Nat, s.heap.size ≤ q → A q := fun q h => by rw [← hAe]; exact Or.inr h
  obtain ⟨H, hH⟩ : ∃ H : Heap, H = s.heap := ⟨_, rfl⟩
  have hS : va_S A s.heap H [] := hH ▸ va_S.rf
  have hK := hX.1
  have hP : va_P D vwCl [(h0, .inr (4, [.ref pg, .int 0, .int 0, .int 0, .ref t0, .ref t1, .ref t2, .ref sv, .int 0])), (t0, .inr (2, [.int 0, .int 0, .int 0, .ref e0]))] H := hH ▸ hP
  rw [← hH]
  have hw_X2 : ∀ w ∈ wsX20, w ∈ wsX4_wall := by decide +kernel
  have hw_X4 : ∀ w ∈ wsX40, w ∈ wsX4_wall := by decide +kernel
  have f_16 := hts (.fieldLink RX4 16 "CubeTower" "now" "LCubeTower$Tower;") (by decide +kernel)
  have f_52 := hts (.fieldLink RX4 52 "CubeTower$Tower" "size" "I") (by decide +kernel)
  have hl := lv_entry ([.ref h0, .int w, .int v]) (n := 4) (Nat.le_of_ble_eq_true rfl)
  rw [lg_entry_eq]
  generalize (lg_sl ([.ref h0, .int w, .int v]) ++ List.replicate (4 - (lg_sl ([.ref h0, .int w, .int v])).length) Slot.unset).toArray = ls at hl ⊢
  have hl : lv_has ls 4 [(0, .ref h0), (1, .int w), (2, .int v)] := hl
  refine lv_iload_n hx hb dX4_wall_0 rfl (lv_at hl 1 rfl) ?_
  refine lv_if_lt (tgt := 19) hx hb dX4_wall_1 (by decide) (fun c_1 => ?_) (fun c_1 => ?_)
  · refine lv_bipush (v := (-101)) hx hb dX4_wall_19 (by decide) ?_
    have hP9 := hP.sub (ws' := [(h0, .inr (4, [.ref pg, .int 0, .int 0, .int 0, .ref t0, .ref t1, .ref t2, .ref sv, .int 0])), (t0, .inr (2, [.int 0, .int 0, .int 0, .ref e0]))]) [0, 1] rfl
    have hD9 := hD.sub (ws' := [(h0, .inr (4, [.ref pg, .int 0, .int 0, .int 0, .ref t0, .ref t1, .ref t2, .ref sv, .int 0])), (t0, .inr (2, [.int 0, .int 0, .int 0, .ref e0]))]) [0, 1] (by decide +kernel) rfl
    exact W.iret (v := (-101)) hx hb hr (fun t9 ht9 hW9 => ⟨⟨(-101), [(h0, .inr (4, [.ref pg, .int 0, .int 0, .int 0, .ref t0, .ref t1, .ref t2, .ref sv, .int 0])), (t0, .inr (2, [.int 0, .int 0, .int 0, .ref e0]))], rfl, ⟨rfl, rfl⟩, by rw [ht9]; exact hP9, hD9⟩, hS.F ht9⟩) hS.2.2 dX4_wall_21
  · refine lv_iload_n hx hb dX4_wall_4 rfl (lv_at hl 1 rfl) ?_
    refine lv_iconst (v := 4) hx hb dX4_wall_5 (by decide) ?_
    refine lv_icmp_ge (tgt := 19) hx hb dX4_wall_6 (by decide) (fun c_6 => ?_) (fun c_6 => ?_)
    · refine lv_bipush (v := (-101)) hx hb dX4_wall_19 (by decide) ?_
      have hP9 := hP.sub (ws' := [(h0, .inr (4, [.ref pg, .int 0, .int 0, .int 0, .ref t0, .ref t1, .ref t2, .ref sv, .int 0])), (t0, .inr (2, [.int 0, .int 0, .int 0, .ref e0]))]) [0, 1] rfl
      have hD9 := hD.sub (ws' := [(h0, .inr (4, [.ref pg, .int 0, .int 0, .int 0, .ref t0, .ref t1, .ref t2, .ref sv, .int 0])), (t0, .inr (2, [.int 0, .int 0, .int 0, .ref e0]))]) [0, 1] (by decide +kernel) rfl
      exact W.iret (v := (-101)) hx hb hr (fun t9 ht9 hW9 => ⟨⟨(-101), [(h0, .inr (4, [.ref pg, .int 0, .int 0, .int 0, .ref t0, .ref t1, .ref t2, .ref sv, .int 0])), (t0, .inr (2, [.int 0, .int 0, .int 0, .ref e0]))], rfl, ⟨rfl, rfl⟩, by rw [ht9]; exact hP9, hD9⟩, hS.F ht9⟩) hS.2.2 dX4_wall_21
    · refine lv_aload_n hx hb dX4_wall_9 rfl (lv_at hl 0 rfl) ?_
      refine va_get (D := D) (ci := 4) (v := .ref t0) (C := RX4) (T := TX4) (N := 9) hx hb hts hw_X4 hown hK hP 0 rfl rfl 4 (by decide) f_16 (fun _ h9 => h9) rfl dX4_wall_10 ?_
      refine va_get (D := D) (ci := 2) (v := .int 0) (C := RX2) (T := TX2) (N := 4) hx hb hts hw_X2 hown hK hP 1 rfl rfl 0 (by decide) f_52 (fun _ h9 => h9) rfl dX4_wall_13 ?_
      refine lv_if_ne (tgt := 22) hx hb dX4_wall_16 (by decide) (fun c_16 => ?_) (fun c_16 => ?_)
      · exact absurd c_16 (by decide)
      · refine lv_bipush (v := (-101)) hx hb dX4_wall_19 (by decide) ?_
        have hP9 := hP.sub (ws' := [(h0, .inr (4, [.ref pg, .int 0, .int 0, .int 0, .ref t0, .ref t1, .ref t2, .ref sv, .int 0])), (t0, .inr (2, [.int 0, .int 0, .int 0, .ref e0]))]) [0, 1] rfl
        have hD9 := hD.sub (ws' := [(h0, .inr (4, [.ref pg, .int 0, .int 0, .int 0, .ref t0, .ref t1, .ref t2, .ref sv, .int 0])), (t0, .inr (2, [.int 0, .int 0, .int 0, .ref e0]))]) [0, 1] (by decide +kernel) rfl
        exact W.iret (v := (-101)) hx hb hr (fun t9 ht9 hW9 => ⟨⟨(-101), [(h0, .inr (4, [.ref pg, .int 0, .int 0, .int 0, .ref t0, .ref t1, .ref t2, .ref sv, .int 0])), (t0, .inr (2, [.int 0, .int 0, .int 0, .ref e0]))], rfl, ⟨rfl, rfl⟩, by rw [ht9]; exact hP9, hD9⟩, hS.F ht9⟩) hS.2.2 dX4_wall_21
def q_X4_ways (cy : Nat → ClassId) (h0 : Nat) (pg : Nat) (t0 : Nat) (t1 : Nat) (t2 : Nat) (sv : Nat) (e0 : Nat) (w : Int32) : Int32 → va_W → Prop := fun (r : Int32) (u : va_W) => u = [(h0, .inr (4, [.ref pg, .int 0, .int 0, .int 0, .ref t0, .ref t1, .ref t2, .ref sv, .int 0])), (t0, .inr (2, [.int 0, .int 0, .int 0, .ref e0]))] ∧ r = (if w < 0 ∨ ¬ w ≤ 1 then -102 else -103)
set_option maxHeartbeats 4000000 in
set_option maxRecDepth 100000 in
theorem c_X4_ways (l : Launch) (D : va_G) (cy : Nat → ClassId) (zz : Nat) (h0 : Nat) (pg : Nat) (t0 : Nat) (t1 : Nat) (t2 : Nat) (sv : Nat) (e0 : Nat) (w : Int32) : Met l yX4_ways wsX4_ways ({ frames := 0, cells := 0, slots := 0, locals := 0 } : Room) (va_Pc [.ref h0, .int w] (cpre D cy [(h0, .inr (4, [.ref pg, .int 0, .int 0, .int 0, .ref t0, .ref t1, .ref t2, .ref sv, .int 0])), (t0, .inr (2, [.int 0, .int 0, .int 0, .ref e0]))] zz)) (va_Qi (q_X4_ways cy h0 pg t0 t1 t2 sv e0 w) (cpost D (va_A [(h0, .inr (4, [.ref pg, .int 0, .int 0, .int 0, .ref t0, .ref t1, .ref t2, .ref sv, .int 0])), (t0, .inr (2, [.int 0, .int 0, .int 0, .ref e0]))] zz)) (va_A [(h0, .inr (4, [.ref pg, .int 0, .int 0, .int 0, .ref t0, .ref t1, .ref t2, .ref sv, .int 0])), (t0, .inr (2, [.int 0, .int 0, .int 0, .ref e0]))] zz)) 0 0 (va_A [(h0, .inr (4, [.ref pg, .int 0, .int 0, .int 0, .ref t0, .ref t1, .ref t2, .ref sv, .int 0])), (t0, .inr (2, [.int 0, .int 0, .int 0, .ref e0]))] zz) := by
  refine Met.ofW (cc := cX4_ways) (maxL := 2) (ret := (some .int)) (by decide) rfl ?_
  intro p e s m args below meth c s₁ B hml hv
  obtain ⟨rfl, hsz, hP, hD0, hX⟩ := hv
  have hx := B.exec
  have hb := B.bytes
  have hr := B.returns
  have hts := atoms_spec (ws := wsX4_ways) B.pre
  have hown : s.vm.findClass RX4 = some m.cls := findClass_of_methodNamed B.named
  have hlocks := B.notSynchronized
  subst hsz
  have hD := hD0.self (sz := s.heap.size)
  generalize hAe : va_A [(h0, .inr (4, [.ref pg, .int 0, .int 0, .int 0, .ref t0, .ref t1, .ref t2, .ref sv, .int 0])), (t0, .inr (2, [.int 0, .int 0, .int 0, .ref e0]))] s.heap.size = A at hD hX ⊢
  have hA : ∀ q : Nat, s.heap.size ≤ q → A q := fun q h => by rw [← hAe]; exact Or.inr h
  obtain ⟨H, hH⟩ : ∃ H : Heap, H = s.heap := ⟨_, rfl⟩
  have hS : va_S A s.heap H [] := hH ▸ va_S.rf
  have hK := hX.1
  have hP : va_P D vwCl [(h0, .inr (4, [.ref pg, .int 0, .int 0, .int 0, .ref t0, .ref t1, .ref t2, .ref sv, .int 0])), (t0, .inr (2, [.int 0, .int 0, .int 0, .ref e0]))] H := hH ▸ hP
  rw [← hH]
  have hw_X2 : ∀ w ∈ wsX20, w ∈ wsX4_ways := by decide +kernel
  have hw_X4 : ∀ w ∈ wsX40, w ∈ wsX4_ways := by decide +kernel
  have f_16 := hts (.fieldLink RX4 16 "CubeTower" "now" "LCubeTower$Tower;") (by decide +kernel)
  have f_52 := hts (.fieldLink RX4 52 "CubeTower$Tower" "size" "I") (by decide +kernel)
  have hl := lv_entry ([.ref h0, .int w]) (n := 2) (Nat.le_of_ble_eq_true rfl)
  rw [lg_entry_eq]
  generalize (lg_sl ([.ref h0, .int w]) ++ List.replicate (2 - (lg_sl ([.ref h0, .int w])).length) Slot.unset).toArray = ls at hl ⊢
  have hl : lv_has ls 2 [(0, .ref h0), (1, .int w)] := hl
  refine lv_iload_n hx hb dX4_ways_0 rfl (lv_at hl 1 rfl) ?_
  refine lv_if_lt (tgt := 9) hx hb dX4_ways_1 (by decide) (fun c_1 => ?_) (fun c_1 => ?_)
  · refine lv_bipush (v := (-102)) hx hb dX4_ways_9 (by decide) ?_
    have hP9 := hP.sub (ws' := [(h0, .inr (4, [.ref pg, .int 0, .int 0, .int 0, .ref t0, .ref t1, .ref t2, .ref sv, .int 0])), (t0, .inr (2, [.int 0, .int 0, .int 0, .ref e0]))]) [0, 1] rfl
    have hD9 := hD.sub (ws' := [(h0, .inr (4, [.ref pg, .int 0, .int 0, .int 0, .ref t0, .ref t1, .ref t2, .ref sv, .int 0])), (t0, .inr (2, [.int 0, .int 0, .int 0, .ref e0]))]) [0, 1] (by decide +kernel) rfl
    exact W.iret (v := (-102)) hx hb hr (fun t9 ht9 hW9 => ⟨⟨(-102), [(h0, .inr (4, [.ref pg, .int 0, .int 0, .int 0, .ref t0, .ref t1, .ref t2, .ref sv, .int 0])), (t0, .inr (2, [.int 0, .int 0, .int 0, .ref e0]))], rfl, ⟨rfl, (if_pos (Or.inl c_1)).symm⟩, by rw [ht9]; exact hP9, hD9⟩, hS.F ht9⟩) hS.2.2 dX4_ways_11
  · refine lv_iload_n hx hb dX4_ways_4 rfl (lv_at hl 1 rfl) ?_
    refine lv_iconst (v := 1) hx hb dX4_ways_5 (by decide) ?_
    refine lv_icmp_le (tgt := 12) hx hb dX4_ways_6 (by decide) (fun c_6 => ?_) (fun c_6 => ?_)
    · refine lv_aload_n hx hb dX4_ways_12 rfl (lv_at hl 0 rfl) ?_
      refine va_get (D := D) (ci := 4) (v := .ref t0) (C := RX4) (T := TX4) (N := 9) hx hb hts hw_X4 hown hK hP 0 rfl rfl 4 (by decide) f_16 (fun _ h9 => h9) rfl dX4_ways_13 ?_
      refine va_get (D := D) (ci := 2) (v := .int 0) (C := RX2) (T := TX2) (N := 4) hx hb hts hw_X2 hown hK hP 1 rfl rfl 0 (by decide) f_52 (fun _ h9 => h9) rfl dX4_ways_16 ?_
      refine lv_if_ne (tgt := 25) hx hb dX4_ways_19 (by decide) (fun c_19 => ?_) (fun c_19 => ?_)
      · exact absurd c_19 (by decide)
      · refine lv_bipush (v := (-103)) hx hb dX4_ways_22 (by decide) ?_
        have hP9 := hP.sub (ws' := [(h0, .inr (4, [.ref pg, .int 0, .int 0, .int 0, .ref t0, .ref t1, .ref t2, .ref sv, .int 0])), (t0, .inr (2, [.int 0, .int 0, .int 0, .ref e0]))]) [0, 1] rfl
        have hD9 := hD.sub (ws' := [(h0, .inr (4, [.ref pg, .int 0, .int 0, .int 0, .ref t0, .ref t1, .ref t2, .ref sv, .int 0])), (t0, .inr (2, [.int 0, .int 0, .int 0, .ref e0]))]) [0, 1] (by decide +kernel) rfl
        exact W.iret (v := (-103)) hx hb hr (fun t9 ht9 hW9 => ⟨⟨(-103), [(h0, .inr (4, [.ref pg, .int 0, .int 0, .int 0, .ref t0, .ref t1, .ref t2, .ref sv, .int 0])), (t0, .inr (2, [.int 0, .int 0, .int 0, .ref e0]))], rfl, ⟨rfl, (if_neg (fun h => h.elim c_1 (fun q => q c_6))).symm⟩, by rw [ht9]; exact hP9, hD9⟩, hS.F ht9⟩) hS.2.2 dX4_ways_24
    · refine lv_bipush (v := (-102)) hx hb dX4_ways_9 (by decide) ?_
      have hP9 := hP.sub (ws' := [(h0, .inr (4, [.ref pg, .int 0, .int 0, .int 0, .ref t0, .ref t1, .ref t2, .ref sv, .int 0])), (t0, .inr (2, [.int 0, .int 0, .int 0, .ref e0]))]) [0, 1] rfl
      have hD9 := hD.sub (ws' := [(h0, .inr (4, [.ref pg, .int 0, .int 0, .int 0, .ref t0, .ref t1, .ref t2, .ref sv, .int 0])), (t0, .inr (2, [.int 0, .int 0, .int 0, .ref e0]))]) [0, 1] (by decide +kernel) rfl
      exact W.iret (v := (-102)) hx hb hr (fun t9 ht9 hW9 => ⟨⟨(-102), [(h0, .inr (4, [.ref pg, .int 0, .int 0, .int 0, .ref t0, .ref t1, .ref t2, .ref sv, .int 0])), (t0, .inr (2, [.int 0, .int 0, .int 0, .ref e0]))], rfl, ⟨rfl, (if_pos (Or.inr c_6)).symm⟩, by rw [ht9]; exact hP9, hD9⟩, hS.F ht9⟩) hS.2.2 dX4_ways_11
def q_X4_turning (cy : Nat → ClassId) (h0 : Nat) (pg : Nat) (t0 : Nat) (t1 : Nat) (t2 : Nat) (sv : Nat) (e0 : Nat) (w : Int32) : Int32 → va_W → Prop := fun (r : Int32) (u : va_W) => u = [(h0, .inr (4, [.ref pg, .int 0, .int 0, .int 0, .ref t0, .ref t1, .ref t2, .ref sv, .int 0])), (t0, .inr (2, [.int 0, .int 0, .int 0, .ref e0]))] ∧ r = (if w < 0 ∨ ¬ w ≤ 1 then -102 else -103)
set_option maxHeartbeats 4000000 in
set_option maxRecDepth 100000 in
theorem c_X4_turning (l : Launch) (D : va_G) (cy : Nat → ClassId) (zz : Nat) (h0 : Nat) (pg : Nat) (t0 : Nat) (t1 : Nat) (t2 : Nat) (sv : Nat) (e0 : Nat) (w : Int32) : Met l yX4_turning wsX4_turning ({ frames := 0, cells := 0, slots := 0, locals := 0 } : Room) (va_Pc [.ref h0, .int w] (cpre D cy [(h0, .inr (4, [.ref pg, .int 0, .int 0, .int 0, .ref t0, .ref t1, .ref t2, .ref sv, .int 0])), (t0, .inr (2, [.int 0, .int 0, .int 0, .ref e0]))] zz)) (va_Qi (q_X4_turning cy h0 pg t0 t1 t2 sv e0 w) (cpost D (va_A [(h0, .inr (4, [.ref pg, .int 0, .int 0, .int 0, .ref t0, .ref t1, .ref t2, .ref sv, .int 0])), (t0, .inr (2, [.int 0, .int 0, .int 0, .ref e0]))] zz)) (va_A [(h0, .inr (4, [.ref pg, .int 0, .int 0, .int 0, .ref t0, .ref t1, .ref t2, .ref sv, .int 0])), (t0, .inr (2, [.int 0, .int 0, .int 0, .ref e0]))] zz)) 0 0 (va_A [(h0, .inr (4, [.ref pg, .int 0, .int 0, .int 0, .ref t0, .ref t1, .ref t2, .ref sv, .int 0])), (t0, .inr (2, [.int 0, .int 0, .int 0, .ref e0]))] zz) := by
  refine Met.ofW (cc := cX4_turning) (maxL := 2) (ret := (some .int)) (by decide) rfl ?_
  intro p e s m args below meth c s₁ B hml hv
  obtain ⟨rfl, hsz, hP, hD0, hX⟩ := hv
  have hx := B.exec
  have hb := B.bytes
  have hr := B.returns
  have hts := atoms_spec (ws := wsX4_turning) B.pre
  have hown : s.vm.findClass RX4 = some m.cls := findClass_of_methodNamed B.named
  have hlocks := B.notSynchronized
  subst hsz
  have hD := hD0.self (sz := s.heap.size)
  generalize hAe : va_A [(h0, .inr (4, [.ref pg, .int 0, .int 0, .int 0, .ref t0, .ref t1, .ref t2, .ref sv, .int 0])), (t0, .inr (2, [.int 0, .int 0, .int 0, .ref e0]))] s.heap.size = A at hD hX ⊢
  have hA : ∀ q : Nat, s.heap.size ≤ q → A q := fun q h => by rw [← hAe]; exact Or.inr h
  obtain ⟨H, hH⟩ : ∃ H : Heap, H = s.heap := ⟨_, rfl⟩
  have hS : va_S A s.heap H [] := hH ▸ va_S.rf
  have hK := hX.1
  have hP : va_P D vwCl [(h0, .inr (4, [.ref pg, .int 0, .int 0, .int 0, .ref t0, .ref t1, .ref t2, .ref sv, .int 0])), (t0, .inr (2, [.int 0, .int 0, .int 0, .ref e0]))] H := hH ▸ hP
  rw [← hH]
  have hw_X2 : ∀ w ∈ wsX20, w ∈ wsX4_turning := by decide +kernel
  have hw_X4 : ∀ w ∈ wsX40, w ∈ wsX4_turning := by decide +kernel
  have f_16 := hts (.fieldLink RX4 16 "CubeTower" "now" "LCubeTower$Tower;") (by decide +kernel)
  have f_52 := hts (.fieldLink RX4 52 "CubeTower$Tower" "size" "I") (by decide +kernel)
  have hl := lv_entry ([.ref h0, .int w]) (n := 2) (Nat.le_of_ble_eq_true rfl)
  rw [lg_entry_eq]
  generalize (lg_sl ([.ref h0, .int w]) ++ List.replicate (2 - (lg_sl ([.ref h0, .int w])).length) Slot.unset).toArray = ls at hl ⊢
  have hl : lv_has ls 2 [(0, .ref h0), (1, .int w)] := hl
  refine lv_iload_n hx hb dX4_turning_0 rfl (lv_at hl 1 rfl) ?_
  refine lv_if_lt (tgt := 9) hx hb dX4_turning_1 (by decide) (fun c_1 => ?_) (fun c_1 => ?_)
  · refine lv_bipush (v := (-102)) hx hb dX4_turning_9 (by decide) ?_
    have hP9 := hP.sub (ws' := [(h0, .inr (4, [.ref pg, .int 0, .int 0, .int 0, .ref t0, .ref t1, .ref t2, .ref sv, .int 0])), (t0, .inr (2, [.int 0, .int 0, .int 0, .ref e0]))]) [0, 1] rfl
    have hD9 := hD.sub (ws' := [(h0, .inr (4, [.ref pg, .int 0, .int 0, .int 0, .ref t0, .ref t1, .ref t2, .ref sv, .int 0])), (t0, .inr (2, [.int 0, .int 0, .int 0, .ref e0]))]) [0, 1] (by decide +kernel) rfl
    exact W.iret (v := (-102)) hx hb hr (fun t9 ht9 hW9 => ⟨⟨(-102), [(h0, .inr (4, [.ref pg, .int 0, .int 0, .int 0, .ref t0, .ref t1, .ref t2, .ref sv, .int 0])), (t0, .inr (2, [.int 0, .int 0, .int 0, .ref e0]))], rfl, ⟨rfl, (if_pos (Or.inl c_1)).symm⟩, by rw [ht9]; exact hP9, hD9⟩, hS.F ht9⟩) hS.2.2 dX4_turning_11
  · refine lv_iload_n hx hb dX4_turning_4 rfl (lv_at hl 1 rfl) ?_
    refine lv_iconst (v := 1) hx hb dX4_turning_5 (by decide) ?_
    refine lv_icmp_le (tgt := 12) hx hb dX4_turning_6 (by decide) (fun c_6 => ?_) (fun c_6 => ?_)
    · refine lv_aload_n hx hb dX4_turning_12 rfl (lv_at hl 0 rfl) ?_
      refine va_get (D := D) (ci := 4) (v := .ref t0) (C := RX4) (T := TX4) (N := 9) hx hb hts hw_X4 hown hK hP 0 rfl rfl 4 (by decide) f_16 (fun _ h9 => h9) rfl dX4_turning_13 ?_
      refine va_get (D := D) (ci := 2) (v := .int 0) (C := RX2) (T := TX2) (N := 4) hx hb hts hw_X2 hown hK hP 1 rfl rfl 0 (by decide) f_52 (fun _ h9 => h9) rfl dX4_turning_16 ?_
      refine lv_if_ne (tgt := 25) hx hb dX4_turning_19 (by decide) (fun c_19 => ?_) (fun c_19 => ?_)
      · exact absurd c_19 (by decide)
      · refine lv_bipush (v := (-103)) hx hb dX4_turning_22 (by decide) ?_
        have hP9 := hP.sub (ws' := [(h0, .inr (4, [.ref pg, .int 0, .int 0, .int 0, .ref t0, .ref t1, .ref t2, .ref sv, .int 0])), (t0, .inr (2, [.int 0, .int 0, .int 0, .ref e0]))]) [0, 1] rfl
        have hD9 := hD.sub (ws' := [(h0, .inr (4, [.ref pg, .int 0, .int 0, .int 0, .ref t0, .ref t1, .ref t2, .ref sv, .int 0])), (t0, .inr (2, [.int 0, .int 0, .int 0, .ref e0]))]) [0, 1] (by decide +kernel) rfl
        exact W.iret (v := (-103)) hx hb hr (fun t9 ht9 hW9 => ⟨⟨(-103), [(h0, .inr (4, [.ref pg, .int 0, .int 0, .int 0, .ref t0, .ref t1, .ref t2, .ref sv, .int 0])), (t0, .inr (2, [.int 0, .int 0, .int 0, .ref e0]))], rfl, ⟨rfl, (if_neg (fun h => h.elim c_1 (fun q => q c_6))).symm⟩, by rw [ht9]; exact hP9, hD9⟩, hS.F ht9⟩) hS.2.2 dX4_turning_24
    · refine lv_bipush (v := (-102)) hx hb dX4_turning_9 (by decide) ?_
      have hP9 := hP.sub (ws' := [(h0, .inr (4, [.ref pg, .int 0, .int 0, .int 0, .ref t0, .ref t1, .ref t2, .ref sv, .int 0])), (t0, .inr (2, [.int 0, .int 0, .int 0, .ref e0]))]) [0, 1] rfl
      have hD9 := hD.sub (ws' := [(h0, .inr (4, [.ref pg, .int 0, .int 0, .int 0, .ref t0, .ref t1, .ref t2, .ref sv, .int 0])), (t0, .inr (2, [.int 0, .int 0, .int 0, .ref e0]))]) [0, 1] (by decide +kernel) rfl
      exact W.iret (v := (-102)) hx hb hr (fun t9 ht9 hW9 => ⟨⟨(-102), [(h0, .inr (4, [.ref pg, .int 0, .int 0, .int 0, .ref t0, .ref t1, .ref t2, .ref sv, .int 0])), (t0, .inr (2, [.int 0, .int 0, .int 0, .ref e0]))], rfl, ⟨rfl, (if_pos (Or.inr c_6)).symm⟩, by rw [ht9]; exact hP9, hD9⟩, hS.F ht9⟩) hS.2.2 dX4_turning_11
def q_X4_odds (cy : Nat → ClassId) (h0 : Nat) (pg : Nat) (t0 : Nat) (t1 : Nat) (t2 : Nat) (sv : Nat) (e0 : Nat) (w : Int32) : Int32 → va_W → Prop := fun (r : Int32) (u : va_W) => u = [(h0, .inr (4, [.ref pg, .int 0, .int 0, .int 0, .ref t0, .ref t1, .ref t2, .ref sv, .int 0])), (t0, .inr (2, [.int 0, .int 0, .int 0, .ref e0]))] ∧ r = (if w < 0 ∨ ¬ w ≤ 1 then -102 else -103)
set_option maxHeartbeats 4000000 in
set_option maxRecDepth 100000 in
theorem c_X4_odds (l : Launch) (D : va_G) (cy : Nat → ClassId) (zz : Nat) (h0 : Nat) (pg : Nat) (t0 : Nat) (t1 : Nat) (t2 : Nat) (sv : Nat) (e0 : Nat) (w : Int32) : Met l yX4_odds wsX4_odds ({ frames := 0, cells := 0, slots := 0, locals := 0 } : Room) (va_Pc [.ref h0, .int w] (cpre D cy [(h0, .inr (4, [.ref pg, .int 0, .int 0, .int 0, .ref t0, .ref t1, .ref t2, .ref sv, .int 0])), (t0, .inr (2, [.int 0, .int 0, .int 0, .ref e0]))] zz)) (va_Qi (q_X4_odds cy h0 pg t0 t1 t2 sv e0 w) (cpost D (va_A [(h0, .inr (4, [.ref pg, .int 0, .int 0, .int 0, .ref t0, .ref t1, .ref t2, .ref sv, .int 0])), (t0, .inr (2, [.int 0, .int 0, .int 0, .ref e0]))] zz)) (va_A [(h0, .inr (4, [.ref pg, .int 0, .int 0, .int 0, .ref t0, .ref t1, .ref t2, .ref sv, .int 0])), (t0, .inr (2, [.int 0, .int 0, .int 0, .ref e0]))] zz)) 0 0 (va_A [(h0, .inr (4, [.ref pg, .int 0, .int 0, .int 0, .ref t0, .ref t1, .ref t2, .ref sv, .int 0])), (t0, .inr (2, [.int 0, .int 0, .int 0, .ref e0]))] zz) := by
  refine Met.ofW (cc := cX4_odds) (maxL := 5) (ret := (some .int)) (by decide) rfl ?_
  intro p e s m args below meth c s₁ B hml hv
  obtain ⟨rfl, hsz, hP, hD0, hX⟩ := hv
  have hx := B.exec
  have hb := B.bytes
  have hr := B.returns
  have hts := atoms_spec (ws := wsX4_odds) B.pre
  have hown : s.vm.findClass RX4 = some m.cls := findClass_of_methodNamed B.named
  have hlocks := B.notSynchronized
  subst hsz
  have hD := hD0.self (sz := s.heap.size)
  generalize hAe : va_A [(h0, .inr (4, [.ref pg, .int 0, .int 0, .int 0, .ref t0, .ref t1, .ref t2, .ref sv, .int 0])), (t0, .inr (2, [.int 0, .int 0, .int 0, .ref e0]))] s.heap.size = A at hD hX ⊢
  have hA : ∀ q : Nat, s.heap.size ≤ q → A q := fun q h => by rw [← hAe]; exact Or.inr h
  obtain ⟨H, hH⟩ : ∃ H : Heap, H = s.heap := ⟨_, rfl⟩
  have hS : va_S A s.heap H [] := hH ▸ va_S.rf
  have hK := hX.1
  have hP : va_P D vwCl [(h0, .inr (4, [.ref pg, .int 0, .int 0, .int 0, .ref t0, .ref t1, .ref t2, .ref sv, .int 0])), (t0, .inr (2, [.int 0, .int 0, .int 0, .ref e0]))] H := hH ▸ hP
  rw [← hH]
  have hw_X2 : ∀ w ∈ wsX20, w ∈ wsX4_odds := by decide +kernel
  have hw_X4 : ∀ w ∈ wsX40, w ∈ wsX4_odds := by decide +kernel
  have f_16 := hts (.fieldLink RX4 16 "CubeTower" "now" "LCubeTower$Tower;") (by decide +kernel)
  have f_52 := hts (.fieldLink RX4 52 "CubeTower$Tower" "size" "I") (by decide +kernel)
  have hl := lv_entry ([.ref h0, .int w]) (n := 5) (Nat.le_of_ble_eq_true rfl)
  rw [lg_entry_eq]
  generalize (lg_sl ([.ref h0, .int w]) ++ List.replicate (5 - (lg_sl ([.ref h0, .int w])).length) Slot.unset).toArray = ls at hl ⊢
  have hl : lv_has ls 5 [(0, .ref h0), (1, .int w)] := hl
  refine lv_iload_n hx hb dX4_odds_0 rfl (lv_at hl 1 rfl) ?_
  refine lv_if_lt (tgt := 9) hx hb dX4_odds_1 (by decide) (fun c_1 => ?_) (fun c_1 => ?_)
  · refine lv_bipush (v := (-102)) hx hb dX4_odds_9 (by decide) ?_
    have hP9 := hP.sub (ws' := [(h0, .inr (4, [.ref pg, .int 0, .int 0, .int 0, .ref t0, .ref t1, .ref t2, .ref sv, .int 0])), (t0, .inr (2, [.int 0, .int 0, .int 0, .ref e0]))]) [0, 1] rfl
    have hD9 := hD.sub (ws' := [(h0, .inr (4, [.ref pg, .int 0, .int 0, .int 0, .ref t0, .ref t1, .ref t2, .ref sv, .int 0])), (t0, .inr (2, [.int 0, .int 0, .int 0, .ref e0]))]) [0, 1] (by decide +kernel) rfl
    exact W.iret (v := (-102)) hx hb hr (fun t9 ht9 hW9 => ⟨⟨(-102), [(h0, .inr (4, [.ref pg, .int 0, .int 0, .int 0, .ref t0, .ref t1, .ref t2, .ref sv, .int 0])), (t0, .inr (2, [.int 0, .int 0, .int 0, .ref e0]))], rfl, ⟨rfl, (if_pos (Or.inl c_1)).symm⟩, by rw [ht9]; exact hP9, hD9⟩, hS.F ht9⟩) hS.2.2 dX4_odds_11
  · refine lv_iload_n hx hb dX4_odds_4 rfl (lv_at hl 1 rfl) ?_
    refine lv_iconst (v := 1) hx hb dX4_odds_5 (by decide) ?_
    refine lv_icmp_le (tgt := 12) hx hb dX4_odds_6 (by decide) (fun c_6 => ?_) (fun c_6 => ?_)
    · refine lv_aload_n hx hb dX4_odds_12 rfl (lv_at hl 0 rfl) ?_
      refine va_get (D := D) (ci := 4) (v := .ref t0) (C := RX4) (T := TX4) (N := 9) hx hb hts hw_X4 hown hK hP 0 rfl rfl 4 (by decide) f_16 (fun _ h9 => h9) rfl dX4_odds_13 ?_
      refine va_get (D := D) (ci := 2) (v := .int 0) (C := RX2) (T := TX2) (N := 4) hx hb hts hw_X2 hown hK hP 1 rfl rfl 0 (by decide) f_52 (fun _ h9 => h9) rfl dX4_odds_16 ?_
      refine lv_if_ne (tgt := 25) hx hb dX4_odds_19 (by decide) (fun c_19 => ?_) (fun c_19 => ?_)
      · exact absurd c_19 (by decide)
      · refine lv_bipush (v := (-103)) hx hb dX4_odds_22 (by decide) ?_
        have hP9 := hP.sub (ws' := [(h0, .inr (4, [.ref pg, .int 0, .int 0, .int 0, .ref t0, .ref t1, .ref t2, .ref sv, .int 0])), (t0, .inr (2, [.int 0, .int 0, .int 0, .ref e0]))]) [0, 1] rfl
        have hD9 := hD.sub (ws' := [(h0, .inr (4, [.ref pg, .int 0, .int 0, .int 0, .ref t0, .ref t1, .ref t2, .ref sv, .int 0])), (t0, .inr (2, [.int 0, .int 0, .int 0, .ref e0]))]) [0, 1] (by decide +kernel) rfl
        exact W.iret (v := (-103)) hx hb hr (fun t9 ht9 hW9 => ⟨⟨(-103), [(h0, .inr (4, [.ref pg, .int 0, .int 0, .int 0, .ref t0, .ref t1, .ref t2, .ref sv, .int 0])), (t0, .inr (2, [.int 0, .int 0, .int 0, .ref e0]))], rfl, ⟨rfl, (if_neg (fun h => h.elim c_1 (fun q => q c_6))).symm⟩, by rw [ht9]; exact hP9, hD9⟩, hS.F ht9⟩) hS.2.2 dX4_odds_24
    · refine lv_bipush (v := (-102)) hx hb dX4_odds_9 (by decide) ?_
      have hP9 := hP.sub (ws' := [(h0, .inr (4, [.ref pg, .int 0, .int 0, .int 0, .ref t0, .ref t1, .ref t2, .ref sv, .int 0])), (t0, .inr (2, [.int 0, .int 0, .int 0, .ref e0]))]) [0, 1] rfl
      have hD9 := hD.sub (ws' := [(h0, .inr (4, [.ref pg, .int 0, .int 0, .int 0, .ref t0, .ref t1, .ref t2, .ref sv, .int 0])), (t0, .inr (2, [.int 0, .int 0, .int 0, .ref e0]))]) [0, 1] (by decide +kernel) rfl
      exact W.iret (v := (-102)) hx hb hr (fun t9 ht9 hW9 => ⟨⟨(-102), [(h0, .inr (4, [.ref pg, .int 0, .int 0, .int 0, .ref t0, .ref t1, .ref t2, .ref sv, .int 0])), (t0, .inr (2, [.int 0, .int 0, .int 0, .ref e0]))], rfl, ⟨rfl, (if_pos (Or.inr c_6)).symm⟩, by rw [ht9]; exact hP9, hD9⟩, hS.F ht9⟩) hS.2.2 dX4_odds_11
def q_X4_repaint (cy : Nat → ClassId) (h0 : Nat) (pg : Nat) (t0 : Nat) (t1 : Nat) (t2 : Nat) (sv : Nat) (e0 : Nat) : Int32 → va_W → Prop := fun (r : Int32) (u : va_W) => u = [(h0, .inr (4, [.ref pg, .int 0, .int 0, .int 0, .ref t0, .ref t1, .ref t2, .ref sv, .int 0])), (t0, .inr (2, [.int 0, .int 0, .int 0, .ref e0]))] ∧ r = -103
set_option maxHeartbeats 4000000 in
set_option maxRecDepth 100000 in
theorem c_X4_repaint (l : Launch) (D : va_G) (cy : Nat → ClassId) (zz : Nat) (h0 : Nat) (pg : Nat) (t0 : Nat) (t1 : Nat) (t2 : Nat) (sv : Nat) (e0 : Nat) : Met l yX4_repaint wsX4_repaint ({ frames := 0, cells := 0, slots := 0, locals := 0 } : Room) (va_Pc [.ref h0] (cpre D cy [(h0, .inr (4, [.ref pg, .int 0, .int 0, .int 0, .ref t0, .ref t1, .ref t2, .ref sv, .int 0])), (t0, .inr (2, [.int 0, .int 0, .int 0, .ref e0]))] zz)) (va_Qi (q_X4_repaint cy h0 pg t0 t1 t2 sv e0) (cpost D (va_A [(h0, .inr (4, [.ref pg, .int 0, .int 0, .int 0, .ref t0, .ref t1, .ref t2, .ref sv, .int 0])), (t0, .inr (2, [.int 0, .int 0, .int 0, .ref e0]))] zz)) (va_A [(h0, .inr (4, [.ref pg, .int 0, .int 0, .int 0, .ref t0, .ref t1, .ref t2, .ref sv, .int 0])), (t0, .inr (2, [.int 0, .int 0, .int 0, .ref e0]))] zz)) 0 0 (va_A [(h0, .inr (4, [.ref pg, .int 0, .int 0, .int 0, .ref t0, .ref t1, .ref t2, .ref sv, .int 0])), (t0, .inr (2, [.int 0, .int 0, .int 0, .ref e0]))] zz) := by
  refine Met.ofW (cc := cX4_repaint) (maxL := 1) (ret := (some .int)) (by decide) rfl ?_
  intro p e s m args below meth c s₁ B hml hv
  obtain ⟨rfl, hsz, hP, hD0, hX⟩ := hv
  have hx := B.exec
  have hb := B.bytes
  have hr := B.returns
  have hts := atoms_spec (ws := wsX4_repaint) B.pre
  have hown : s.vm.findClass RX4 = some m.cls := findClass_of_methodNamed B.named
  have hlocks := B.notSynchronized
  subst hsz
  have hD := hD0.self (sz := s.heap.size)
  generalize hAe : va_A [(h0, .inr (4, [.ref pg, .int 0, .int 0, .int 0, .ref t0, .ref t1, .ref t2, .ref sv, .int 0])), (t0, .inr (2, [.int 0, .int 0, .int 0, .ref e0]))] s.heap.size = A at hD hX ⊢
  have hA : ∀ q : Nat, s.heap.size ≤ q → A q := fun q h => by rw [← hAe]; exact Or.inr h
  obtain ⟨H, hH⟩ : ∃ H : Heap, H = s.heap := ⟨_, rfl⟩
  have hS : va_S A s.heap H [] := hH ▸ va_S.rf
  have hK := hX.1
  have hP : va_P D vwCl [(h0, .inr (4, [.ref pg, .int 0, .int 0, .int 0, .ref t0, .ref t1, .ref t2, .ref sv, .int 0])), (t0, .inr (2, [.int 0, .int 0, .int 0, .ref e0]))] H := hH ▸ hP
  rw [← hH]
  have hw_X2 : ∀ w ∈ wsX20, w ∈ wsX4_repaint := by decide +kernel
  have hw_X4 : ∀ w ∈ wsX40, w ∈ wsX4_repaint := by decide +kernel
  have f_16 := hts (.fieldLink RX4 16 "CubeTower" "now" "LCubeTower$Tower;") (by decide +kernel)
  have f_52 := hts (.fieldLink RX4 52 "CubeTower$Tower" "size" "I") (by decide +kernel)
  have hl := lv_entry ([.ref h0]) (n := 1) (Nat.le_of_ble_eq_true rfl)
  rw [lg_entry_eq]
  generalize (lg_sl ([.ref h0]) ++ List.replicate (1 - (lg_sl ([.ref h0])).length) Slot.unset).toArray = ls at hl ⊢
  have hl : lv_has ls 1 [(0, .ref h0)] := hl
  refine lv_aload_n hx hb dX4_repaint_0 rfl (lv_at hl 0 rfl) ?_
  refine va_get (D := D) (ci := 4) (v := .ref t0) (C := RX4) (T := TX4) (N := 9) hx hb hts hw_X4 hown hK hP 0 rfl rfl 4 (by decide) f_16 (fun _ h9 => h9) rfl dX4_repaint_1 ?_
  refine va_get (D := D) (ci := 2) (v := .int 0) (C := RX2) (T := TX2) (N := 4) hx hb hts hw_X2 hown hK hP 1 rfl rfl 0 (by decide) f_52 (fun _ h9 => h9) rfl dX4_repaint_4 ?_
  refine lv_if_eq (tgt := 19) hx hb dX4_repaint_7 (by decide) (fun c_7 => ?_) (fun c_7 => ?_)
  · refine lv_bipush (v := (-103)) hx hb dX4_repaint_19 (by decide) ?_
    have hP9 := hP.sub (ws' := [(h0, .inr (4, [.ref pg, .int 0, .int 0, .int 0, .ref t0, .ref t1, .ref t2, .ref sv, .int 0])), (t0, .inr (2, [.int 0, .int 0, .int 0, .ref e0]))]) [0, 1] rfl
    have hD9 := hD.sub (ws' := [(h0, .inr (4, [.ref pg, .int 0, .int 0, .int 0, .ref t0, .ref t1, .ref t2, .ref sv, .int 0])), (t0, .inr (2, [.int 0, .int 0, .int 0, .ref e0]))]) [0, 1] (by decide +kernel) rfl
    exact W.iret (v := (-103)) hx hb hr (fun t9 ht9 hW9 => ⟨⟨(-103), [(h0, .inr (4, [.ref pg, .int 0, .int 0, .int 0, .ref t0, .ref t1, .ref t2, .ref sv, .int 0])), (t0, .inr (2, [.int 0, .int 0, .int 0, .ref e0]))], rfl, ⟨rfl, rfl⟩, by rw [ht9]; exact hP9, hD9⟩, hS.F ht9⟩) hS.2.2 dX4_repaint_21
  · exact absurd c_7 (by decide)
def q_X4_image (cy : Nat → ClassId) (h0 : Nat) (pg : Nat) (t0 : Nat) (t1 : Nat) (t2 : Nat) (sv : Nat) (e0 : Nat) : Int32 → va_W → Prop := fun (r : Int32) (u : va_W) => u = [(h0, .inr (4, [.ref pg, .int 0, .int 0, .int 0, .ref t0, .ref t1, .ref t2, .ref sv, .int 0])), (t0, .inr (2, [.int 0, .int 0, .int 0, .ref e0]))] ∧ r = -103
set_option maxHeartbeats 4000000 in
set_option maxRecDepth 100000 in
theorem c_X4_image (l : Launch) (D : va_G) (cy : Nat → ClassId) (zz : Nat) (h0 : Nat) (pg : Nat) (t0 : Nat) (t1 : Nat) (t2 : Nat) (sv : Nat) (e0 : Nat) : Met l yX4_image wsX4_image ({ frames := 0, cells := 0, slots := 0, locals := 0 } : Room) (va_Pc [.ref h0] (cpre D cy [(h0, .inr (4, [.ref pg, .int 0, .int 0, .int 0, .ref t0, .ref t1, .ref t2, .ref sv, .int 0])), (t0, .inr (2, [.int 0, .int 0, .int 0, .ref e0]))] zz)) (va_Qi (q_X4_image cy h0 pg t0 t1 t2 sv e0) (cpost D (va_A [(h0, .inr (4, [.ref pg, .int 0, .int 0, .int 0, .ref t0, .ref t1, .ref t2, .ref sv, .int 0])), (t0, .inr (2, [.int 0, .int 0, .int 0, .ref e0]))] zz)) (va_A [(h0, .inr (4, [.ref pg, .int 0, .int 0, .int 0, .ref t0, .ref t1, .ref t2, .ref sv, .int 0])), (t0, .inr (2, [.int 0, .int 0, .int 0, .ref e0]))] zz)) 0 0 (va_A [(h0, .inr (4, [.ref pg, .int 0, .int 0, .int 0, .ref t0, .ref t1, .ref t2, .ref sv, .int 0])), (t0, .inr (2, [.int 0, .int 0, .int 0, .ref e0]))] zz) := by
  refine Met.ofW (cc := cX4_image) (maxL := 1) (ret := (some .int)) (by decide) rfl ?_
  intro p e s m args below meth c s₁ B hml hv
  obtain ⟨rfl, hsz, hP, hD0, hX⟩ := hv
  have hx := B.exec
  have hb := B.bytes
  have hr := B.returns
  have hts := atoms_spec (ws := wsX4_image) B.pre
  have hown : s.vm.findClass RX4 = some m.cls := findClass_of_methodNamed B.named
  have hlocks := B.notSynchronized
  subst hsz
  have hD := hD0.self (sz := s.heap.size)
  generalize hAe : va_A [(h0, .inr (4, [.ref pg, .int 0, .int 0, .int 0, .ref t0, .ref t1, .ref t2, .ref sv, .int 0])), (t0, .inr (2, [.int 0, .int 0, .int 0, .ref e0]))] s.heap.size = A at hD hX ⊢
  have hA : ∀ q : Nat, s.heap.size ≤ q → A q := fun q h => by rw [← hAe]; exact Or.inr h
  obtain ⟨H, hH⟩ : ∃ H : Heap, H = s.heap := ⟨_, rfl⟩
  have hS : va_S A s.heap H [] := hH ▸ va_S.rf
  have hK := hX.1
  have hP : va_P D vwCl [(h0, .inr (4, [.ref pg, .int 0, .int 0, .int 0, .ref t0, .ref t1, .ref t2, .ref sv, .int 0])), (t0, .inr (2, [.int 0, .int 0, .int 0, .ref e0]))] H := hH ▸ hP
  rw [← hH]
  have hw_X2 : ∀ w ∈ wsX20, w ∈ wsX4_image := by decide +kernel
  have hw_X4 : ∀ w ∈ wsX40, w ∈ wsX4_image := by decide +kernel
  have f_16 := hts (.fieldLink RX4 16 "CubeTower" "now" "LCubeTower$Tower;") (by decide +kernel)
  have f_52 := hts (.fieldLink RX4 52 "CubeTower$Tower" "size" "I") (by decide +kernel)
  have hl := lv_entry ([.ref h0]) (n := 1) (Nat.le_of_ble_eq_true rfl)
  rw [lg_entry_eq]
  generalize (lg_sl ([.ref h0]) ++ List.replicate (1 - (lg_sl ([.ref h0])).length) Slot.unset).toArray = ls at hl ⊢
  have hl : lv_has ls 1 [(0, .ref h0)] := hl
  refine lv_aload_n hx hb dX4_image_0 rfl (lv_at hl 0 rfl) ?_
  refine va_get (D := D) (ci := 4) (v := .ref t0) (C := RX4) (T := TX4) (N := 9) hx hb hts hw_X4 hown hK hP 0 rfl rfl 4 (by decide) f_16 (fun _ h9 => h9) rfl dX4_image_1 ?_
  refine va_get (D := D) (ci := 2) (v := .int 0) (C := RX2) (T := TX2) (N := 4) hx hb hts hw_X2 hown hK hP 1 rfl rfl 0 (by decide) f_52 (fun _ h9 => h9) rfl dX4_image_4 ?_
  refine lv_if_ne (tgt := 13) hx hb dX4_image_7 (by decide) (fun c_7 => ?_) (fun c_7 => ?_)
  · exact absurd c_7 (by decide)
  · refine lv_bipush (v := (-103)) hx hb dX4_image_10 (by decide) ?_
    have hP9 := hP.sub (ws' := [(h0, .inr (4, [.ref pg, .int 0, .int 0, .int 0, .ref t0, .ref t1, .ref t2, .ref sv, .int 0])), (t0, .inr (2, [.int 0, .int 0, .int 0, .ref e0]))]) [0, 1] rfl
    have hD9 := hD.sub (ws' := [(h0, .inr (4, [.ref pg, .int 0, .int 0, .int 0, .ref t0, .ref t1, .ref t2, .ref sv, .int 0])), (t0, .inr (2, [.int 0, .int 0, .int 0, .ref e0]))]) [0, 1] (by decide +kernel) rfl
    exact W.iret (v := (-103)) hx hb hr (fun t9 ht9 hW9 => ⟨⟨(-103), [(h0, .inr (4, [.ref pg, .int 0, .int 0, .int 0, .ref t0, .ref t1, .ref t2, .ref sv, .int 0])), (t0, .inr (2, [.int 0, .int 0, .int 0, .ref e0]))], rfl, ⟨rfl, rfl⟩, by rw [ht9]; exact hP9, hD9⟩, hS.F ht9⟩) hS.2.2 dX4_image_12
def q_X4_restore (cy : Nat → ClassId) (h0 : Nat) (pg : Nat) (t0 : Nat) (t1 : Nat) (t2 : Nat) (sv : Nat) (e0 : Nat) : Int32 → va_W → Prop := fun (r : Int32) (u : va_W) => u = [(h0, .inr (4, [.ref pg, .int 0, .int 0, .int 0, .ref t0, .ref t1, .ref t2, .ref sv, .int 0])), (t1, .inr (2, [.int 0, .int 0, .int 0, .ref e0]))] ∧ r = -103
set_option maxHeartbeats 4000000 in
set_option maxRecDepth 100000 in
theorem c_X4_restore (l : Launch) (D : va_G) (cy : Nat → ClassId) (zz : Nat) (h0 : Nat) (pg : Nat) (t0 : Nat) (t1 : Nat) (t2 : Nat) (sv : Nat) (e0 : Nat) : Met l yX4_restore wsX4_restore ({ frames := 0, cells := 0, slots := 0, locals := 0 } : Room) (va_Pc [.ref h0] (cpre D cy [(h0, .inr (4, [.ref pg, .int 0, .int 0, .int 0, .ref t0, .ref t1, .ref t2, .ref sv, .int 0])), (t1, .inr (2, [.int 0, .int 0, .int 0, .ref e0]))] zz)) (va_Qi (q_X4_restore cy h0 pg t0 t1 t2 sv e0) (cpost D (va_A [(h0, .inr (4, [.ref pg, .int 0, .int 0, .int 0, .ref t0, .ref t1, .ref t2, .ref sv, .int 0])), (t1, .inr (2, [.int 0, .int 0, .int 0, .ref e0]))] zz)) (va_A [(h0, .inr (4, [.ref pg, .int 0, .int 0, .int 0, .ref t0, .ref t1, .ref t2, .ref sv, .int 0])), (t1, .inr (2, [.int 0, .int 0, .int 0, .ref e0]))] zz)) 0 0 (va_A [(h0, .inr (4, [.ref pg, .int 0, .int 0, .int 0, .ref t0, .ref t1, .ref t2, .ref sv, .int 0])), (t1, .inr (2, [.int 0, .int 0, .int 0, .ref e0]))] zz) := by
  refine Met.ofW (cc := cX4_restore) (maxL := 1) (ret := (some .int)) (by decide) rfl ?_
  intro p e s m args below meth c s₁ B hml hv
  obtain ⟨rfl, hsz, hP, hD0, hX⟩ := hv
  have hx := B.exec
  have hb := B.bytes
  have hr := B.returns
  have hts := atoms_spec (ws := wsX4_restore) B.pre
  have hown : s.vm.findClass RX4 = some m.cls := findClass_of_methodNamed B.named
  have hlocks := B.notSynchronized
  subst hsz
  have hD := hD0.self (sz := s.heap.size)
  generalize hAe : va_A [(h0, .inr (4, [.ref pg, .int 0, .int 0, .int 0, .ref t0, .ref t1, .ref t2, .ref sv, .int 0])), (t1, .inr (2, [.int 0, .int 0, .int 0, .ref e0]))] s.heap.size = A at hD hX ⊢
  have hA : ∀ q : Nat, s.heap.size ≤ q → A q := fun q h => by rw [← hAe]; exact Or.inr h
  obtain ⟨H, hH⟩ : ∃ H : Heap, H = s.heap := ⟨_, rfl⟩
  have hS : va_S A s.heap H [] := hH ▸ va_S.rf
  have hK := hX.1
  have hP : va_P D vwCl [(h0, .inr (4, [.ref pg, .int 0, .int 0, .int 0, .ref t0, .ref t1, .ref t2, .ref sv, .int 0])), (t1, .inr (2, [.int 0, .int 0, .int 0, .ref e0]))] H := hH ▸ hP
  rw [← hH]
  have hw_X2 : ∀ w ∈ wsX20, w ∈ wsX4_restore := by decide +kernel
  have hw_X4 : ∀ w ∈ wsX40, w ∈ wsX4_restore := by decide +kernel
  have f_20 := hts (.fieldLink RX4 20 "CubeTower" "kept" "LCubeTower$Tower;") (by decide +kernel)
  have f_52 := hts (.fieldLink RX4 52 "CubeTower$Tower" "size" "I") (by decide +kernel)
  have hl := lv_entry ([.ref h0]) (n := 1) (Nat.le_of_ble_eq_true rfl)
  rw [lg_entry_eq]
  generalize (lg_sl ([.ref h0]) ++ List.replicate (1 - (lg_sl ([.ref h0])).length) Slot.unset).toArray = ls at hl ⊢
  have hl : lv_has ls 1 [(0, .ref h0)] := hl
  refine lv_aload_n hx hb dX4_restore_0 rfl (lv_at hl 0 rfl) ?_
  refine va_get (D := D) (ci := 4) (v := .ref t1) (C := RX4) (T := TX4) (N := 9) hx hb hts hw_X4 hown hK hP 0 rfl rfl 5 (by decide) f_20 (fun _ h9 => h9) rfl dX4_restore_1 ?_
  refine va_get (D := D) (ci := 2) (v := .int 0) (C := RX2) (T := TX2) (N := 4) hx hb hts hw_X2 hown hK hP 1 rfl rfl 0 (by decide) f_52 (fun _ h9 => h9) rfl dX4_restore_4 ?_
  refine lv_if_ne (tgt := 13) hx hb dX4_restore_7 (by decide) (fun c_7 => ?_) (fun c_7 => ?_)
  · exact absurd c_7 (by decide)
  · refine lv_bipush (v := (-103)) hx hb dX4_restore_10 (by decide) ?_
    have hP9 := hP.sub (ws' := [(h0, .inr (4, [.ref pg, .int 0, .int 0, .int 0, .ref t0, .ref t1, .ref t2, .ref sv, .int 0])), (t1, .inr (2, [.int 0, .int 0, .int 0, .ref e0]))]) [0, 1] rfl
    have hD9 := hD.sub (ws' := [(h0, .inr (4, [.ref pg, .int 0, .int 0, .int 0, .ref t0, .ref t1, .ref t2, .ref sv, .int 0])), (t1, .inr (2, [.int 0, .int 0, .int 0, .ref e0]))]) [0, 1] (by decide +kernel) rfl
    exact W.iret (v := (-103)) hx hb hr (fun t9 ht9 hW9 => ⟨⟨(-103), [(h0, .inr (4, [.ref pg, .int 0, .int 0, .int 0, .ref t0, .ref t1, .ref t2, .ref sv, .int 0])), (t1, .inr (2, [.int 0, .int 0, .int 0, .ref e0]))], rfl, ⟨rfl, rfl⟩, by rw [ht9]; exact hP9, hD9⟩, hS.F ht9⟩) hS.2.2 dX4_restore_12
def q_X4_runs (cy : Nat → ClassId) (h0 : Nat) (pg : Nat) (t0 : Nat) (t1 : Nat) (t2 : Nat) (sv : Nat) (e0 : Nat) (t : Int32) (s0 : Int32) (w : Int32) : Int32 → va_W → Prop := fun (r : Int32) (u : va_W) => u = [(h0, .inr (4, [.ref pg, .int 0, .int 0, .int 0, .ref t0, .ref t1, .ref t2, .ref sv, .int 0])), (t0, .inr (2, [.int 0, .int 0, .int 0, .ref e0]))] ∧ r = (if t < 1 ∨ 99 < t ∨ s0 < 0 ∨ w < 0 ∨ ¬ w ≤ 2 then -102 else -103)
set_option maxHeartbeats 4000000 in
set_option maxRecDepth 100000 in
theorem c_X4_runs (l : Launch) (D : va_G) (cy : Nat → ClassId) (zz : Nat) (h0 : Nat) (pg : Nat) (t0 : Nat) (t1 : Nat) (t2 : Nat) (sv : Nat) (e0 : Nat) (t : Int32) (s0 : Int32) (w : Int32) : Met l yX4_runs wsX4_runs ({ frames := 0, cells := 0, slots := 0, locals := 0 } : Room) (va_Pc [.ref h0, .int t, .int s0, .int w] (cpre D cy [(h0, .inr (4, [.ref pg, .int 0, .int 0, .int 0, .ref t0, .ref t1, .ref t2, .ref sv, .int 0])), (t0, .inr (2, [.int 0, .int 0, .int 0, .ref e0]))] zz)) (va_Qi (q_X4_runs cy h0 pg t0 t1 t2 sv e0 t s0 w) (cpost D (va_A [(h0, .inr (4, [.ref pg, .int 0, .int 0, .int 0, .ref t0, .ref t1, .ref t2, .ref sv, .int 0])), (t0, .inr (2, [.int 0, .int 0, .int 0, .ref e0]))] zz)) (va_A [(h0, .inr (4, [.ref pg, .int 0, .int 0, .int 0, .ref t0, .ref t1, .ref t2, .ref sv, .int 0])), (t0, .inr (2, [.int 0, .int 0, .int 0, .ref e0]))] zz)) 0 0 (va_A [(h0, .inr (4, [.ref pg, .int 0, .int 0, .int 0, .ref t0, .ref t1, .ref t2, .ref sv, .int 0])), (t0, .inr (2, [.int 0, .int 0, .int 0, .ref e0]))] zz) := by
  refine Met.ofW (cc := cX4_runs) (maxL := 9) (ret := (some .int)) (by decide) rfl ?_
  intro p e s m args below meth c s₁ B hml hv
  obtain ⟨rfl, hsz, hP, hD0, hX⟩ := hv
  have hx := B.exec
  have hb := B.bytes
  have hr := B.returns
  have hts := atoms_spec (ws := wsX4_runs) B.pre
  have hown : s.vm.findClass RX4 = some m.cls := findClass_of_methodNamed B.named
  have hlocks := B.notSynchronized
  subst hsz
  have hD := hD0.self (sz := s.heap.size)
  generalize hAe : va_A [(h0, .inr (4, [.ref pg, .int 0, .int 0, .int 0, .ref t0, .ref t1, .ref t2, .ref sv, .int 0])), (t0, .inr (2, [.int 0, .int 0, .int 0, .ref e0]))] s.heap.size = A at hD hX ⊢
  have hA : ∀ q : Nat, s.heap.size ≤ q → A q := fun q h => by rw [← hAe]; exact Or.inr h
  obtain ⟨H, hH⟩ : ∃ H : Heap, H = s.heap := ⟨_, rfl⟩
  have hS : va_S A s.heap H [] := hH ▸ va_S.rf
  have hK := hX.1
  have hP : va_P D vwCl [(h0, .inr (4, [.ref pg, .int 0, .int 0, .int 0, .ref t0, .ref t1, .ref t2, .ref sv, .int 0])), (t0, .inr (2, [.int 0, .int 0, .int 0, .ref e0]))] H := hH ▸ hP
  rw [← hH]
  have hw_X2 : ∀ w ∈ wsX20, w ∈ wsX4_runs := by decide +kernel
  have hw_X4 : ∀ w ∈ wsX40, w ∈ wsX4_runs := by decide +kernel
  have f_16 := hts (.fieldLink RX4 16 "CubeTower" "now" "LCubeTower$Tower;") (by decide +kernel)
  have f_52 := hts (.fieldLink RX4 52 "CubeTower$Tower" "size" "I") (by decide +kernel)
  have hl := lv_entry ([.ref h0, .int t, .int s0, .int w]) (n := 9) (Nat.le_of_ble_eq_true rfl)
  rw [lg_entry_eq]
  generalize (lg_sl ([.ref h0, .int t, .int s0, .int w]) ++ List.replicate (9 - (lg_sl ([.ref h0, .int t, .int s0, .int w])).length) Slot.unset).toArray = ls at hl ⊢
  have hl : lv_has ls 9 [(0, .ref h0), (1, .int t), (2, .int s0), (3, .int w)] := hl
  refine lv_iload_n hx hb dX4_runs_0 rfl (lv_at hl 1 rfl) ?_
  refine lv_iconst (v := 1) hx hb dX4_runs_1 (by decide) ?_
  refine lv_icmp_lt (tgt := 24) hx hb dX4_runs_2 (by decide) (fun c_2 => ?_) (fun c_2 => ?_)
  · refine lv_bipush (v := (-102)) hx hb dX4_runs_24 (by decide) ?_
    have hP9 := hP.sub (ws' := [(h0, .inr (4, [.ref pg, .int 0, .int 0, .int 0, .ref t0, .ref t1, .ref t2, .ref sv, .int 0])), (t0, .inr (2, [.int 0, .int 0, .int 0, .ref e0]))]) [0, 1] rfl
    have hD9 := hD.sub (ws' := [(h0, .inr (4, [.ref pg, .int 0, .int 0, .int 0, .ref t0, .ref t1, .ref t2, .ref sv, .int 0])), (t0, .inr (2, [.int 0, .int 0, .int 0, .ref e0]))]) [0, 1] (by decide +kernel) rfl
    exact W.iret (v := (-102)) hx hb hr (fun t9 ht9 hW9 => ⟨⟨(-102), [(h0, .inr (4, [.ref pg, .int 0, .int 0, .int 0, .ref t0, .ref t1, .ref t2, .ref sv, .int 0])), (t0, .inr (2, [.int 0, .int 0, .int 0, .ref e0]))], rfl, ⟨rfl, (if_pos (Or.inl c_2)).symm⟩, by rw [ht9]; exact hP9, hD9⟩, hS.F ht9⟩) hS.2.2 dX4_runs_26
  · refine lv_iload_n hx hb dX4_runs_5 rfl (lv_at hl 1 rfl) ?_
    refine lv_bipush (v := 99) hx hb dX4_runs_6 (by decide) ?_
    refine lv_icmp_gt (tgt := 24) hx hb dX4_runs_8 (by decide) (fun c_8 => ?_) (fun c_8 => ?_)
    · refine lv_bipush (v := (-102)) hx hb dX4_runs_24 (by decide) ?_
      have hP9 := hP.sub (ws' := [(h0, .inr (4, [.ref pg, .int 0, .int 0, .int 0, .ref t0, .ref t1, .ref t2, .ref sv, .int 0])), (t0, .inr (2, [.int 0, .int 0, .int 0, .ref e0]))]) [0, 1] rfl
      have hD9 := hD.sub (ws' := [(h0, .inr (4, [.ref pg, .int 0, .int 0, .int 0, .ref t0, .ref t1, .ref t2, .ref sv, .int 0])), (t0, .inr (2, [.int 0, .int 0, .int 0, .ref e0]))]) [0, 1] (by decide +kernel) rfl
      exact W.iret (v := (-102)) hx hb hr (fun t9 ht9 hW9 => ⟨⟨(-102), [(h0, .inr (4, [.ref pg, .int 0, .int 0, .int 0, .ref t0, .ref t1, .ref t2, .ref sv, .int 0])), (t0, .inr (2, [.int 0, .int 0, .int 0, .ref e0]))], rfl, ⟨rfl, (if_pos (Or.inr (Or.inl c_8))).symm⟩, by rw [ht9]; exact hP9, hD9⟩, hS.F ht9⟩) hS.2.2 dX4_runs_26
    · refine lv_iload_n hx hb dX4_runs_11 rfl (lv_at hl 2 rfl) ?_
      refine lv_if_lt (tgt := 24) hx hb dX4_runs_12 (by decide) (fun c_12 => ?_) (fun c_12 => ?_)
      · refine lv_bipush (v := (-102)) hx hb dX4_runs_24 (by decide) ?_
        have hP9 := hP.sub (ws' := [(h0, .inr (4, [.ref pg, .int 0, .int 0, .int 0, .ref t0, .ref t1, .ref t2, .ref sv, .int 0])), (t0, .inr (2, [.int 0, .int 0, .int 0, .ref e0]))]) [0, 1] rfl
        have hD9 := hD.sub (ws' := [(h0, .inr (4, [.ref pg, .int 0, .int 0, .int 0, .ref t0, .ref t1, .ref t2, .ref sv, .int 0])), (t0, .inr (2, [.int 0, .int 0, .int 0, .ref e0]))]) [0, 1] (by decide +kernel) rfl
        exact W.iret (v := (-102)) hx hb hr (fun t9 ht9 hW9 => ⟨⟨(-102), [(h0, .inr (4, [.ref pg, .int 0, .int 0, .int 0, .ref t0, .ref t1, .ref t2, .ref sv, .int 0])), (t0, .inr (2, [.int 0, .int 0, .int 0, .ref e0]))], rfl, ⟨rfl, (if_pos (Or.inr (Or.inr (Or.inl c_12)))).symm⟩, by rw [ht9]; exact hP9, hD9⟩, hS.F ht9⟩) hS.2.2 dX4_runs_26
      · refine lv_iload_n hx hb dX4_runs_15 rfl (lv_at hl 3 rfl) ?_
        refine lv_if_lt (tgt := 24) hx hb dX4_runs_16 (by decide) (fun c_16 => ?_) (fun c_16 => ?_)
        · refine lv_bipush (v := (-102)) hx hb dX4_runs_24 (by decide) ?_
          have hP9 := hP.sub (ws' := [(h0, .inr (4, [.ref pg, .int 0, .int 0, .int 0, .ref t0, .ref t1, .ref t2, .ref sv, .int 0])), (t0, .inr (2, [.int 0, .int 0, .int 0, .ref e0]))]) [0, 1] rfl
          have hD9 := hD.sub (ws' := [(h0, .inr (4, [.ref pg, .int 0, .int 0, .int 0, .ref t0, .ref t1, .ref t2, .ref sv, .int 0])), (t0, .inr (2, [.int 0, .int 0, .int 0, .ref e0]))]) [0, 1] (by decide +kernel) rfl
          exact W.iret (v := (-102)) hx hb hr (fun t9 ht9 hW9 => ⟨⟨(-102), [(h0, .inr (4, [.ref pg, .int 0, .int 0, .int 0, .ref t0, .ref t1, .ref t2, .ref sv, .int 0])), (t0, .inr (2, [.int 0, .int 0, .int 0, .ref e0]))], rfl, ⟨rfl, (if_pos (Or.inr (Or.inr (Or.inr (Or.inl c_16))))).symm⟩, by rw [ht9]; exact hP9, hD9⟩, hS.F ht9⟩) hS.2.2 dX4_runs_26
        · refine lv_iload_n hx hb dX4_runs_19 rfl (lv_at hl 3 rfl) ?_
          refine lv_iconst (v := 2) hx hb dX4_runs_20 (by decide) ?_
          refine lv_icmp_le (tgt := 27) hx hb dX4_runs_21 (by decide) (fun c_21 => ?_) (fun c_21 => ?_)
          · refine lv_aload_n hx hb dX4_runs_27 rfl (lv_at hl 0 rfl) ?_
            refine va_get (D := D) (ci := 4) (v := .ref t0) (C := RX4) (T := TX4) (N := 9) hx hb hts hw_X4 hown hK hP 0 rfl rfl 4 (by decide) f_16 (fun _ h9 => h9) rfl dX4_runs_28 ?_
            refine va_get (D := D) (ci := 2) (v := .int 0) (C := RX2) (T := TX2) (N := 4) hx hb hts hw_X2 hown hK hP 1 rfl rfl 0 (by decide) f_52 (fun _ h9 => h9) rfl dX4_runs_31 ?_
            refine lv_if_ne (tgt := 40) hx hb dX4_runs_34 (by decide) (fun c_34 => ?_) (fun c_34 => ?_)
            · exact absurd c_34 (by decide)
            · refine lv_bipush (v := (-103)) hx hb dX4_runs_37 (by decide) ?_
              have hP9 := hP.sub (ws' := [(h0, .inr (4, [.ref pg, .int 0, .int 0, .int 0, .ref t0, .ref t1, .ref t2, .ref sv, .int 0])), (t0, .inr (2, [.int 0, .int 0, .int 0, .ref e0]))]) [0, 1] rfl
              have hD9 := hD.sub (ws' := [(h0, .inr (4, [.ref pg, .int 0, .int 0, .int 0, .ref t0, .ref t1, .ref t2, .ref sv, .int 0])), (t0, .inr (2, [.int 0, .int 0, .int 0, .ref e0]))]) [0, 1] (by decide +kernel) rfl
              exact W.iret (v := (-103)) hx hb hr (fun t9 ht9 hW9 => ⟨⟨(-103), [(h0, .inr (4, [.ref pg, .int 0, .int 0, .int 0, .ref t0, .ref t1, .ref t2, .ref sv, .int 0])), (t0, .inr (2, [.int 0, .int 0, .int 0, .ref e0]))], rfl, ⟨rfl, (if_neg (fun h => h.elim c_2 (fun h => h.elim c_8 (fun h => h.elim c_12 (fun h => h.elim c_16 (fun q => q c_21)))))).symm⟩, by rw [ht9]; exact hP9, hD9⟩, hS.F ht9⟩) hS.2.2 dX4_runs_39
          · refine lv_bipush (v := (-102)) hx hb dX4_runs_24 (by decide) ?_
            have hP9 := hP.sub (ws' := [(h0, .inr (4, [.ref pg, .int 0, .int 0, .int 0, .ref t0, .ref t1, .ref t2, .ref sv, .int 0])), (t0, .inr (2, [.int 0, .int 0, .int 0, .ref e0]))]) [0, 1] rfl
            have hD9 := hD.sub (ws' := [(h0, .inr (4, [.ref pg, .int 0, .int 0, .int 0, .ref t0, .ref t1, .ref t2, .ref sv, .int 0])), (t0, .inr (2, [.int 0, .int 0, .int 0, .ref e0]))]) [0, 1] (by decide +kernel) rfl
            exact W.iret (v := (-102)) hx hb hr (fun t9 ht9 hW9 => ⟨⟨(-102), [(h0, .inr (4, [.ref pg, .int 0, .int 0, .int 0, .ref t0, .ref t1, .ref t2, .ref sv, .int 0])), (t0, .inr (2, [.int 0, .int 0, .int 0, .ref e0]))], rfl, ⟨rfl, (if_pos (Or.inr (Or.inr (Or.inr (Or.inr c_21))))).symm⟩, by rw [ht9]; exact hP9, hD9⟩, hS.F ht9⟩) hS.2.2 dX4_runs_26
def q_X4_fault (cy : Nat → ClassId) (h0 : Nat) (pg : Nat) (t0 : Nat) (t1 : Nat) (t2 : Nat) (sv : Nat) (e0 : Nat) : Int32 → va_W → Prop := fun (r : Int32) (u : va_W) => u = [(h0, .inr (4, [.ref pg, .int 0, .int 0, .int 0, .ref t0, .ref t1, .ref t2, .ref sv, .int 0]))] ∧ r = 0
set_option maxHeartbeats 4000000 in
set_option maxRecDepth 100000 in
theorem c_X4_fault (l : Launch) (D : va_G) (cy : Nat → ClassId) (zz : Nat) (h0 : Nat) (pg : Nat) (t0 : Nat) (t1 : Nat) (t2 : Nat) (sv : Nat) (e0 : Nat) : Met l yX4_fault wsX4_fault ({ frames := 0, cells := 0, slots := 0, locals := 0 } : Room) (va_Pc [.ref h0] (cpre D cy [(h0, .inr (4, [.ref pg, .int 0, .int 0, .int 0, .ref t0, .ref t1, .ref t2, .ref sv, .int 0]))] zz)) (va_Qi (q_X4_fault cy h0 pg t0 t1 t2 sv e0) (cpost D (va_A [(h0, .inr (4, [.ref pg, .int 0, .int 0, .int 0, .ref t0, .ref t1, .ref t2, .ref sv, .int 0]))] zz)) (va_A [(h0, .inr (4, [.ref pg, .int 0, .int 0, .int 0, .ref t0, .ref t1, .ref t2, .ref sv, .int 0]))] zz)) 0 0 (va_A [(h0, .inr (4, [.ref pg, .int 0, .int 0, .int 0, .ref t0, .ref t1, .ref t2, .ref sv, .int 0]))] zz) := by
  refine Met.ofW (cc := cX4_fault) (maxL := 2) (ret := (some .int)) (by decide) rfl ?_
  intro p e s m args below meth c s₁ B hml hv
  obtain ⟨rfl, hsz, hP, hD0, hX⟩ := hv
  have hx := B.exec
  have hb := B.bytes
  have hr := B.returns
  have hts := atoms_spec (ws := wsX4_fault) B.pre
  have hown : s.vm.findClass RX4 = some m.cls := findClass_of_methodNamed B.named
  have hlocks := B.notSynchronized
  subst hsz
  have hD := hD0.self (sz := s.heap.size)
  generalize hAe : va_A [(h0, .inr (4, [.ref pg, .int 0, .int 0, .int 0, .ref t0, .ref t1, .ref t2, .ref sv, .int 0]))] s.heap.size = A at hD hX ⊢
  have hA : ∀ q : Nat, s.heap.size ≤ q → A q := fun q h => by rw [← hAe]; exact Or.inr h
  obtain ⟨H, hH⟩ : ∃ H : Heap, H = s.heap := ⟨_, rfl⟩
  have hS : va_S A s.heap H [] := hH ▸ va_S.rf
  have hK := hX.1
  have hP : va_P D vwCl [(h0, .inr (4, [.ref pg, .int 0, .int 0, .int 0, .ref t0, .ref t1, .ref t2, .ref sv, .int 0]))] H := hH ▸ hP
  rw [← hH]
  have hw_X4 : ∀ w ∈ wsX40, w ∈ wsX4_fault := by decide +kernel
  have f_33 := hts (.fieldLink RX4 33 "CubeTower" "letters" "I") (by decide +kernel)
  have hl := lv_entry ([.ref h0]) (n := 2) (Nat.le_of_ble_eq_true rfl)
  rw [lg_entry_eq]
  generalize (lg_sl ([.ref h0]) ++ List.replicate (2 - (lg_sl ([.ref h0])).length) Slot.unset).toArray = ls at hl ⊢
  have hl : lv_has ls 2 [(0, .ref h0)] := hl
  refine lv_iconst (v := 0) hx hb dX4_fault_0 (by decide) ?_
  refine lv_istore_n (lv' := [(1, .int 0), (0, .ref h0)]) hx hb dX4_fault_1 rfl hl (by decide) rfl (fun ls hl => ?_)
  refine lv_iload_n hx hb dX4_fault_2 rfl (lv_at hl 0 rfl) ?_
  refine lv_aload_n hx hb dX4_fault_3 rfl (lv_at hl 1 rfl) ?_
  refine va_get (D := D) (ci := 4) (v := .int 0) (C := RX4) (T := TX4) (N := 9) hx hb hts hw_X4 hown hK hP 0 rfl rfl 1 (by decide) f_33 (fun _ h9 => h9) rfl dX4_fault_4 ?_
  refine lv_icmp_ge (tgt := 29) hx hb dX4_fault_7 (by decide) (fun c_7 => ?_) (fun c_7 => ?_)
  · refine lv_iload_n hx hb dX4_fault_29 rfl (lv_at hl 0 rfl) ?_
    have hP9 := hP.sub (ws' := [(h0, .inr (4, [.ref pg, .int 0, .int 0, .int 0, .ref t0, .ref t1, .ref t2, .ref sv, .int 0]))]) [0] rfl
    have hD9 := hD.sub (ws' := [(h0, .inr (4, [.ref pg, .int 0, .int 0, .int 0, .ref t0, .ref t1, .ref t2, .ref sv, .int 0]))]) [0] (by decide +kernel) rfl
    exact W.iret (v := 0) hx hb hr (fun t9 ht9 hW9 => ⟨⟨0, [(h0, .inr (4, [.ref pg, .int 0, .int 0, .int 0, .ref t0, .ref t1, .ref t2, .ref sv, .int 0]))], rfl, ⟨rfl, rfl⟩, by rw [ht9]; exact hP9, hD9⟩, hS.F ht9⟩) hS.2.2 dX4_fault_30
  · exact absurd c_7 (by decide)
def q_X4_tower (cy : Nat → ClassId) (h0 : Nat) (pg : Nat) (t0 : Nat) (t1 : Nat) (t2 : Nat) (sv : Nat) (e0 : Nat) : Int32 → va_W → Prop := fun (r : Int32) (u : va_W) => u = [(h0, .inr (4, [.ref pg, .int 0, .int 0, .int 0, .ref t0, .ref t1, .ref t2, .ref sv, .int 0]))] ∧ r = -103
set_option maxHeartbeats 4000000 in
set_option maxRecDepth 100000 in
theorem c_X4_tower (l : Launch) (D : va_G) (cy : Nat → ClassId) (zz : Nat) (h0 : Nat) (pg : Nat) (t0 : Nat) (t1 : Nat) (t2 : Nat) (sv : Nat) (e0 : Nat) : Met l yX4_tower wsX4_tower ({ frames := 0, cells := 0, slots := 0, locals := 0 } : Room) (va_Pc [.ref h0] (cpre D cy [(h0, .inr (4, [.ref pg, .int 0, .int 0, .int 0, .ref t0, .ref t1, .ref t2, .ref sv, .int 0]))] zz)) (va_Qi (q_X4_tower cy h0 pg t0 t1 t2 sv e0) (cpost D (va_A [(h0, .inr (4, [.ref pg, .int 0, .int 0, .int 0, .ref t0, .ref t1, .ref t2, .ref sv, .int 0]))] zz)) (va_A [(h0, .inr (4, [.ref pg, .int 0, .int 0, .int 0, .ref t0, .ref t1, .ref t2, .ref sv, .int 0]))] zz)) 0 0 (va_A [(h0, .inr (4, [.ref pg, .int 0, .int 0, .int 0, .ref t0, .ref t1, .ref t2, .ref sv, .int 0]))] zz) := by
  refine Met.ofW (cc := cX4_tower) (maxL := 3) (ret := (some .int)) (by decide) rfl ?_
  intro p e s m args below meth c s₁ B hml hv
  obtain ⟨rfl, hsz, hP, hD0, hX⟩ := hv
  have hx := B.exec
  have hb := B.bytes
  have hr := B.returns
  have hts := atoms_spec (ws := wsX4_tower) B.pre
  have hown : s.vm.findClass RX4 = some m.cls := findClass_of_methodNamed B.named
  have hlocks := B.notSynchronized
  subst hsz
  have hD := hD0.self (sz := s.heap.size)
  generalize hAe : va_A [(h0, .inr (4, [.ref pg, .int 0, .int 0, .int 0, .ref t0, .ref t1, .ref t2, .ref sv, .int 0]))] s.heap.size = A at hD hX ⊢
  have hA : ∀ q : Nat, s.heap.size ≤ q → A q := fun q h => by rw [← hAe]; exact Or.inr h
  obtain ⟨H, hH⟩ : ∃ H : Heap, H = s.heap := ⟨_, rfl⟩
  have hS : va_S A s.heap H [] := hH ▸ va_S.rf
  have hK := hX.1
  have hP : va_P D vwCl [(h0, .inr (4, [.ref pg, .int 0, .int 0, .int 0, .ref t0, .ref t1, .ref t2, .ref sv, .int 0]))] H := hH ▸ hP
  rw [← hH]
  have hw_X4 : ∀ w ∈ wsX40, w ∈ wsX4_tower := by decide +kernel
  have f_33 := hts (.fieldLink RX4 33 "CubeTower" "letters" "I") (by decide +kernel)
  have hl := lv_entry ([.ref h0]) (n := 3) (Nat.le_of_ble_eq_true rfl)
  rw [lg_entry_eq]
  generalize (lg_sl ([.ref h0]) ++ List.replicate (3 - (lg_sl ([.ref h0])).length) Slot.unset).toArray = ls at hl ⊢
  have hl : lv_has ls 3 [(0, .ref h0)] := hl
  refine lv_aload_n hx hb dX4_tower_0 rfl (lv_at hl 0 rfl) ?_
  refine va_get (D := D) (ci := 4) (v := .int 0) (C := RX4) (T := TX4) (N := 9) hx hb hts hw_X4 hown hK hP 0 rfl rfl 1 (by decide) f_33 (fun _ h9 => h9) rfl dX4_tower_1 ?_
  refine lv_iconst (v := 1) hx hb dX4_tower_4 (by decide) ?_
  refine lv_iadd hx hb dX4_tower_5 ?_
  refine lv_topi (fun y1 ey1 => ?_)
  obtain rfl : y1 = 1 := ey1.trans (by decide)
  refine lv_bipush (v := 8) hx hb dX4_tower_6 (by decide) ?_
  refine lv_idiv hx hb dX4_tower_8 (by decide) ?_
  refine lv_topi (fun y2 ey2 => ?_)
  obtain rfl : y2 = 0 := ey2.trans (by decide)
  refine lv_istore_n (lv' := [(1, .int 0), (0, .ref h0)]) hx hb dX4_tower_9 rfl hl (by decide) rfl (fun ls hl => ?_)
  refine lv_iload_n hx hb dX4_tower_10 rfl (lv_at hl 0 rfl) ?_
  refine lv_iconst (v := 2) hx hb dX4_tower_11 (by decide) ?_
  refine lv_icmp_lt (tgt := 32) hx hb dX4_tower_12 (by decide) (fun c_12 => ?_) (fun c_12 => ?_)
  · refine lv_iconst (v := 0) hx hb dX4_tower_32 (by decide) ?_
    refine lv_istore_n (lv' := [(2, .int 0), (1, .int 0), (0, .ref h0)]) hx hb dX4_tower_33 rfl hl (by decide) rfl (fun ls hl => ?_)
    refine lv_iload_n hx hb dX4_tower_34 rfl (lv_at hl 0 rfl) ?_
    refine lv_if_eq (tgt := 49) hx hb dX4_tower_35 (by decide) (fun c_35 => ?_) (fun c_35 => ?_)
    · refine lv_bipush (v := (-103)) hx hb dX4_tower_49 (by decide) ?_
      have hP9 := hP.sub (ws' := [(h0, .inr (4, [.ref pg, .int 0, .int 0, .int 0, .ref t0, .ref t1, .ref t2, .ref sv, .int 0]))]) [0] rfl
      have hD9 := hD.sub (ws' := [(h0, .inr (4, [.ref pg, .int 0, .int 0, .int 0, .ref t0, .ref t1, .ref t2, .ref sv, .int 0]))]) [0] (by decide +kernel) rfl
      exact W.iret (v := (-103)) hx hb hr (fun t9 ht9 hW9 => ⟨⟨(-103), [(h0, .inr (4, [.ref pg, .int 0, .int 0, .int 0, .ref t0, .ref t1, .ref t2, .ref sv, .int 0]))], rfl, ⟨rfl, rfl⟩, by rw [ht9]; exact hP9, hD9⟩, hS.F ht9⟩) hS.2.2 dX4_tower_51
    · exact absurd c_35 (by decide)
  · exact absurd c_12 (by decide)
def q_X4_count (cy : Nat → ClassId) (h0 : Nat) (pg : Nat) (t0 : Nat) (t1 : Nat) (t2 : Nat) (sv : Nat) (e0 : Nat) (w : Int32) : Int32 → va_W → Prop := fun (r : Int32) (u : va_W) => u = [(h0, .inr (4, [.ref pg, .int 0, .int 0, .int 0, .ref t0, .ref t1, .ref t2, .ref sv, .int 0])), (t0, .inr (2, [.int 0, .int 0, .int 0, .ref e0]))] ∧ r = (if w.toInt < 0 ∨ 8 < w.toInt then -102 else 0)
set_option maxHeartbeats 4000000 in
set_option maxRecDepth 100000 in
theorem c_X4_count (l : Launch) (D : va_G) (cy : Nat → ClassId) (zz : Nat) (h0 : Nat) (pg : Nat) (t0 : Nat) (t1 : Nat) (t2 : Nat) (sv : Nat) (e0 : Nat) (w : Int32) : Met l yX4_count wsX4_count ({ frames := 2, cells := 0, slots := 0, locals := 47 } : Room) (va_Pc [.ref h0, .int w] (cpre D cy [(h0, .inr (4, [.ref pg, .int 0, .int 0, .int 0, .ref t0, .ref t1, .ref t2, .ref sv, .int 0])), (t0, .inr (2, [.int 0, .int 0, .int 0, .ref e0]))] zz)) (va_Qi (q_X4_count cy h0 pg t0 t1 t2 sv e0 w) (cpost D (va_A [(h0, .inr (4, [.ref pg, .int 0, .int 0, .int 0, .ref t0, .ref t1, .ref t2, .ref sv, .int 0])), (t0, .inr (2, [.int 0, .int 0, .int 0, .ref e0]))] zz)) (va_A [(h0, .inr (4, [.ref pg, .int 0, .int 0, .int 0, .ref t0, .ref t1, .ref t2, .ref sv, .int 0])), (t0, .inr (2, [.int 0, .int 0, .int 0, .ref e0]))] zz)) 0 0 (va_A [(h0, .inr (4, [.ref pg, .int 0, .int 0, .int 0, .ref t0, .ref t1, .ref t2, .ref sv, .int 0])), (t0, .inr (2, [.int 0, .int 0, .int 0, .ref e0]))] zz) := by
  refine Met.ofW (cc := cX4_count) (maxL := 2) (ret := (some .int)) (by decide) rfl ?_
  intro p e s m args below meth c s₁ B hml hv
  obtain ⟨rfl, hsz, hP, hD0, hX⟩ := hv
  have hx := B.exec
  have hb := B.bytes
  have hr := B.returns
  have hts := atoms_spec (ws := wsX4_count) B.pre
  have hown : s.vm.findClass RX4 = some m.cls := findClass_of_methodNamed B.named
  have hlocks := B.notSynchronized
  subst hsz
  have hD := hD0.self (sz := s.heap.size)
  generalize hAe : va_A [(h0, .inr (4, [.ref pg, .int 0, .int 0, .int 0, .ref t0, .ref t1, .ref t2, .ref sv, .int 0])), (t0, .inr (2, [.int 0, .int 0, .int 0, .ref e0]))] s.heap.size = A at hD hX ⊢
  have hA : ∀ q : Nat, s.heap.size ≤ q → A q := fun q h => by rw [← hAe]; exact Or.inr h
  obtain ⟨H, hH⟩ : ∃ H : Heap, H = s.heap := ⟨_, rfl⟩
  have hS : va_S A s.heap H [] := hH ▸ va_S.rf
  have hK := hX.1
  have hP : va_P D vwCl [(h0, .inr (4, [.ref pg, .int 0, .int 0, .int 0, .ref t0, .ref t1, .ref t2, .ref sv, .int 0])), (t0, .inr (2, [.int 0, .int 0, .int 0, .ref e0]))] H := hH ▸ hP
  rw [← hH]
  have hw_X2 : ∀ w ∈ wsX20, w ∈ wsX4_count := by decide +kernel
  have hw_X4 : ∀ w ∈ wsX40, w ∈ wsX4_count := by decide +kernel
  have f_16 := hts (.fieldLink RX4 16 "CubeTower" "now" "LCubeTower$Tower;") (by decide +kernel)
  have f_52 := hts (.fieldLink RX4 52 "CubeTower$Tower" "size" "I") (by decide +kernel)
  have f_67 := hts (.fieldLink RX4 67 "CubeTower$Tower" "turns" "I") (by decide +kernel)
  have f_168 := hts (.fieldLink RX4 168 "CubeTower$Tower" "seen" "I") (by decide +kernel)
  have f_33 := hts (.fieldLink RX4 33 "CubeTower" "letters" "I") (by decide +kernel)
  have f_49 := hts (.fieldLink RX4 49 "CubeTower" "towersRead" "I") (by decide +kernel)
  have f_152 := hts (.fieldLink RX4 152 "CubeTower" "repaints" "I") (by decide +kernel)
  have hl := lv_entry ([.ref h0, .int w]) (n := 2) (Nat.le_of_ble_eq_true rfl)
  rw [lg_entry_eq]
  generalize (lg_sl ([.ref h0, .int w]) ++ List.replicate (2 - (lg_sl ([.ref h0, .int w])).length) Slot.unset).toArray = ls at hl ⊢
  have hl : lv_has ls 2 [(0, .ref h0), (1, .int w)] := hl
  refine lv_iload_n hx hb dX4_count_0 rfl (lv_at hl 1 rfl) ?_
  by_cases c_1 : w.toInt < 0 ∨ 8 < w.toInt
  · refine lv_tableOut (tgt := 115) hx hb dX4_count_1 c_1 (by decide) ?_
    refine lv_bipush (v := (-102)) hx hb dX4_count_115 (by decide) ?_
    have hP9 := hP.sub (ws' := [(h0, .inr (4, [.ref pg, .int 0, .int 0, .int 0, .ref t0, .ref t1, .ref t2, .ref sv, .int 0])), (t0, .inr (2, [.int 0, .int 0, .int 0, .ref e0]))]) [0, 1] rfl
    have hD9 := hD.sub (ws' := [(h0, .inr (4, [.ref pg, .int 0, .int 0, .int 0, .ref t0, .ref t1, .ref t2, .ref sv, .int 0])), (t0, .inr (2, [.int 0, .int 0, .int 0, .ref e0]))]) [0, 1] (by decide +kernel) rfl
    exact W.iret (v := (-102)) hx hb hr (fun t9 ht9 hW9 => ⟨⟨(-102), [(h0, .inr (4, [.ref pg, .int 0, .int 0, .int 0, .ref t0, .ref t1, .ref t2, .ref sv, .int 0])), (t0, .inr (2, [.int 0, .int 0, .int 0, .ref e0]))], rfl, ⟨rfl, (if_pos c_1).symm⟩, by rw [ht9]; exact hP9, hD9⟩, hS.F ht9⟩) hS.2.2 dX4_count_117
  · rcases (show w = 0 ∨ w = 1 ∨ w = 2 ∨ w = 3 ∨ w = 4 ∨ w = 5 ∨ w = 6 ∨ w = 7 ∨ w = 8 from cs9 c_1) with rfl | rfl | rfl | rfl | rfl | rfl | rfl | rfl | rfl
    · refine lv_tableIn (off := 51) (tgt := 52) hx hb dX4_count_1 (by decide) (by decide) rfl (by decide) ?_
      refine lv_aload_n hx hb dX4_count_52 rfl (lv_at hl 0 rfl) ?_
      refine va_get (D := D) (ci := 4) (v := .ref t0) (C := RX4) (T := TX4) (N := 9) hx hb hts hw_X4 hown hK hP 0 rfl rfl 4 (by decide) f_16 (fun _ h9 => h9) rfl dX4_count_53 ?_
      refine va_get (D := D) (ci := 2) (v := .int 0) (C := RX2) (T := TX2) (N := 4) hx hb hts hw_X2 hown hK hP 1 rfl rfl 0 (by decide) f_52 (fun _ h9 => h9) rfl dX4_count_56 ?_
      have hP9 := hP.sub (ws' := [(h0, .inr (4, [.ref pg, .int 0, .int 0, .int 0, .ref t0, .ref t1, .ref t2, .ref sv, .int 0])), (t0, .inr (2, [.int 0, .int 0, .int 0, .ref e0]))]) [0, 1] rfl
      have hD9 := hD.sub (ws' := [(h0, .inr (4, [.ref pg, .int 0, .int 0, .int 0, .ref t0, .ref t1, .ref t2, .ref sv, .int 0])), (t0, .inr (2, [.int 0, .int 0, .int 0, .ref e0]))]) [0, 1] (by decide +kernel) rfl
      exact W.iret (v := 0) hx hb hr (fun t9 ht9 hW9 => ⟨⟨0, [(h0, .inr (4, [.ref pg, .int 0, .int 0, .int 0, .ref t0, .ref t1, .ref t2, .ref sv, .int 0])), (t0, .inr (2, [.int 0, .int 0, .int 0, .ref e0]))], rfl, ⟨rfl, (by decide)⟩, by rw [ht9]; exact hP9, hD9⟩, hS.F ht9⟩) hS.2.2 dX4_count_59
    · refine lv_tableIn (off := 59) (tgt := 60) hx hb dX4_count_1 (by decide) (by decide) rfl (by decide) ?_
      refine lv_aload_n hx hb dX4_count_60 rfl (lv_at hl 0 rfl) ?_
      refine va_get (D := D) (ci := 4) (v := .ref t0) (C := RX4) (T := TX4) (N := 9) hx hb hts hw_X4 hown hK hP 0 rfl rfl 4 (by decide) f_16 (fun _ h9 => h9) rfl dX4_count_61 ?_
      refine kc_i (wc := [(t0, .inr (2, [.int 0, .int 0, .int 0, .ref e0]))]) (wr := [(h0, .inr (4, [.ref pg, .int 0, .int 0, .int 0, .ref t0, .ref t1, .ref t2, .ref sv, .int 0]))]) (va_runV (As := []) (rest := []) ⟨hx, hb, hml, hown, hts⟩ (c_X2_clashes l D cy H.size t0 e0 ) (cwV 0 hts gX4_count_X2_clashes rfl rfl rfl (by decide +kernel) ⟨Nat.le_of_ble_eq_true rfl, Nat.le_of_ble_eq_true rfl⟩) (cpre_V (wc := [(t0, .inr (2, [.int 0, .int 0, .int 0, .ref e0]))]) 1 2 rfl rfl hX hP hD hS hA [1] (by decide +kernel) rfl) rfl rfl hl.1 rfl (lv_room (Nat.le_of_ble_eq_true rfl)) dX4_count_64 ⟨Nat.le_of_ble_eq_true rfl, Nat.le_of_ble_eq_true rfl⟩) hP hD hS hA [1] [0] rfl rfl (by decide +kernel) (by decide +kernel) (fun rz u1 H locs hw hP hD hS => ?_)
      obtain ⟨hu, hrz⟩ := hw
      subst hu
      have hP : va_P D vwCl [(h0, .inr (4, [.ref pg, .int 0, .int 0, .int 0, .ref t0, .ref t1, .ref t2, .ref sv, .int 0])), (t0, .inr (2, [.int 0, .int 0, .int 0, .ref e0]))] H := hP
      have hD : va_D A [(h0, .inr (4, [.ref pg, .int 0, .int 0, .int 0, .ref t0, .ref t1, .ref t2, .ref sv, .int 0])), (t0, .inr (2, [.int 0, .int 0, .int 0, .ref e0]))] := hD
      subst hrz
      have hP9 := hP.sub (ws' := [(h0, .inr (4, [.ref pg, .int 0, .int 0, .int 0, .ref t0, .ref t1, .ref t2, .ref sv, .int 0])), (t0, .inr (2, [.int 0, .int 0, .int 0, .ref e0]))]) [0, 1] rfl
      have hD9 := hD.sub (ws' := [(h0, .inr (4, [.ref pg, .int 0, .int 0, .int 0, .ref t0, .ref t1, .ref t2, .ref sv, .int 0])), (t0, .inr (2, [.int 0, .int 0, .int 0, .ref e0]))]) [0, 1] (by decide +kernel) rfl
      exact W.iret (v := 0) hx hb hr (fun t9 ht9 hW9 => ⟨⟨0, [(h0, .inr (4, [.ref pg, .int 0, .int 0, .int 0, .ref t0, .ref t1, .ref t2, .ref sv, .int 0])), (t0, .inr (2, [.int 0, .int 0, .int 0, .ref e0]))], rfl, ⟨rfl, (by decide)⟩, by rw [ht9]; exact hP9, hD9⟩, hS.F ht9⟩) hS.2.2 dX4_count_67
    · refine lv_tableIn (off := 67) (tgt := 68) hx hb dX4_count_1 (by decide) (by decide) rfl (by decide) ?_
      refine lv_aload_n hx hb dX4_count_68 rfl (lv_at hl 0 rfl) ?_
      refine va_get (D := D) (ci := 4) (v := .ref t0) (C := RX4) (T := TX4) (N := 9) hx hb hts hw_X4 hown hK hP 0 rfl rfl 4 (by decide) f_16 (fun _ h9 => h9) rfl dX4_count_69 ?_
      refine kc_i (wc := [(t0, .inr (2, [.int 0, .int 0, .int 0, .ref e0]))]) (wr := [(h0, .inr (4, [.ref pg, .int 0, .int 0, .int 0, .ref t0, .ref t1, .ref t2, .ref sv, .int 0]))]) (va_runV (As := []) (rest := []) ⟨hx, hb, hml, hown, hts⟩ (c_X2_goodWalls l D cy H.size t0 e0 ) (cwV 0 hts gX4_count_X2_goodWalls rfl rfl rfl (by decide +kernel) ⟨Nat.le_of_ble_eq_true rfl, Nat.le_of_ble_eq_true rfl⟩) (cpre_V (wc := [(t0, .inr (2, [.int 0, .int 0, .int 0, .ref e0]))]) 1 2 rfl rfl hX hP hD hS hA [1] (by decide +kernel) rfl) rfl rfl hl.1 rfl (lv_room (Nat.le_of_ble_eq_true rfl)) dX4_count_72 ⟨Nat.le_of_ble_eq_true rfl, Nat.le_of_ble_eq_true rfl⟩) hP hD hS hA [1] [0] rfl rfl (by decide +kernel) (by decide +kernel) (fun rz u2 H locs hw hP hD hS => ?_)
      obtain ⟨hu, hrz⟩ := hw
      subst hu
      have hP : va_P D vwCl [(h0, .inr (4, [.ref pg, .int 0, .int 0, .int 0, .ref t0, .ref t1, .ref t2, .ref sv, .int 0])), (t0, .inr (2, [.int 0, .int 0, .int 0, .ref e0]))] H := hP
      have hD : va_D A [(h0, .inr (4, [.ref pg, .int 0, .int 0, .int 0, .ref t0, .ref t1, .ref t2, .ref sv, .int 0])), (t0, .inr (2, [.int 0, .int 0, .int 0, .ref e0]))] := hD
      subst hrz
      have hP9 := hP.sub (ws' := [(h0, .inr (4, [.ref pg, .int 0, .int 0, .int 0, .ref t0, .ref t1, .ref t2, .ref sv, .int 0])), (t0, .inr (2, [.int 0, .int 0, .int 0, .ref e0]))]) [0, 1] rfl
      have hD9 := hD.sub (ws' := [(h0, .inr (4, [.ref pg, .int 0, .int 0, .int 0, .ref t0, .ref t1, .ref t2, .ref sv, .int 0])), (t0, .inr (2, [.int 0, .int 0, .int 0, .ref e0]))]) [0, 1] (by decide +kernel) rfl
      exact W.iret (v := 0) hx hb hr (fun t9 ht9 hW9 => ⟨⟨0, [(h0, .inr (4, [.ref pg, .int 0, .int 0, .int 0, .ref t0, .ref t1, .ref t2, .ref sv, .int 0])), (t0, .inr (2, [.int 0, .int 0, .int 0, .ref e0]))], rfl, ⟨rfl, (by decide)⟩, by rw [ht9]; exact hP9, hD9⟩, hS.F ht9⟩) hS.2.2 dX4_count_75
    · refine lv_tableIn (off := 75) (tgt := 76) hx hb dX4_count_1 (by decide) (by decide) rfl (by decide) ?_
      refine lv_aload_n hx hb dX4_count_76 rfl (lv_at hl 0 rfl) ?_
      refine va_get (D := D) (ci := 4) (v := .ref t0) (C := RX4) (T := TX4) (N := 9) hx hb hts hw_X4 hown hK hP 0 rfl rfl 4 (by decide) f_16 (fun _ h9 => h9) rfl dX4_count_77 ?_
      refine kc_i (wc := [(t0, .inr (2, [.int 0, .int 0, .int 0, .ref e0]))]) (wr := [(h0, .inr (4, [.ref pg, .int 0, .int 0, .int 0, .ref t0, .ref t1, .ref t2, .ref sv, .int 0]))]) (va_runV (As := []) (rest := []) ⟨hx, hb, hml, hown, hts⟩ (c_X2_coloursUsed l D cy H.size t0 e0 ) (cwV 0 hts gX4_count_X2_coloursUsed rfl rfl rfl (by decide +kernel) ⟨Nat.le_of_ble_eq_true rfl, Nat.le_of_ble_eq_true rfl⟩) (cpre_V (wc := [(t0, .inr (2, [.int 0, .int 0, .int 0, .ref e0]))]) 1 2 rfl rfl hX hP hD hS hA [1] (by decide +kernel) rfl) rfl rfl hl.1 rfl (lv_room (Nat.le_of_ble_eq_true rfl)) dX4_count_80 ⟨Nat.le_of_ble_eq_true rfl, Nat.le_of_ble_eq_true rfl⟩) hP hD hS hA [1] [0] rfl rfl (by decide +kernel) (by decide +kernel) (fun rz u3 H locs hw hP hD hS => ?_)
      obtain ⟨hu, hrz⟩ := hw
      subst hu
      have hP : va_P D vwCl [(h0, .inr (4, [.ref pg, .int 0, .int 0, .int 0, .ref t0, .ref t1, .ref t2, .ref sv, .int 0])), (t0, .inr (2, [.int 0, .int 0, .int 0, .ref e0]))] H := hP
      have hD : va_D A [(h0, .inr (4, [.ref pg, .int 0, .int 0, .int 0, .ref t0, .ref t1, .ref t2, .ref sv, .int 0])), (t0, .inr (2, [.int 0, .int 0, .int 0, .ref e0]))] := hD
      subst hrz
      have hP9 := hP.sub (ws' := [(h0, .inr (4, [.ref pg, .int 0, .int 0, .int 0, .ref t0, .ref t1, .ref t2, .ref sv, .int 0])), (t0, .inr (2, [.int 0, .int 0, .int 0, .ref e0]))]) [0, 1] rfl
      have hD9 := hD.sub (ws' := [(h0, .inr (4, [.ref pg, .int 0, .int 0, .int 0, .ref t0, .ref t1, .ref t2, .ref sv, .int 0])), (t0, .inr (2, [.int 0, .int 0, .int 0, .ref e0]))]) [0, 1] (by decide +kernel) rfl
      exact W.iret (v := 0) hx hb hr (fun t9 ht9 hW9 => ⟨⟨0, [(h0, .inr (4, [.ref pg, .int 0, .int 0, .int 0, .ref t0, .ref t1, .ref t2, .ref sv, .int 0])), (t0, .inr (2, [.int 0, .int 0, .int 0, .ref e0]))], rfl, ⟨rfl, (by decide)⟩, by rw [ht9]; exact hP9, hD9⟩, hS.F ht9⟩) hS.2.2 dX4_count_83
    · refine lv_tableIn (off := 83) (tgt := 84) hx hb dX4_count_1 (by decide) (by decide) rfl (by decide) ?_
      refine lv_aload_n hx hb dX4_count_84 rfl (lv_at hl 0 rfl) ?_
      refine va_get (D := D) (ci := 4) (v := .ref t0) (C := RX4) (T := TX4) (N := 9) hx hb hts hw_X4 hown hK hP 0 rfl rfl 4 (by decide) f_16 (fun _ h9 => h9) rfl dX4_count_85 ?_
      refine va_get (D := D) (ci := 2) (v := .int 0) (C := RX2) (T := TX2) (N := 4) hx hb hts hw_X2 hown hK hP 1 rfl rfl 1 (by decide) f_67 (fun _ h9 => h9) rfl dX4_count_88 ?_
      have hP9 := hP.sub (ws' := [(h0, .inr (4, [.ref pg, .int 0, .int 0, .int 0, .ref t0, .ref t1, .ref t2, .ref sv, .int 0])), (t0, .inr (2, [.int 0, .int 0, .int 0, .ref e0]))]) [0, 1] rfl
      have hD9 := hD.sub (ws' := [(h0, .inr (4, [.ref pg, .int 0, .int 0, .int 0, .ref t0, .ref t1, .ref t2, .ref sv, .int 0])), (t0, .inr (2, [.int 0, .int 0, .int 0, .ref e0]))]) [0, 1] (by decide +kernel) rfl
      exact W.iret (v := 0) hx hb hr (fun t9 ht9 hW9 => ⟨⟨0, [(h0, .inr (4, [.ref pg, .int 0, .int 0, .int 0, .ref t0, .ref t1, .ref t2, .ref sv, .int 0])), (t0, .inr (2, [.int 0, .int 0, .int 0, .ref e0]))], rfl, ⟨rfl, (by decide)⟩, by rw [ht9]; exact hP9, hD9⟩, hS.F ht9⟩) hS.2.2 dX4_count_91
    · refine lv_tableIn (off := 91) (tgt := 92) hx hb dX4_count_1 (by decide) (by decide) rfl (by decide) ?_
      refine lv_aload_n hx hb dX4_count_92 rfl (lv_at hl 0 rfl) ?_
      refine va_get (D := D) (ci := 4) (v := .ref t0) (C := RX4) (T := TX4) (N := 9) hx hb hts hw_X4 hown hK hP 0 rfl rfl 4 (by decide) f_16 (fun _ h9 => h9) rfl dX4_count_93 ?_
      refine va_get (D := D) (ci := 2) (v := .int 0) (C := RX2) (T := TX2) (N := 4) hx hb hts hw_X2 hown hK hP 1 rfl rfl 2 (by decide) f_168 (fun _ h9 => h9) rfl dX4_count_96 ?_
      have hP9 := hP.sub (ws' := [(h0, .inr (4, [.ref pg, .int 0, .int 0, .int 0, .ref t0, .ref t1, .ref t2, .ref sv, .int 0])), (t0, .inr (2, [.int 0, .int 0, .int 0, .ref e0]))]) [0, 1] rfl
      have hD9 := hD.sub (ws' := [(h0, .inr (4, [.ref pg, .int 0, .int 0, .int 0, .ref t0, .ref t1, .ref t2, .ref sv, .int 0])), (t0, .inr (2, [.int 0, .int 0, .int 0, .ref e0]))]) [0, 1] (by decide +kernel) rfl
      exact W.iret (v := 0) hx hb hr (fun t9 ht9 hW9 => ⟨⟨0, [(h0, .inr (4, [.ref pg, .int 0, .int 0, .int 0, .ref t0, .ref t1, .ref t2, .ref sv, .int 0])), (t0, .inr (2, [.int 0, .int 0, .int 0, .ref e0]))], rfl, ⟨rfl, (by decide)⟩, by rw [ht9]; exact hP9, hD9⟩, hS.F ht9⟩) hS.2.2 dX4_count_99
    · refine lv_tableIn (off := 99) (tgt := 100) hx hb dX4_count_1 (by decide) (by decide) rfl (by decide) ?_
      refine lv_aload_n hx hb dX4_count_100 rfl (lv_at hl 0 rfl) ?_
      refine va_get (D := D) (ci := 4) (v := .int 0) (C := RX4) (T := TX4) (N := 9) hx hb hts hw_X4 hown hK hP 0 rfl rfl 1 (by decide) f_33 (fun _ h9 => h9) rfl dX4_count_101 ?_
      have hP9 := hP.sub (ws' := [(h0, .inr (4, [.ref pg, .int 0, .int 0, .int 0, .ref t0, .ref t1, .ref t2, .ref sv, .int 0])), (t0, .inr (2, [.int 0, .int 0, .int 0, .ref e0]))]) [0, 1] rfl
      have hD9 := hD.sub (ws' := [(h0, .inr (4, [.ref pg, .int 0, .int 0, .int 0, .ref t0, .ref t1, .ref t2, .ref sv, .int 0])), (t0, .inr (2, [.int 0, .int 0, .int 0, .ref e0]))]) [0, 1] (by decide +kernel) rfl
      exact W.iret (v := 0) hx hb hr (fun t9 ht9 hW9 => ⟨⟨0, [(h0, .inr (4, [.ref pg, .int 0, .int 0, .int 0, .ref t0, .ref t1, .ref t2, .ref sv, .int 0])), (t0, .inr (2, [.int 0, .int 0, .int 0, .ref e0]))], rfl, ⟨rfl, (by decide)⟩, by rw [ht9]; exact hP9, hD9⟩, hS.F ht9⟩) hS.2.2 dX4_count_104
    · refine lv_tableIn (off := 104) (tgt := 105) hx hb dX4_count_1 (by decide) (by decide) rfl (by decide) ?_
      refine lv_aload_n hx hb dX4_count_105 rfl (lv_at hl 0 rfl) ?_
      refine va_get (D := D) (ci := 4) (v := .int 0) (C := RX4) (T := TX4) (N := 9) hx hb hts hw_X4 hown hK hP 0 rfl rfl 2 (by decide) f_49 (fun _ h9 => h9) rfl dX4_count_106 ?_
      have hP9 := hP.sub (ws' := [(h0, .inr (4, [.ref pg, .int 0, .int 0, .int 0, .ref t0, .ref t1, .ref t2, .ref sv, .int 0])), (t0, .inr (2, [.int 0, .int 0, .int 0, .ref e0]))]) [0, 1] rfl
      have hD9 := hD.sub (ws' := [(h0, .inr (4, [.ref pg, .int 0, .int 0, .int 0, .ref t0, .ref t1, .ref t2, .ref sv, .int 0])), (t0, .inr (2, [.int 0, .int 0, .int 0, .ref e0]))]) [0, 1] (by decide +kernel) rfl
      exact W.iret (v := 0) hx hb hr (fun t9 ht9 hW9 => ⟨⟨0, [(h0, .inr (4, [.ref pg, .int 0, .int 0, .int 0, .ref t0, .ref t1, .ref t2, .ref sv, .int 0])), (t0, .inr (2, [.int 0, .int 0, .int 0, .ref e0]))], rfl, ⟨rfl, (by decide)⟩, by rw [ht9]; exact hP9, hD9⟩, hS.F ht9⟩) hS.2.2 dX4_count_109
    · refine lv_tableIn (off := 109) (tgt := 110) hx hb dX4_count_1 (by decide) (by decide) rfl (by decide) ?_
      refine lv_aload_n hx hb dX4_count_110 rfl (lv_at hl 0 rfl) ?_
      refine va_get (D := D) (ci := 4) (v := .int 0) (C := RX4) (T := TX4) (N := 9) hx hb hts hw_X4 hown hK hP 0 rfl rfl 3 (by decide) f_152 (fun _ h9 => h9) rfl dX4_count_111 ?_
      have hP9 := hP.sub (ws' := [(h0, .inr (4, [.ref pg, .int 0, .int 0, .int 0, .ref t0, .ref t1, .ref t2, .ref sv, .int 0])), (t0, .inr (2, [.int 0, .int 0, .int 0, .ref e0]))]) [0, 1] rfl
      have hD9 := hD.sub (ws' := [(h0, .inr (4, [.ref pg, .int 0, .int 0, .int 0, .ref t0, .ref t1, .ref t2, .ref sv, .int 0])), (t0, .inr (2, [.int 0, .int 0, .int 0, .ref e0]))]) [0, 1] (by decide +kernel) rfl
      exact W.iret (v := 0) hx hb hr (fun t9 ht9 hW9 => ⟨⟨0, [(h0, .inr (4, [.ref pg, .int 0, .int 0, .int 0, .ref t0, .ref t1, .ref t2, .ref sv, .int 0])), (t0, .inr (2, [.int 0, .int 0, .int 0, .ref e0]))], rfl, ⟨rfl, (by decide)⟩, by rw [ht9]; exact hP9, hD9⟩, hS.F ht9⟩) hS.2.2 dX4_count_114
def q_X4_digest (cy : Nat → ClassId) (h0 : Nat) (pg : Nat) (t0 : Nat) (t1 : Nat) (t2 : Nat) (sv : Nat) (e0 : Nat) : Int64 → va_W → Prop := fun (r : Int64) (u : va_W) => u = [(h0, .inr (4, [.ref pg, .int 0, .int 0, .int 0, .ref t0, .ref t1, .ref t2, .ref sv, .int 0])), (t0, .inr (2, [.int 0, .int 0, .int 0, .ref e0]))] ∧ r = 34873861629925049
set_option maxHeartbeats 4000000 in
set_option maxRecDepth 100000 in
theorem c_X4_digest (l : Launch) (D : va_G) (cy : Nat → ClassId) (zz : Nat) (h0 : Nat) (pg : Nat) (t0 : Nat) (t1 : Nat) (t2 : Nat) (sv : Nat) (e0 : Nat) : Met l yX4_digest wsX4_digest ({ frames := 3, cells := 0, slots := 0, locals := 68 } : Room) (va_Pc [.ref h0] (cpre D cy [(h0, .inr (4, [.ref pg, .int 0, .int 0, .int 0, .ref t0, .ref t1, .ref t2, .ref sv, .int 0])), (t0, .inr (2, [.int 0, .int 0, .int 0, .ref e0]))] zz)) (va_Ql (q_X4_digest cy h0 pg t0 t1 t2 sv e0) (cpost D (va_A [(h0, .inr (4, [.ref pg, .int 0, .int 0, .int 0, .ref t0, .ref t1, .ref t2, .ref sv, .int 0])), (t0, .inr (2, [.int 0, .int 0, .int 0, .ref e0]))] zz)) (va_A [(h0, .inr (4, [.ref pg, .int 0, .int 0, .int 0, .ref t0, .ref t1, .ref t2, .ref sv, .int 0])), (t0, .inr (2, [.int 0, .int 0, .int 0, .ref e0]))] zz)) 0 0 (va_A [(h0, .inr (4, [.ref pg, .int 0, .int 0, .int 0, .ref t0, .ref t1, .ref t2, .ref sv, .int 0])), (t0, .inr (2, [.int 0, .int 0, .int 0, .ref e0]))] zz) := by
  refine Met.ofW (cc := cX4_digest) (maxL := 4) (ret := (some .long)) (by decide) rfl ?_
  intro p e s m args below meth c s₁ B hml hv
  obtain ⟨rfl, hsz, hP, hD0, hX⟩ := hv
  have hx := B.exec
  have hb := B.bytes
  have hr := B.returns
  have hts := atoms_spec (ws := wsX4_digest) B.pre
  have hown : s.vm.findClass RX4 = some m.cls := findClass_of_methodNamed B.named
  have hlocks := B.notSynchronized
  subst hsz
  have hD := hD0.self (sz := s.heap.size)
  generalize hAe : va_A [(h0, .inr (4, [.ref pg, .int 0, .int 0, .int 0, .ref t0, .ref t1, .ref t2, .ref sv, .int 0])), (t0, .inr (2, [.int 0, .int 0, .int 0, .ref e0]))] s.heap.size = A at hD hX ⊢
  have hA : ∀ q : Nat, s.heap.size ≤ q → A q := fun q h => by rw [← hAe]; exact Or.inr h
  obtain ⟨H, hH⟩ : ∃ H : Heap, H = s.heap := ⟨_, rfl⟩
  have hS : va_S A s.heap H [] := hH ▸ va_S.rf
  have hK := hX.1
  have hP : va_P D vwCl [(h0, .inr (4, [.ref pg, .int 0, .int 0, .int 0, .ref t0, .ref t1, .ref t2, .ref sv, .int 0])), (t0, .inr (2, [.int 0, .int 0, .int 0, .ref e0]))] H := hH ▸ hP
  rw [← hH]
  have hw_X2 : ∀ w ∈ wsX20, w ∈ wsX4_digest := by decide +kernel
  have hw_X4 : ∀ w ∈ wsX40, w ∈ wsX4_digest := by decide +kernel
  have k_193 := hts (.constantLong RX4 193 (1319)) (by decide +kernel)
  have f_16 := hts (.fieldLink RX4 16 "CubeTower" "now" "LCubeTower$Tower;") (by decide +kernel)
  have f_52 := hts (.fieldLink RX4 52 "CubeTower$Tower" "size" "I") (by decide +kernel)
  have f_33 := hts (.fieldLink RX4 33 "CubeTower" "letters" "I") (by decide +kernel)
  have k_203 := hts (.constantLong RX4 203 (31)) (by decide +kernel)
  have hl := lv_entry ([.ref h0]) (n := 4) (Nat.le_of_ble_eq_true rfl)
  rw [lg_entry_eq]
  generalize (lg_sl ([.ref h0]) ++ List.replicate (4 - (lg_sl ([.ref h0])).length) Slot.unset).toArray = ls at hl ⊢
  have hl : lv_has ls 4 [(0, .ref h0)] := hl
  refine lv_ldc2 hx hb hown k_193 dX4_digest_0 ?_
  refine lv_lstore_n (lv' := [(1, .long 1319), (0, .ref h0)]) hx hb dX4_digest_3 rfl hl (by decide) rfl (fun ls hl => ?_)
  refine lv_iconst (v := 0) hx hb dX4_digest_4 (by decide) ?_
  refine lv_istore_n (lv' := [(3, .int 0), (1, .long 1319), (0, .ref h0)]) hx hb dX4_digest_5 rfl hl (by decide) rfl (fun ls hl => ?_)
  refine lv_iload_n hx hb dX4_digest_6 rfl (lv_at hl 0 rfl) ?_
  refine lv_aload_n hx hb dX4_digest_7 rfl (lv_at hl 2 rfl) ?_
  refine va_get (D := D) (ci := 4) (v := .ref t0) (C := RX4) (T := TX4) (N := 9) hx hb hts hw_X4 hown hK hP 0 rfl rfl 4 (by decide) f_16 (fun _ h9 => h9) rfl dX4_digest_8 ?_
  refine va_get (D := D) (ci := 2) (v := .int 0) (C := RX2) (T := TX2) (N := 4) hx hb hts hw_X2 hown hK hP 1 rfl rfl 0 (by decide) f_52 (fun _ h9 => h9) rfl dX4_digest_11 ?_
  refine lv_icmp_ge (tgt := 30) hx hb dX4_digest_14 (by decide) (fun c_14 => ?_) (fun c_14 => ?_)
  · refine lv_aload_n hx hb dX4_digest_30 rfl (lv_at hl 2 rfl) ?_
    refine va_get (D := D) (ci := 4) (v := .ref t0) (C := RX4) (T := TX4) (N := 9) hx hb hts hw_X4 hown hK hP 0 rfl rfl 4 (by decide) f_16 (fun _ h9 => h9) rfl dX4_digest_31 ?_
    refine va_get (D := D) (ci := 2) (v := .int 0) (C := RX2) (T := TX2) (N := 4) hx hb hts hw_X2 hown hK hP 1 rfl rfl 0 (by decide) f_52 (fun _ h9 => h9) rfl dX4_digest_34 ?_
    refine lv_if_le (tgt := 46) hx hb dX4_digest_37 (by decide) (fun c_37 => ?_) (fun c_37 => ?_)
    · refine lv_iconst (v := 0) hx hb dX4_digest_46 (by decide) ?_
      refine lv_istore_n (lv' := [(3, .int 0), (1, .long 1319), (0, .ref h0)]) hx hb dX4_digest_47 rfl hl (by decide) rfl (fun ls hl => ?_)
      refine lv_iload_n hx hb dX4_digest_48 rfl (lv_at hl 0 rfl) ?_
      refine lv_aload_n hx hb dX4_digest_49 rfl (lv_at hl 2 rfl) ?_
      refine va_get (D := D) (ci := 4) (v := .int 0) (C := RX4) (T := TX4) (N := 9) hx hb hts hw_X4 hown hK hP 0 rfl rfl 1 (by decide) f_33 (fun _ h9 => h9) rfl dX4_digest_50 ?_
      refine lv_icmp_ge (tgt := 76) hx hb dX4_digest_53 (by decide) (fun c_53 => ?_) (fun c_53 => ?_)
      · refine lv_iconst (v := 0) hx hb dX4_digest_76 (by decide) ?_
        refine lv_istore_n (lv' := [(3, .int 0), (1, .long 1319), (0, .ref h0)]) hx hb dX4_digest_77 rfl hl (by decide) rfl (fun ls hl => ?_)
        refine lv_iload_n hx hb dX4_digest_78 rfl (lv_at hl 0 rfl) ?_
        refine lv_bipush (v := 8) hx hb dX4_digest_79 (by decide) ?_
        refine lv_icmp_gt (tgt := 103) hx hb dX4_digest_81 (by decide) (fun c_81 => ?_) (fun c_81 => ?_)
        · exact absurd c_81 (by decide)
        · refine lv_ldc2 hx hb hown k_203 dX4_digest_84 ?_
          refine lv_lload_n hx hb dX4_digest_87 rfl (lv_at hl 1 rfl) ?_
          refine lv_lmul hx hb dX4_digest_88 ?_
          refine lv_topl (fun y1 ey1 => ?_)
          obtain rfl : y1 = 40889 := ey1.trans (by decide)
          refine lv_aload_n hx hb dX4_digest_89 rfl (lv_at hl 2 rfl) ?_
          refine lv_iload_n hx hb dX4_digest_90 rfl (lv_at hl 0 rfl) ?_
          refine kc_i (wc := [(h0, .inr (4, [.ref pg, .int 0, .int 0, .int 0, .ref t0, .ref t1, .ref t2, .ref sv, .int 0])), (t0, .inr (2, [.int 0, .int 0, .int 0, .ref e0]))]) (wr := []) (va_runV (As := [.int 0]) (rest := [.long 40889]) ⟨hx, hb, hml, hown, hts⟩ (c_X4_count l D cy H.size h0 pg t0 t1 t2 sv e0 0 ) (cwV 1 hts gX4_digest_X4_count rfl rfl rfl (by decide +kernel) ⟨Nat.le_of_ble_eq_true rfl, Nat.le_of_ble_eq_true rfl⟩) (cpre_V (wc := [(h0, .inr (4, [.ref pg, .int 0, .int 0, .int 0, .ref t0, .ref t1, .ref t2, .ref sv, .int 0])), (t0, .inr (2, [.int 0, .int 0, .int 0, .ref e0]))]) 0 4 rfl rfl hX hP hD hS hA [0, 1] (by decide +kernel) rfl) rfl rfl hl.1 rfl (lv_room (Nat.le_of_ble_eq_true rfl)) dX4_digest_91 ⟨Nat.le_of_ble_eq_true rfl, Nat.le_of_ble_eq_true rfl⟩) hP hD hS hA [0, 1] [] rfl rfl (by decide +kernel) (by decide +kernel) (fun rz u2 H locs hw hP hD hS => ?_)
          obtain ⟨hu, hrz⟩ := hw
          subst hu
          have hP : va_P D vwCl [(h0, .inr (4, [.ref pg, .int 0, .int 0, .int 0, .ref t0, .ref t1, .ref t2, .ref sv, .int 0])), (t0, .inr (2, [.int 0, .int 0, .int 0, .ref e0]))] H := hP
          have hD : va_D A [(h0, .inr (4, [.ref pg, .int 0, .int 0, .int 0, .ref t0, .ref t1, .ref t2, .ref sv, .int 0])), (t0, .inr (2, [.int 0, .int 0, .int 0, .ref e0]))] := hD
          have hrz := hrz.trans (if_neg (by decide))
          subst hrz
          refine lv_i2l (v := 0) hx hb dX4_digest_94 (by decide) ?_
          refine lv_ladd hx hb dX4_digest_95 ?_
          refine lv_topl (fun y3 ey3 => ?_)
          obtain rfl : y3 = 40889 := ey3.trans (by decide)
          refine lv_lstore_n (lv' := [(1, .long 40889), (3, .int 0), (0, .ref h0)]) hx hb dX4_digest_96 rfl hl (by decide) rfl (fun ls hl => ?_)
          refine lv_iinc (v := 1) (lv' := [(3, .int 1), (1, .long 40889), (0, .ref h0)]) hx hb dX4_digest_97 hl (k := 1) rfl (by decide) (by decide) rfl (fun ls hl => ?_)
          refine lv_goto (tgt := 78) hx hb dX4_digest_100 (by decide) ?_
          refine lv_iload_n hx hb dX4_digest_78 rfl (lv_at hl 0 rfl) ?_
          refine lv_bipush (v := 8) hx hb dX4_digest_79 (by decide) ?_
          refine lv_icmp_gt (tgt := 103) hx hb dX4_digest_81 (by decide) (fun c_81 => ?_) (fun c_81 => ?_)
          · exact absurd c_81 (by decide)
          · refine lv_ldc2 hx hb hown k_203 dX4_digest_84 ?_
            refine lv_lload_n hx hb dX4_digest_87 rfl (lv_at hl 1 rfl) ?_
            refine lv_lmul hx hb dX4_digest_88 ?_
            refine lv_topl (fun y4 ey4 => ?_)
            obtain rfl : y4 = 1267559 := ey4.trans (by decide)
            refine lv_aload_n hx hb dX4_digest_89 rfl (lv_at hl 2 rfl) ?_
            refine lv_iload_n hx hb dX4_digest_90 rfl (lv_at hl 0 rfl) ?_
            refine kc_i (wc := [(h0, .inr (4, [.ref pg, .int 0, .int 0, .int 0, .ref t0, .ref t1, .ref t2, .ref sv, .int 0])), (t0, .inr (2, [.int 0, .int 0, .int 0, .ref e0]))]) (wr := []) (va_runV (As := [.int 1]) (rest := [.long 1267559]) ⟨hx, hb, hml, hown, hts⟩ (c_X4_count l D cy H.size h0 pg t0 t1 t2 sv e0 1 ) (cwV 1 hts gX4_digest_X4_count rfl rfl rfl (by decide +kernel) ⟨Nat.le_of_ble_eq_true rfl, Nat.le_of_ble_eq_true rfl⟩) (cpre_V (wc := [(h0, .inr (4, [.ref pg, .int 0, .int 0, .int 0, .ref t0, .ref t1, .ref t2, .ref sv, .int 0])), (t0, .inr (2, [.int 0, .int 0, .int 0, .ref e0]))]) 0 4 rfl rfl hX hP hD hS hA [0, 1] (by decide +kernel) rfl) rfl rfl hl.1 rfl (lv_room (Nat.le_of_ble_eq_true rfl)) dX4_digest_91 ⟨Nat.le_of_ble_eq_true rfl, Nat.le_of_ble_eq_true rfl⟩) hP hD hS hA [0, 1] [] rfl rfl (by decide +kernel) (by decide +kernel) (fun rz u5 H locs hw hP hD hS => ?_)
            obtain ⟨hu, hrz⟩ := hw
            subst hu
            have hP : va_P D vwCl [(h0, .inr (4, [.ref pg, .int 0, .int 0, .int 0, .ref t0, .ref t1, .ref t2, .ref sv, .int 0])), (t0, .inr (2, [.int 0, .int 0, .int 0, .ref e0]))] H := hP
            have hD : va_D A [(h0, .inr (4, [.ref pg, .int 0, .int 0, .int 0, .ref t0, .ref t1, .ref t2, .ref sv, .int 0])), (t0, .inr (2, [.int 0, .int 0, .int 0, .ref e0]))] := hD
            have hrz := hrz.trans (if_neg (by decide))
            subst hrz
            refine lv_i2l (v := 0) hx hb dX4_digest_94 (by decide) ?_
            refine lv_ladd hx hb dX4_digest_95 ?_
            refine lv_topl (fun y6 ey6 => ?_)
            obtain rfl : y6 = 1267559 := ey6.trans (by decide)
            refine lv_lstore_n (lv' := [(1, .long 1267559), (3, .int 1), (0, .ref h0)]) hx hb dX4_digest_96 rfl hl (by decide) rfl (fun ls hl => ?_)
            refine lv_iinc (v := 2) (lv' := [(3, .int 2), (1, .long 1267559), (0, .ref h0)]) hx hb dX4_digest_97 hl (k := 1) rfl (by decide) (by decide) rfl (fun ls hl => ?_)
            refine lv_goto (tgt := 78) hx hb dX4_digest_100 (by decide) ?_
            refine lv_iload_n hx hb dX4_digest_78 rfl (lv_at hl 0 rfl) ?_
            refine lv_bipush (v := 8) hx hb dX4_digest_79 (by decide) ?_
            refine lv_icmp_gt (tgt := 103) hx hb dX4_digest_81 (by decide) (fun c_81 => ?_) (fun c_81 => ?_)
            · exact absurd c_81 (by decide)
            · refine lv_ldc2 hx hb hown k_203 dX4_digest_84 ?_
              refine lv_lload_n hx hb dX4_digest_87 rfl (lv_at hl 1 rfl) ?_
              refine lv_lmul hx hb dX4_digest_88 ?_
              refine lv_topl (fun y7 ey7 => ?_)
              obtain rfl : y7 = 39294329 := ey7.trans (by decide)
              refine lv_aload_n hx hb dX4_digest_89 rfl (lv_at hl 2 rfl) ?_
              refine lv_iload_n hx hb dX4_digest_90 rfl (lv_at hl 0 rfl) ?_
              refine kc_i (wc := [(h0, .inr (4, [.ref pg, .int 0, .int 0, .int 0, .ref t0, .ref t1, .ref t2, .ref sv, .int 0])), (t0, .inr (2, [.int 0, .int 0, .int 0, .ref e0]))]) (wr := []) (va_runV (As := [.int 2]) (rest := [.long 39294329]) ⟨hx, hb, hml, hown, hts⟩ (c_X4_count l D cy H.size h0 pg t0 t1 t2 sv e0 2 ) (cwV 1 hts gX4_digest_X4_count rfl rfl rfl (by decide +kernel) ⟨Nat.le_of_ble_eq_true rfl, Nat.le_of_ble_eq_true rfl⟩) (cpre_V (wc := [(h0, .inr (4, [.ref pg, .int 0, .int 0, .int 0, .ref t0, .ref t1, .ref t2, .ref sv, .int 0])), (t0, .inr (2, [.int 0, .int 0, .int 0, .ref e0]))]) 0 4 rfl rfl hX hP hD hS hA [0, 1] (by decide +kernel) rfl) rfl rfl hl.1 rfl (lv_room (Nat.le_of_ble_eq_true rfl)) dX4_digest_91 ⟨Nat.le_of_ble_eq_true rfl, Nat.le_of_ble_eq_true rfl⟩) hP hD hS hA [0, 1] [] rfl rfl (by decide +kernel) (by decide +kernel) (fun rz u8 H locs hw hP hD hS => ?_)
              obtain ⟨hu, hrz⟩ := hw
              subst hu
              have hP : va_P D vwCl [(h0, .inr (4, [.ref pg, .int 0, .int 0, .int 0, .ref t0, .ref t1, .ref t2, .ref sv, .int 0])), (t0, .inr (2, [.int 0, .int 0, .int 0, .ref e0]))] H := hP
              have hD : va_D A [(h0, .inr (4, [.ref pg, .int 0, .int 0, .int 0, .ref t0, .ref t1, .ref t2, .ref sv, .int 0])), (t0, .inr (2, [.int 0, .int 0, .int 0, .ref e0]))] := hD
              have hrz := hrz.trans (if_neg (by decide))
              subst hrz
              refine lv_i2l (v := 0) hx hb dX4_digest_94 (by decide) ?_
              refine lv_ladd hx hb dX4_digest_95 ?_
              refine lv_topl (fun y9 ey9 => ?_)
              obtain rfl : y9 = 39294329 := ey9.trans (by decide)
              refine lv_lstore_n (lv' := [(1, .long 39294329), (3, .int 2), (0, .ref h0)]) hx hb dX4_digest_96 rfl hl (by decide) rfl (fun ls hl => ?_)
              refine lv_iinc (v := 3) (lv' := [(3, .int 3), (1, .long 39294329), (0, .ref h0)]) hx hb dX4_digest_97 hl (k := 1) rfl (by decide) (by decide) rfl (fun ls hl => ?_)
              refine lv_goto (tgt := 78) hx hb dX4_digest_100 (by decide) ?_
              refine lv_iload_n hx hb dX4_digest_78 rfl (lv_at hl 0 rfl) ?_
              refine lv_bipush (v := 8) hx hb dX4_digest_79 (by decide) ?_
              refine lv_icmp_gt (tgt := 103) hx hb dX4_digest_81 (by decide) (fun c_81 => ?_) (fun c_81 => ?_)
              · exact absurd c_81 (by decide)
              · refine lv_ldc2 hx hb hown k_203 dX4_digest_84 ?_
                refine lv_lload_n hx hb dX4_digest_87 rfl (lv_at hl 1 rfl) ?_
                refine lv_lmul hx hb dX4_digest_88 ?_
                refine lv_topl (fun y10 ey10 => ?_)
                obtain rfl : y10 = 1218124199 := ey10.trans (by decide)
                refine lv_aload_n hx hb dX4_digest_89 rfl (lv_at hl 2 rfl) ?_
                refine lv_iload_n hx hb dX4_digest_90 rfl (lv_at hl 0 rfl) ?_
                refine kc_i (wc := [(h0, .inr (4, [.ref pg, .int 0, .int 0, .int 0, .ref t0, .ref t1, .ref t2, .ref sv, .int 0])), (t0, .inr (2, [.int 0, .int 0, .int 0, .ref e0]))]) (wr := []) (va_runV (As := [.int 3]) (rest := [.long 1218124199]) ⟨hx, hb, hml, hown, hts⟩ (c_X4_count l D cy H.size h0 pg t0 t1 t2 sv e0 3 ) (cwV 1 hts gX4_digest_X4_count rfl rfl rfl (by decide +kernel) ⟨Nat.le_of_ble_eq_true rfl, Nat.le_of_ble_eq_true rfl⟩) (cpre_V (wc := [(h0, .inr (4, [.ref pg, .int 0, .int 0, .int 0, .ref t0, .ref t1, .ref t2, .ref sv, .int 0])), (t0, .inr (2, [.int 0, .int 0, .int 0, .ref e0]))]) 0 4 rfl rfl hX hP hD hS hA [0, 1] (by decide +kernel) rfl) rfl rfl hl.1 rfl (lv_room (Nat.le_of_ble_eq_true rfl)) dX4_digest_91 ⟨Nat.le_of_ble_eq_true rfl, Nat.le_of_ble_eq_true rfl⟩) hP hD hS hA [0, 1] [] rfl rfl (by decide +kernel) (by decide +kernel) (fun rz u11 H locs hw hP hD hS => ?_)
                obtain ⟨hu, hrz⟩ := hw
                subst hu
                have hP : va_P D vwCl [(h0, .inr (4, [.ref pg, .int 0, .int 0, .int 0, .ref t0, .ref t1, .ref t2, .ref sv, .int 0])), (t0, .inr (2, [.int 0, .int 0, .int 0, .ref e0]))] H := hP
                have hD : va_D A [(h0, .inr (4, [.ref pg, .int 0, .int 0, .int 0, .ref t0, .ref t1, .ref t2, .ref sv, .int 0])), (t0, .inr (2, [.int 0, .int 0, .int 0, .ref e0]))] := hD
                have hrz := hrz.trans (if_neg (by decide))
                subst hrz
                refine lv_i2l (v := 0) hx hb dX4_digest_94 (by decide) ?_
                refine lv_ladd hx hb dX4_digest_95 ?_
                refine lv_topl (fun y12 ey12 => ?_)
                obtain rfl : y12 = 1218124199 := ey12.trans (by decide)
                refine lv_lstore_n (lv' := [(1, .long 1218124199), (3, .int 3), (0, .ref h0)]) hx hb dX4_digest_96 rfl hl (by decide) rfl (fun ls hl => ?_)
                refine lv_iinc (v := 4) (lv' := [(3, .int 4), (1, .long 1218124199), (0, .ref h0)]) hx hb dX4_digest_97 hl (k := 1) rfl (by decide) (by decide) rfl (fun ls hl => ?_)
                refine lv_goto (tgt := 78) hx hb dX4_digest_100 (by decide) ?_
                refine lv_iload_n hx hb dX4_digest_78 rfl (lv_at hl 0 rfl) ?_
                refine lv_bipush (v := 8) hx hb dX4_digest_79 (by decide) ?_
                refine lv_icmp_gt (tgt := 103) hx hb dX4_digest_81 (by decide) (fun c_81 => ?_) (fun c_81 => ?_)
                · exact absurd c_81 (by decide)
                · refine lv_ldc2 hx hb hown k_203 dX4_digest_84 ?_
                  refine lv_lload_n hx hb dX4_digest_87 rfl (lv_at hl 1 rfl) ?_
                  refine lv_lmul hx hb dX4_digest_88 ?_
                  refine lv_topl (fun y13 ey13 => ?_)
                  obtain rfl : y13 = 37761850169 := ey13.trans (by decide)
                  refine lv_aload_n hx hb dX4_digest_89 rfl (lv_at hl 2 rfl) ?_
                  refine lv_iload_n hx hb dX4_digest_90 rfl (lv_at hl 0 rfl) ?_
                  refine kc_i (wc := [(h0, .inr (4, [.ref pg, .int 0, .int 0, .int 0, .ref t0, .ref t1, .ref t2, .ref sv, .int 0])), (t0, .inr (2, [.int 0, .int 0, .int 0, .ref e0]))]) (wr := []) (va_runV (As := [.int 4]) (rest := [.long 37761850169]) ⟨hx, hb, hml, hown, hts⟩ (c_X4_count l D cy H.size h0 pg t0 t1 t2 sv e0 4 ) (cwV 1 hts gX4_digest_X4_count rfl rfl rfl (by decide +kernel) ⟨Nat.le_of_ble_eq_true rfl, Nat.le_of_ble_eq_true rfl⟩) (cpre_V (wc := [(h0, .inr (4, [.ref pg, .int 0, .int 0, .int 0, .ref t0, .ref t1, .ref t2, .ref sv, .int 0])), (t0, .inr (2, [.int 0, .int 0, .int 0, .ref e0]))]) 0 4 rfl rfl hX hP hD hS hA [0, 1] (by decide +kernel) rfl) rfl rfl hl.1 rfl (lv_room (Nat.le_of_ble_eq_true rfl)) dX4_digest_91 ⟨Nat.le_of_ble_eq_true rfl, Nat.le_of_ble_eq_true rfl⟩) hP hD hS hA [0, 1] [] rfl rfl (by decide +kernel) (by decide +kernel) (fun rz u14 H locs hw hP hD hS => ?_)
                  obtain ⟨hu, hrz⟩ := hw
                  subst hu
                  have hP : va_P D vwCl [(h0, .inr (4, [.ref pg, .int 0, .int 0, .int 0, .ref t0, .ref t1, .ref t2, .ref sv, .int 0])), (t0, .inr (2, [.int 0, .int 0, .int 0, .ref e0]))] H := hP
                  have hD : va_D A [(h0, .inr (4, [.ref pg, .int 0, .int 0, .int 0, .ref t0, .ref t1, .ref t2, .ref sv, .int 0])), (t0, .inr (2, [.int 0, .int 0, .int 0, .ref e0]))] := hD
                  have hrz := hrz.trans (if_neg (by decide))
                  subst hrz
                  refine lv_i2l (v := 0) hx hb dX4_digest_94 (by decide) ?_
                  refine lv_ladd hx hb dX4_digest_95 ?_
                  refine lv_topl (fun y15 ey15 => ?_)
                  obtain rfl : y15 = 37761850169 := ey15.trans (by decide)
                  refine lv_lstore_n (lv' := [(1, .long 37761850169), (3, .int 4), (0, .ref h0)]) hx hb dX4_digest_96 rfl hl (by decide) rfl (fun ls hl => ?_)
                  refine lv_iinc (v := 5) (lv' := [(3, .int 5), (1, .long 37761850169), (0, .ref h0)]) hx hb dX4_digest_97 hl (k := 1) rfl (by decide) (by decide) rfl (fun ls hl => ?_)
                  refine lv_goto (tgt := 78) hx hb dX4_digest_100 (by decide) ?_
                  refine lv_iload_n hx hb dX4_digest_78 rfl (lv_at hl 0 rfl) ?_
                  refine lv_bipush (v := 8) hx hb dX4_digest_79 (by decide) ?_
                  refine lv_icmp_gt (tgt := 103) hx hb dX4_digest_81 (by decide) (fun c_81 => ?_) (fun c_81 => ?_)
                  · exact absurd c_81 (by decide)
                  · refine lv_ldc2 hx hb hown k_203 dX4_digest_84 ?_
                    refine lv_lload_n hx hb dX4_digest_87 rfl (lv_at hl 1 rfl) ?_
                    refine lv_lmul hx hb dX4_digest_88 ?_
                    refine lv_topl (fun y16 ey16 => ?_)
                    obtain rfl : y16 = 1170617355239 := ey16.trans (by decide)
                    refine lv_aload_n hx hb dX4_digest_89 rfl (lv_at hl 2 rfl) ?_
                    refine lv_iload_n hx hb dX4_digest_90 rfl (lv_at hl 0 rfl) ?_
                    refine kc_i (wc := [(h0, .inr (4, [.ref pg, .int 0, .int 0, .int 0, .ref t0, .ref t1, .ref t2, .ref sv, .int 0])), (t0, .inr (2, [.int 0, .int 0, .int 0, .ref e0]))]) (wr := []) (va_runV (As := [.int 5]) (rest := [.long 1170617355239]) ⟨hx, hb, hml, hown, hts⟩ (c_X4_count l D cy H.size h0 pg t0 t1 t2 sv e0 5 ) (cwV 1 hts gX4_digest_X4_count rfl rfl rfl (by decide +kernel) ⟨Nat.le_of_ble_eq_true rfl, Nat.le_of_ble_eq_true rfl⟩) (cpre_V (wc := [(h0, .inr (4, [.ref pg, .int 0, .int 0, .int 0, .ref t0, .ref t1, .ref t2, .ref sv, .int 0])), (t0, .inr (2, [.int 0, .int 0, .int 0, .ref e0]))]) 0 4 rfl rfl hX hP hD hS hA [0, 1] (by decide +kernel) rfl) rfl rfl hl.1 rfl (lv_room (Nat.le_of_ble_eq_true rfl)) dX4_digest_91 ⟨Nat.le_of_ble_eq_true rfl, Nat.le_of_ble_eq_true rfl⟩) hP hD hS hA [0, 1] [] rfl rfl (by decide +kernel) (by decide +kernel) (fun rz u17 H locs hw hP hD hS => ?_)
                    obtain ⟨hu, hrz⟩ := hw
                    subst hu
                    have hP : va_P D vwCl [(h0, .inr (4, [.ref pg, .int 0, .int 0, .int 0, .ref t0, .ref t1, .ref t2, .ref sv, .int 0])), (t0, .inr (2, [.int 0, .int 0, .int 0, .ref e0]))] H := hP
                    have hD : va_D A [(h0, .inr (4, [.ref pg, .int 0, .int 0, .int 0, .ref t0, .ref t1, .ref t2, .ref sv, .int 0])), (t0, .inr (2, [.int 0, .int 0, .int 0, .ref e0]))] := hD
                    have hrz := hrz.trans (if_neg (by decide))
                    subst hrz
                    refine lv_i2l (v := 0) hx hb dX4_digest_94 (by decide) ?_
                    refine lv_ladd hx hb dX4_digest_95 ?_
                    refine lv_topl (fun y18 ey18 => ?_)
                    obtain rfl : y18 = 1170617355239 := ey18.trans (by decide)
                    refine lv_lstore_n (lv' := [(1, .long 1170617355239), (3, .int 5), (0, .ref h0)]) hx hb dX4_digest_96 rfl hl (by decide) rfl (fun ls hl => ?_)
                    refine lv_iinc (v := 6) (lv' := [(3, .int 6), (1, .long 1170617355239), (0, .ref h0)]) hx hb dX4_digest_97 hl (k := 1) rfl (by decide) (by decide) rfl (fun ls hl => ?_)
                    refine lv_goto (tgt := 78) hx hb dX4_digest_100 (by decide) ?_
                    refine lv_iload_n hx hb dX4_digest_78 rfl (lv_at hl 0 rfl) ?_
                    refine lv_bipush (v := 8) hx hb dX4_digest_79 (by decide) ?_
                    refine lv_icmp_gt (tgt := 103) hx hb dX4_digest_81 (by decide) (fun c_81 => ?_) (fun c_81 => ?_)
                    · exact absurd c_81 (by decide)
                    · refine lv_ldc2 hx hb hown k_203 dX4_digest_84 ?_
                      refine lv_lload_n hx hb dX4_digest_87 rfl (lv_at hl 1 rfl) ?_
                      refine lv_lmul hx hb dX4_digest_88 ?_
                      refine lv_topl (fun y19 ey19 => ?_)
                      obtain rfl : y19 = 36289138012409 := ey19.trans (by decide)
                      refine lv_aload_n hx hb dX4_digest_89 rfl (lv_at hl 2 rfl) ?_
                      refine lv_iload_n hx hb dX4_digest_90 rfl (lv_at hl 0 rfl) ?_
                      refine kc_i (wc := [(h0, .inr (4, [.ref pg, .int 0, .int 0, .int 0, .ref t0, .ref t1, .ref t2, .ref sv, .int 0])), (t0, .inr (2, [.int 0, .int 0, .int 0, .ref e0]))]) (wr := []) (va_runV (As := [.int 6]) (rest := [.long 36289138012409]) ⟨hx, hb, hml, hown, hts⟩ (c_X4_count l D cy H.size h0 pg t0 t1 t2 sv e0 6 ) (cwV 1 hts gX4_digest_X4_count rfl rfl rfl (by decide +kernel) ⟨Nat.le_of_ble_eq_true rfl, Nat.le_of_ble_eq_true rfl⟩) (cpre_V (wc := [(h0, .inr (4, [.ref pg, .int 0, .int 0, .int 0, .ref t0, .ref t1, .ref t2, .ref sv, .int 0])), (t0, .inr (2, [.int 0, .int 0, .int 0, .ref e0]))]) 0 4 rfl rfl hX hP hD hS hA [0, 1] (by decide +kernel) rfl) rfl rfl hl.1 rfl (lv_room (Nat.le_of_ble_eq_true rfl)) dX4_digest_91 ⟨Nat.le_of_ble_eq_true rfl, Nat.le_of_ble_eq_true rfl⟩) hP hD hS hA [0, 1] [] rfl rfl (by decide +kernel) (by decide +kernel) (fun rz u20 H locs hw hP hD hS => ?_)
                      obtain ⟨hu, hrz⟩ := hw
                      subst hu
                      have hP : va_P D vwCl [(h0, .inr (4, [.ref pg, .int 0, .int 0, .int 0, .ref t0, .ref t1, .ref t2, .ref sv, .int 0])), (t0, .inr (2, [.int 0, .int 0, .int 0, .ref e0]))] H := hP
                      have hD : va_D A [(h0, .inr (4, [.ref pg, .int 0, .int 0, .int 0, .ref t0, .ref t1, .ref t2, .ref sv, .int 0])), (t0, .inr (2, [.int 0, .int 0, .int 0, .ref e0]))] := hD
                      have hrz := hrz.trans (if_neg (by decide))
                      subst hrz
                      refine lv_i2l (v := 0) hx hb dX4_digest_94 (by decide) ?_
                      refine lv_ladd hx hb dX4_digest_95 ?_
                      refine lv_topl (fun y21 ey21 => ?_)
                      obtain rfl : y21 = 36289138012409 := ey21.trans (by decide)
                      refine lv_lstore_n (lv' := [(1, .long 36289138012409), (3, .int 6), (0, .ref h0)]) hx hb dX4_digest_96 rfl hl (by decide) rfl (fun ls hl => ?_)
                      refine lv_iinc (v := 7) (lv' := [(3, .int 7), (1, .long 36289138012409), (0, .ref h0)]) hx hb dX4_digest_97 hl (k := 1) rfl (by decide) (by decide) rfl (fun ls hl => ?_)
                      refine lv_goto (tgt := 78) hx hb dX4_digest_100 (by decide) ?_
                      refine lv_iload_n hx hb dX4_digest_78 rfl (lv_at hl 0 rfl) ?_
                      refine lv_bipush (v := 8) hx hb dX4_digest_79 (by decide) ?_
                      refine lv_icmp_gt (tgt := 103) hx hb dX4_digest_81 (by decide) (fun c_81 => ?_) (fun c_81 => ?_)
                      · exact absurd c_81 (by decide)
                      · refine lv_ldc2 hx hb hown k_203 dX4_digest_84 ?_
                        refine lv_lload_n hx hb dX4_digest_87 rfl (lv_at hl 1 rfl) ?_
                        refine lv_lmul hx hb dX4_digest_88 ?_
                        refine lv_topl (fun y22 ey22 => ?_)
                        obtain rfl : y22 = 1124963278384679 := ey22.trans (by decide)
                        refine lv_aload_n hx hb dX4_digest_89 rfl (lv_at hl 2 rfl) ?_
                        refine lv_iload_n hx hb dX4_digest_90 rfl (lv_at hl 0 rfl) ?_
                        refine kc_i (wc := [(h0, .inr (4, [.ref pg, .int 0, .int 0, .int 0, .ref t0, .ref t1, .ref t2, .ref sv, .int 0])), (t0, .inr (2, [.int 0, .int 0, .int 0, .ref e0]))]) (wr := []) (va_runV (As := [.int 7]) (rest := [.long 1124963278384679]) ⟨hx, hb, hml, hown, hts⟩ (c_X4_count l D cy H.size h0 pg t0 t1 t2 sv e0 7 ) (cwV 1 hts gX4_digest_X4_count rfl rfl rfl (by decide +kernel) ⟨Nat.le_of_ble_eq_true rfl, Nat.le_of_ble_eq_true rfl⟩) (cpre_V (wc := [(h0, .inr (4, [.ref pg, .int 0, .int 0, .int 0, .ref t0, .ref t1, .ref t2, .ref sv, .int 0])), (t0, .inr (2, [.int 0, .int 0, .int 0, .ref e0]))]) 0 4 rfl rfl hX hP hD hS hA [0, 1] (by decide +kernel) rfl) rfl rfl hl.1 rfl (lv_room (Nat.le_of_ble_eq_true rfl)) dX4_digest_91 ⟨Nat.le_of_ble_eq_true rfl, Nat.le_of_ble_eq_true rfl⟩) hP hD hS hA [0, 1] [] rfl rfl (by decide +kernel) (by decide +kernel) (fun rz u23 H locs hw hP hD hS => ?_)
                        obtain ⟨hu, hrz⟩ := hw
                        subst hu
                        have hP : va_P D vwCl [(h0, .inr (4, [.ref pg, .int 0, .int 0, .int 0, .ref t0, .ref t1, .ref t2, .ref sv, .int 0])), (t0, .inr (2, [.int 0, .int 0, .int 0, .ref e0]))] H := hP
                        have hD : va_D A [(h0, .inr (4, [.ref pg, .int 0, .int 0, .int 0, .ref t0, .ref t1, .ref t2, .ref sv, .int 0])), (t0, .inr (2, [.int 0, .int 0, .int 0, .ref e0]))] := hD
                        have hrz := hrz.trans (if_neg (by decide))
                        subst hrz
                        refine lv_i2l (v := 0) hx hb dX4_digest_94 (by decide) ?_
                        refine lv_ladd hx hb dX4_digest_95 ?_
                        refine lv_topl (fun y24 ey24 => ?_)
                        obtain rfl : y24 = 1124963278384679 := ey24.trans (by decide)
                        refine lv_lstore_n (lv' := [(1, .long 1124963278384679), (3, .int 7), (0, .ref h0)]) hx hb dX4_digest_96 rfl hl (by decide) rfl (fun ls hl => ?_)
                        refine lv_iinc (v := 8) (lv' := [(3, .int 8), (1, .long 1124963278384679), (0, .ref h0)]) hx hb dX4_digest_97 hl (k := 1) rfl (by decide) (by decide) rfl (fun ls hl => ?_)
                        refine lv_goto (tgt := 78) hx hb dX4_digest_100 (by decide) ?_
                        refine lv_iload_n hx hb dX4_digest_78 rfl (lv_at hl 0 rfl) ?_
                        refine lv_bipush (v := 8) hx hb dX4_digest_79 (by decide) ?_
                        refine lv_icmp_gt (tgt := 103) hx hb dX4_digest_81 (by decide) (fun c_81 => ?_) (fun c_81 => ?_)
                        · exact absurd c_81 (by decide)
                        · refine lv_ldc2 hx hb hown k_203 dX4_digest_84 ?_
                          refine lv_lload_n hx hb dX4_digest_87 rfl (lv_at hl 1 rfl) ?_
                          refine lv_lmul hx hb dX4_digest_88 ?_
                          refine lv_topl (fun y25 ey25 => ?_)
                          obtain rfl : y25 = 34873861629925049 := ey25.trans (by decide)
                          refine lv_aload_n hx hb dX4_digest_89 rfl (lv_at hl 2 rfl) ?_
                          refine lv_iload_n hx hb dX4_digest_90 rfl (lv_at hl 0 rfl) ?_
                          refine kc_i (wc := [(h0, .inr (4, [.ref pg, .int 0, .int 0, .int 0, .ref t0, .ref t1, .ref t2, .ref sv, .int 0])), (t0, .inr (2, [.int 0, .int 0, .int 0, .ref e0]))]) (wr := []) (va_runV (As := [.int 8]) (rest := [.long 34873861629925049]) ⟨hx, hb, hml, hown, hts⟩ (c_X4_count l D cy H.size h0 pg t0 t1 t2 sv e0 8 ) (cwV 1 hts gX4_digest_X4_count rfl rfl rfl (by decide +kernel) ⟨Nat.le_of_ble_eq_true rfl, Nat.le_of_ble_eq_true rfl⟩) (cpre_V (wc := [(h0, .inr (4, [.ref pg, .int 0, .int 0, .int 0, .ref t0, .ref t1, .ref t2, .ref sv, .int 0])), (t0, .inr (2, [.int 0, .int 0, .int 0, .ref e0]))]) 0 4 rfl rfl hX hP hD hS hA [0, 1] (by decide +kernel) rfl) rfl rfl hl.1 rfl (lv_room (Nat.le_of_ble_eq_true rfl)) dX4_digest_91 ⟨Nat.le_of_ble_eq_true rfl, Nat.le_of_ble_eq_true rfl⟩) hP hD hS hA [0, 1] [] rfl rfl (by decide +kernel) (by decide +kernel) (fun rz u26 H locs hw hP hD hS => ?_)
                          obtain ⟨hu, hrz⟩ := hw
                          subst hu
                          have hP : va_P D vwCl [(h0, .inr (4, [.ref pg, .int 0, .int 0, .int 0, .ref t0, .ref t1, .ref t2, .ref sv, .int 0])), (t0, .inr (2, [.int 0, .int 0, .int 0, .ref e0]))] H := hP
                          have hD : va_D A [(h0, .inr (4, [.ref pg, .int 0, .int 0, .int 0, .ref t0, .ref t1, .ref t2, .ref sv, .int 0])), (t0, .inr (2, [.int 0, .int 0, .int 0, .ref e0]))] := hD
                          have hrz := hrz.trans (if_neg (by decide))
                          subst hrz
                          refine lv_i2l (v := 0) hx hb dX4_digest_94 (by decide) ?_
                          refine lv_ladd hx hb dX4_digest_95 ?_
                          refine lv_topl (fun y27 ey27 => ?_)
                          obtain rfl : y27 = 34873861629925049 := ey27.trans (by decide)
                          refine lv_lstore_n (lv' := [(1, .long 34873861629925049), (3, .int 8), (0, .ref h0)]) hx hb dX4_digest_96 rfl hl (by decide) rfl (fun ls hl => ?_)
                          refine lv_iinc (v := 9) (lv' := [(3, .int 9), (1, .long 34873861629925049), (0, .ref h0)]) hx hb dX4_digest_97 hl (k := 1) rfl (by decide) (by decide) rfl (fun ls hl => ?_)
                          refine lv_goto (tgt := 78) hx hb dX4_digest_100 (by decide) ?_
                          refine lv_iload_n hx hb dX4_digest_78 rfl (lv_at hl 0 rfl) ?_
                          refine lv_bipush (v := 8) hx hb dX4_digest_79 (by decide) ?_
                          refine lv_icmp_gt (tgt := 103) hx hb dX4_digest_81 (by decide) (fun c_81 => ?_) (fun c_81 => ?_)
                          · refine lv_lload_n hx hb dX4_digest_103 rfl (lv_at hl 1 rfl) ?_
                            have hP9 := hP.sub (ws' := [(h0, .inr (4, [.ref pg, .int 0, .int 0, .int 0, .ref t0, .ref t1, .ref t2, .ref sv, .int 0])), (t0, .inr (2, [.int 0, .int 0, .int 0, .ref e0]))]) [0, 1] rfl
                            have hD9 := hD.sub (ws' := [(h0, .inr (4, [.ref pg, .int 0, .int 0, .int 0, .ref t0, .ref t1, .ref t2, .ref sv, .int 0])), (t0, .inr (2, [.int 0, .int 0, .int 0, .ref e0]))]) [0, 1] (by decide +kernel) rfl
                            exact W.lret (v := 34873861629925049) hx hb hr (fun t9 ht9 hW9 => ⟨⟨34873861629925049, [(h0, .inr (4, [.ref pg, .int 0, .int 0, .int 0, .ref t0, .ref t1, .ref t2, .ref sv, .int 0])), (t0, .inr (2, [.int 0, .int 0, .int 0, .ref e0]))], rfl, ⟨rfl, rfl⟩, by rw [ht9]; exact hP9, hD9⟩, hS.F ht9⟩) hS.2.2 dX4_digest_104
                          · exact absurd c_81 (by decide)
      · exact absurd c_53 (by decide)
    · exact absurd c_37 (by decide)
  · exact absurd c_14 (by decide)
