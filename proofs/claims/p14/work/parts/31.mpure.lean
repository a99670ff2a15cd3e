def q_X5_within (cy : Nat → ClassId) (v : Int32) (lo : Int32) (hi : Int32) : Int32 → va_W → Prop := fun (r : Int32) (u : va_W) => u = [] ∧ r = (if ¬ v < lo ∧ ¬ hi < v then 1 else 0)
set_option maxHeartbeats 4000000 in
set_option maxRecDepth 100000 in
theorem c_X5_within (l : Launch) (D : va_G) (cy : Nat → ClassId) (zz : Nat) (v : Int32) (lo : Int32) (hi : Int32) : Met l yX5_within wsX5_within ({ frames := 0, cells := 0, slots := 0, locals := 0 } : Room) (va_Pc [.int v, .int lo, .int hi] (cpre D cy [] zz)) (va_Qi (q_X5_within cy v lo hi) (cpost D (va_A [] zz)) (va_A [] zz)) 0 0 (va_A [] zz) := by
  refine Met.ofW (cc := cX5_within) (maxL := 3) (ret := (some .boolean)) (by decide) rfl ?_
  intro p e s m args below meth c s₁ B hml hv
  obtain ⟨rfl, hsz, hP, hD0, hX⟩ := hv
  have hx := B.exec
  have hb := B.bytes
  have hr := B.returns
  have hts := atoms_spec (ws := wsX5_within) B.pre
  have hown : s.vm.findClass RX5 = some m.cls := findClass_of_methodNamed B.named
  have hlocks := B.notSynchronized
  subst hsz
  have hD := hD0.self (sz := s.heap.size)
  generalize hAe : va_A [] s.heap.size = A at hD hX ⊢
  have hA : ∀ q : Nat, s.heap.size ≤ q → A q := fun q h => by rw [← hAe]; exact Or.inr h
  obtain ⟨H, hH⟩ : ∃ H : Heap, H = s.heap := ⟨_, rfl⟩
  have hS : va_S A s.heap H [] := hH ▸ va_S.rf
  have hK := hX.1
  have hP : va_P D vwCl [] H := hH ▸ hP
  rw [← hH]
  have hl := lv_entry ([.int v, .int lo, .int hi]) (n := 3) (Nat.le_of_ble_eq_true rfl)
  rw [lg_entry_eq]
  generalize (lg_sl ([.int v, .int lo, .int hi]) ++ List.replicate (3 - (lg_sl ([.int v, .int lo, .int hi])).length) Slot.unset).toArray = ls at hl ⊢
  have hl : lv_has ls 3 [(0, .int v), (1, .int lo), (2, .int hi)] := hl
  refine lv_iload_n hx hb dX5_within_0 rfl (lv_at hl 0 rfl) ?_
  refine lv_iload_n hx hb dX5_within_1 rfl (lv_at hl 1 rfl) ?_
  refine lv_icmp_lt (tgt := 14) hx hb dX5_within_2 (by decide) (fun c_2 => ?_) (fun c_2 => ?_)
  · refine lv_iconst (v := 0) hx hb dX5_within_14 (by decide) ?_
    have hP9 := hP.sub (ws' := []) [] rfl
    have hD9 := hD.sub (ws' := []) [] (by decide +kernel) rfl
    exact W.zret (v := 0) hx hb hr (rfl) (fun t9 ht9 hW9 => ⟨⟨0, [], rfl, ⟨rfl, (if_neg (fun h => h.1 c_2)).symm⟩, by rw [ht9]; exact hP9, hD9⟩, hS.F ht9⟩) hS.2.2 dX5_within_15
  · refine lv_iload_n hx hb dX5_within_5 rfl (lv_at hl 0 rfl) ?_
    refine lv_iload_n hx hb dX5_within_6 rfl (lv_at hl 2 rfl) ?_
    refine lv_icmp_gt (tgt := 14) hx hb dX5_within_7 (by decide) (fun c_7 => ?_) (fun c_7 => ?_)
    · refine lv_iconst (v := 0) hx hb dX5_within_14 (by decide) ?_
      have hP9 := hP.sub (ws' := []) [] rfl
      have hD9 := hD.sub (ws' := []) [] (by decide +kernel) rfl
      exact W.zret (v := 0) hx hb hr (rfl) (fun t9 ht9 hW9 => ⟨⟨0, [], rfl, ⟨rfl, (if_neg (fun h => h.2 c_7)).symm⟩, by rw [ht9]; exact hP9, hD9⟩, hS.F ht9⟩) hS.2.2 dX5_within_15
    · refine lv_iconst (v := 1) hx hb dX5_within_10 (by decide) ?_
      refine lv_goto (tgt := 15) hx hb dX5_within_11 (by decide) ?_
      have hP9 := hP.sub (ws' := []) [] rfl
      have hD9 := hD.sub (ws' := []) [] (by decide +kernel) rfl
      exact W.zret (v := 1) hx hb hr (rfl) (fun t9 ht9 hW9 => ⟨⟨1, [], rfl, ⟨rfl, (if_pos ⟨c_2, c_7⟩).symm⟩, by rw [ht9]; exact hP9, hD9⟩, hS.F ht9⟩) hS.2.2 dX5_within_15
def q_X5_isIn (cy : Nat → ClassId) (x1 : Int32) (x2 : Int32) : Int32 → va_W → Prop := fun (r : Int32) (u : va_W) => u = [] ∧ r = (if (x1 >>> (x2 &&& 31)) &&& 1 = 1 then 1 else 0)
set_option maxHeartbeats 4000000 in
set_option maxRecDepth 100000 in
theorem c_X5_isIn (l : Launch) (D : va_G) (cy : Nat → ClassId) (zz : Nat) (x1 : Int32) (x2 : Int32) : Met l yX5_isIn wsX5_isIn ({ frames := 0, cells := 0, slots := 0, locals := 0 } : Room) (va_Pc [.int x1, .int x2] (cpre D cy [] zz)) (va_Qi (q_X5_isIn cy x1 x2) (cpost D (va_A [] zz)) (va_A [] zz)) 0 0 (va_A [] zz) := by
  refine Met.ofW (cc := cX5_isIn) (maxL := 2) (ret := (some .boolean)) (by decide) rfl ?_
  intro p e s m args below meth c s₁ B hml hv
  obtain ⟨rfl, hsz, hP, hD0, hX⟩ := hv
  have hx := B.exec
  have hb := B.bytes
  have hr := B.returns
  have hts := atoms_spec (ws := wsX5_isIn) B.pre
  have hown : s.vm.findClass RX5 = some m.cls := findClass_of_methodNamed B.named
  have hlocks := B.notSynchronized
  subst hsz
  have hD := hD0.self (sz := s.heap.size)
  generalize hAe : va_A [] s.heap.size = A at hD hX ⊢
  have hA : ∀ q : Nat, s.heap.size ≤ q → A q := fun q h => by rw [← hAe]; exact Or.inr h
  obtain ⟨H, hH⟩ : ∃ H : Heap, H = s.heap := ⟨_, rfl⟩
  have hS : va_S A s.heap H [] := hH ▸ va_S.rf
  have hK := hX.1
  have hP : va_P D vwCl [] H := hH ▸ hP
  rw [← hH]
  have hl := lv_entry ([.int x1, .int x2]) (n := 2) (Nat.le_of_ble_eq_true rfl)
  rw [lg_entry_eq]
  generalize (lg_sl ([.int x1, .int x2]) ++ List.replicate (2 - (lg_sl ([.int x1, .int x2])).length) Slot.unset).toArray = ls at hl ⊢
  have hl : lv_has ls 2 [(0, .int x1), (1, .int x2)] := hl
  refine lv_iload_n hx hb dX5_isIn_0 rfl (lv_at hl 0 rfl) ?_
  refine lv_iload_n hx hb dX5_isIn_1 rfl (lv_at hl 1 rfl) ?_
  refine lv_ishr hx hb dX5_isIn_2 ?_
  refine lv_iconst (v := 1) hx hb dX5_isIn_3 (by decide) ?_
  refine lv_iand hx hb dX5_isIn_4 ?_
  refine lv_iconst (v := 1) hx hb dX5_isIn_5 (by decide) ?_
  refine lv_icmp_ne (tgt := 13) hx hb dX5_isIn_6 (by decide) (fun c_6 => ?_) (fun c_6 => ?_)
  · refine lv_iconst (v := 0) hx hb dX5_isIn_13 (by decide) ?_
    have hP9 := hP.sub (ws' := []) [] rfl
    have hD9 := hD.sub (ws' := []) [] (by decide +kernel) rfl
    exact W.zret (v := 0) hx hb hr (rfl) (fun t9 ht9 hW9 => ⟨⟨0, [], rfl, ⟨rfl, (if_neg c_6).symm⟩, by rw [ht9]; exact hP9, hD9⟩, hS.F ht9⟩) hS.2.2 dX5_isIn_14
  · refine lv_iconst (v := 1) hx hb dX5_isIn_9 (by decide) ?_
    refine lv_goto (tgt := 14) hx hb dX5_isIn_10 (by decide) ?_
    have hP9 := hP.sub (ws' := []) [] rfl
    have hD9 := hD.sub (ws' := []) [] (by decide +kernel) rfl
    exact W.zret (v := 1) hx hb hr (rfl) (fun t9 ht9 hW9 => ⟨⟨1, [], rfl, ⟨rfl, (if_pos c_6).symm⟩, by rw [ht9]; exact hP9, hD9⟩, hS.F ht9⟩) hS.2.2 dX5_isIn_14
def q_X5_side (cy : Nat → ClassId) (x1 : Int32) (x2 : Int32) : Int32 → va_W → Prop := fun (r : Int32) (u : va_W) => u = [] ∧ r = sdI x1 x2
set_option maxHeartbeats 4000000 in
set_option maxRecDepth 100000 in
theorem c_X5_side (l : Launch) (D : va_G) (cy : Nat → ClassId) (zz : Nat) (x1 : Int32) (x2 : Int32) : Met l yX5_side wsX5_side ({ frames := 0, cells := 0, slots := 0, locals := 0 } : Room) (va_Pc [.int x1, .int x2] (cpre D cy [] zz)) (va_Qi (q_X5_side cy x1 x2) (cpost D (va_A [] zz)) (va_A [] zz)) 0 0 (va_A [] zz) := by
  refine Met.ofW (cc := cX5_side) (maxL := 2) (ret := (some .int)) (by decide) rfl ?_
  intro p e s m args below meth c s₁ B hml hv
  obtain ⟨rfl, hsz, hP, hD0, hX⟩ := hv
  have hx := B.exec
  have hb := B.bytes
  have hr := B.returns
  have hts := atoms_spec (ws := wsX5_side) B.pre
  have hown : s.vm.findClass RX5 = some m.cls := findClass_of_methodNamed B.named
  have hlocks := B.notSynchronized
  subst hsz
  have hD := hD0.self (sz := s.heap.size)
  generalize hAe : va_A [] s.heap.size = A at hD hX ⊢
  have hA : ∀ q : Nat, s.heap.size ≤ q → A q := fun q h => by rw [← hAe]; exact Or.inr h
  obtain ⟨H, hH⟩ : ∃ H : Heap, H = s.heap := ⟨_, rfl⟩
  have hS : va_S A s.heap H [] := hH ▸ va_S.rf
  have hK := hX.1
  have hP : va_P D vwCl [] H := hH ▸ hP
  rw [← hH]
  have hl := lv_entry ([.int x1, .int x2]) (n := 2) (Nat.le_of_ble_eq_true rfl)
  rw [lg_entry_eq]
  generalize (lg_sl ([.int x1, .int x2]) ++ List.replicate (2 - (lg_sl ([.int x1, .int x2])).length) Slot.unset).toArray = ls at hl ⊢
  have hl : lv_has ls 2 [(0, .int x1), (1, .int x2)] := hl
  refine lv_iload_n hx hb dX5_side_0 rfl (lv_at hl 0 rfl) ?_
  refine lv_iconst (v := 3) hx hb dX5_side_1 (by decide) ?_
  refine lv_iload_n hx hb dX5_side_2 rfl (lv_at hl 1 rfl) ?_
  refine lv_imul hx hb dX5_side_3 ?_
  refine lv_ishr hx hb dX5_side_4 ?_
  refine lv_bipush (v := 7) hx hb dX5_side_5 (by decide) ?_
  refine lv_iand hx hb dX5_side_7 ?_
  have hP9 := hP.sub (ws' := []) [] rfl
  have hD9 := hD.sub (ws' := []) [] (by decide +kernel) rfl
  exact W.iret (v := (x1 >>> ((3 * x2) &&& 31)) &&& 7) hx hb hr (fun t9 ht9 hW9 => ⟨⟨(x1 >>> ((3 * x2) &&& 31)) &&& 7, [], rfl, ⟨rfl, rfl⟩, by rw [ht9]; exact hP9, hD9⟩, hS.F ht9⟩) hS.2.2 dX5_side_8
def q_X5_ring (cy : Nat → ClassId) (x1 : Int32) (ra : Int32) (rb : Int32) (rc : Int32) (rd : Int32) : Int32 → va_W → Prop := fun (r : Int32) (u : va_W) => u = [] ∧ r = rgI x1 ra rb rc rd
set_option maxHeartbeats 4000000 in
set_option maxRecDepth 100000 in
theorem c_X5_ring (l : Launch) (D : va_G) (cy : Nat → ClassId) (zz : Nat) (x1 : Int32) (ra : Int32) (rb : Int32) (rc : Int32) (rd : Int32) : Met l yX5_ring wsX5_ring ({ frames := 1, cells := 0, slots := 0, locals := 21 } : Room) (va_Pc [.int x1, .int ra, .int rb, .int rc, .int rd] (cpre D cy [] zz)) (va_Qi (q_X5_ring cy x1 ra rb rc rd) (cpost D (va_A [] zz)) (va_A [] zz)) 0 0 (va_A [] zz) := by
  refine Met.ofW (cc := cX5_ring) (maxL := 6) (ret := (some .int)) (by decide) rfl ?_
  intro p e s m args below meth c s₁ B hml hv
  obtain ⟨rfl, hsz, hP, hD0, hX⟩ := hv
  have hx := B.exec
  have hb := B.bytes
  have hr := B.returns
  have hts := atoms_spec (ws := wsX5_ring) B.pre
  have hown : s.vm.findClass RX5 = some m.cls := findClass_of_methodNamed B.named
  have hlocks := B.notSynchronized
  subst hsz
  have hD := hD0.self (sz := s.heap.size)
  generalize hAe : va_A [] s.heap.size = A at hD hX ⊢
  have hA : ∀ q : Nat, s.heap.size ≤ q → A q := fun q h => by rw [← hAe]; exact Or.inr h
  obtain ⟨H, hH⟩ : ∃ H : Heap, H = s.heap := ⟨_, rfl⟩
  have hS : va_S A s.heap H [] := hH ▸ va_S.rf
  have hK := hX.1
  have hP : va_P D vwCl [] H := hH ▸ hP
  rw [← hH]
  have hl := lv_entry ([.int x1, .int ra, .int rb, .int rc, .int rd]) (n := 6) (Nat.le_of_ble_eq_true rfl)
  rw [lg_entry_eq]
  generalize (lg_sl ([.int x1, .int ra, .int rb, .int rc, .int rd]) ++ List.replicate (6 - (lg_sl ([.int x1, .int ra, .int rb, .int rc, .int rd])).length) Slot.unset).toArray = ls at hl ⊢
  have hl : lv_has ls 6 [(0, .int x1), (1, .int ra), (2, .int rb), (3, .int rc), (4, .int rd)] := hl
  refine lv_iload_n hx hb dX5_ring_0 rfl (lv_at hl 0 rfl) ?_
  refine lv_bipush (v := 7) hx hb dX5_ring_1 (by decide) ?_
  refine lv_iconst (v := 3) hx hb dX5_ring_3 (by decide) ?_
  refine lv_iload_n hx hb dX5_ring_4 rfl (lv_at hl 1 rfl) ?_
  refine lv_imul hx hb dX5_ring_5 ?_
  refine lv_ishl hx hb dX5_ring_6 ?_
  refine lv_bipush (v := 7) hx hb dX5_ring_7 (by decide) ?_
  refine lv_iconst (v := 3) hx hb dX5_ring_9 (by decide) ?_
  refine lv_iload_n hx hb dX5_ring_10 rfl (lv_at hl 2 rfl) ?_
  refine lv_imul hx hb dX5_ring_11 ?_
  refine lv_ishl hx hb dX5_ring_12 ?_
  refine lv_ior hx hb dX5_ring_13 ?_
  refine lv_bipush (v := 7) hx hb dX5_ring_14 (by decide) ?_
  refine lv_iconst (v := 3) hx hb dX5_ring_16 (by decide) ?_
  refine lv_iload_n hx hb dX5_ring_17 rfl (lv_at hl 3 rfl) ?_
  refine lv_imul hx hb dX5_ring_18 ?_
  refine lv_ishl hx hb dX5_ring_19 ?_
  refine lv_ior hx hb dX5_ring_20 ?_
  refine lv_bipush (v := 7) hx hb dX5_ring_21 (by decide) ?_
  refine lv_iconst (v := 3) hx hb dX5_ring_23 (by decide) ?_
  refine lv_iload hx hb dX5_ring_24 (lv_at hl 4 rfl) ?_
  refine lv_imul hx hb dX5_ring_26 ?_
  refine lv_ishl hx hb dX5_ring_27 ?_
  refine lv_ior hx hb dX5_ring_28 ?_
  refine lv_iconst (v := (-1)) hx hb dX5_ring_29 (by decide) ?_
  refine lv_ixor hx hb dX5_ring_30 ?_
  refine lv_iand hx hb dX5_ring_31 ?_
  refine lv_topi (fun y1 ey1 => ?_)
  obtain rfl : y1 = x1 &&& ((((m7 ra ||| m7 rb) ||| m7 rc) ||| m7 rd) ^^^ -1) := ey1.trans (rfl)
  refine lv_istore (lv' := [(5, .int (x1 &&& ((((m7 ra ||| m7 rb) ||| m7 rc) ||| m7 rd) ^^^ -1))), (0, .int x1), (1, .int ra), (2, .int rb), (3, .int rc), (4, .int rd)]) hx hb dX5_ring_32 hl (by decide) rfl (fun ls hl => ?_)
  refine lv_iload hx hb dX5_ring_34 (lv_at hl 0 rfl) ?_
  refine lv_iload_n hx hb dX5_ring_36 rfl (lv_at hl 1 rfl) ?_
  refine lv_iload_n hx hb dX5_ring_37 rfl (lv_at hl 2 rfl) ?_
  refine kc_i (wc := []) (wr := []) (va_runS (As := [.int x1, .int ra]) (rest := [.int (x1 &&& ((((m7 ra ||| m7 rb) ||| m7 rc) ||| m7 rd) ^^^ -1))]) ⟨hx, hb, hml, hown, hts⟩ (c_X5_side l D cy H.size x1 ra ) (va_cwS 2 hts gX5_ring_X5_side rfl rfl rfl hdc_X5_side.2 ⟨Nat.le_of_ble_eq_true rfl, Nat.le_of_ble_eq_true rfl⟩) (cpre_S (wc := []) hX hP hD hS hA [] (by decide +kernel) rfl) rfl rfl hl.1 rfl (lv_room (Nat.le_of_ble_eq_true rfl)) dX5_ring_38 ⟨Nat.le_of_ble_eq_true rfl, Nat.le_of_ble_eq_true rfl⟩) hP hD hS hA [] [] rfl rfl (by decide +kernel) (by decide +kernel) (fun rs u2 H locs hw hP hD hS => ?_)
  obtain ⟨hu, hrs⟩ := hw
  subst hu
  have hP : va_P D vwCl [] H := hP
  have hD : va_D A [] := hD
  subst hrs
  refine lv_iconst (v := 3) hx hb dX5_ring_41 (by decide) ?_
  refine lv_iload_n hx hb dX5_ring_42 rfl (lv_at hl 3 rfl) ?_
  refine lv_imul hx hb dX5_ring_43 ?_
  refine lv_ishl hx hb dX5_ring_44 ?_
  refine lv_ior hx hb dX5_ring_45 ?_
  refine lv_iload_n hx hb dX5_ring_46 rfl (lv_at hl 1 rfl) ?_
  refine lv_iload_n hx hb dX5_ring_47 rfl (lv_at hl 3 rfl) ?_
  refine kc_i (wc := []) (wr := []) (va_runS (As := [.int x1, .int rb]) (rest := [.int ((x1 &&& ((((m7 ra ||| m7 rb) ||| m7 rc) ||| m7 rd) ^^^ -1)) ||| ((sdI x1 ra) <<< ((3 * rb) &&& 31)))]) ⟨hx, hb, hml, hown, hts⟩ (c_X5_side l D cy H.size x1 rb ) (va_cwS 2 hts gX5_ring_X5_side rfl rfl rfl hdc_X5_side.2 ⟨Nat.le_of_ble_eq_true rfl, Nat.le_of_ble_eq_true rfl⟩) (cpre_S (wc := []) hX hP hD hS hA [] (by decide +kernel) rfl) rfl rfl hl.1 rfl (lv_room (Nat.le_of_ble_eq_true rfl)) dX5_ring_48 ⟨Nat.le_of_ble_eq_true rfl, Nat.le_of_ble_eq_true rfl⟩) hP hD hS hA [] [] rfl rfl (by decide +kernel) (by decide +kernel) (fun rs u3 H locs hw hP hD hS => ?_)
  obtain ⟨hu, hrs⟩ := hw
  subst hu
  have hP : va_P D vwCl [] H := hP
  have hD : va_D A [] := hD
  subst hrs
  refine lv_iconst (v := 3) hx hb dX5_ring_51 (by decide) ?_
  refine lv_iload_n hx hb dX5_ring_52 rfl (lv_at hl 4 rfl) ?_
  refine lv_imul hx hb dX5_ring_53 ?_
  refine lv_ishl hx hb dX5_ring_54 ?_
  refine lv_ior hx hb dX5_ring_55 ?_
  refine lv_iload_n hx hb dX5_ring_56 rfl (lv_at hl 1 rfl) ?_
  refine lv_iload_n hx hb dX5_ring_57 rfl (lv_at hl 4 rfl) ?_
  refine kc_i (wc := []) (wr := []) (va_runS (As := [.int x1, .int rc]) (rest := [.int (((x1 &&& ((((m7 ra ||| m7 rb) ||| m7 rc) ||| m7 rd) ^^^ -1)) ||| ((sdI x1 ra) <<< ((3 * rb) &&& 31))) ||| ((sdI x1 rb) <<< ((3 * rc) &&& 31)))]) ⟨hx, hb, hml, hown, hts⟩ (c_X5_side l D cy H.size x1 rc ) (va_cwS 2 hts gX5_ring_X5_side rfl rfl rfl hdc_X5_side.2 ⟨Nat.le_of_ble_eq_true rfl, Nat.le_of_ble_eq_true rfl⟩) (cpre_S (wc := []) hX hP hD hS hA [] (by decide +kernel) rfl) rfl rfl hl.1 rfl (lv_room (Nat.le_of_ble_eq_true rfl)) dX5_ring_58 ⟨Nat.le_of_ble_eq_true rfl, Nat.le_of_ble_eq_true rfl⟩) hP hD hS hA [] [] rfl rfl (by decide +kernel) (by decide +kernel) (fun rs u4 H locs hw hP hD hS => ?_)
  obtain ⟨hu, hrs⟩ := hw
  subst hu
  have hP : va_P D vwCl [] H := hP
  have hD : va_D A [] := hD
  subst hrs
  refine lv_iconst (v := 3) hx hb dX5_ring_61 (by decide) ?_
  refine lv_iload hx hb dX5_ring_62 (lv_at hl 5 rfl) ?_
  refine lv_imul hx hb dX5_ring_64 ?_
  refine lv_ishl hx hb dX5_ring_65 ?_
  refine lv_ior hx hb dX5_ring_66 ?_
  refine lv_iload_n hx hb dX5_ring_67 rfl (lv_at hl 1 rfl) ?_
  refine lv_iload hx hb dX5_ring_68 (lv_at hl 5 rfl) ?_
  refine kc_i (wc := []) (wr := []) (va_runS (As := [.int x1, .int rd]) (rest := [.int ((((x1 &&& ((((m7 ra ||| m7 rb) ||| m7 rc) ||| m7 rd) ^^^ -1)) ||| ((sdI x1 ra) <<< ((3 * rb) &&& 31))) ||| ((sdI x1 rb) <<< ((3 * rc) &&& 31))) ||| ((sdI x1 rc) <<< ((3 * rd) &&& 31)))]) ⟨hx, hb, hml, hown, hts⟩ (c_X5_side l D cy H.size x1 rd ) (va_cwS 2 hts gX5_ring_X5_side rfl rfl rfl hdc_X5_side.2 ⟨Nat.le_of_ble_eq_true rfl, Nat.le_of_ble_eq_true rfl⟩) (cpre_S (wc := []) hX hP hD hS hA [] (by decide +kernel) rfl) rfl rfl hl.1 rfl (lv_room (Nat.le_of_ble_eq_true rfl)) dX5_ring_70 ⟨Nat.le_of_ble_eq_true rfl, Nat.le_of_ble_eq_true rfl⟩) hP hD hS hA [] [] rfl rfl (by decide +kernel) (by decide +kernel) (fun rs u5 H locs hw hP hD hS => ?_)
  obtain ⟨hu, hrs⟩ := hw
  subst hu
  have hP : va_P D vwCl [] H := hP
  have hD : va_D A [] := hD
  subst hrs
  refine lv_iconst (v := 3) hx hb dX5_ring_73 (by decide) ?_
  refine lv_iload_n hx hb dX5_ring_74 rfl (lv_at hl 2 rfl) ?_
  refine lv_imul hx hb dX5_ring_75 ?_
  refine lv_ishl hx hb dX5_ring_76 ?_
  refine lv_ior hx hb dX5_ring_77 ?_
  have hP9 := hP.sub (ws' := []) [] rfl
  have hD9 := hD.sub (ws' := []) [] (by decide +kernel) rfl
  exact W.iret (v := ((((x1 &&& ((((m7 ra ||| m7 rb) ||| m7 rc) ||| m7 rd) ^^^ -1)) ||| ((sdI x1 ra) <<< ((3 * rb) &&& 31))) ||| ((sdI x1 rb) <<< ((3 * rc) &&& 31))) ||| ((sdI x1 rc) <<< ((3 * rd) &&& 31))) ||| ((sdI x1 rd) <<< ((3 * ra) &&& 31))) hx hb hr (fun t9 ht9 hW9 => ⟨⟨((((x1 &&& ((((m7 ra ||| m7 rb) ||| m7 rc) ||| m7 rd) ^^^ -1)) ||| ((sdI x1 ra) <<< ((3 * rb) &&& 31))) ||| ((sdI x1 rb) <<< ((3 * rc) &&& 31))) ||| ((sdI x1 rc) <<< ((3 * rd) &&& 31))) ||| ((sdI x1 rd) <<< ((3 * ra) &&& 31)), [], rfl, ⟨rfl, rfl⟩, by rw [ht9]; exact hP9, hD9⟩, hS.F ht9⟩) hS.2.2 dX5_ring_78
def q_X5_quarter (cy : Nat → ClassId) (x1 : Int32) (t : Nat) : Int32 → va_W → Prop := fun (r : Int32) (u : va_W) => u = [] ∧ r = quI x1 t
set_option maxHeartbeats 4000000 in
set_option maxRecDepth 100000 in
theorem c_X5_quarter (l : Launch) (D : va_G) (cy : Nat → ClassId) (zz : Nat) (x1 : Int32) (t : Nat) (ht : t < 4) : Met l yX5_quarter wsX5_quarter ({ frames := 2, cells := 0, slots := 0, locals := 46 } : Room) (va_Pc [.int x1, .int (nI t)] (cpre D cy [] zz)) (va_Qi (q_X5_quarter cy x1 t) (cpost D (va_A [] zz)) (va_A [] zz)) 0 0 (va_A [] zz) := by
  refine Met.ofW (cc := cX5_quarter) (maxL := 2) (ret := (some .int)) (by decide) rfl ?_
  intro p e s m args below meth c s₁ B hml hv
  obtain ⟨rfl, hsz, hP, hD0, hX⟩ := hv
  have hx := B.exec
  have hb := B.bytes
  have hr := B.returns
  have hts := atoms_spec (ws := wsX5_quarter) B.pre
  have hown : s.vm.findClass RX5 = some m.cls := findClass_of_methodNamed B.named
  have hlocks := B.notSynchronized
  subst hsz
  have hD := hD0.self (sz := s.heap.size)
  generalize hAe : va_A [] s.heap.size = A at hD hX ⊢
  have hA : ∀ q : Nat, s.heap.size ≤ q → A q := fun q h => by rw [← hAe]; exact Or.inr h
  obtain ⟨H, hH⟩ : ∃ H : Heap, H = s.heap := ⟨_, rfl⟩
  have hS : va_S A s.heap H [] := hH ▸ va_S.rf
  have hK := hX.1
  have hP : va_P D vwCl [] H := hH ▸ hP
  rw [← hH]
  have hl := lv_entry ([.int x1, .int (nI t)]) (n := 2) (Nat.le_of_ble_eq_true rfl)
  rw [lg_entry_eq]
  generalize (lg_sl ([.int x1, .int (nI t)]) ++ List.replicate (2 - (lg_sl ([.int x1, .int (nI t)])).length) Slot.unset).toArray = ls at hl ⊢
  have hl : lv_has ls 2 [(0, .int x1), (1, .int (nI t))] := hl
  rcases t4 ht with rfl | rfl | rfl | rfl
  · have hl : lv_has ls 2 [(0, .int x1), (1, .int 0)] := hl
    refine lv_iload_n hx hb dX5_quarter_0 rfl (lv_at hl 1 rfl) ?_
    refine lv_tableIn (off := 27) (tgt := 28) hx hb dX5_quarter_1 (by decide) (by decide) rfl (by decide) ?_
    refine lv_iload_n hx hb dX5_quarter_28 rfl (lv_at hl 0 rfl) ?_
    refine lv_iconst (v := 2) hx hb dX5_quarter_29 (by decide) ?_
    refine lv_iconst (v := 4) hx hb dX5_quarter_30 (by decide) ?_
    refine lv_iconst (v := 3) hx hb dX5_quarter_31 (by decide) ?_
    refine lv_iconst (v := 5) hx hb dX5_quarter_32 (by decide) ?_
    refine kc_i (wc := []) (wr := []) (va_runS (As := [.int x1, .int 2, .int 4, .int 3, .int 5]) (rest := []) ⟨hx, hb, hml, hown, hts⟩ (c_X5_ring l D cy H.size x1 2 4 3 5 ) (va_cwS 5 hts gX5_quarter_X5_ring rfl rfl rfl hdc_X5_ring.2 ⟨Nat.le_of_ble_eq_true rfl, Nat.le_of_ble_eq_true rfl⟩) (cpre_S (wc := []) hX hP hD hS hA [] (by decide +kernel) rfl) rfl rfl hl.1 rfl (lv_room (Nat.le_of_ble_eq_true rfl)) dX5_quarter_33 ⟨Nat.le_of_ble_eq_true rfl, Nat.le_of_ble_eq_true rfl⟩) hP hD hS hA [] [] rfl rfl (by decide +kernel) (by decide +kernel) (fun rg u1 H locs hw hP hD hS => ?_)
    obtain ⟨hu, hrg⟩ := hw
    subst hu
    have hP : va_P D vwCl [] H := hP
    have hD : va_D A [] := hD
    have hP9 := hP.sub (ws' := []) [] rfl
    have hD9 := hD.sub (ws' := []) [] (by decide +kernel) rfl
    exact W.iret (v := rg) hx hb hr (fun t9 ht9 hW9 => ⟨⟨rg, [], rfl, ⟨rfl, hrg⟩, by rw [ht9]; exact hP9, hD9⟩, hS.F ht9⟩) hS.2.2 dX5_quarter_36
  · have hl : lv_has ls 2 [(0, .int x1), (1, .int 1)] := hl
    refine lv_iload_n hx hb dX5_quarter_0 rfl (lv_at hl 1 rfl) ?_
    refine lv_tableIn (off := 36) (tgt := 37) hx hb dX5_quarter_1 (by decide) (by decide) rfl (by decide) ?_
    refine lv_iload_n hx hb dX5_quarter_37 rfl (lv_at hl 0 rfl) ?_
    refine lv_iconst (v := 5) hx hb dX5_quarter_38 (by decide) ?_
    refine lv_iconst (v := 3) hx hb dX5_quarter_39 (by decide) ?_
    refine lv_iconst (v := 4) hx hb dX5_quarter_40 (by decide) ?_
    refine lv_iconst (v := 2) hx hb dX5_quarter_41 (by decide) ?_
    refine kc_i (wc := []) (wr := []) (va_runS (As := [.int x1, .int 5, .int 3, .int 4, .int 2]) (rest := []) ⟨hx, hb, hml, hown, hts⟩ (c_X5_ring l D cy H.size x1 5 3 4 2 ) (va_cwS 5 hts gX5_quarter_X5_ring rfl rfl rfl hdc_X5_ring.2 ⟨Nat.le_of_ble_eq_true rfl, Nat.le_of_ble_eq_true rfl⟩) (cpre_S (wc := []) hX hP hD hS hA [] (by decide +kernel) rfl) rfl rfl hl.1 rfl (lv_room (Nat.le_of_ble_eq_true rfl)) dX5_quarter_42 ⟨Nat.le_of_ble_eq_true rfl, Nat.le_of_ble_eq_true rfl⟩) hP hD hS hA [] [] rfl rfl (by decide +kernel) (by decide +kernel) (fun rg u2 H locs hw hP hD hS => ?_)
    obtain ⟨hu, hrg⟩ := hw
    subst hu
    have hP : va_P D vwCl [] H := hP
    have hD : va_D A [] := hD
    have hP9 := hP.sub (ws' := []) [] rfl
    have hD9 := hD.sub (ws' := []) [] (by decide +kernel) rfl
    exact W.iret (v := rg) hx hb hr (fun t9 ht9 hW9 => ⟨⟨rg, [], rfl, ⟨rfl, hrg⟩, by rw [ht9]; exact hP9, hD9⟩, hS.F ht9⟩) hS.2.2 dX5_quarter_45
  · have hl : lv_has ls 2 [(0, .int x1), (1, .int 2)] := hl
    refine lv_iload_n hx hb dX5_quarter_0 rfl (lv_at hl 1 rfl) ?_
    refine lv_tableIn (off := 45) (tgt := 46) hx hb dX5_quarter_1 (by decide) (by decide) rfl (by decide) ?_
    refine lv_iload_n hx hb dX5_quarter_46 rfl (lv_at hl 0 rfl) ?_
    refine lv_iconst (v := 0) hx hb dX5_quarter_47 (by decide) ?_
    refine lv_iconst (v := 2) hx hb dX5_quarter_48 (by decide) ?_
    refine lv_iconst (v := 1) hx hb dX5_quarter_49 (by decide) ?_
    refine lv_iconst (v := 3) hx hb dX5_quarter_50 (by decide) ?_
    refine kc_i (wc := []) (wr := []) (va_runS (As := [.int x1, .int 0, .int 2, .int 1, .int 3]) (rest := []) ⟨hx, hb, hml, hown, hts⟩ (c_X5_ring l D cy H.size x1 0 2 1 3 ) (va_cwS 5 hts gX5_quarter_X5_ring rfl rfl rfl hdc_X5_ring.2 ⟨Nat.le_of_ble_eq_true rfl, Nat.le_of_ble_eq_true rfl⟩) (cpre_S (wc := []) hX hP hD hS hA [] (by decide +kernel) rfl) rfl rfl hl.1 rfl (lv_room (Nat.le_of_ble_eq_true rfl)) dX5_quarter_51 ⟨Nat.le_of_ble_eq_true rfl, Nat.le_of_ble_eq_true rfl⟩) hP hD hS hA [] [] rfl rfl (by decide +kernel) (by decide +kernel) (fun rg u3 H locs hw hP hD hS => ?_)
    obtain ⟨hu, hrg⟩ := hw
    subst hu
    have hP : va_P D vwCl [] H := hP
    have hD : va_D A [] := hD
    have hP9 := hP.sub (ws' := []) [] rfl
    have hD9 := hD.sub (ws' := []) [] (by decide +kernel) rfl
    exact W.iret (v := rg) hx hb hr (fun t9 ht9 hW9 => ⟨⟨rg, [], rfl, ⟨rfl, hrg⟩, by rw [ht9]; exact hP9, hD9⟩, hS.F ht9⟩) hS.2.2 dX5_quarter_54
  · have hl : lv_has ls 2 [(0, .int x1), (1, .int 3)] := hl
    refine lv_iload_n hx hb dX5_quarter_0 rfl (lv_at hl 1 rfl) ?_
    refine lv_tableOut (tgt := 55) hx hb dX5_quarter_1 (by decide) (by decide) ?_
    refine lv_iload_n hx hb dX5_quarter_55 rfl (lv_at hl 0 rfl) ?_
    refine lv_iconst (v := 3) hx hb dX5_quarter_56 (by decide) ?_
    refine lv_iconst (v := 1) hx hb dX5_quarter_57 (by decide) ?_
    refine lv_iconst (v := 2) hx hb dX5_quarter_58 (by decide) ?_
    refine lv_iconst (v := 0) hx hb dX5_quarter_59 (by decide) ?_
    refine kc_i (wc := []) (wr := []) (va_runS (As := [.int x1, .int 3, .int 1, .int 2, .int 0]) (rest := []) ⟨hx, hb, hml, hown, hts⟩ (c_X5_ring l D cy H.size x1 3 1 2 0 ) (va_cwS 5 hts gX5_quarter_X5_ring rfl rfl rfl hdc_X5_ring.2 ⟨Nat.le_of_ble_eq_true rfl, Nat.le_of_ble_eq_true rfl⟩) (cpre_S (wc := []) hX hP hD hS hA [] (by decide +kernel) rfl) rfl rfl hl.1 rfl (lv_room (Nat.le_of_ble_eq_true rfl)) dX5_quarter_60 ⟨Nat.le_of_ble_eq_true rfl, Nat.le_of_ble_eq_true rfl⟩) hP hD hS hA [] [] rfl rfl (by decide +kernel) (by decide +kernel) (fun rg u4 H locs hw hP hD hS => ?_)
    obtain ⟨hu, hrg⟩ := hw
    subst hu
    have hP : va_P D vwCl [] H := hP
    have hD : va_D A [] := hD
    have hP9 := hP.sub (ws' := []) [] rfl
    have hD9 := hD.sub (ws' := []) [] (by decide +kernel) rfl
    exact W.iret (v := rg) hx hb hr (fun t9 ht9 hW9 => ⟨⟨rg, [], rfl, ⟨rfl, hrg⟩, by rw [ht9]; exact hP9, hD9⟩, hS.F ht9⟩) hS.2.2 dX5_quarter_63
def q_X5_turned (cy : Nat → ClassId) (kI : Int32) (x1 : Int32) (t : Nat) : Int32 → va_W → Prop := fun (r : Int32) (u : va_W) => u = [] ∧ r = tuI kI x1 t
set_option maxHeartbeats 4000000 in
set_option maxRecDepth 100000 in
theorem c_X5_turned (l : Launch) (D : va_G) (cy : Nat → ClassId) (zz : Nat) (kI : Int32) (x1 : Int32) (t : Nat) (ht : t < 4) : Met l yX5_turned wsX5_turned ({ frames := 3, cells := 0, slots := 0, locals := 67 } : Room) (va_Pc [.int kI, .int x1, .int (nI t)] (cpre D cy [] zz)) (va_Qi (q_X5_turned cy kI x1 t) (cpost D (va_A [] zz)) (va_A [] zz)) 0 0 (va_A [] zz) := by
  refine Met.ofW (cc := cX5_turned) (maxL := 4) (ret := (some .int)) (by decide) rfl ?_
  intro p e s m args below meth c s₁ B hml hv
  obtain ⟨rfl, hsz, hP, hD0, hX⟩ := hv
  have hx := B.exec
  have hb := B.bytes
  have hr := B.returns
  have hts := atoms_spec (ws := wsX5_turned) B.pre
  have hown : s.vm.findClass RX5 = some m.cls := findClass_of_methodNamed B.named
  have hlocks := B.notSynchronized
  subst hsz
  have hD := hD0.self (sz := s.heap.size)
  generalize hAe : va_A [] s.heap.size = A at hD hX ⊢
  have hA : ∀ q : Nat, s.heap.size ≤ q → A q := fun q h => by rw [← hAe]; exact Or.inr h
  obtain ⟨H, hH⟩ : ∃ H : Heap, H = s.heap := ⟨_, rfl⟩
  have hS : va_S A s.heap H [] := hH ▸ va_S.rf
  have hK := hX.1
  have hP : va_P D vwCl [] H := hH ▸ hP
  rw [← hH]
  have hl := lv_entry ([.int kI, .int x1, .int (nI t)]) (n := 4) (Nat.le_of_ble_eq_true rfl)
  rw [lg_entry_eq]
  generalize (lg_sl ([.int kI, .int x1, .int (nI t)]) ++ List.replicate (4 - (lg_sl ([.int kI, .int x1, .int (nI t)])).length) Slot.unset).toArray = ls at hl ⊢
  have hl : lv_has ls 4 [(0, .int kI), (1, .int x1), (2, .int (nI t))] := hl
  refine lv_iload_n hx hb dX5_turned_0 rfl (lv_at hl 1 rfl) ?_
  refine lv_iload_n hx hb dX5_turned_1 rfl (lv_at hl 2 rfl) ?_
  refine kc_i (wc := []) (wr := []) (va_runS (As := [.int x1, .int (nI t)]) (rest := []) ⟨hx, hb, hml, hown, hts⟩ (c_X5_quarter l D cy H.size x1 t ht) (va_cwS 2 hts gX5_turned_X5_quarter rfl rfl rfl hdc_X5_quarter.2 ⟨Nat.le_of_ble_eq_true rfl, Nat.le_of_ble_eq_true rfl⟩) (cpre_S (wc := []) hX hP hD hS hA [] (by decide +kernel) rfl) rfl rfl hl.1 rfl (lv_room (Nat.le_of_ble_eq_true rfl)) dX5_turned_2 ⟨Nat.le_of_ble_eq_true rfl, Nat.le_of_ble_eq_true rfl⟩) hP hD hS hA [] [] rfl rfl (by decide +kernel) (by decide +kernel) (fun rq u1 H locs hw hP hD hS => ?_)
  obtain ⟨hu, hrq⟩ := hw
  subst hu
  have hP : va_P D vwCl [] H := hP
  have hD : va_D A [] := hD
  subst hrq
  refine lv_istore_n (lv' := [(3, .int (quI x1 t)), (0, .int kI), (1, .int x1), (2, .int (nI t))]) hx hb dX5_turned_5 rfl hl (by decide) rfl (fun ls hl => ?_)
  refine lv_iload_n hx hb dX5_turned_6 rfl (lv_at hl 1 rfl) ?_
  refine lv_iconst (v := 4) hx hb dX5_turned_7 (by decide) ?_
  refine lv_icmp_ne (tgt := 19) hx hb dX5_turned_8 (by decide) (fun c_8 => ?_) (fun c_8 => ?_)
  · refine lv_iload_n hx hb dX5_turned_19 rfl (lv_at hl 0 rfl) ?_
    have hP9 := hP.sub (ws' := []) [] rfl
    have hD9 := hD.sub (ws' := []) [] (by decide +kernel) rfl
    exact W.iret (v := quI x1 t) hx hb hr (fun t9 ht9 hW9 => ⟨⟨quI x1 t, [], rfl, ⟨rfl, (if_neg c_8).symm⟩, by rw [ht9]; exact hP9, hD9⟩, hS.F ht9⟩) hS.2.2 dX5_turned_20
  · refine lv_iload_n hx hb dX5_turned_11 rfl (lv_at hl 0 rfl) ?_
    refine lv_iload_n hx hb dX5_turned_12 rfl (lv_at hl 3 rfl) ?_
    refine kc_i (wc := []) (wr := []) (va_runS (As := [.int (quI x1 t), .int (nI t)]) (rest := []) ⟨hx, hb, hml, hown, hts⟩ (c_X5_quarter l D cy H.size (quI x1 t) t ht) (va_cwS 2 hts gX5_turned_X5_quarter rfl rfl rfl hdc_X5_quarter.2 ⟨Nat.le_of_ble_eq_true rfl, Nat.le_of_ble_eq_true rfl⟩) (cpre_S (wc := []) hX hP hD hS hA [] (by decide +kernel) rfl) rfl rfl hl.1 rfl (lv_room (Nat.le_of_ble_eq_true rfl)) dX5_turned_13 ⟨Nat.le_of_ble_eq_true rfl, Nat.le_of_ble_eq_true rfl⟩) hP hD hS hA [] [] rfl rfl (by decide +kernel) (by decide +kernel) (fun rq u2 H locs hw hP hD hS => ?_)
    obtain ⟨hu, hrq⟩ := hw
    subst hu
    have hP : va_P D vwCl [] H := hP
    have hD : va_D A [] := hD
    subst hrq
    refine lv_goto (tgt := 20) hx hb dX5_turned_16 (by decide) ?_
    have hP9 := hP.sub (ws' := []) [] rfl
    have hD9 := hD.sub (ws' := []) [] (by decide +kernel) rfl
    exact W.iret (v := quI (quI x1 t) t) hx hb hr (fun t9 ht9 hW9 => ⟨⟨quI (quI x1 t) t, [], rfl, ⟨rfl, (if_pos c_8).symm⟩, by rw [ht9]; exact hP9, hD9⟩, hS.F ht9⟩) hS.2.2 dX5_turned_20
def q_X5_turnsOf (cy : Nat → ClassId) (k : Nat) : Int32 → va_W → Prop := fun (r : Int32) (u : va_W) => u = [] ∧ r = tofI k
set_option maxHeartbeats 4000000 in
set_option maxRecDepth 100000 in
theorem c_X5_turnsOf (l : Launch) (D : va_G) (cy : Nat → ClassId) (zz : Nat) (k : Nat) (hk : k < 5) : Met l yX5_turnsOf wsX5_turnsOf ({ frames := 0, cells := 0, slots := 0, locals := 0 } : Room) (va_Pc [.int (nI k)] (cpre D cy [] zz)) (va_Qi (q_X5_turnsOf cy k) (cpost D (va_A [] zz)) (va_A [] zz)) 0 0 (va_A [] zz) := by
  refine Met.ofW (cc := cX5_turnsOf) (maxL := 1) (ret := (some .int)) (by decide) rfl ?_
  intro p e s m args below meth c s₁ B hml hv
  obtain ⟨rfl, hsz, hP, hD0, hX⟩ := hv
  have hx := B.exec
  have hb := B.bytes
  have hr := B.returns
  have hts := atoms_spec (ws := wsX5_turnsOf) B.pre
  have hown : s.vm.findClass RX5 = some m.cls := findClass_of_methodNamed B.named
  have hlocks := B.notSynchronized
  subst hsz
  have hD := hD0.self (sz := s.heap.size)
  generalize hAe : va_A [] s.heap.size = A at hD hX ⊢
  have hA : ∀ q : Nat, s.heap.size ≤ q → A q := fun q h => by rw [← hAe]; exact Or.inr h
  obtain ⟨H, hH⟩ : ∃ H : Heap, H = s.heap := ⟨_, rfl⟩
  have hS : va_S A s.heap H [] := hH ▸ va_S.rf
  have hK := hX.1
  have hP : va_P D vwCl [] H := hH ▸ hP
  rw [← hH]
  have hl := lv_entry ([.int (nI k)]) (n := 1) (Nat.le_of_ble_eq_true rfl)
  rw [lg_entry_eq]
  generalize (lg_sl ([.int (nI k)]) ++ List.replicate (1 - (lg_sl ([.int (nI k)])).length) Slot.unset).toArray = ls at hl ⊢
  have hl : lv_has ls 1 [(0, .int (nI k))] := hl
  rcases k5 hk with rfl | rfl | rfl | rfl | rfl
  · have hl : lv_has ls 1 [(0, .int 0)] := hl
    refine lv_iload_n hx hb dX5_turnsOf_0 rfl (lv_at hl 0 rfl) ?_
    refine lv_tableOut (tgt := 39) hx hb dX5_turnsOf_1 (by decide) (by decide) ?_
    refine lv_bipush (v := 15) hx hb dX5_turnsOf_39 (by decide) ?_
    have hP9 := hP.sub (ws' := []) [] rfl
    have hD9 := hD.sub (ws' := []) [] (by decide +kernel) rfl
    exact W.iret (v := 15) hx hb hr (fun t9 ht9 hW9 => ⟨⟨15, [], rfl, ⟨rfl, rfl⟩, by rw [ht9]; exact hP9, hD9⟩, hS.F ht9⟩) hS.2.2 dX5_turnsOf_41
  · have hl : lv_has ls 1 [(0, .int 1)] := hl
    refine lv_iload_n hx hb dX5_turnsOf_0 rfl (lv_at hl 0 rfl) ?_
    refine lv_tableIn (off := 31) (tgt := 32) hx hb dX5_turnsOf_1 (by decide) (by decide) rfl (by decide) ?_
    refine lv_iconst (v := 3) hx hb dX5_turnsOf_32 (by decide) ?_
    have hP9 := hP.sub (ws' := []) [] rfl
    have hD9 := hD.sub (ws' := []) [] (by decide +kernel) rfl
    exact W.iret (v := 3) hx hb hr (fun t9 ht9 hW9 => ⟨⟨3, [], rfl, ⟨rfl, rfl⟩, by rw [ht9]; exact hP9, hD9⟩, hS.F ht9⟩) hS.2.2 dX5_turnsOf_33
  · have hl : lv_has ls 1 [(0, .int 2)] := hl
    refine lv_iload_n hx hb dX5_turnsOf_0 rfl (lv_at hl 0 rfl) ?_
    refine lv_tableIn (off := 33) (tgt := 34) hx hb dX5_turnsOf_1 (by decide) (by decide) rfl (by decide) ?_
    refine lv_bipush (v := 12) hx hb dX5_turnsOf_34 (by decide) ?_
    have hP9 := hP.sub (ws' := []) [] rfl
    have hD9 := hD.sub (ws' := []) [] (by decide +kernel) rfl
    exact W.iret (v := 12) hx hb hr (fun t9 ht9 hW9 => ⟨⟨12, [], rfl, ⟨rfl, rfl⟩, by rw [ht9]; exact hP9, hD9⟩, hS.F ht9⟩) hS.2.2 dX5_turnsOf_36
  · have hl : lv_has ls 1 [(0, .int 3)] := hl
    refine lv_iload_n hx hb dX5_turnsOf_0 rfl (lv_at hl 0 rfl) ?_
    refine lv_tableIn (off := 36) (tgt := 37) hx hb dX5_turnsOf_1 (by decide) (by decide) rfl (by decide) ?_
    refine lv_iconst (v := 0) hx hb dX5_turnsOf_37 (by decide) ?_
    have hP9 := hP.sub (ws' := []) [] rfl
    have hD9 := hD.sub (ws' := []) [] (by decide +kernel) rfl
    exact W.iret (v := 0) hx hb hr (fun t9 ht9 hW9 => ⟨⟨0, [], rfl, ⟨rfl, rfl⟩, by rw [ht9]; exact hP9, hD9⟩, hS.F ht9⟩) hS.2.2 dX5_turnsOf_38
  · have hl : lv_has ls 1 [(0, .int 4)] := hl
    refine lv_iload_n hx hb dX5_turnsOf_0 rfl (lv_at hl 0 rfl) ?_
    refine lv_tableIn (off := 31) (tgt := 32) hx hb dX5_turnsOf_1 (by decide) (by decide) rfl (by decide) ?_
    refine lv_iconst (v := 3) hx hb dX5_turnsOf_32 (by decide) ?_
    have hP9 := hP.sub (ws' := []) [] rfl
    have hD9 := hD.sub (ws' := []) [] (by decide +kernel) rfl
    exact W.iret (v := 3) hx hb hr (fun t9 ht9 hW9 => ⟨⟨3, [], rfl, ⟨rfl, rfl⟩, by rw [ht9]; exact hP9, hD9⟩, hS.F ht9⟩) hS.2.2 dX5_turnsOf_33
def q_X5_waysOf (cy : Nat → ClassId) (k : Nat) : Int32 → va_W → Prop := fun (r : Int32) (u : va_W) => u = [] ∧ r = wofI k
set_option maxHeartbeats 4000000 in
set_option maxRecDepth 100000 in
theorem c_X5_waysOf (l : Launch) (D : va_G) (cy : Nat → ClassId) (zz : Nat) (k : Nat) (hk : k < 5) : Met l yX5_waysOf wsX5_waysOf ({ frames := 0, cells := 0, slots := 0, locals := 0 } : Room) (va_Pc [.int (nI k)] (cpre D cy [] zz)) (va_Qi (q_X5_waysOf cy k) (cpost D (va_A [] zz)) (va_A [] zz)) 0 0 (va_A [] zz) := by
  refine Met.ofW (cc := cX5_waysOf) (maxL := 1) (ret := (some .int)) (by decide) rfl ?_
  intro p e s m args below meth c s₁ B hml hv
  obtain ⟨rfl, hsz, hP, hD0, hX⟩ := hv
  have hx := B.exec
  have hb := B.bytes
  have hr := B.returns
  have hts := atoms_spec (ws := wsX5_waysOf) B.pre
  have hown : s.vm.findClass RX5 = some m.cls := findClass_of_methodNamed B.named
  have hlocks := B.notSynchronized
  subst hsz
  have hD := hD0.self (sz := s.heap.size)
  generalize hAe : va_A [] s.heap.size = A at hD hX ⊢
  have hA : ∀ q : Nat, s.heap.size ≤ q → A q := fun q h => by rw [← hAe]; exact Or.inr h
  obtain ⟨H, hH⟩ : ∃ H : Heap, H = s.heap := ⟨_, rfl⟩
  have hS : va_S A s.heap H [] := hH ▸ va_S.rf
  have hK := hX.1
  have hP : va_P D vwCl [] H := hH ▸ hP
  rw [← hH]
  have hl := lv_entry ([.int (nI k)]) (n := 1) (Nat.le_of_ble_eq_true rfl)
  rw [lg_entry_eq]
  generalize (lg_sl ([.int (nI k)]) ++ List.replicate (1 - (lg_sl ([.int (nI k)])).length) Slot.unset).toArray = ls at hl ⊢
  have hl : lv_has ls 1 [(0, .int (nI k))] := hl
  rcases k5 hk with rfl | rfl | rfl | rfl | rfl
  · have hl : lv_has ls 1 [(0, .int 0)] := hl
    refine lv_iload_n hx hb dX5_waysOf_0 rfl (lv_at hl 0 rfl) ?_
    refine lv_tableOut (tgt := 38) hx hb dX5_waysOf_1 (by decide) (by decide) ?_
    refine lv_bipush (v := 24) hx hb dX5_waysOf_38 (by decide) ?_
    have hP9 := hP.sub (ws' := []) [] rfl
    have hD9 := hD.sub (ws' := []) [] (by decide +kernel) rfl
    exact W.iret (v := 24) hx hb hr (fun t9 ht9 hW9 => ⟨⟨24, [], rfl, ⟨rfl, rfl⟩, by rw [ht9]; exact hP9, hD9⟩, hS.F ht9⟩) hS.2.2 dX5_waysOf_40
  · have hl : lv_has ls 1 [(0, .int 1)] := hl
    refine lv_iload_n hx hb dX5_waysOf_0 rfl (lv_at hl 0 rfl) ?_
    refine lv_tableIn (off := 31) (tgt := 32) hx hb dX5_waysOf_1 (by decide) (by decide) rfl (by decide) ?_
    refine lv_iconst (v := 4) hx hb dX5_waysOf_32 (by decide) ?_
    have hP9 := hP.sub (ws' := []) [] rfl
    have hD9 := hD.sub (ws' := []) [] (by decide +kernel) rfl
    exact W.iret (v := 4) hx hb hr (fun t9 ht9 hW9 => ⟨⟨4, [], rfl, ⟨rfl, rfl⟩, by rw [ht9]; exact hP9, hD9⟩, hS.F ht9⟩) hS.2.2 dX5_waysOf_33
  · have hl : lv_has ls 1 [(0, .int 2)] := hl
    refine lv_iload_n hx hb dX5_waysOf_0 rfl (lv_at hl 0 rfl) ?_
    refine lv_tableIn (off := 31) (tgt := 32) hx hb dX5_waysOf_1 (by decide) (by decide) rfl (by decide) ?_
    refine lv_iconst (v := 4) hx hb dX5_waysOf_32 (by decide) ?_
    have hP9 := hP.sub (ws' := []) [] rfl
    have hD9 := hD.sub (ws' := []) [] (by decide +kernel) rfl
    exact W.iret (v := 4) hx hb hr (fun t9 ht9 hW9 => ⟨⟨4, [], rfl, ⟨rfl, rfl⟩, by rw [ht9]; exact hP9, hD9⟩, hS.F ht9⟩) hS.2.2 dX5_waysOf_33
  · have hl : lv_has ls 1 [(0, .int 3)] := hl
    refine lv_iload_n hx hb dX5_waysOf_0 rfl (lv_at hl 0 rfl) ?_
    refine lv_tableIn (off := 33) (tgt := 34) hx hb dX5_waysOf_1 (by decide) (by decide) rfl (by decide) ?_
    refine lv_iconst (v := 1) hx hb dX5_waysOf_34 (by decide) ?_
    have hP9 := hP.sub (ws' := []) [] rfl
    have hD9 := hD.sub (ws' := []) [] (by decide +kernel) rfl
    exact W.iret (v := 1) hx hb hr (fun t9 ht9 hW9 => ⟨⟨1, [], rfl, ⟨rfl, rfl⟩, by rw [ht9]; exact hP9, hD9⟩, hS.F ht9⟩) hS.2.2 dX5_waysOf_35
  · have hl : lv_has ls 1 [(0, .int 4)] := hl
    refine lv_iload_n hx hb dX5_waysOf_0 rfl (lv_at hl 0 rfl) ?_
    refine lv_tableIn (off := 35) (tgt := 36) hx hb dX5_waysOf_1 (by decide) (by decide) rfl (by decide) ?_
    refine lv_iconst (v := 2) hx hb dX5_waysOf_36 (by decide) ?_
    have hP9 := hP.sub (ws' := []) [] rfl
    have hD9 := hD.sub (ws' := []) [] (by decide +kernel) rfl
    exact W.iret (v := 2) hx hb hr (fun t9 ht9 hW9 => ⟨⟨2, [], rfl, ⟨rfl, rfl⟩, by rw [ht9]; exact hP9, hD9⟩, hS.F ht9⟩) hS.2.2 dX5_waysOf_37
def q_X5_painted (cy : Nat → ClassId) (x1 : Int32) (x2 : Int32) (x3 : Int32) : Int32 → va_W → Prop := fun (r : Int32) (u : va_W) => u = [] ∧ r = paI x1 x2 x3
set_option maxHeartbeats 4000000 in
set_option maxRecDepth 100000 in
theorem c_X5_painted (l : Launch) (D : va_G) (cy : Nat → ClassId) (zz : Nat) (x1 : Int32) (x2 : Int32) (x3 : Int32) : Met l yX5_painted wsX5_painted ({ frames := 0, cells := 0, slots := 0, locals := 0 } : Room) (va_Pc [.int x1, .int x2, .int x3] (cpre D cy [] zz)) (va_Qi (q_X5_painted cy x1 x2 x3) (cpost D (va_A [] zz)) (va_A [] zz)) 0 0 (va_A [] zz) := by
  refine Met.ofW (cc := cX5_painted) (maxL := 3) (ret := (some .int)) (by decide) rfl ?_
  intro p e s m args below meth c s₁ B hml hv
  obtain ⟨rfl, hsz, hP, hD0, hX⟩ := hv
  have hx := B.exec
  have hb := B.bytes
  have hr := B.returns
  have hts := atoms_spec (ws := wsX5_painted) B.pre
  have hown : s.vm.findClass RX5 = some m.cls := findClass_of_methodNamed B.named
  have hlocks := B.notSynchronized
  subst hsz
  have hD := hD0.self (sz := s.heap.size)
  generalize hAe : va_A [] s.heap.size = A at hD hX ⊢
  have hA : ∀ q : Nat, s.heap.size ≤ q → A q := fun q h => by rw [← hAe]; exact Or.inr h
  obtain ⟨H, hH⟩ : ∃ H : Heap, H = s.heap := ⟨_, rfl⟩
  have hS : va_S A s.heap H [] := hH ▸ va_S.rf
  have hK := hX.1
  have hP : va_P D vwCl [] H := hH ▸ hP
  rw [← hH]
  have hl := lv_entry ([.int x1, .int x2, .int x3]) (n := 3) (Nat.le_of_ble_eq_true rfl)
  rw [lg_entry_eq]
  generalize (lg_sl ([.int x1, .int x2, .int x3]) ++ List.replicate (3 - (lg_sl ([.int x1, .int x2, .int x3])).length) Slot.unset).toArray = ls at hl ⊢
  have hl : lv_has ls 3 [(0, .int x1), (1, .int x2), (2, .int x3)] := hl
  refine lv_iload_n hx hb dX5_painted_0 rfl (lv_at hl 0 rfl) ?_
  refine lv_bipush (v := 7) hx hb dX5_painted_1 (by decide) ?_
  refine lv_iconst (v := 3) hx hb dX5_painted_3 (by decide) ?_
  refine lv_iload_n hx hb dX5_painted_4 rfl (lv_at hl 1 rfl) ?_
  refine lv_imul hx hb dX5_painted_5 ?_
  refine lv_ishl hx hb dX5_painted_6 ?_
  refine lv_iconst (v := (-1)) hx hb dX5_painted_7 (by decide) ?_
  refine lv_ixor hx hb dX5_painted_8 ?_
  refine lv_iand hx hb dX5_painted_9 ?_
  refine lv_iload_n hx hb dX5_painted_10 rfl (lv_at hl 2 rfl) ?_
  refine lv_iconst (v := 3) hx hb dX5_painted_11 (by decide) ?_
  refine lv_iload_n hx hb dX5_painted_12 rfl (lv_at hl 1 rfl) ?_
  refine lv_imul hx hb dX5_painted_13 ?_
  refine lv_ishl hx hb dX5_painted_14 ?_
  refine lv_ior hx hb dX5_painted_15 ?_
  have hP9 := hP.sub (ws' := []) [] rfl
  have hD9 := hD.sub (ws' := []) [] (by decide +kernel) rfl
  exact W.iret (v := (x1 &&& ((7 <<< ((3 * x2) &&& 31)) ^^^ (-1))) ||| (x3 <<< ((3 * x2) &&& 31))) hx hb hr (fun t9 ht9 hW9 => ⟨⟨(x1 &&& ((7 <<< ((3 * x2) &&& 31)) ^^^ (-1))) ||| (x3 <<< ((3 * x2) &&& 31)), [], rfl, ⟨rfl, rfl⟩, by rw [ht9]; exact hP9, hD9⟩, hS.F ht9⟩) hS.2.2 dX5_painted_16
def q_X5_same (cy : Nat → ClassId) (x1 : Int32) (x2 : Int32) (x3 : Int32) : Int32 → va_W → Prop := fun (r : Int32) (u : va_W) => u = [] ∧ r = smI x1 x2 x3
set_option maxHeartbeats 4000000 in
set_option maxRecDepth 100000 in
theorem c_X5_same (l : Launch) (D : va_G) (cy : Nat → ClassId) (zz : Nat) (x1 : Int32) (x2 : Int32) (x3 : Int32) : Met l yX5_same wsX5_same ({ frames := 1, cells := 0, slots := 0, locals := 21 } : Room) (va_Pc [.int x1, .int x2, .int x3] (cpre D cy [] zz)) (va_Qi (q_X5_same cy x1 x2 x3) (cpost D (va_A [] zz)) (va_A [] zz)) 0 0 (va_A [] zz) := by
  refine Met.ofW (cc := cX5_same) (maxL := 3) (ret := (some .int)) (by decide) rfl ?_
  intro p e s m args below meth c s₁ B hml hv
  obtain ⟨rfl, hsz, hP, hD0, hX⟩ := hv
  have hx := B.exec
  have hb := B.bytes
  have hr := B.returns
  have hts := atoms_spec (ws := wsX5_same) B.pre
  have hown : s.vm.findClass RX5 = some m.cls := findClass_of_methodNamed B.named
  have hlocks := B.notSynchronized
  subst hsz
  have hD := hD0.self (sz := s.heap.size)
  generalize hAe : va_A [] s.heap.size = A at hD hX ⊢
  have hA : ∀ q : Nat, s.heap.size ≤ q → A q := fun q h => by rw [← hAe]; exact Or.inr h
  obtain ⟨H, hH⟩ : ∃ H : Heap, H = s.heap := ⟨_, rfl⟩
  have hS : va_S A s.heap H [] := hH ▸ va_S.rf
  have hK := hX.1
  have hP : va_P D vwCl [] H := hH ▸ hP
  rw [← hH]
  have hl := lv_entry ([.int x1, .int x2, .int x3]) (n := 3) (Nat.le_of_ble_eq_true rfl)
  rw [lg_entry_eq]
  generalize (lg_sl ([.int x1, .int x2, .int x3]) ++ List.replicate (3 - (lg_sl ([.int x1, .int x2, .int x3])).length) Slot.unset).toArray = ls at hl ⊢
  have hl : lv_has ls 3 [(0, .int x1), (1, .int x2), (2, .int x3)] := hl
  refine lv_iload_n hx hb dX5_same_0 rfl (lv_at hl 0 rfl) ?_
  refine lv_iload_n hx hb dX5_same_1 rfl (lv_at hl 2 rfl) ?_
  refine kc_i (wc := []) (wr := []) (va_runS (As := [.int x1, .int x3]) (rest := []) ⟨hx, hb, hml, hown, hts⟩ (c_X5_side l D cy H.size x1 x3 ) (va_cwS 2 hts gX5_same_X5_side rfl rfl rfl hdc_X5_side.2 ⟨Nat.le_of_ble_eq_true rfl, Nat.le_of_ble_eq_true rfl⟩) (cpre_S (wc := []) hX hP hD hS hA [] (by decide +kernel) rfl) rfl rfl hl.1 rfl (lv_room (Nat.le_of_ble_eq_true rfl)) dX5_same_2 ⟨Nat.le_of_ble_eq_true rfl, Nat.le_of_ble_eq_true rfl⟩) hP hD hS hA [] [] rfl rfl (by decide +kernel) (by decide +kernel) (fun rs u1 H locs hw hP hD hS => ?_)
  obtain ⟨hu, hrs⟩ := hw
  subst hu
  have hP : va_P D vwCl [] H := hP
  have hD : va_D A [] := hD
  subst hrs
  refine lv_iload_n hx hb dX5_same_5 rfl (lv_at hl 1 rfl) ?_
  refine lv_iload_n hx hb dX5_same_6 rfl (lv_at hl 2 rfl) ?_
  refine kc_i (wc := []) (wr := []) (va_runS (As := [.int x2, .int x3]) (rest := [.int (sdI x1 x3)]) ⟨hx, hb, hml, hown, hts⟩ (c_X5_side l D cy H.size x2 x3 ) (va_cwS 2 hts gX5_same_X5_side rfl rfl rfl hdc_X5_side.2 ⟨Nat.le_of_ble_eq_true rfl, Nat.le_of_ble_eq_true rfl⟩) (cpre_S (wc := []) hX hP hD hS hA [] (by decide +kernel) rfl) rfl rfl hl.1 rfl (lv_room (Nat.le_of_ble_eq_true rfl)) dX5_same_7 ⟨Nat.le_of_ble_eq_true rfl, Nat.le_of_ble_eq_true rfl⟩) hP hD hS hA [] [] rfl rfl (by decide +kernel) (by decide +kernel) (fun rs u2 H locs hw hP hD hS => ?_)
  obtain ⟨hu, hrs⟩ := hw
  subst hu
  have hP : va_P D vwCl [] H := hP
  have hD : va_D A [] := hD
  subst hrs
  refine lv_icmp_ne (tgt := 17) hx hb dX5_same_10 (by decide) (fun c_10 => ?_) (fun c_10 => ?_)
  · refine lv_iconst (v := 0) hx hb dX5_same_17 (by decide) ?_
    have hP9 := hP.sub (ws' := []) [] rfl
    have hD9 := hD.sub (ws' := []) [] (by decide +kernel) rfl
    exact W.iret (v := 0) hx hb hr (fun t9 ht9 hW9 => ⟨⟨0, [], rfl, ⟨rfl, (if_neg c_10).symm⟩, by rw [ht9]; exact hP9, hD9⟩, hS.F ht9⟩) hS.2.2 dX5_same_18
  · refine lv_iconst (v := 1) hx hb dX5_same_13 (by decide) ?_
    refine lv_goto (tgt := 18) hx hb dX5_same_14 (by decide) ?_
    have hP9 := hP.sub (ws' := []) [] rfl
    have hD9 := hD.sub (ws' := []) [] (by decide +kernel) rfl
    exact W.iret (v := 1) hx hb hr (fun t9 ht9 hW9 => ⟨⟨1, [], rfl, ⟨rfl, (if_pos c_10).symm⟩, by rw [ht9]; exact hP9, hD9⟩, hS.F ht9⟩) hS.2.2 dX5_same_18
def q_X5_laid (cy : Nat → ClassId) (x1 : Int32) (x2 : Int32) : Int32 → va_W → Prop := fun (r : Int32) (u : va_W) => u = [] ∧ r = laI x1 x2
set_option maxHeartbeats 4000000 in
set_option maxRecDepth 100000 in
theorem c_X5_laid (l : Launch) (D : va_G) (cy : Nat → ClassId) (zz : Nat) (x1 : Int32) (x2 : Int32) : Met l yX5_laid wsX5_laid ({ frames := 1, cells := 0, slots := 0, locals := 21 } : Room) (va_Pc [.int x1, .int x2] (cpre D cy [] zz)) (va_Qi (q_X5_laid cy x1 x2) (cpost D (va_A [] zz)) (va_A [] zz)) 0 0 (va_A [] zz) := by
  refine Met.ofW (cc := cX5_laid) (maxL := 4) (ret := (some .int)) (by decide) rfl ?_
  intro p e s m args below meth c s₁ B hml hv
  obtain ⟨rfl, hsz, hP, hD0, hX⟩ := hv
  have hx := B.exec
  have hb := B.bytes
  have hr := B.returns
  have hts := atoms_spec (ws := wsX5_laid) B.pre
  have hown : s.vm.findClass RX5 = some m.cls := findClass_of_methodNamed B.named
  have hlocks := B.notSynchronized
  subst hsz
  have hD := hD0.self (sz := s.heap.size)
  generalize hAe : va_A [] s.heap.size = A at hD hX ⊢
  have hA : ∀ q : Nat, s.heap.size ≤ q → A q := fun q h => by rw [← hAe]; exact Or.inr h
  obtain ⟨H, hH⟩ : ∃ H : Heap, H = s.heap := ⟨_, rfl⟩
  have hS : va_S A s.heap H [] := hH ▸ va_S.rf
  have hK := hX.1
  have hP : va_P D vwCl [] H := hH ▸ hP
  rw [← hH]
  have hl := lv_entry ([.int x1, .int x2]) (n := 4) (Nat.le_of_ble_eq_true rfl)
  rw [lg_entry_eq]
  generalize (lg_sl ([.int x1, .int x2]) ++ List.replicate (4 - (lg_sl ([.int x1, .int x2])).length) Slot.unset).toArray = ls at hl ⊢
  have hl : lv_has ls 4 [(0, .int x1), (1, .int x2)] := hl
  refine lv_iconst (v := 0) hx hb dX5_laid_0 (by decide) ?_
  refine lv_istore_n (lv' := [(2, .int 0), (0, .int x1), (1, .int x2)]) hx hb dX5_laid_1 rfl hl (by decide) rfl (fun ls hl => ?_)
  refine lv_iconst (v := 0) hx hb dX5_laid_2 (by decide) ?_
  refine lv_istore_n (lv' := [(3, .int 0), (2, .int 0), (0, .int x1), (1, .int x2)]) hx hb dX5_laid_3 rfl hl (by decide) rfl (fun ls hl => ?_)
  refine lv_iload_n hx hb dX5_laid_4 rfl (lv_at hl 0 rfl) ?_
  refine lv_bipush (v := 6) hx hb dX5_laid_5 (by decide) ?_
  refine lv_icmp_ge (tgt := 32) hx hb dX5_laid_7 (by decide) (fun c_7 => ?_) (fun c_7 => ?_)
  · exact absurd c_7 (by decide)
  · refine lv_iload_n hx hb dX5_laid_10 rfl (lv_at hl 1 rfl) ?_
    refine lv_iload_n hx hb dX5_laid_11 rfl (lv_at hl 2 rfl) ?_
    refine lv_iload_n hx hb dX5_laid_12 rfl (lv_at hl 3 rfl) ?_
    refine lv_iload_n hx hb dX5_laid_13 rfl (lv_at hl 0 rfl) ?_
    refine kc_i (wc := []) (wr := []) (va_runS (As := [.int x2, .int 0]) (rest := [.int x1, .int 0]) ⟨hx, hb, hml, hown, hts⟩ (c_X5_side l D cy H.size x2 0 ) (va_cwS 2 hts gX5_laid_X5_side rfl rfl rfl hdc_X5_side.2 ⟨Nat.le_of_ble_eq_true rfl, Nat.le_of_ble_eq_true rfl⟩) (cpre_S (wc := []) hX hP hD hS hA [] (by decide +kernel) rfl) rfl rfl hl.1 rfl (lv_room (Nat.le_of_ble_eq_true rfl)) dX5_laid_14 ⟨Nat.le_of_ble_eq_true rfl, Nat.le_of_ble_eq_true rfl⟩) hP hD hS hA [] [] rfl rfl (by decide +kernel) (by decide +kernel) (fun rs u1 H locs hw hP hD hS => ?_)
    obtain ⟨hu, hrs⟩ := hw
    subst hu
    have hP : va_P D vwCl [] H := hP
    have hD : va_D A [] := hD
    subst hrs
    refine kc_i (wc := []) (wr := []) (va_runS (As := [.int x1, .int (sdI x2 0)]) (rest := [.int 0]) ⟨hx, hb, hml, hown, hts⟩ (c_X5_side l D cy H.size x1 (sdI x2 0) ) (va_cwS 2 hts gX5_laid_X5_side rfl rfl rfl hdc_X5_side.2 ⟨Nat.le_of_ble_eq_true rfl, Nat.le_of_ble_eq_true rfl⟩) (cpre_S (wc := []) hX hP hD hS hA [] (by decide +kernel) rfl) rfl rfl hl.1 rfl (lv_room (Nat.le_of_ble_eq_true rfl)) dX5_laid_17 ⟨Nat.le_of_ble_eq_true rfl, Nat.le_of_ble_eq_true rfl⟩) hP hD hS hA [] [] rfl rfl (by decide +kernel) (by decide +kernel) (fun rs u2 H locs hw hP hD hS => ?_)
    obtain ⟨hu, hrs⟩ := hw
    subst hu
    have hP : va_P D vwCl [] H := hP
    have hD : va_D A [] := hD
    subst hrs
    refine lv_iconst (v := 3) hx hb dX5_laid_20 (by decide) ?_
    refine lv_iload_n hx hb dX5_laid_21 rfl (lv_at hl 0 rfl) ?_
    refine lv_imul hx hb dX5_laid_22 ?_
    refine lv_topi (fun y3 ey3 => ?_)
    obtain rfl : y3 = 0 := ey3.trans (by decide)
    refine lv_ishl hx hb dX5_laid_23 ?_
    refine lv_ior hx hb dX5_laid_24 ?_
    refine lv_topi (fun y4 ey4 => ?_)
    obtain rfl : y4 = la1 0 x1 x2 0 := ey4.trans (rfl)
    refine lv_istore_n (lv' := [(2, .int (la1 0 x1 x2 0)), (3, .int 0), (0, .int x1), (1, .int x2)]) hx hb dX5_laid_25 rfl hl (by decide) rfl (fun ls hl => ?_)
    refine lv_iinc (v := 1) (lv' := [(3, .int 1), (2, .int (la1 0 x1 x2 0)), (0, .int x1), (1, .int x2)]) hx hb dX5_laid_26 hl (k := 1) rfl (by decide) (by decide) rfl (fun ls hl => ?_)
    refine lv_goto (tgt := 4) hx hb dX5_laid_29 (by decide) ?_
    refine lv_iload_n hx hb dX5_laid_4 rfl (lv_at hl 0 rfl) ?_
    refine lv_bipush (v := 6) hx hb dX5_laid_5 (by decide) ?_
    refine lv_icmp_ge (tgt := 32) hx hb dX5_laid_7 (by decide) (fun c_7 => ?_) (fun c_7 => ?_)
    · exact absurd c_7 (by decide)
    · refine lv_iload_n hx hb dX5_laid_10 rfl (lv_at hl 1 rfl) ?_
      refine lv_iload_n hx hb dX5_laid_11 rfl (lv_at hl 2 rfl) ?_
      refine lv_iload_n hx hb dX5_laid_12 rfl (lv_at hl 3 rfl) ?_
      refine lv_iload_n hx hb dX5_laid_13 rfl (lv_at hl 0 rfl) ?_
      refine kc_i (wc := []) (wr := []) (va_runS (As := [.int x2, .int 1]) (rest := [.int x1, .int (la1 0 x1 x2 0)]) ⟨hx, hb, hml, hown, hts⟩ (c_X5_side l D cy H.size x2 1 ) (va_cwS 2 hts gX5_laid_X5_side rfl rfl rfl hdc_X5_side.2 ⟨Nat.le_of_ble_eq_true rfl, Nat.le_of_ble_eq_true rfl⟩) (cpre_S (wc := []) hX hP hD hS hA [] (by decide +kernel) rfl) rfl rfl hl.1 rfl (lv_room (Nat.le_of_ble_eq_true rfl)) dX5_laid_14 ⟨Nat.le_of_ble_eq_true rfl, Nat.le_of_ble_eq_true rfl⟩) hP hD hS hA [] [] rfl rfl (by decide +kernel) (by decide +kernel) (fun rs u5 H locs hw hP hD hS => ?_)
      obtain ⟨hu, hrs⟩ := hw
      subst hu
      have hP : va_P D vwCl [] H := hP
      have hD : va_D A [] := hD
      subst hrs
      refine kc_i (wc := []) (wr := []) (va_runS (As := [.int x1, .int (sdI x2 1)]) (rest := [.int (la1 0 x1 x2 0)]) ⟨hx, hb, hml, hown, hts⟩ (c_X5_side l D cy H.size x1 (sdI x2 1) ) (va_cwS 2 hts gX5_laid_X5_side rfl rfl rfl hdc_X5_side.2 ⟨Nat.le_of_ble_eq_true rfl, Nat.le_of_ble_eq_true rfl⟩) (cpre_S (wc := []) hX hP hD hS hA [] (by decide +kernel) rfl) rfl rfl hl.1 rfl (lv_room (Nat.le_of_ble_eq_true rfl)) dX5_laid_17 ⟨Nat.le_of_ble_eq_true rfl, Nat.le_of_ble_eq_true rfl⟩) hP hD hS hA [] [] rfl rfl (by decide +kernel) (by decide +kernel) (fun rs u6 H locs hw hP hD hS => ?_)
      obtain ⟨hu, hrs⟩ := hw
      subst hu
      have hP : va_P D vwCl [] H := hP
      have hD : va_D A [] := hD
      subst hrs
      refine lv_iconst (v := 3) hx hb dX5_laid_20 (by decide) ?_
      refine lv_iload_n hx hb dX5_laid_21 rfl (lv_at hl 0 rfl) ?_
      refine lv_imul hx hb dX5_laid_22 ?_
      refine lv_topi (fun y7 ey7 => ?_)
      obtain rfl : y7 = 3 := ey7.trans (by decide)
      refine lv_ishl hx hb dX5_laid_23 ?_
      refine lv_ior hx hb dX5_laid_24 ?_
      refine lv_topi (fun y8 ey8 => ?_)
      obtain rfl : y8 = la1 (la1 0 x1 x2 0) x1 x2 1 := ey8.trans (rfl)
      refine lv_istore_n (lv' := [(2, .int (la1 (la1 0 x1 x2 0) x1 x2 1)), (3, .int 1), (0, .int x1), (1, .int x2)]) hx hb dX5_laid_25 rfl hl (by decide) rfl (fun ls hl => ?_)
      refine lv_iinc (v := 2) (lv' := [(3, .int 2), (2, .int (la1 (la1 0 x1 x2 0) x1 x2 1)), (0, .int x1), (1, .int x2)]) hx hb dX5_laid_26 hl (k := 1) rfl (by decide) (by decide) rfl (fun ls hl => ?_)
      refine lv_goto (tgt := 4) hx hb dX5_laid_29 (by decide) ?_
      refine lv_iload_n hx hb dX5_laid_4 rfl (lv_at hl 0 rfl) ?_
      refine lv_bipush (v := 6) hx hb dX5_laid_5 (by decide) ?_
      refine lv_icmp_ge (tgt := 32) hx hb dX5_laid_7 (by decide) (fun c_7 => ?_) (fun c_7 => ?_)
      · exact absurd c_7 (by decide)
      · refine lv_iload_n hx hb dX5_laid_10 rfl (lv_at hl 1 rfl) ?_
        refine lv_iload_n hx hb dX5_laid_11 rfl (lv_at hl 2 rfl) ?_
        refine lv_iload_n hx hb dX5_laid_12 rfl (lv_at hl 3 rfl) ?_
        refine lv_iload_n hx hb dX5_laid_13 rfl (lv_at hl 0 rfl) ?_
        refine kc_i (wc := []) (wr := []) (va_runS (As := [.int x2, .int 2]) (rest := [.int x1, .int (la1 (la1 0 x1 x2 0) x1 x2 1)]) ⟨hx, hb, hml, hown, hts⟩ (c_X5_side l D cy H.size x2 2 ) (va_cwS 2 hts gX5_laid_X5_side rfl rfl rfl hdc_X5_side.2 ⟨Nat.le_of_ble_eq_true rfl, Nat.le_of_ble_eq_true rfl⟩) (cpre_S (wc := []) hX hP hD hS hA [] (by decide +kernel) rfl) rfl rfl hl.1 rfl (lv_room (Nat.le_of_ble_eq_true rfl)) dX5_laid_14 ⟨Nat.le_of_ble_eq_true rfl, Nat.le_of_ble_eq_true rfl⟩) hP hD hS hA [] [] rfl rfl (by decide +kernel) (by decide +kernel) (fun rs u9 H locs hw hP hD hS => ?_)
        obtain ⟨hu, hrs⟩ := hw
        subst hu
        have hP : va_P D vwCl [] H := hP
        have hD : va_D A [] := hD
        subst hrs
        refine kc_i (wc := []) (wr := []) (va_runS (As := [.int x1, .int (sdI x2 2)]) (rest := [.int (la1 (la1 0 x1 x2 0) x1 x2 1)]) ⟨hx, hb, hml, hown, hts⟩ (c_X5_side l D cy H.size x1 (sdI x2 2) ) (va_cwS 2 hts gX5_laid_X5_side rfl rfl rfl hdc_X5_side.2 ⟨Nat.le_of_ble_eq_true rfl, Nat.le_of_ble_eq_true rfl⟩) (cpre_S (wc := []) hX hP hD hS hA [] (by decide +kernel) rfl) rfl rfl hl.1 rfl (lv_room (Nat.le_of_ble_eq_true rfl)) dX5_laid_17 ⟨Nat.le_of_ble_eq_true rfl, Nat.le_of_ble_eq_true rfl⟩) hP hD hS hA [] [] rfl rfl (by decide +kernel) (by decide +kernel) (fun rs u10 H locs hw hP hD hS => ?_)
        obtain ⟨hu, hrs⟩ := hw
        subst hu
        have hP : va_P D vwCl [] H := hP
        have hD : va_D A [] := hD
        subst hrs
        refine lv_iconst (v := 3) hx hb dX5_laid_20 (by decide) ?_
        refine lv_iload_n hx hb dX5_laid_21 rfl (lv_at hl 0 rfl) ?_
        refine lv_imul hx hb dX5_laid_22 ?_
        refine lv_topi (fun y11 ey11 => ?_)
        obtain rfl : y11 = 6 := ey11.trans (by decide)
        refine lv_ishl hx hb dX5_laid_23 ?_
        refine lv_ior hx hb dX5_laid_24 ?_
        refine lv_topi (fun y12 ey12 => ?_)
        obtain rfl : y12 = la1 (la1 (la1 0 x1 x2 0) x1 x2 1) x1 x2 2 := ey12.trans (rfl)
        refine lv_istore_n (lv' := [(2, .int (la1 (la1 (la1 0 x1 x2 0) x1 x2 1) x1 x2 2)), (3, .int 2), (0, .int x1), (1, .int x2)]) hx hb dX5_laid_25 rfl hl (by decide) rfl (fun ls hl => ?_)
        refine lv_iinc (v := 3) (lv' := [(3, .int 3), (2, .int (la1 (la1 (la1 0 x1 x2 0) x1 x2 1) x1 x2 2)), (0, .int x1), (1, .int x2)]) hx hb dX5_laid_26 hl (k := 1) rfl (by decide) (by decide) rfl (fun ls hl => ?_)
        refine lv_goto (tgt := 4) hx hb dX5_laid_29 (by decide) ?_
        refine lv_iload_n hx hb dX5_laid_4 rfl (lv_at hl 0 rfl) ?_
        refine lv_bipush (v := 6) hx hb dX5_laid_5 (by decide) ?_
        refine lv_icmp_ge (tgt := 32) hx hb dX5_laid_7 (by decide) (fun c_7 => ?_) (fun c_7 => ?_)
        · exact absurd c_7 (by decide)
        · refine lv_iload_n hx hb dX5_laid_10 rfl (lv_at hl 1 rfl) ?_
          refine lv_iload_n hx hb dX5_laid_11 rfl (lv_at hl 2 rfl) ?_
          refine lv_iload_n hx hb dX5_laid_12 rfl (lv_at hl 3 rfl) ?_
          refine lv_iload_n hx hb dX5_laid_13 rfl (lv_at hl 0 rfl) ?_
          refine kc_i (wc := []) (wr := []) (va_runS (As := [.int x2, .int 3]) (rest := [.int x1, .int (la1 (la1 (la1 0 x1 x2 0) x1 x2 1) x1 x2 2)]) ⟨hx, hb, hml, hown, hts⟩ (c_X5_side l D cy H.size x2 3 ) (va_cwS 2 hts gX5_laid_X5_side rfl rfl rfl hdc_X5_side.2 ⟨Nat.le_of_ble_eq_true rfl, Nat.le_of_ble_eq_true rfl⟩) (cpre_S (wc := []) hX hP hD hS hA [] (by decide +kernel) rfl) rfl rfl hl.1 rfl (lv_room (Nat.le_of_ble_eq_true rfl)) dX5_laid_14 ⟨Nat.le_of_ble_eq_true rfl, Nat.le_of_ble_eq_true rfl⟩) hP hD hS hA [] [] rfl rfl (by decide +kernel) (by decide +kernel) (fun rs u13 H locs hw hP hD hS => ?_)
          obtain ⟨hu, hrs⟩ := hw
          subst hu
          have hP : va_P D vwCl [] H := hP
          have hD : va_D A [] := hD
          subst hrs
          refine kc_i (wc := []) (wr := []) (va_runS (As := [.int x1, .int (sdI x2 3)]) (rest := [.int (la1 (la1 (la1 0 x1 x2 0) x1 x2 1) x1 x2 2)]) ⟨hx, hb, hml, hown, hts⟩ (c_X5_side l D cy H.size x1 (sdI x2 3) ) (va_cwS 2 hts gX5_laid_X5_side rfl rfl rfl hdc_X5_side.2 ⟨Nat.le_of_ble_eq_true rfl, Nat.le_of_ble_eq_true rfl⟩) (cpre_S (wc := []) hX hP hD hS hA [] (by decide +kernel) rfl) rfl rfl hl.1 rfl (lv_room (Nat.le_of_ble_eq_true rfl)) dX5_laid_17 ⟨Nat.le_of_ble_eq_true rfl, Nat.le_of_ble_eq_true rfl⟩) hP hD hS hA [] [] rfl rfl (by decide +kernel) (by decide +kernel) (fun rs u14 H locs hw hP hD hS => ?_)
          obtain ⟨hu, hrs⟩ := hw
          subst hu
          have hP : va_P D vwCl [] H := hP
          have hD : va_D A [] := hD
          subst hrs
          refine lv_iconst (v := 3) hx hb dX5_laid_20 (by decide) ?_
          refine lv_iload_n hx hb dX5_laid_21 rfl (lv_at hl 0 rfl) ?_
          refine lv_imul hx hb dX5_laid_22 ?_
          refine lv_topi (fun y15 ey15 => ?_)
          obtain rfl : y15 = 9 := ey15.trans (by decide)
          refine lv_ishl hx hb dX5_laid_23 ?_
          refine lv_ior hx hb dX5_laid_24 ?_
          refine lv_topi (fun y16 ey16 => ?_)
          obtain rfl : y16 = la1 (la1 (la1 (la1 0 x1 x2 0) x1 x2 1) x1 x2 2) x1 x2 3 := ey16.trans (rfl)
          refine lv_istore_n (lv' := [(2, .int (la1 (la1 (la1 (la1 0 x1 x2 0) x1 x2 1) x1 x2 2) x1 x2 3)), (3, .int 3), (0, .int x1), (1, .int x2)]) hx hb dX5_laid_25 rfl hl (by decide) rfl (fun ls hl => ?_)
          refine lv_iinc (v := 4) (lv' := [(3, .int 4), (2, .int (la1 (la1 (la1 (la1 0 x1 x2 0) x1 x2 1) x1 x2 2) x1 x2 3)), (0, .int x1), (1, .int x2)]) hx hb dX5_laid_26 hl (k := 1) rfl (by decide) (by decide) rfl (fun ls hl => ?_)
          refine lv_goto (tgt := 4) hx hb dX5_laid_29 (by decide) ?_
          refine lv_iload_n hx hb dX5_laid_4 rfl (lv_at hl 0 rfl) ?_
          refine lv_bipush (v := 6) hx hb dX5_laid_5 (by decide) ?_
          refine lv_icmp_ge (tgt := 32) hx hb dX5_laid_7 (by decide) (fun c_7 => ?_) (fun c_7 => ?_)
          · exact absurd c_7 (by decide)
          · refine lv_iload_n hx hb dX5_laid_10 rfl (lv_at hl 1 rfl) ?_
            refine lv_iload_n hx hb dX5_laid_11 rfl (lv_at hl 2 rfl) ?_
            refine lv_iload_n hx hb dX5_laid_12 rfl (lv_at hl 3 rfl) ?_
            refine lv_iload_n hx hb dX5_laid_13 rfl (lv_at hl 0 rfl) ?_
            refine kc_i (wc := []) (wr := []) (va_runS (As := [.int x2, .int 4]) (rest := [.int x1, .int (la1 (la1 (la1 (la1 0 x1 x2 0) x1 x2 1) x1 x2 2) x1 x2 3)]) ⟨hx, hb, hml, hown, hts⟩ (c_X5_side l D cy H.size x2 4 ) (va_cwS 2 hts gX5_laid_X5_side rfl rfl rfl hdc_X5_side.2 ⟨Nat.le_of_ble_eq_true rfl, Nat.le_of_ble_eq_true rfl⟩) (cpre_S (wc := []) hX hP hD hS hA [] (by decide +kernel) rfl) rfl rfl hl.1 rfl (lv_room (Nat.le_of_ble_eq_true rfl)) dX5_laid_14 ⟨Nat.le_of_ble_eq_true rfl, Nat.le_of_ble_eq_true rfl⟩) hP hD hS hA [] [] rfl rfl (by decide +kernel) (by decide +kernel) (fun rs u17 H locs hw hP hD hS => ?_)
            obtain ⟨hu, hrs⟩ := hw
            subst hu
            have hP : va_P D vwCl [] H := hP
            have hD : va_D A [] := hD
            subst hrs
            refine kc_i (wc := []) (wr := []) (va_runS (As := [.int x1, .int (sdI x2 4)]) (rest := [.int (la1 (la1 (la1 (la1 0 x1 x2 0) x1 x2 1) x1 x2 2) x1 x2 3)]) ⟨hx, hb, hml, hown, hts⟩ (c_X5_side l D cy H.size x1 (sdI x2 4) ) (va_cwS 2 hts gX5_laid_X5_side rfl rfl rfl hdc_X5_side.2 ⟨Nat.le_of_ble_eq_true rfl, Nat.le_of_ble_eq_true rfl⟩) (cpre_S (wc := []) hX hP hD hS hA [] (by decide +kernel) rfl) rfl rfl hl.1 rfl (lv_room (Nat.le_of_ble_eq_true rfl)) dX5_laid_17 ⟨Nat.le_of_ble_eq_true rfl, Nat.le_of_ble_eq_true rfl⟩) hP hD hS hA [] [] rfl rfl (by decide +kernel) (by decide +kernel) (fun rs u18 H locs hw hP hD hS => ?_)
            obtain ⟨hu, hrs⟩ := hw
            subst hu
            have hP : va_P D vwCl [] H := hP
            have hD : va_D A [] := hD
            subst hrs
            refine lv_iconst (v := 3) hx hb dX5_laid_20 (by decide) ?_
            refine lv_iload_n hx hb dX5_laid_21 rfl (lv_at hl 0 rfl) ?_
            refine lv_imul hx hb dX5_laid_22 ?_
            refine lv_topi (fun y19 ey19 => ?_)
            obtain rfl : y19 = 12 := ey19.trans (by decide)
            refine lv_ishl hx hb dX5_laid_23 ?_
            refine lv_ior hx hb dX5_laid_24 ?_
            refine lv_topi (fun y20 ey20 => ?_)
            obtain rfl : y20 = la1 (la1 (la1 (la1 (la1 0 x1 x2 0) x1 x2 1) x1 x2 2) x1 x2 3) x1 x2 4 := ey20.trans (rfl)
            refine lv_istore_n (lv' := [(2, .int (la1 (la1 (la1 (la1 (la1 0 x1 x2 0) x1 x2 1) x1 x2 2) x1 x2 3) x1 x2 4)), (3, .int 4), (0, .int x1), (1, .int x2)]) hx hb dX5_laid_25 rfl hl (by decide) rfl (fun ls hl => ?_)
            refine lv_iinc (v := 5) (lv' := [(3, .int 5), (2, .int (la1 (la1 (la1 (la1 (la1 0 x1 x2 0) x1 x2 1) x1 x2 2) x1 x2 3) x1 x2 4)), (0, .int x1), (1, .int x2)]) hx hb dX5_laid_26 hl (k := 1) rfl (by decide) (by decide) rfl (fun ls hl => ?_)
            refine lv_goto (tgt := 4) hx hb dX5_laid_29 (by decide) ?_
            refine lv_iload_n hx hb dX5_laid_4 rfl (lv_at hl 0 rfl) ?_
            refine lv_bipush (v := 6) hx hb dX5_laid_5 (by decide) ?_
            refine lv_icmp_ge (tgt := 32) hx hb dX5_laid_7 (by decide) (fun c_7 => ?_) (fun c_7 => ?_)
            · exact absurd c_7 (by decide)
            · refine lv_iload_n hx hb dX5_laid_10 rfl (lv_at hl 1 rfl) ?_
              refine lv_iload_n hx hb dX5_laid_11 rfl (lv_at hl 2 rfl) ?_
              refine lv_iload_n hx hb dX5_laid_12 rfl (lv_at hl 3 rfl) ?_
              refine lv_iload_n hx hb dX5_laid_13 rfl (lv_at hl 0 rfl) ?_
              refine kc_i (wc := []) (wr := []) (va_runS (As := [.int x2, .int 5]) (rest := [.int x1, .int (la1 (la1 (la1 (la1 (la1 0 x1 x2 0) x1 x2 1) x1 x2 2) x1 x2 3) x1 x2 4)]) ⟨hx, hb, hml, hown, hts⟩ (c_X5_side l D cy H.size x2 5 ) (va_cwS 2 hts gX5_laid_X5_side rfl rfl rfl hdc_X5_side.2 ⟨Nat.le_of_ble_eq_true rfl, Nat.le_of_ble_eq_true rfl⟩) (cpre_S (wc := []) hX hP hD hS hA [] (by decide +kernel) rfl) rfl rfl hl.1 rfl (lv_room (Nat.le_of_ble_eq_true rfl)) dX5_laid_14 ⟨Nat.le_of_ble_eq_true rfl, Nat.le_of_ble_eq_true rfl⟩) hP hD hS hA [] [] rfl rfl (by decide +kernel) (by decide +kernel) (fun rs u21 H locs hw hP hD hS => ?_)
              obtain ⟨hu, hrs⟩ := hw
              subst hu
              have hP : va_P D vwCl [] H := hP
              have hD : va_D A [] := hD
              subst hrs
              refine kc_i (wc := []) (wr := []) (va_runS (As := [.int x1, .int (sdI x2 5)]) (rest := [.int (la1 (la1 (la1 (la1 (la1 0 x1 x2 0) x1 x2 1) x1 x2 2) x1 x2 3) x1 x2 4)]) ⟨hx, hb, hml, hown, hts⟩ (c_X5_side l D cy H.size x1 (sdI x2 5) ) (va_cwS 2 hts gX5_laid_X5_side rfl rfl rfl hdc_X5_side.2 ⟨Nat.le_of_ble_eq_true rfl, Nat.le_of_ble_eq_true rfl⟩) (cpre_S (wc := []) hX hP hD hS hA [] (by decide +kernel) rfl) rfl rfl hl.1 rfl (lv_room (Nat.le_of_ble_eq_true rfl)) dX5_laid_17 ⟨Nat.le_of_ble_eq_true rfl, Nat.le_of_ble_eq_true rfl⟩) hP hD hS hA [] [] rfl rfl (by decide +kernel) (by decide +kernel) (fun rs u22 H locs hw hP hD hS => ?_)
              obtain ⟨hu, hrs⟩ := hw
              subst hu
              have hP : va_P D vwCl [] H := hP
              have hD : va_D A [] := hD
              subst hrs
              refine lv_iconst (v := 3) hx hb dX5_laid_20 (by decide) ?_
              refine lv_iload_n hx hb dX5_laid_21 rfl (lv_at hl 0 rfl) ?_
              refine lv_imul hx hb dX5_laid_22 ?_
              refine lv_topi (fun y23 ey23 => ?_)
              obtain rfl : y23 = 15 := ey23.trans (by decide)
              refine lv_ishl hx hb dX5_laid_23 ?_
              refine lv_ior hx hb dX5_laid_24 ?_
              refine lv_topi (fun y24 ey24 => ?_)
              obtain rfl : y24 = la1 (la1 (la1 (la1 (la1 (la1 0 x1 x2 0) x1 x2 1) x1 x2 2) x1 x2 3) x1 x2 4) x1 x2 5 := ey24.trans (rfl)
              refine lv_istore_n (lv' := [(2, .int (la1 (la1 (la1 (la1 (la1 (la1 0 x1 x2 0) x1 x2 1) x1 x2 2) x1 x2 3) x1 x2 4) x1 x2 5)), (3, .int 5), (0, .int x1), (1, .int x2)]) hx hb dX5_laid_25 rfl hl (by decide) rfl (fun ls hl => ?_)
              refine lv_iinc (v := 6) (lv' := [(3, .int 6), (2, .int (la1 (la1 (la1 (la1 (la1 (la1 0 x1 x2 0) x1 x2 1) x1 x2 2) x1 x2 3) x1 x2 4) x1 x2 5)), (0, .int x1), (1, .int x2)]) hx hb dX5_laid_26 hl (k := 1) rfl (by decide) (by decide) rfl (fun ls hl => ?_)
              refine lv_goto (tgt := 4) hx hb dX5_laid_29 (by decide) ?_
              refine lv_iload_n hx hb dX5_laid_4 rfl (lv_at hl 0 rfl) ?_
              refine lv_bipush (v := 6) hx hb dX5_laid_5 (by decide) ?_
              refine lv_icmp_ge (tgt := 32) hx hb dX5_laid_7 (by decide) (fun c_7 => ?_) (fun c_7 => ?_)
              · refine lv_iload_n hx hb dX5_laid_32 rfl (lv_at hl 1 rfl) ?_
                have hP9 := hP.sub (ws' := []) [] rfl
                have hD9 := hD.sub (ws' := []) [] (by decide +kernel) rfl
                exact W.iret (v := la1 (la1 (la1 (la1 (la1 (la1 0 x1 x2 0) x1 x2 1) x1 x2 2) x1 x2 3) x1 x2 4) x1 x2 5) hx hb hr (fun t9 ht9 hW9 => ⟨⟨la1 (la1 (la1 (la1 (la1 (la1 0 x1 x2 0) x1 x2 1) x1 x2 2) x1 x2 3) x1 x2 4) x1 x2 5, [], rfl, ⟨rfl, rfl⟩, by rw [ht9]; exact hP9, hD9⟩, hS.F ht9⟩) hS.2.2 dX5_laid_33
              · exact absurd c_7 (by decide)
def q_X5_size (cy : Nat → ClassId) (x1 : Int32) : Int32 → va_W → Prop := fun (r : Int32) (u : va_W) => u = [] ∧ r = szI x1
set_option maxHeartbeats 4000000 in
set_option maxRecDepth 100000 in
theorem c_X5_size (l : Launch) (D : va_G) (cy : Nat → ClassId) (zz : Nat) (x1 : Int32) : Met l yX5_size wsX5_size ({ frames := 0, cells := 0, slots := 0, locals := 0 } : Room) (va_Pc [.int x1] (cpre D cy [] zz)) (va_Qi (q_X5_size cy x1) (cpost D (va_A [] zz)) (va_A [] zz)) 0 0 (va_A [] zz) := by
  refine Met.ofW (cc := cX5_size) (maxL := 3) (ret := (some .int)) (by decide) rfl ?_
  intro p e s m args below meth c s₁ B hml hv
  obtain ⟨rfl, hsz, hP, hD0, hX⟩ := hv
  have hx := B.exec
  have hb := B.bytes
  have hr := B.returns
  have hts := atoms_spec (ws := wsX5_size) B.pre
  have hown : s.vm.findClass RX5 = some m.cls := findClass_of_methodNamed B.named
  have hlocks := B.notSynchronized
  subst hsz
  have hD := hD0.self (sz := s.heap.size)
  generalize hAe : va_A [] s.heap.size = A at hD hX ⊢
  have hA : ∀ q : Nat, s.heap.size ≤ q → A q := fun q h => by rw [← hAe]; exact Or.inr h
  obtain ⟨H, hH⟩ : ∃ H : Heap, H = s.heap := ⟨_, rfl⟩
  have hS : va_S A s.heap H [] := hH ▸ va_S.rf
  have hK := hX.1
  have hP : va_P D vwCl [] H := hH ▸ hP
  rw [← hH]
  have hl := lv_entry ([.int x1]) (n := 3) (Nat.le_of_ble_eq_true rfl)
  rw [lg_entry_eq]
  generalize (lg_sl ([.int x1]) ++ List.replicate (3 - (lg_sl ([.int x1])).length) Slot.unset).toArray = ls at hl ⊢
  have hl : lv_has ls 3 [(0, .int x1)] := hl
  refine lv_iconst (v := 0) hx hb dX5_size_0 (by decide) ?_
  refine lv_istore_n (lv' := [(1, .int 0), (0, .int x1)]) hx hb dX5_size_1 rfl hl (by decide) rfl (fun ls hl => ?_)
  refine lv_iconst (v := 0) hx hb dX5_size_2 (by decide) ?_
  refine lv_istore_n (lv' := [(2, .int 0), (1, .int 0), (0, .int x1)]) hx hb dX5_size_3 rfl hl (by decide) rfl (fun ls hl => ?_)
  refine lv_iload_n hx hb dX5_size_4 rfl (lv_at hl 0 rfl) ?_
  refine lv_bipush (v := 6) hx hb dX5_size_5 (by decide) ?_
  refine lv_icmp_ge (tgt := 24) hx hb dX5_size_7 (by decide) (fun c_7 => ?_) (fun c_7 => ?_)
  · exact absurd c_7 (by decide)
  · refine lv_iload_n hx hb dX5_size_10 rfl (lv_at hl 1 rfl) ?_
    refine lv_iload_n hx hb dX5_size_11 rfl (lv_at hl 2 rfl) ?_
    refine lv_iload_n hx hb dX5_size_12 rfl (lv_at hl 0 rfl) ?_
    refine lv_ishr hx hb dX5_size_13 ?_
    refine lv_iconst (v := 1) hx hb dX5_size_14 (by decide) ?_
    refine lv_iand hx hb dX5_size_15 ?_
    refine lv_iadd hx hb dX5_size_16 ?_
    refine lv_topi (fun y1 ey1 => ?_)
    obtain rfl : y1 = sz1 0 x1 0 := ey1.trans (rfl)
    refine lv_istore_n (lv' := [(1, .int (sz1 0 x1 0)), (2, .int 0), (0, .int x1)]) hx hb dX5_size_17 rfl hl (by decide) rfl (fun ls hl => ?_)
    refine lv_iinc (v := 1) (lv' := [(2, .int 1), (1, .int (sz1 0 x1 0)), (0, .int x1)]) hx hb dX5_size_18 hl (k := 1) rfl (by decide) (by decide) rfl (fun ls hl => ?_)
    refine lv_goto (tgt := 4) hx hb dX5_size_21 (by decide) ?_
    refine lv_iload_n hx hb dX5_size_4 rfl (lv_at hl 0 rfl) ?_
    refine lv_bipush (v := 6) hx hb dX5_size_5 (by decide) ?_
    refine lv_icmp_ge (tgt := 24) hx hb dX5_size_7 (by decide) (fun c_7 => ?_) (fun c_7 => ?_)
    · exact absurd c_7 (by decide)
    · refine lv_iload_n hx hb dX5_size_10 rfl (lv_at hl 1 rfl) ?_
      refine lv_iload_n hx hb dX5_size_11 rfl (lv_at hl 2 rfl) ?_
      refine lv_iload_n hx hb dX5_size_12 rfl (lv_at hl 0 rfl) ?_
      refine lv_ishr hx hb dX5_size_13 ?_
      refine lv_iconst (v := 1) hx hb dX5_size_14 (by decide) ?_
      refine lv_iand hx hb dX5_size_15 ?_
      refine lv_iadd hx hb dX5_size_16 ?_
      refine lv_topi (fun y2 ey2 => ?_)
      obtain rfl : y2 = sz1 (sz1 0 x1 0) x1 1 := ey2.trans (rfl)
      refine lv_istore_n (lv' := [(1, .int (sz1 (sz1 0 x1 0) x1 1)), (2, .int 1), (0, .int x1)]) hx hb dX5_size_17 rfl hl (by decide) rfl (fun ls hl => ?_)
      refine lv_iinc (v := 2) (lv' := [(2, .int 2), (1, .int (sz1 (sz1 0 x1 0) x1 1)), (0, .int x1)]) hx hb dX5_size_18 hl (k := 1) rfl (by decide) (by decide) rfl (fun ls hl => ?_)
      refine lv_goto (tgt := 4) hx hb dX5_size_21 (by decide) ?_
      refine lv_iload_n hx hb dX5_size_4 rfl (lv_at hl 0 rfl) ?_
      refine lv_bipush (v := 6) hx hb dX5_size_5 (by decide) ?_
      refine lv_icmp_ge (tgt := 24) hx hb dX5_size_7 (by decide) (fun c_7 => ?_) (fun c_7 => ?_)
      · exact absurd c_7 (by decide)
      · refine lv_iload_n hx hb dX5_size_10 rfl (lv_at hl 1 rfl) ?_
        refine lv_iload_n hx hb dX5_size_11 rfl (lv_at hl 2 rfl) ?_
        refine lv_iload_n hx hb dX5_size_12 rfl (lv_at hl 0 rfl) ?_
        refine lv_ishr hx hb dX5_size_13 ?_
        refine lv_iconst (v := 1) hx hb dX5_size_14 (by decide) ?_
        refine lv_iand hx hb dX5_size_15 ?_
        refine lv_iadd hx hb dX5_size_16 ?_
        refine lv_topi (fun y3 ey3 => ?_)
        obtain rfl : y3 = sz1 (sz1 (sz1 0 x1 0) x1 1) x1 2 := ey3.trans (rfl)
        refine lv_istore_n (lv' := [(1, .int (sz1 (sz1 (sz1 0 x1 0) x1 1) x1 2)), (2, .int 2), (0, .int x1)]) hx hb dX5_size_17 rfl hl (by decide) rfl (fun ls hl => ?_)
        refine lv_iinc (v := 3) (lv' := [(2, .int 3), (1, .int (sz1 (sz1 (sz1 0 x1 0) x1 1) x1 2)), (0, .int x1)]) hx hb dX5_size_18 hl (k := 1) rfl (by decide) (by decide) rfl (fun ls hl => ?_)
        refine lv_goto (tgt := 4) hx hb dX5_size_21 (by decide) ?_
        refine lv_iload_n hx hb dX5_size_4 rfl (lv_at hl 0 rfl) ?_
        refine lv_bipush (v := 6) hx hb dX5_size_5 (by decide) ?_
        refine lv_icmp_ge (tgt := 24) hx hb dX5_size_7 (by decide) (fun c_7 => ?_) (fun c_7 => ?_)
        · exact absurd c_7 (by decide)
        · refine lv_iload_n hx hb dX5_size_10 rfl (lv_at hl 1 rfl) ?_
          refine lv_iload_n hx hb dX5_size_11 rfl (lv_at hl 2 rfl) ?_
          refine lv_iload_n hx hb dX5_size_12 rfl (lv_at hl 0 rfl) ?_
          refine lv_ishr hx hb dX5_size_13 ?_
          refine lv_iconst (v := 1) hx hb dX5_size_14 (by decide) ?_
          refine lv_iand hx hb dX5_size_15 ?_
          refine lv_iadd hx hb dX5_size_16 ?_
          refine lv_topi (fun y4 ey4 => ?_)
          obtain rfl : y4 = sz1 (sz1 (sz1 (sz1 0 x1 0) x1 1) x1 2) x1 3 := ey4.trans (rfl)
          refine lv_istore_n (lv' := [(1, .int (sz1 (sz1 (sz1 (sz1 0 x1 0) x1 1) x1 2) x1 3)), (2, .int 3), (0, .int x1)]) hx hb dX5_size_17 rfl hl (by decide) rfl (fun ls hl => ?_)
          refine lv_iinc (v := 4) (lv' := [(2, .int 4), (1, .int (sz1 (sz1 (sz1 (sz1 0 x1 0) x1 1) x1 2) x1 3)), (0, .int x1)]) hx hb dX5_size_18 hl (k := 1) rfl (by decide) (by decide) rfl (fun ls hl => ?_)
          refine lv_goto (tgt := 4) hx hb dX5_size_21 (by decide) ?_
          refine lv_iload_n hx hb dX5_size_4 rfl (lv_at hl 0 rfl) ?_
          refine lv_bipush (v := 6) hx hb dX5_size_5 (by decide) ?_
          refine lv_icmp_ge (tgt := 24) hx hb dX5_size_7 (by decide) (fun c_7 => ?_) (fun c_7 => ?_)
          · exact absurd c_7 (by decide)
          · refine lv_iload_n hx hb dX5_size_10 rfl (lv_at hl 1 rfl) ?_
            refine lv_iload_n hx hb dX5_size_11 rfl (lv_at hl 2 rfl) ?_
            refine lv_iload_n hx hb dX5_size_12 rfl (lv_at hl 0 rfl) ?_
            refine lv_ishr hx hb dX5_size_13 ?_
            refine lv_iconst (v := 1) hx hb dX5_size_14 (by decide) ?_
            refine lv_iand hx hb dX5_size_15 ?_
            refine lv_iadd hx hb dX5_size_16 ?_
            refine lv_topi (fun y5 ey5 => ?_)
            obtain rfl : y5 = sz1 (sz1 (sz1 (sz1 (sz1 0 x1 0) x1 1) x1 2) x1 3) x1 4 := ey5.trans (rfl)
            refine lv_istore_n (lv' := [(1, .int (sz1 (sz1 (sz1 (sz1 (sz1 0 x1 0) x1 1) x1 2) x1 3) x1 4)), (2, .int 4), (0, .int x1)]) hx hb dX5_size_17 rfl hl (by decide) rfl (fun ls hl => ?_)
            refine lv_iinc (v := 5) (lv' := [(2, .int 5), (1, .int (sz1 (sz1 (sz1 (sz1 (sz1 0 x1 0) x1 1) x1 2) x1 3) x1 4)), (0, .int x1)]) hx hb dX5_size_18 hl (k := 1) rfl (by decide) (by decide) rfl (fun ls hl => ?_)
            refine lv_goto (tgt := 4) hx hb dX5_size_21 (by decide) ?_
            refine lv_iload_n hx hb dX5_size_4 rfl (lv_at hl 0 rfl) ?_
            refine lv_bipush (v := 6) hx hb dX5_size_5 (by decide) ?_
            refine lv_icmp_ge (tgt := 24) hx hb dX5_size_7 (by decide) (fun c_7 => ?_) (fun c_7 => ?_)
            · exact absurd c_7 (by decide)
            · refine lv_iload_n hx hb dX5_size_10 rfl (lv_at hl 1 rfl) ?_
              refine lv_iload_n hx hb dX5_size_11 rfl (lv_at hl 2 rfl) ?_
              refine lv_iload_n hx hb dX5_size_12 rfl (lv_at hl 0 rfl) ?_
              refine lv_ishr hx hb dX5_size_13 ?_
              refine lv_iconst (v := 1) hx hb dX5_size_14 (by decide) ?_
              refine lv_iand hx hb dX5_size_15 ?_
              refine lv_iadd hx hb dX5_size_16 ?_
              refine lv_topi (fun y6 ey6 => ?_)
              obtain rfl : y6 = sz1 (sz1 (sz1 (sz1 (sz1 (sz1 0 x1 0) x1 1) x1 2) x1 3) x1 4) x1 5 := ey6.trans (rfl)
              refine lv_istore_n (lv' := [(1, .int (sz1 (sz1 (sz1 (sz1 (sz1 (sz1 0 x1 0) x1 1) x1 2) x1 3) x1 4) x1 5)), (2, .int 5), (0, .int x1)]) hx hb dX5_size_17 rfl hl (by decide) rfl (fun ls hl => ?_)
              refine lv_iinc (v := 6) (lv' := [(2, .int 6), (1, .int (sz1 (sz1 (sz1 (sz1 (sz1 (sz1 0 x1 0) x1 1) x1 2) x1 3) x1 4) x1 5)), (0, .int x1)]) hx hb dX5_size_18 hl (k := 1) rfl (by decide) (by decide) rfl (fun ls hl => ?_)
              refine lv_goto (tgt := 4) hx hb dX5_size_21 (by decide) ?_
              refine lv_iload_n hx hb dX5_size_4 rfl (lv_at hl 0 rfl) ?_
              refine lv_bipush (v := 6) hx hb dX5_size_5 (by decide) ?_
              refine lv_icmp_ge (tgt := 24) hx hb dX5_size_7 (by decide) (fun c_7 => ?_) (fun c_7 => ?_)
              · refine lv_iload_n hx hb dX5_size_24 rfl (lv_at hl 1 rfl) ?_
                have hP9 := hP.sub (ws' := []) [] rfl
                have hD9 := hD.sub (ws' := []) [] (by decide +kernel) rfl
                exact W.iret (v := sz1 (sz1 (sz1 (sz1 (sz1 (sz1 0 x1 0) x1 1) x1 2) x1 3) x1 4) x1 5) hx hb hr (fun t9 ht9 hW9 => ⟨⟨sz1 (sz1 (sz1 (sz1 (sz1 (sz1 0 x1 0) x1 1) x1 2) x1 3) x1 4) x1 5, [], rfl, ⟨rfl, rfl⟩, by rw [ht9]; exact hP9, hD9⟩, hS.F ht9⟩) hS.2.2 dX5_size_25
              · exact absurd c_7 (by decide)
def q_X5_divisor (cy : Nat → ClassId) (x1 : Nat) (x2 : Nat) : Int32 → va_W → Prop := fun (r : Int32) (u : va_W) => u = [] ∧ r = nI (Nat.gcd x1 x2)
set_option maxHeartbeats 4000000 in
set_option maxRecDepth 100000 in
theorem c_X5_divisor (l : Launch) (D : va_G) (cy : Nat → ClassId) (zz : Nat) (x1 : Nat) (x2 : Nat) (h1 : x1 < 2 ^ 31) (h2 : x2 < 2 ^ 31) : Met l yX5_divisor wsX5_divisor ({ frames := 0, cells := 0, slots := 0, locals := 0 } : Room) (va_Pc [.int (nI x1), .int (nI x2)] (cpre D cy [] zz)) (va_Qi (q_X5_divisor cy x1 x2) (cpost D (va_A [] zz)) (va_A [] zz)) 0 0 (va_A [] zz) := by
  refine Met.ofW (cc := cX5_divisor) (maxL := 5) (ret := (some .int)) (by decide) rfl ?_
  intro p e s m args below meth c s₁ B hml hv
  obtain ⟨rfl, hsz, hP, hD0, hX⟩ := hv
  have hx := B.exec
  have hb := B.bytes
  have hr := B.returns
  have hts := atoms_spec (ws := wsX5_divisor) B.pre
  have hown : s.vm.findClass RX5 = some m.cls := findClass_of_methodNamed B.named
  have hlocks := B.notSynchronized
  subst hsz
  have hD := hD0.self (sz := s.heap.size)
  generalize hAe : va_A [] s.heap.size = A at hD hX ⊢
  have hA : ∀ q : Nat, s.heap.size ≤ q → A q := fun q h => by rw [← hAe]; exact Or.inr h
  obtain ⟨H, hH⟩ : ∃ H : Heap, H = s.heap := ⟨_, rfl⟩
  have hS : va_S A s.heap H [] := hH ▸ va_S.rf
  have hK := hX.1
  have hP : va_P D vwCl [] H := hH ▸ hP
  rw [← hH]
  have hl := lv_entry ([.int (nI x1), .int (nI x2)]) (n := 5) (Nat.le_of_ble_eq_true rfl)
  rw [lg_entry_eq]
  generalize (lg_sl ([.int (nI x1), .int (nI x2)]) ++ List.replicate (5 - (lg_sl ([.int (nI x1), .int (nI x2)])).length) Slot.unset).toArray = ls at hl ⊢
  have hl : lv_has ls 5 [(0, .int (nI x1)), (1, .int (nI x2))] := hl
  refine lv_iload_n hx hb dX5_divisor_0 rfl (lv_at hl 0 rfl) ?_
  refine lv_istore_n (lv' := [(2, .int (nI x1)), (0, .int (nI x1)), (1, .int (nI x2))]) hx hb dX5_divisor_1 rfl hl (by decide) rfl (fun ls hl => ?_)
  refine lv_iload_n hx hb dX5_divisor_2 rfl (lv_at hl 2 rfl) ?_
  refine lv_istore_n (lv' := [(3, .int (nI x2)), (2, .int (nI x1)), (0, .int (nI x1)), (1, .int (nI x2))]) hx hb dX5_divisor_3 rfl hl (by decide) rfl (fun ls hl => ?_)
  have lp_4 : ∀ (n_4 : Nat) (a9 : Nat) (b9 : Nat) (ha9 : a9 < 2 ^ 31) (hb9 : b9 < 2 ^ 31) (hg9 : Nat.gcd a9 b9 = Nat.gcd x1 x2) (hm : b9 < n_4) (H : Heap) (locs : List Loc) (ls : Array Slot), va_P D vwCl [] H → va_D A [] → va_S A s.heap H locs → lv_has ls 5 [(2, .int (nI a9)), (3, .int (nI b9))] → W p l e (headSpec wsX5_divisor ({ frames := 0, cells := 0, slots := 0, locals := 0 } : Room)).room s m ([.int (nI x1), .int (nI x2)] : List Value).toArray below meth c H locs 0 0 (MQ below (va_Qi (q_X5_divisor cy x1 x2) (cpost D A) A) ([.int (nI x1), .int (nI x2)] : List Value).toArray s 0 0 A) (F0 m 4 ls []) := by
    intro n_4
    induction n_4 with
    | zero => intro a9 b9 ha9 hb9 hg9 hm; exact absurd hm (by omega)
    | succ n_4 ih_4 =>
      intro a9 b9 ha9 hb9 hg9 hm H locs ls hP hD hS hl
      refine lv_iload_n hx hb dX5_divisor_4 rfl (lv_at hl 1 rfl) ?_
      refine lv_if_eq (tgt := 21) hx hb dX5_divisor_5 (by decide) (fun c_5 => ?_) (fun c_5 => ?_)
      · have hb0 : b9 = 0 := nI_z hb9 c_5
        refine lv_iload_n hx hb dX5_divisor_21 rfl (lv_at hl 0 rfl) ?_
        have hP9 := hP.sub (ws' := []) [] rfl
        have hD9 := hD.sub (ws' := []) [] (by decide +kernel) rfl
        exact W.iret (v := nI a9) hx hb hr (fun t9 ht9 hW9 => ⟨⟨nI a9, [], rfl, ⟨rfl, (by rw [← hg9, hb0, Nat.gcd_zero_right])⟩, by rw [ht9]; exact hP9, hD9⟩, hS.F ht9⟩) hS.2.2 dX5_divisor_22
      · have hp9 : 0 < b9 := Nat.pos_of_ne_zero (fun q => c_5 (by rw [q]; rfl))
        refine lv_iload_n hx hb dX5_divisor_8 rfl (lv_at hl 0 rfl) ?_
        refine lv_iload_n hx hb dX5_divisor_9 rfl (lv_at hl 1 rfl) ?_
        refine lv_irem hx hb dX5_divisor_10 (nI_ne0 hp9 hb9) ?_
        refine lv_topi (fun y1 ey1 => ?_)
        obtain rfl : y1 = nI (a9 % b9) := ey1.trans (rem_ok ha9 hp9 hb9)
        refine lv_istore (lv' := [(4, .int (nI (a9 % b9))), (2, .int (nI a9)), (3, .int (nI b9))]) hx hb dX5_divisor_11 hl (by decide) rfl (fun ls hl => ?_)
        refine lv_iload_n hx hb dX5_divisor_13 rfl (lv_at hl 2 rfl) ?_
        refine lv_istore_n (lv' := [(2, .int (nI b9)), (4, .int (nI (a9 % b9))), (3, .int (nI b9))]) hx hb dX5_divisor_14 rfl hl (by decide) rfl (fun ls hl => ?_)
        refine lv_iload hx hb dX5_divisor_15 (lv_at hl 1 rfl) ?_
        refine lv_istore_n (lv' := [(3, .int (nI (a9 % b9))), (2, .int (nI b9)), (4, .int (nI (a9 % b9)))]) hx hb dX5_divisor_17 rfl hl (by decide) rfl (fun ls hl => ?_)
        refine lv_goto (tgt := 4) hx hb dX5_divisor_18 (by decide) ?_
        exact ih_4 b9 (a9 % b9) hb9 (Nat.lt_trans (Nat.mod_lt _ hp9) hb9) (((Nat.gcd_comm b9 (a9 % b9)).trans (Nat.gcd_rec b9 a9).symm).trans ((Nat.gcd_comm b9 a9).trans hg9)) (by have h8 := Nat.mod_lt a9 hp9; omega) _ _ _ (hP.sub [] rfl) (hD.sub [] (by decide +kernel) rfl) hS (lv_sub hl [1, 0] rfl)
  exact lp_4 (x2 + 1) x1 x2 h1 h2 rfl (by omega) _ _ _ (hP.sub [] rfl) (hD.sub [] (by decide +kernel) rfl) hS (lv_sub hl [1, 0] rfl)
def q_X5_kindBy (cy : Nat → ClassId) (x1 : Int32) : Int32 → va_W → Prop := fun (r : Int32) (u : va_W) => u = [] ∧ r = kbI x1
set_option maxHeartbeats 4000000 in
set_option maxRecDepth 100000 in
theorem c_X5_kindBy (l : Launch) (D : va_G) (cy : Nat → ClassId) (zz : Nat) (x1 : Int32) : Met l yX5_kindBy wsX5_kindBy ({ frames := 0, cells := 0, slots := 0, locals := 0 } : Room) (va_Pc [.int x1] (cpre D cy [] zz)) (va_Qi (q_X5_kindBy cy x1) (cpost D (va_A [] zz)) (va_A [] zz)) 0 0 (va_A [] zz) := by
  refine Met.ofW (cc := cX5_kindBy) (maxL := 1) (ret := (some .int)) (by decide) rfl ?_
  intro p e s m args below meth c s₁ B hml hv
  obtain ⟨rfl, hsz, hP, hD0, hX⟩ := hv
  have hx := B.exec
  have hb := B.bytes
  have hr := B.returns
  have hts := atoms_spec (ws := wsX5_kindBy) B.pre
  have hown : s.vm.findClass RX5 = some m.cls := findClass_of_methodNamed B.named
  have hlocks := B.notSynchronized
  subst hsz
  have hD := hD0.self (sz := s.heap.size)
  generalize hAe : va_A [] s.heap.size = A at hD hX ⊢
  have hA : ∀ q : Nat, s.heap.size ≤ q → A q := fun q h => by rw [← hAe]; exact Or.inr h
  obtain ⟨H, hH⟩ : ∃ H : Heap, H = s.heap := ⟨_, rfl⟩
  have hS : va_S A s.heap H [] := hH ▸ va_S.rf
  have hK := hX.1
  have hP : va_P D vwCl [] H := hH ▸ hP
  rw [← hH]
  have hl := lv_entry ([.int x1]) (n := 1) (Nat.le_of_ble_eq_true rfl)
  rw [lg_entry_eq]
  generalize (lg_sl ([.int x1]) ++ List.replicate (1 - (lg_sl ([.int x1])).length) Slot.unset).toArray = ls at hl ⊢
  have hl : lv_has ls 1 [(0, .int x1)] := hl
  refine lv_iload_n hx hb dX5_kindBy_0 rfl (lv_at hl 0 rfl) ?_
  by_cases h_99 : x1 = 99
  · refine lv_lookup (off := 51) (tgt := 52) hx hb dX5_kindBy_1 (by decide) (by rw [h_99]; decide) (by decide) ?_
    refine lv_iconst (v := 0) hx hb dX5_kindBy_52 (by decide) ?_
    have hP9 := hP.sub (ws' := []) [] rfl
    have hD9 := hD.sub (ws' := []) [] (by decide +kernel) rfl
    exact W.iret (v := 0) hx hb hr (fun t9 ht9 hW9 => ⟨⟨0, [], rfl, ⟨rfl, (if_pos h_99).symm⟩, by rw [ht9]; exact hP9, hD9⟩, hS.F ht9⟩) hS.2.2 dX5_kindBy_53
  by_cases h_102 : x1 = 102
  · refine lv_lookup (off := 57) (tgt := 58) hx hb dX5_kindBy_1 (by decide) (by rw [h_102]; decide) (by decide) ?_
    refine lv_iconst (v := 3) hx hb dX5_kindBy_58 (by decide) ?_
    have hP9 := hP.sub (ws' := []) [] rfl
    have hD9 := hD.sub (ws' := []) [] (by decide +kernel) rfl
    exact W.iret (v := 3) hx hb hr (fun t9 ht9 hW9 => ⟨⟨3, [], rfl, ⟨rfl, ((if_neg h_99).trans (if_pos h_102)).symm⟩, by rw [ht9]; exact hP9, hD9⟩, hS.F ht9⟩) hS.2.2 dX5_kindBy_59
  by_cases h_104 : x1 = 104
  · refine lv_lookup (off := 59) (tgt := 60) hx hb dX5_kindBy_1 (by decide) (by rw [h_104]; decide) (by decide) ?_
    refine lv_iconst (v := 4) hx hb dX5_kindBy_60 (by decide) ?_
    have hP9 := hP.sub (ws' := []) [] rfl
    have hD9 := hD.sub (ws' := []) [] (by decide +kernel) rfl
    exact W.iret (v := 4) hx hb hr (fun t9 ht9 hW9 => ⟨⟨4, [], rfl, ⟨rfl, ((if_neg h_99).trans ((if_neg h_102).trans (if_pos h_104))).symm⟩, by rw [ht9]; exact hP9, hD9⟩, hS.F ht9⟩) hS.2.2 dX5_kindBy_61
  by_cases h_115 : x1 = 115
  · refine lv_lookup (off := 53) (tgt := 54) hx hb dX5_kindBy_1 (by decide) (by rw [h_115]; decide) (by decide) ?_
    refine lv_iconst (v := 1) hx hb dX5_kindBy_54 (by decide) ?_
    have hP9 := hP.sub (ws' := []) [] rfl
    have hD9 := hD.sub (ws' := []) [] (by decide +kernel) rfl
    exact W.iret (v := 1) hx hb hr (fun t9 ht9 hW9 => ⟨⟨1, [], rfl, ⟨rfl, ((if_neg h_99).trans ((if_neg h_102).trans ((if_neg h_104).trans (if_pos h_115)))).symm⟩, by rw [ht9]; exact hP9, hD9⟩, hS.F ht9⟩) hS.2.2 dX5_kindBy_55
  by_cases h_116 : x1 = 116
  · refine lv_lookup (off := 55) (tgt := 56) hx hb dX5_kindBy_1 (by decide) (by rw [h_116]; decide) (by decide) ?_
    refine lv_iconst (v := 2) hx hb dX5_kindBy_56 (by decide) ?_
    have hP9 := hP.sub (ws' := []) [] rfl
    have hD9 := hD.sub (ws' := []) [] (by decide +kernel) rfl
    exact W.iret (v := 2) hx hb hr (fun t9 ht9 hW9 => ⟨⟨2, [], rfl, ⟨rfl, ((if_neg h_99).trans ((if_neg h_102).trans ((if_neg h_104).trans ((if_neg h_115).trans (if_pos h_116))))).symm⟩, by rw [ht9]; exact hP9, hD9⟩, hS.F ht9⟩) hS.2.2 dX5_kindBy_57
  refine lv_lookup (off := 61) (tgt := 62) hx hb dX5_kindBy_1 (by decide) ((lv_osw h_99 (by decide)).trans ((lv_osw h_102 (by decide)).trans ((lv_osw h_104 (by decide)).trans ((lv_osw h_115 (by decide)).trans ((lv_osw h_116 (by decide)).trans (rfl)))))) (by decide) ?_
  refine lv_iconst (v := (-1)) hx hb dX5_kindBy_62 (by decide) ?_
  have hP9 := hP.sub (ws' := []) [] rfl
  have hD9 := hD.sub (ws' := []) [] (by decide +kernel) rfl
  exact W.iret (v := (-1)) hx hb hr (fun t9 ht9 hW9 => ⟨⟨(-1), [], rfl, ⟨rfl, ((if_neg h_99).trans ((if_neg h_102).trans ((if_neg h_104).trans ((if_neg h_115).trans (if_neg h_116))))).symm⟩, by rw [ht9]; exact hP9, hD9⟩, hS.F ht9⟩) hS.2.2 dX5_kindBy_63
