def q_J0_isLatin1_aae02 (cy : Nat → ClassId) : Int32 → va_W → Prop := fun (r : Int32) (u : va_W) => u = [] ∧ r = 1
set_option maxHeartbeats 4000000 in
set_option maxRecDepth 100000 in
theorem c_J0_isLatin1_aae02 (l : Launch) (D : va_G) (cy : Nat → ClassId) (zz : Nat) : Met l yJ0_isLatin1_aae02 wsJ0_isLatin1_aae02 ({ frames := 0, cells := 0, slots := 0, locals := 0 } : Room) (va_Pc [.ref (D.2 99 0)] (cpre D cy [] zz)) (va_Qi (q_J0_isLatin1_aae02 cy ) (cpost D (va_A [] zz)) (va_A [] zz)) 0 0 (va_A [] zz) := by
  refine Met.ofW (cc := cJ0_isLatin1_aae02) (maxL := 1) (ret := (some .boolean)) (by decide) rfl ?_
  intro p e s m args below meth c s₁ B hml hv
  obtain ⟨rfl, hsz, hP, hD0, hX⟩ := hv
  have hx := B.exec
  have hb := B.bytes
  have hr := B.returns
  have hts := atoms_spec (ws := wsJ0_isLatin1_aae02) B.pre
  have hown : s.vm.findClass RJ0 = some m.cls := findClass_of_methodNamed B.named
  have hlocks := B.notSynchronized
  subst hsz
  have hD := hD0.self (sz := s.heap.size)
  generalize hAe : va_A [] s.heap.size = A at hD hX ⊢
  have hA : ∀ q : Nat, s.heap.size ≤ q → A q := fun q h => by rw [← hAe]; exact Or.inr h
  obtain ⟨H, hH⟩ : ∃ H : Heap, H = s.heap := ⟨_, rfl⟩
  have hS : va_S A s.heap H [] := hH ▸ va_S.rf
  have hK := hX.1
  have hP : va_P D vwCl [] H := hH ▸ hP
  rw [← hH]
  have f_38 := hts (.fieldLink RJ0 38 "java/lang/String" "COMPACT_STRINGS" "Z") (inC wa_340 (by decide +kernel))
  have f_15 := hts (.fieldLink RJ0 15 "java/lang/String" "coder" "B") (inC wa_341 (by decide +kernel))
  have hl := lv_entry ([.ref (D.2 99 0)]) (n := 1) (Nat.le_of_ble_eq_true rfl)
  rw [lg_entry_eq]
  generalize (lg_sl ([.ref (D.2 99 0)]) ++ List.replicate (1 - (lg_sl ([.ref (D.2 99 0)])).length) Slot.unset).toArray = ls at hl ⊢
  have hl : lv_has ls 1 [(0, .ref (D.2 99 0))] := hl
  refine va_gets hx hb hX.2.1.2.2.2.2.2.2 hS hown f_38 (fun _ h9 => h9) dJ0_isLatin1_aae02_0 ?_
  refine lv_if_eq (tgt := 17) hx hb dJ0_isLatin1_aae02_3 (by decide) (fun c_3 => ?_) (fun c_3 => ?_)
  · exact absurd c_3 (by decide)
  · refine lv_aload_n hx hb dJ0_isLatin1_aae02_6 rfl (lv_at hl 0 rfl) ?_
    refine vk_getf hx hb (hX.2.1.2.2.2.2.2.1.1 0 (by decide)).2.1 hS hown f_15 (fun _ h9 => h9) dJ0_isLatin1_aae02_7 ?_
    refine lv_if_ne (tgt := 17) hx hb dJ0_isLatin1_aae02_10 (by decide) (fun c_10 => ?_) (fun c_10 => ?_)
    · exact absurd c_10 (by decide)
    · refine lv_iconst (v := 1) hx hb dJ0_isLatin1_aae02_13 (by decide) ?_
      refine lv_goto (tgt := 18) hx hb dJ0_isLatin1_aae02_14 (by decide) ?_
      have hP9 := hP.sub (ws' := []) [] rfl
      have hD9 := hD.sub (ws' := []) [] (by decide +kernel) rfl
      exact W.zret (v := 1) hx hb hr (rfl) (fun t9 ht9 hW9 => ⟨⟨1, [], rfl, ⟨rfl, rfl⟩, by rw [ht9]; exact hP9, hD9⟩, hS.F ht9⟩) hS.2.2 dJ0_isLatin1_aae02_18
def q_J0_coder_7d493 (cy : Nat → ClassId) : Int32 → va_W → Prop := fun (r : Int32) (u : va_W) => u = [] ∧ r = 0
set_option maxHeartbeats 4000000 in
set_option maxRecDepth 100000 in
theorem c_J0_coder_7d493 (l : Launch) (D : va_G) (cy : Nat → ClassId) (zz : Nat) : Met l yJ0_coder_7d493 wsJ0_coder_7d493 ({ frames := 0, cells := 0, slots := 0, locals := 0 } : Room) (va_Pc [.ref (D.2 99 0)] (cpre D cy [] zz)) (va_Qi (q_J0_coder_7d493 cy ) (cpost D (va_A [] zz)) (va_A [] zz)) 0 0 (va_A [] zz) := by
  refine Met.ofW (cc := cJ0_coder_7d493) (maxL := 1) (ret := (some .byte)) (by decide) rfl ?_
  intro p e s m args below meth c s₁ B hml hv
  obtain ⟨rfl, hsz, hP, hD0, hX⟩ := hv
  have hx := B.exec
  have hb := B.bytes
  have hr := B.returns
  have hts := atoms_spec (ws := wsJ0_coder_7d493) B.pre
  have hown : s.vm.findClass RJ0 = some m.cls := findClass_of_methodNamed B.named
  have hlocks := B.notSynchronized
  subst hsz
  have hD := hD0.self (sz := s.heap.size)
  generalize hAe : va_A [] s.heap.size = A at hD hX ⊢
  have hA : ∀ q : Nat, s.heap.size ≤ q → A q := fun q h => by rw [← hAe]; exact Or.inr h
  obtain ⟨H, hH⟩ : ∃ H : Heap, H = s.heap := ⟨_, rfl⟩
  have hS : va_S A s.heap H [] := hH ▸ va_S.rf
  have hK := hX.1
  have hP : va_P D vwCl [] H := hH ▸ hP
  rw [← hH]
  have f_38 := hts (.fieldLink RJ0 38 "java/lang/String" "COMPACT_STRINGS" "Z") (inC wa_340 (by decide +kernel))
  have f_15 := hts (.fieldLink RJ0 15 "java/lang/String" "coder" "B") (inC wa_341 (by decide +kernel))
  have hl := lv_entry ([.ref (D.2 99 0)]) (n := 1) (Nat.le_of_ble_eq_true rfl)
  rw [lg_entry_eq]
  generalize (lg_sl ([.ref (D.2 99 0)]) ++ List.replicate (1 - (lg_sl ([.ref (D.2 99 0)])).length) Slot.unset).toArray = ls at hl ⊢
  have hl : lv_has ls 1 [(0, .ref (D.2 99 0))] := hl
  refine va_gets hx hb hX.2.1.2.2.2.2.2.2 hS hown f_38 (fun _ h9 => h9) dJ0_coder_7d493_0 ?_
  refine lv_if_eq (tgt := 13) hx hb dJ0_coder_7d493_3 (by decide) (fun c_3 => ?_) (fun c_3 => ?_)
  · exact absurd c_3 (by decide)
  · refine lv_aload_n hx hb dJ0_coder_7d493_6 rfl (lv_at hl 0 rfl) ?_
    refine vk_getf hx hb (hX.2.1.2.2.2.2.2.1.1 0 (by decide)).2.1 hS hown f_15 (fun _ h9 => h9) dJ0_coder_7d493_7 ?_
    refine lv_goto (tgt := 14) hx hb dJ0_coder_7d493_10 (by decide) ?_
    have hP9 := hP.sub (ws' := []) [] rfl
    have hD9 := hD.sub (ws' := []) [] (by decide +kernel) rfl
    exact W.zret (v := 0) hx hb hr (rfl) (fun t9 ht9 hW9 => ⟨⟨0, [], rfl, ⟨rfl, rfl⟩, by rw [ht9]; exact hP9, hD9⟩, hS.F ht9⟩) hS.2.2 dJ0_coder_7d493_14
def q_J0_length_8abf5 (cy : Nat → ClassId) : Int32 → va_W → Prop := fun (r : Int32) (u : va_W) => u = [] ∧ r = 5
set_option maxHeartbeats 4000000 in
set_option maxRecDepth 100000 in
theorem c_J0_length_8abf5 (l : Launch) (D : va_G) (cy : Nat → ClassId) (zz : Nat) : Met l yJ0_length_8abf5 wsJ0_length_8abf5 ({ frames := 1, cells := 0, slots := 0, locals := 20 } : Room) (va_Pc [.ref (D.2 99 0)] (cpre D cy [] zz)) (va_Qi (q_J0_length_8abf5 cy ) (cpost D (va_A [] zz)) (va_A [] zz)) 0 0 (va_A [] zz) := by
  refine Met.ofW (cc := cJ0_length_8abf5) (maxL := 1) (ret := (some .int)) (by decide) rfl ?_
  intro p e s m args below meth c s₁ B hml hv
  obtain ⟨rfl, hsz, hP, hD0, hX⟩ := hv
  have hx := B.exec
  have hb := B.bytes
  have hr := B.returns
  have hts := atoms_spec (ws := wsJ0_length_8abf5) B.pre
  have hown : s.vm.findClass RJ0 = some m.cls := findClass_of_methodNamed B.named
  have hlocks := B.notSynchronized
  subst hsz
  have hD := hD0.self (sz := s.heap.size)
  generalize hAe : va_A [] s.heap.size = A at hD hX ⊢
  have hA : ∀ q : Nat, s.heap.size ≤ q → A q := fun q h => by rw [← hAe]; exact Or.inr h
  obtain ⟨H, hH⟩ : ∃ H : Heap, H = s.heap := ⟨_, rfl⟩
  have hS : va_S A s.heap H [] := hH ▸ va_S.rf
  have hK := hX.1
  have hP : va_P D vwCl [] H := hH ▸ hP
  rw [← hH]
  have f_9 := hts (.fieldLink RJ0 9 "java/lang/String" "value" "[B") (inC wa_335 (by decide +kernel))
  have hl := lv_entry ([.ref (D.2 99 0)]) (n := 1) (Nat.le_of_ble_eq_true rfl)
  rw [lg_entry_eq]
  generalize (lg_sl ([.ref (D.2 99 0)]) ++ List.replicate (1 - (lg_sl ([.ref (D.2 99 0)])).length) Slot.unset).toArray = ls at hl ⊢
  have hl : lv_has ls 1 [(0, .ref (D.2 99 0))] := hl
  refine lv_aload_n hx hb dJ0_length_8abf5_0 rfl (lv_at hl 0 rfl) ?_
  refine vk_getf hx hb (hX.2.1.2.2.2.2.2.1.1 0 (by decide)).2.2.1 hS hown f_9 (fun _ h9 => h9) dJ0_length_8abf5_1 ?_
  refine va_tlen hx hb (hX.2.1.2.2.2.2.2.1.1 0 (by decide)).2.2.2 hS (v := 5) (by decide) dJ0_length_8abf5_4 ?_
  refine lv_aload_n hx hb dJ0_length_8abf5_5 rfl (lv_at hl 0 rfl) ?_
  refine kc_i (wc := []) (wr := []) (va_runV (As := []) (rest := [.int 5]) ⟨hx, hb, hml, hown, hts⟩ (c_J0_coder_7d493 l D cy H.size  ) (cwV 0 hts gJ0_length_8abf5_J0_coder_7d493 rfl rfl rfl hdc_J0_coder_7d493 ⟨Nat.le_of_ble_eq_true rfl, Nat.le_of_ble_eq_true rfl⟩) (cpre_W hX hP hD hS hA) rfl rfl hl.1 rfl (lv_room (Nat.le_of_ble_eq_true rfl)) dJ0_length_8abf5_6 ⟨Nat.le_of_ble_eq_true rfl, Nat.le_of_ble_eq_true rfl⟩) hP hD hS hA [] [] rfl rfl (by decide +kernel) (by decide +kernel) (fun rl u1 H locs hw hP hD hS => ?_)
  obtain ⟨hu, hrl⟩ := hw
  subst hu
  have hP : va_P D vwCl [] H := hP
  have hD : va_D A [] := hD
  subst hrl
  refine lv_ishr hx hb dJ0_length_8abf5_9 ?_
  refine lv_topi (fun y2 ey2 => ?_)
  obtain rfl : y2 = 5 := ey2.trans (by decide)
  have hP9 := hP.sub (ws' := []) [] rfl
  have hD9 := hD.sub (ws' := []) [] (by decide +kernel) rfl
  exact W.iret (v := 5) hx hb hr (fun t9 ht9 hW9 => ⟨⟨5, [], rfl, ⟨rfl, rfl⟩, by rw [ht9]; exact hP9, hD9⟩, hS.F ht9⟩) hS.2.2 dJ0_length_8abf5_10
def q_J1_canEncode_9a6ad (cy : Nat → ClassId) (n : Nat) : Int32 → va_W → Prop := fun (r : Int32) (u : va_W) => u = [] ∧ r = 1
set_option maxHeartbeats 4000000 in
set_option maxRecDepth 100000 in
theorem c_J1_canEncode_9a6ad (l : Launch) (D : va_G) (cy : Nat → ClassId) (zz : Nat) (n : Nat) (hn : n < 128) : Met l yJ1_canEncode_9a6ad wsJ1_canEncode_9a6ad ({ frames := 0, cells := 0, slots := 0, locals := 0 } : Room) (va_Pc [.int (nI n)] (cpre D cy [] zz)) (va_Qi (q_J1_canEncode_9a6ad cy n) (cpost D (va_A [] zz)) (va_A [] zz)) 0 0 (va_A [] zz) := by
  refine Met.ofW (cc := cJ1_canEncode_9a6ad) (maxL := 1) (ret := (some .boolean)) (by decide) rfl ?_
  intro p e s m args below meth c s₁ B hml hv
  obtain ⟨rfl, hsz, hP, hD0, hX⟩ := hv
  have hx := B.exec
  have hb := B.bytes
  have hr := B.returns
  have hts := atoms_spec (ws := wsJ1_canEncode_9a6ad) B.pre
  have hown : s.vm.findClass RJ1 = some m.cls := findClass_of_methodNamed B.named
  have hlocks := B.notSynchronized
  subst hsz
  have hD := hD0.self (sz := s.heap.size)
  generalize hAe : va_A [] s.heap.size = A at hD hX ⊢
  have hA : ∀ q : Nat, s.heap.size ≤ q → A q := fun q h => by rw [← hAe]; exact Or.inr h
  obtain ⟨H, hH⟩ : ∃ H : Heap, H = s.heap := ⟨_, rfl⟩
  have hS : va_S A s.heap H [] := hH ▸ va_S.rf
  have hK := hX.1
  have hP : va_P D vwCl [] H := hH ▸ hP
  rw [← hH]
  have hl := lv_entry ([.int (nI n)]) (n := 1) (Nat.le_of_ble_eq_true rfl)
  rw [lg_entry_eq]
  generalize (lg_sl ([.int (nI n)]) ++ List.replicate (1 - (lg_sl ([.int (nI n)])).length) Slot.unset).toArray = ls at hl ⊢
  have hl : lv_has ls 1 [(0, .int (nI n))] := hl
  refine lv_iload_n hx hb dJ1_canEncode_9a6ad_0 rfl (lv_at hl 0 rfl) ?_
  refine lv_if_lt (tgt := 15) hx hb dJ1_canEncode_9a6ad_1 (by decide) (fun c_1 => ?_) (fun c_1 => ?_)
  · exact absurd c_1 (nI_pos (by omega))
  · refine lv_iload_n hx hb dJ1_canEncode_9a6ad_4 rfl (lv_at hl 0 rfl) ?_
    refine lv_sipush (v := 255) hx hb dJ1_canEncode_9a6ad_5 (by decide) ?_
    refine lv_icmp_gt (tgt := 15) hx hb dJ1_canEncode_9a6ad_8 (by decide) (fun c_8 => ?_) (fun c_8 => ?_)
    · exact absurd c_8 (nI_nlt (a := 255) (by omega) (by decide))
    · refine lv_iconst (v := 1) hx hb dJ1_canEncode_9a6ad_11 (by decide) ?_
      refine lv_goto (tgt := 16) hx hb dJ1_canEncode_9a6ad_12 (by decide) ?_
      have hP9 := hP.sub (ws' := []) [] rfl
      have hD9 := hD.sub (ws' := []) [] (by decide +kernel) rfl
      exact W.zret (v := 1) hx hb hr (rfl) (fun t9 ht9 hW9 => ⟨⟨1, [], rfl, ⟨rfl, rfl⟩, by rw [ht9]; exact hP9, hD9⟩, hS.F ht9⟩) hS.2.2 dJ1_canEncode_9a6ad_16
def q_J1_indexOfChar_4cfef (cy : Nat → ClassId) (n : Nat) : Int32 → va_W → Prop := fun (r : Int32) (u : va_W) => u = [] ∧ r = kxI (nI n)
set_option maxHeartbeats 4000000 in
set_option maxRecDepth 100000 in
theorem c_J1_indexOfChar_4cfef (l : Launch) (D : va_G) (cy : Nat → ClassId) (zz : Nat) (n : Nat) (hn : n < 128) : Met l yJ1_indexOfChar_4cfef wsJ1_indexOfChar_4cfef ({ frames := 0, cells := 0, slots := 0, locals := 0 } : Room) (va_Pc [.ref (D.2 99 1), .int (nI n), .int 0, .int 5] (cpre D cy [] zz)) (va_Qi (q_J1_indexOfChar_4cfef cy n) (cpost D (va_A [] zz)) (va_A [] zz)) 0 0 (va_A [] zz) := by
  refine Met.ofW (cc := cJ1_indexOfChar_4cfef) (maxL := 6) (ret := (some .int)) (by decide) rfl ?_
  intro p e s m args below meth c s₁ B hml hv
  obtain ⟨rfl, hsz, hP, hD0, hX⟩ := hv
  have hx := B.exec
  have hb := B.bytes
  have hr := B.returns
  have hts := atoms_spec (ws := wsJ1_indexOfChar_4cfef) B.pre
  have hown : s.vm.findClass RJ1 = some m.cls := findClass_of_methodNamed B.named
  have hlocks := B.notSynchronized
  subst hsz
  have hD := hD0.self (sz := s.heap.size)
  generalize hAe : va_A [] s.heap.size = A at hD hX ⊢
  have hA : ∀ q : Nat, s.heap.size ≤ q → A q := fun q h => by rw [← hAe]; exact Or.inr h
  obtain ⟨H, hH⟩ : ∃ H : Heap, H = s.heap := ⟨_, rfl⟩
  have hS : va_S A s.heap H [] := hH ▸ va_S.rf
  have hK := hX.1
  have hP : va_P D vwCl [] H := hH ▸ hP
  rw [← hH]
  have hl := lv_entry ([.ref (D.2 99 1), .int (nI n), .int 0, .int 5]) (n := 6) (Nat.le_of_ble_eq_true rfl)
  rw [lg_entry_eq]
  generalize (lg_sl ([.ref (D.2 99 1), .int (nI n), .int 0, .int 5]) ++ List.replicate (6 - (lg_sl ([.ref (D.2 99 1), .int (nI n), .int 0, .int 5])).length) Slot.unset).toArray = ls at hl ⊢
  have hl : lv_has ls 6 [(0, .ref (D.2 99 1)), (1, .int (nI n)), (2, .int 0), (3, .int 5)] := hl
  refine lv_iload_n hx hb dJ1_indexOfChar_4cfef_0 rfl (lv_at hl 1 rfl) ?_
  refine lv_i2b (v := (nI n).toInt8.toInt32) hx hb dJ1_indexOfChar_4cfef_1 rfl ?_
  refine lv_topi (fun y1 ey1 => ?_)
  obtain rfl : y1 = nI n := ey1.trans (b_i8 n hn)
  refine lv_istore (lv' := [(4, .int (nI n)), (0, .ref (D.2 99 1)), (1, .int (nI n)), (2, .int 0), (3, .int 5)]) hx hb dJ1_indexOfChar_4cfef_2 hl (by decide) rfl (fun ls hl => ?_)
  refine lv_iload_n hx hb dJ1_indexOfChar_4cfef_4 rfl (lv_at hl 3 rfl) ?_
  refine lv_istore (lv' := [(5, .int 0), (4, .int (nI n)), (0, .ref (D.2 99 1)), (1, .int (nI n)), (2, .int 0), (3, .int 5)]) hx hb dJ1_indexOfChar_4cfef_5 hl (by decide) rfl (fun ls hl => ?_)
  refine lv_iload hx hb dJ1_indexOfChar_4cfef_7 (lv_at hl 0 rfl) ?_
  refine lv_iload_n hx hb dJ1_indexOfChar_4cfef_9 rfl (lv_at hl 5 rfl) ?_
  refine lv_icmp_ge (tgt := 31) hx hb dJ1_indexOfChar_4cfef_10 (by decide) (fun c_10 => ?_) (fun c_10 => ?_)
  · exact absurd c_10 (by decide)
  · refine lv_aload_n hx hb dJ1_indexOfChar_4cfef_13 rfl (lv_at hl 2 rfl) ?_
    refine lv_iload hx hb dJ1_indexOfChar_4cfef_14 (lv_at hl 0 rfl) ?_
    refine va_tb hx hb (hX.2.1.2.2.2.2.2.1.1 0 (by decide)).2.2.2 hS (vi_c (by decide +kernel)) (v := .int 99) rfl dJ1_indexOfChar_4cfef_16 ?_
    refine lv_iload hx hb dJ1_indexOfChar_4cfef_17 (lv_at hl 1 rfl) ?_
    refine lv_icmp_ne (tgt := 25) hx hb dJ1_indexOfChar_4cfef_19 (by decide) (fun c_19_0 => ?_) (fun c_19_0 => ?_)
    · refine lv_iinc (v := 1) (lv' := [(5, .int 1), (4, .int (nI n)), (0, .ref (D.2 99 1)), (1, .int (nI n)), (2, .int 0), (3, .int 5)]) hx hb dJ1_indexOfChar_4cfef_25 hl (k := 0) rfl (by decide) (by decide) rfl (fun ls hl => ?_)
      refine lv_goto (tgt := 7) hx hb dJ1_indexOfChar_4cfef_28 (by decide) ?_
      refine lv_iload hx hb dJ1_indexOfChar_4cfef_7 (lv_at hl 0 rfl) ?_
      refine lv_iload_n hx hb dJ1_indexOfChar_4cfef_9 rfl (lv_at hl 5 rfl) ?_
      refine lv_icmp_ge (tgt := 31) hx hb dJ1_indexOfChar_4cfef_10 (by decide) (fun c_10 => ?_) (fun c_10 => ?_)
      · exact absurd c_10 (by decide)
      · refine lv_aload_n hx hb dJ1_indexOfChar_4cfef_13 rfl (lv_at hl 2 rfl) ?_
        refine lv_iload hx hb dJ1_indexOfChar_4cfef_14 (lv_at hl 0 rfl) ?_
        refine va_tb hx hb (hX.2.1.2.2.2.2.2.1.1 0 (by decide)).2.2.2 hS (vi_c (by decide +kernel)) (v := .int 115) rfl dJ1_indexOfChar_4cfef_16 ?_
        refine lv_iload hx hb dJ1_indexOfChar_4cfef_17 (lv_at hl 1 rfl) ?_
        refine lv_icmp_ne (tgt := 25) hx hb dJ1_indexOfChar_4cfef_19 (by decide) (fun c_19_1 => ?_) (fun c_19_1 => ?_)
        · refine lv_iinc (v := 2) (lv' := [(5, .int 2), (4, .int (nI n)), (0, .ref (D.2 99 1)), (1, .int (nI n)), (2, .int 0), (3, .int 5)]) hx hb dJ1_indexOfChar_4cfef_25 hl (k := 0) rfl (by decide) (by decide) rfl (fun ls hl => ?_)
          refine lv_goto (tgt := 7) hx hb dJ1_indexOfChar_4cfef_28 (by decide) ?_
          refine lv_iload hx hb dJ1_indexOfChar_4cfef_7 (lv_at hl 0 rfl) ?_
          refine lv_iload_n hx hb dJ1_indexOfChar_4cfef_9 rfl (lv_at hl 5 rfl) ?_
          refine lv_icmp_ge (tgt := 31) hx hb dJ1_indexOfChar_4cfef_10 (by decide) (fun c_10 => ?_) (fun c_10 => ?_)
          · exact absurd c_10 (by decide)
          · refine lv_aload_n hx hb dJ1_indexOfChar_4cfef_13 rfl (lv_at hl 2 rfl) ?_
            refine lv_iload hx hb dJ1_indexOfChar_4cfef_14 (lv_at hl 0 rfl) ?_
            refine va_tb hx hb (hX.2.1.2.2.2.2.2.1.1 0 (by decide)).2.2.2 hS (vi_c (by decide +kernel)) (v := .int 116) rfl dJ1_indexOfChar_4cfef_16 ?_
            refine lv_iload hx hb dJ1_indexOfChar_4cfef_17 (lv_at hl 1 rfl) ?_
            refine lv_icmp_ne (tgt := 25) hx hb dJ1_indexOfChar_4cfef_19 (by decide) (fun c_19_2 => ?_) (fun c_19_2 => ?_)
            · refine lv_iinc (v := 3) (lv' := [(5, .int 3), (4, .int (nI n)), (0, .ref (D.2 99 1)), (1, .int (nI n)), (2, .int 0), (3, .int 5)]) hx hb dJ1_indexOfChar_4cfef_25 hl (k := 0) rfl (by decide) (by decide) rfl (fun ls hl => ?_)
              refine lv_goto (tgt := 7) hx hb dJ1_indexOfChar_4cfef_28 (by decide) ?_
              refine lv_iload hx hb dJ1_indexOfChar_4cfef_7 (lv_at hl 0 rfl) ?_
              refine lv_iload_n hx hb dJ1_indexOfChar_4cfef_9 rfl (lv_at hl 5 rfl) ?_
              refine lv_icmp_ge (tgt := 31) hx hb dJ1_indexOfChar_4cfef_10 (by decide) (fun c_10 => ?_) (fun c_10 => ?_)
              · exact absurd c_10 (by decide)
              · refine lv_aload_n hx hb dJ1_indexOfChar_4cfef_13 rfl (lv_at hl 2 rfl) ?_
                refine lv_iload hx hb dJ1_indexOfChar_4cfef_14 (lv_at hl 0 rfl) ?_
                refine va_tb hx hb (hX.2.1.2.2.2.2.2.1.1 0 (by decide)).2.2.2 hS (vi_c (by decide +kernel)) (v := .int 102) rfl dJ1_indexOfChar_4cfef_16 ?_
                refine lv_iload hx hb dJ1_indexOfChar_4cfef_17 (lv_at hl 1 rfl) ?_
                refine lv_icmp_ne (tgt := 25) hx hb dJ1_indexOfChar_4cfef_19 (by decide) (fun c_19_3 => ?_) (fun c_19_3 => ?_)
                · refine lv_iinc (v := 4) (lv' := [(5, .int 4), (4, .int (nI n)), (0, .ref (D.2 99 1)), (1, .int (nI n)), (2, .int 0), (3, .int 5)]) hx hb dJ1_indexOfChar_4cfef_25 hl (k := 0) rfl (by decide) (by decide) rfl (fun ls hl => ?_)
                  refine lv_goto (tgt := 7) hx hb dJ1_indexOfChar_4cfef_28 (by decide) ?_
                  refine lv_iload hx hb dJ1_indexOfChar_4cfef_7 (lv_at hl 0 rfl) ?_
                  refine lv_iload_n hx hb dJ1_indexOfChar_4cfef_9 rfl (lv_at hl 5 rfl) ?_
                  refine lv_icmp_ge (tgt := 31) hx hb dJ1_indexOfChar_4cfef_10 (by decide) (fun c_10 => ?_) (fun c_10 => ?_)
                  · exact absurd c_10 (by decide)
                  · refine lv_aload_n hx hb dJ1_indexOfChar_4cfef_13 rfl (lv_at hl 2 rfl) ?_
                    refine lv_iload hx hb dJ1_indexOfChar_4cfef_14 (lv_at hl 0 rfl) ?_
                    refine va_tb hx hb (hX.2.1.2.2.2.2.2.1.1 0 (by decide)).2.2.2 hS (vi_c (by decide +kernel)) (v := .int 104) rfl dJ1_indexOfChar_4cfef_16 ?_
                    refine lv_iload hx hb dJ1_indexOfChar_4cfef_17 (lv_at hl 1 rfl) ?_
                    refine lv_icmp_ne (tgt := 25) hx hb dJ1_indexOfChar_4cfef_19 (by decide) (fun c_19_4 => ?_) (fun c_19_4 => ?_)
                    · refine lv_iinc (v := 5) (lv' := [(5, .int 5), (4, .int (nI n)), (0, .ref (D.2 99 1)), (1, .int (nI n)), (2, .int 0), (3, .int 5)]) hx hb dJ1_indexOfChar_4cfef_25 hl (k := 0) rfl (by decide) (by decide) rfl (fun ls hl => ?_)
                      refine lv_goto (tgt := 7) hx hb dJ1_indexOfChar_4cfef_28 (by decide) ?_
                      refine lv_iload hx hb dJ1_indexOfChar_4cfef_7 (lv_at hl 0 rfl) ?_
                      refine lv_iload_n hx hb dJ1_indexOfChar_4cfef_9 rfl (lv_at hl 5 rfl) ?_
                      refine lv_icmp_ge (tgt := 31) hx hb dJ1_indexOfChar_4cfef_10 (by decide) (fun c_10 => ?_) (fun c_10 => ?_)
                      · refine lv_iconst (v := (-1)) hx hb dJ1_indexOfChar_4cfef_31 (by decide) ?_
                        have hP9 := hP.sub (ws' := []) [] rfl
                        have hD9 := hD.sub (ws' := []) [] (by decide +kernel) rfl
                        exact W.iret (v := (-1)) hx hb hr (fun t9 ht9 hW9 => ⟨⟨(-1), [], rfl, ⟨rfl, ((if_neg c_19_0).trans ((if_neg c_19_1).trans ((if_neg c_19_2).trans ((if_neg c_19_3).trans (if_neg c_19_4))))).symm⟩, by rw [ht9]; exact hP9, hD9⟩, hS.F ht9⟩) hS.2.2 dJ1_indexOfChar_4cfef_32
                      · exact absurd c_10 (by decide)
                    · refine lv_iload hx hb dJ1_indexOfChar_4cfef_22 (lv_at hl 0 rfl) ?_
                      have hP9 := hP.sub (ws' := []) [] rfl
                      have hD9 := hD.sub (ws' := []) [] (by decide +kernel) rfl
                      exact W.iret (v := 4) hx hb hr (fun t9 ht9 hW9 => ⟨⟨4, [], rfl, ⟨rfl, ((if_neg c_19_0).trans ((if_neg c_19_1).trans ((if_neg c_19_2).trans ((if_neg c_19_3).trans (if_pos c_19_4))))).symm⟩, by rw [ht9]; exact hP9, hD9⟩, hS.F ht9⟩) hS.2.2 dJ1_indexOfChar_4cfef_24
                · refine lv_iload hx hb dJ1_indexOfChar_4cfef_22 (lv_at hl 0 rfl) ?_
                  have hP9 := hP.sub (ws' := []) [] rfl
                  have hD9 := hD.sub (ws' := []) [] (by decide +kernel) rfl
                  exact W.iret (v := 3) hx hb hr (fun t9 ht9 hW9 => ⟨⟨3, [], rfl, ⟨rfl, ((if_neg c_19_0).trans ((if_neg c_19_1).trans ((if_neg c_19_2).trans (if_pos c_19_3)))).symm⟩, by rw [ht9]; exact hP9, hD9⟩, hS.F ht9⟩) hS.2.2 dJ1_indexOfChar_4cfef_24
            · refine lv_iload hx hb dJ1_indexOfChar_4cfef_22 (lv_at hl 0 rfl) ?_
              have hP9 := hP.sub (ws' := []) [] rfl
              have hD9 := hD.sub (ws' := []) [] (by decide +kernel) rfl
              exact W.iret (v := 2) hx hb hr (fun t9 ht9 hW9 => ⟨⟨2, [], rfl, ⟨rfl, ((if_neg c_19_0).trans ((if_neg c_19_1).trans (if_pos c_19_2))).symm⟩, by rw [ht9]; exact hP9, hD9⟩, hS.F ht9⟩) hS.2.2 dJ1_indexOfChar_4cfef_24
        · refine lv_iload hx hb dJ1_indexOfChar_4cfef_22 (lv_at hl 0 rfl) ?_
          have hP9 := hP.sub (ws' := []) [] rfl
          have hD9 := hD.sub (ws' := []) [] (by decide +kernel) rfl
          exact W.iret (v := 1) hx hb hr (fun t9 ht9 hW9 => ⟨⟨1, [], rfl, ⟨rfl, ((if_neg c_19_0).trans (if_pos c_19_1)).symm⟩, by rw [ht9]; exact hP9, hD9⟩, hS.F ht9⟩) hS.2.2 dJ1_indexOfChar_4cfef_24
    · refine lv_iload hx hb dJ1_indexOfChar_4cfef_22 (lv_at hl 0 rfl) ?_
      have hP9 := hP.sub (ws' := []) [] rfl
      have hD9 := hD.sub (ws' := []) [] (by decide +kernel) rfl
      exact W.iret (v := 0) hx hb hr (fun t9 ht9 hW9 => ⟨⟨0, [], rfl, ⟨rfl, (if_pos c_19_0).symm⟩, by rw [ht9]; exact hP9, hD9⟩, hS.F ht9⟩) hS.2.2 dJ1_indexOfChar_4cfef_24
def q_J1_indexOf_4cfef (cy : Nat → ClassId) (n : Nat) : Int32 → va_W → Prop := fun (r : Int32) (u : va_W) => u = [] ∧ r = kxI (nI n)
set_option maxHeartbeats 4000000 in
set_option maxRecDepth 100000 in
theorem c_J1_indexOf_4cfef (l : Launch) (D : va_G) (cy : Nat → ClassId) (zz : Nat) (n : Nat) (hn : n < 128) : Met l yJ1_indexOf_4cfef wsJ1_indexOf_4cfef ({ frames := 1, cells := 0, slots := 0, locals := 25 } : Room) (va_Pc [.ref (D.2 99 1), .int (nI n), .int 0, .int 5] (cpre D cy [] zz)) (va_Qi (q_J1_indexOf_4cfef cy n) (cpost D (va_A [] zz)) (va_A [] zz)) 0 0 (va_A [] zz) := by
  refine Met.ofW (cc := cJ1_indexOf_4cfef) (maxL := 4) (ret := (some .int)) (by decide) rfl ?_
  intro p e s m args below meth c s₁ B hml hv
  obtain ⟨rfl, hsz, hP, hD0, hX⟩ := hv
  have hx := B.exec
  have hb := B.bytes
  have hr := B.returns
  have hts := atoms_spec (ws := wsJ1_indexOf_4cfef) B.pre
  have hown : s.vm.findClass RJ1 = some m.cls := findClass_of_methodNamed B.named
  have hlocks := B.notSynchronized
  subst hsz
  have hD := hD0.self (sz := s.heap.size)
  generalize hAe : va_A [] s.heap.size = A at hD hX ⊢
  have hA : ∀ q : Nat, s.heap.size ≤ q → A q := fun q h => by rw [← hAe]; exact Or.inr h
  obtain ⟨H, hH⟩ : ∃ H : Heap, H = s.heap := ⟨_, rfl⟩
  have hS : va_S A s.heap H [] := hH ▸ va_S.rf
  have hK := hX.1
  have hP : va_P D vwCl [] H := hH ▸ hP
  rw [← hH]
  have m_92 := hts (.methodLink RJ1 92 Lib.Math.max.name) (inC wa_394 (by decide +kernel))
  have mm_smax := hts (.static Lib.Math.max.name) (inC wa_395 (by decide +kernel))
  have mm_i := hts (.initialized "java/lang/Math") (inC wa_396 (by decide +kernel))
  have mm_cmax := hts (.code Lib.Math.max.name Lib.Math.max.code 2 (some .int)) (inC wa_397 (by decide +kernel))
  have m_38 := hts (.methodLink RJ1 38 Lib.Math.min.name) (inC wa_398 (by decide +kernel))
  have mm_smin := hts (.static Lib.Math.min.name) (inC wa_399 (by decide +kernel))
  have mm_cmin := hts (.code Lib.Math.min.name Lib.Math.min.code 2 (some .int)) (inC wa_400 (by decide +kernel))
  have hl := lv_entry ([.ref (D.2 99 1), .int (nI n), .int 0, .int 5]) (n := 4) (Nat.le_of_ble_eq_true rfl)
  rw [lg_entry_eq]
  generalize (lg_sl ([.ref (D.2 99 1), .int (nI n), .int 0, .int 5]) ++ List.replicate (4 - (lg_sl ([.ref (D.2 99 1), .int (nI n), .int 0, .int 5])).length) Slot.unset).toArray = ls at hl ⊢
  have hl : lv_has ls 4 [(0, .ref (D.2 99 1)), (1, .int (nI n)), (2, .int 0), (3, .int 5)] := hl
  refine lv_iload_n hx hb dJ1_indexOf_4cfef_0 rfl (lv_at hl 1 rfl) ?_
  refine kc_i (wc := []) (wr := []) (va_runS (As := [.int (nI n)]) (rest := []) ⟨hx, hb, hml, hown, hts⟩ (c_J1_canEncode_9a6ad l D cy H.size n hn) (va_cwS 1 hts gJ1_indexOf_4cfef_J1_canEncode_9a6ad rfl rfl rfl hdc_J1_canEncode_9a6ad.2 ⟨Nat.le_of_ble_eq_true rfl, Nat.le_of_ble_eq_true rfl⟩) (cpre_S (wc := []) hX hP hD hS hA [] (by decide +kernel) rfl) rfl rfl hl.1 rfl (lv_room (Nat.le_of_ble_eq_true rfl)) dJ1_indexOf_4cfef_1 ⟨Nat.le_of_ble_eq_true rfl, Nat.le_of_ble_eq_true rfl⟩) hP hD hS hA [] [] rfl rfl (by decide +kernel) (by decide +kernel) (fun rl u1 H locs hw hP hD hS => ?_)
  obtain ⟨hu, hrl⟩ := hw
  subst hu
  have hP : va_P D vwCl [] H := hP
  have hD : va_D A [] := hD
  subst hrl
  refine lv_if_ne (tgt := 9) hx hb dJ1_indexOf_4cfef_4 (by decide) (fun c_4 => ?_) (fun c_4 => ?_)
  · refine lv_iload_n hx hb dJ1_indexOf_4cfef_9 rfl (lv_at hl 2 rfl) ?_
    refine lv_iconst (v := 0) hx hb dJ1_indexOf_4cfef_10 (by decide) ?_
    refine va_mmax hx hb (by rw [hml]; exact hl.1.symm) hown m_92 mm_smax mm_i mm_cmax (Nat.le_of_ble_eq_true rfl) (Nat.le_of_ble_eq_true rfl) (Nat.le_of_ble_eq_true rfl) (Nat.le_of_ble_eq_true rfl) dJ1_indexOf_4cfef_11 ?_
    refine lv_topi (fun y2 ey2 => ?_)
    obtain rfl : y2 = 0 := ey2.trans (by decide)
    refine lv_istore_n (lv' := [(2, .int 0), (0, .ref (D.2 99 1)), (1, .int (nI n)), (3, .int 5)]) hx hb dJ1_indexOf_4cfef_14 rfl hl (by decide) rfl (fun ls hl => ?_)
    refine lv_iload_n hx hb dJ1_indexOf_4cfef_15 rfl (lv_at hl 3 rfl) ?_
    refine lv_aload_n hx hb dJ1_indexOf_4cfef_16 rfl (lv_at hl 1 rfl) ?_
    refine va_tlen hx hb (hX.2.1.2.2.2.2.2.1.1 0 (by decide)).2.2.2 hS (v := 5) (by decide) dJ1_indexOf_4cfef_17 ?_
    refine va_mmin hx hb (by rw [hml]; exact hl.1.symm) hown m_38 mm_smin mm_i mm_cmin (Nat.le_of_ble_eq_true rfl) (Nat.le_of_ble_eq_true rfl) (Nat.le_of_ble_eq_true rfl) (Nat.le_of_ble_eq_true rfl) dJ1_indexOf_4cfef_18 ?_
    refine lv_topi (fun y3 ey3 => ?_)
    obtain rfl : y3 = 5 := ey3.trans (by decide)
    refine lv_istore_n (lv' := [(3, .int 5), (2, .int 0), (0, .ref (D.2 99 1)), (1, .int (nI n))]) hx hb dJ1_indexOf_4cfef_21 rfl hl (by decide) rfl (fun ls hl => ?_)
    refine lv_iload_n hx hb dJ1_indexOf_4cfef_22 rfl (lv_at hl 1 rfl) ?_
    refine lv_iload_n hx hb dJ1_indexOf_4cfef_23 rfl (lv_at hl 0 rfl) ?_
    refine lv_icmp_lt (tgt := 29) hx hb dJ1_indexOf_4cfef_24 (by decide) (fun c_24 => ?_) (fun c_24 => ?_)
    · refine lv_aload_n hx hb dJ1_indexOf_4cfef_29 rfl (lv_at hl 2 rfl) ?_
      refine lv_iload_n hx hb dJ1_indexOf_4cfef_30 rfl (lv_at hl 3 rfl) ?_
      refine lv_iload_n hx hb dJ1_indexOf_4cfef_31 rfl (lv_at hl 1 rfl) ?_
      refine lv_iload_n hx hb dJ1_indexOf_4cfef_32 rfl (lv_at hl 0 rfl) ?_
      refine kc_i (wc := []) (wr := []) (va_runS (As := [.ref (D.2 99 1), .int (nI n), .int 0, .int 5]) (rest := []) ⟨hx, hb, hml, hown, hts⟩ (c_J1_indexOfChar_4cfef l D cy H.size n hn) (va_cwS 4 hts gJ1_indexOf_4cfef_J1_indexOfChar_4cfef rfl rfl rfl hdc_J1_indexOfChar_4cfef.2 ⟨Nat.le_of_ble_eq_true rfl, Nat.le_of_ble_eq_true rfl⟩) (cpre_S (wc := []) hX hP hD hS hA [] (by decide +kernel) rfl) rfl rfl hl.1 rfl (lv_room (Nat.le_of_ble_eq_true rfl)) dJ1_indexOf_4cfef_33 ⟨Nat.le_of_ble_eq_true rfl, Nat.le_of_ble_eq_true rfl⟩) hP hD hS hA [] [] rfl rfl (by decide +kernel) (by decide +kernel) (fun ri u4 H locs hw hP hD hS => ?_)
      obtain ⟨hu, hri⟩ := hw
      subst hu
      have hP : va_P D vwCl [] H := hP
      have hD : va_D A [] := hD
      have hP9 := hP.sub (ws' := []) [] rfl
      have hD9 := hD.sub (ws' := []) [] (by decide +kernel) rfl
      exact W.iret (v := ri) hx hb hr (fun t9 ht9 hW9 => ⟨⟨ri, [], rfl, ⟨rfl, hri⟩, by rw [ht9]; exact hP9, hD9⟩, hS.F ht9⟩) hS.2.2 dJ1_indexOf_4cfef_36
    · exact absurd c_24 (by decide)
  · exact absurd c_4 (by decide)
def q_J0_indexOf_7cf53 (cy : Nat → ClassId) (n : Nat) : Int32 → va_W → Prop := fun (r : Int32) (u : va_W) => u = [] ∧ r = kxI (nI n)
set_option maxHeartbeats 4000000 in
set_option maxRecDepth 100000 in
theorem c_J0_indexOf_7cf53 (l : Launch) (D : va_G) (cy : Nat → ClassId) (zz : Nat) (n : Nat) (hn : n < 128) : Met l yJ0_indexOf_7cf53 wsJ0_indexOf_7cf53 ({ frames := 2, cells := 0, slots := 0, locals := 48 } : Room) (va_Pc [.ref (D.2 99 0), .int (nI n), .int 0] (cpre D cy [] zz)) (va_Qi (q_J0_indexOf_7cf53 cy n) (cpost D (va_A [] zz)) (va_A [] zz)) 0 0 (va_A [] zz) := by
  refine Met.ofW (cc := cJ0_indexOf_7cf53) (maxL := 3) (ret := (some .int)) (by decide) rfl ?_
  intro p e s m args below meth c s₁ B hml hv
  obtain ⟨rfl, hsz, hP, hD0, hX⟩ := hv
  have hx := B.exec
  have hb := B.bytes
  have hr := B.returns
  have hts := atoms_spec (ws := wsJ0_indexOf_7cf53) B.pre
  have hown : s.vm.findClass RJ0 = some m.cls := findClass_of_methodNamed B.named
  have hlocks := B.notSynchronized
  subst hsz
  have hD := hD0.self (sz := s.heap.size)
  generalize hAe : va_A [] s.heap.size = A at hD hX ⊢
  have hA : ∀ q : Nat, s.heap.size ≤ q → A q := fun q h => by rw [← hAe]; exact Or.inr h
  obtain ⟨H, hH⟩ : ∃ H : Heap, H = s.heap := ⟨_, rfl⟩
  have hS : va_S A s.heap H [] := hH ▸ va_S.rf
  have hK := hX.1
  have hP : va_P D vwCl [] H := hH ▸ hP
  rw [← hH]
  have f_9 := hts (.fieldLink RJ0 9 "java/lang/String" "value" "[B") (inC wa_335 (by decide +kernel))
  have hl := lv_entry ([.ref (D.2 99 0), .int (nI n), .int 0]) (n := 3) (Nat.le_of_ble_eq_true rfl)
  rw [lg_entry_eq]
  generalize (lg_sl ([.ref (D.2 99 0), .int (nI n), .int 0]) ++ List.replicate (3 - (lg_sl ([.ref (D.2 99 0), .int (nI n), .int 0])).length) Slot.unset).toArray = ls at hl ⊢
  have hl : lv_has ls 3 [(0, .ref (D.2 99 0)), (1, .int (nI n)), (2, .int 0)] := hl
  refine lv_aload_n hx hb dJ0_indexOf_7cf53_0 rfl (lv_at hl 0 rfl) ?_
  refine kc_i (wc := []) (wr := []) (va_runV (As := []) (rest := []) ⟨hx, hb, hml, hown, hts⟩ (c_J0_isLatin1_aae02 l D cy H.size  ) (cwV 0 hts gJ0_indexOf_7cf53_J0_isLatin1_aae02 rfl rfl rfl hdc_J0_isLatin1_aae02 ⟨Nat.le_of_ble_eq_true rfl, Nat.le_of_ble_eq_true rfl⟩) (cpre_W hX hP hD hS hA) rfl rfl hl.1 rfl (lv_room (Nat.le_of_ble_eq_true rfl)) dJ0_indexOf_7cf53_1 ⟨Nat.le_of_ble_eq_true rfl, Nat.le_of_ble_eq_true rfl⟩) hP hD hS hA [] [] rfl rfl (by decide +kernel) (by decide +kernel) (fun rl u1 H locs hw hP hD hS => ?_)
  obtain ⟨hu, hrl⟩ := hw
  subst hu
  have hP : va_P D vwCl [] H := hP
  have hD : va_D A [] := hD
  subst hrl
  refine lv_if_eq (tgt := 23) hx hb dJ0_indexOf_7cf53_4 (by decide) (fun c_4 => ?_) (fun c_4 => ?_)
  · exact absurd c_4 (by decide)
  · refine lv_aload_n hx hb dJ0_indexOf_7cf53_7 rfl (lv_at hl 0 rfl) ?_
    refine vk_getf hx hb (hX.2.1.2.2.2.2.2.1.1 0 (by decide)).2.2.1 hS hown f_9 (fun _ h9 => h9) dJ0_indexOf_7cf53_8 ?_
    refine lv_iload_n hx hb dJ0_indexOf_7cf53_11 rfl (lv_at hl 1 rfl) ?_
    refine lv_iload_n hx hb dJ0_indexOf_7cf53_12 rfl (lv_at hl 2 rfl) ?_
    refine lv_aload_n hx hb dJ0_indexOf_7cf53_13 rfl (lv_at hl 0 rfl) ?_
    refine kc_i (wc := []) (wr := []) (va_runV (As := []) (rest := [.int 0, .int (nI n), .ref (D.2 99 1)]) ⟨hx, hb, hml, hown, hts⟩ (c_J0_length_8abf5 l D cy H.size  ) (cwV 0 hts gJ0_indexOf_7cf53_J0_length_8abf5 rfl rfl rfl hdc_J0_length_8abf5 ⟨Nat.le_of_ble_eq_true rfl, Nat.le_of_ble_eq_true rfl⟩) (cpre_W hX hP hD hS hA) rfl rfl hl.1 rfl (lv_room (Nat.le_of_ble_eq_true rfl)) dJ0_indexOf_7cf53_14 ⟨Nat.le_of_ble_eq_true rfl, Nat.le_of_ble_eq_true rfl⟩) hP hD hS hA [] [] rfl rfl (by decide +kernel) (by decide +kernel) (fun rl u2 H locs hw hP hD hS => ?_)
    obtain ⟨hu, hrl⟩ := hw
    subst hu
    have hP : va_P D vwCl [] H := hP
    have hD : va_D A [] := hD
    subst hrl
    refine kc_i (wc := []) (wr := []) (va_runS (As := [.ref (D.2 99 1), .int (nI n), .int 0, .int 5]) (rest := []) ⟨hx, hb, hml, hown, hts⟩ (c_J1_indexOf_4cfef l D cy H.size n hn) (va_cwS 4 hts gJ0_indexOf_7cf53_J1_indexOf_4cfef rfl rfl rfl hdc_J1_indexOf_4cfef.2 ⟨Nat.le_of_ble_eq_true rfl, Nat.le_of_ble_eq_true rfl⟩) (cpre_S (wc := []) hX hP hD hS hA [] (by decide +kernel) rfl) rfl rfl hl.1 rfl (lv_room (Nat.le_of_ble_eq_true rfl)) dJ0_indexOf_7cf53_17 ⟨Nat.le_of_ble_eq_true rfl, Nat.le_of_ble_eq_true rfl⟩) hP hD hS hA [] [] rfl rfl (by decide +kernel) (by decide +kernel) (fun ri u3 H locs hw hP hD hS => ?_)
    obtain ⟨hu, hri⟩ := hw
    subst hu
    have hP : va_P D vwCl [] H := hP
    have hD : va_D A [] := hD
    refine lv_goto (tgt := 36) hx hb dJ0_indexOf_7cf53_20 (by decide) ?_
    have hP9 := hP.sub (ws' := []) [] rfl
    have hD9 := hD.sub (ws' := []) [] (by decide +kernel) rfl
    exact W.iret (v := ri) hx hb hr (fun t9 ht9 hW9 => ⟨⟨ri, [], rfl, ⟨rfl, hri⟩, by rw [ht9]; exact hP9, hD9⟩, hS.F ht9⟩) hS.2.2 dJ0_indexOf_7cf53_36
def q_J0_indexOf_0f7a4 (cy : Nat → ClassId) (n : Nat) : Int32 → va_W → Prop := fun (r : Int32) (u : va_W) => u = [] ∧ r = kxI (nI n)
set_option maxHeartbeats 4000000 in
set_option maxRecDepth 100000 in
theorem c_J0_indexOf_0f7a4 (l : Launch) (D : va_G) (cy : Nat → ClassId) (zz : Nat) (n : Nat) (hn : n < 128) : Met l yJ0_indexOf_0f7a4 wsJ0_indexOf_0f7a4 ({ frames := 3, cells := 0, slots := 0, locals := 70 } : Room) (va_Pc [.ref (D.2 99 0), .int (nI n)] (cpre D cy [] zz)) (va_Qi (q_J0_indexOf_0f7a4 cy n) (cpost D (va_A [] zz)) (va_A [] zz)) 0 0 (va_A [] zz) := by
  refine Met.ofW (cc := cJ0_indexOf_0f7a4) (maxL := 2) (ret := (some .int)) (by decide) rfl ?_
  intro p e s m args below meth c s₁ B hml hv
  obtain ⟨rfl, hsz, hP, hD0, hX⟩ := hv
  have hx := B.exec
  have hb := B.bytes
  have hr := B.returns
  have hts := atoms_spec (ws := wsJ0_indexOf_0f7a4) B.pre
  have hown : s.vm.findClass RJ0 = some m.cls := findClass_of_methodNamed B.named
  have hlocks := B.notSynchronized
  subst hsz
  have hD := hD0.self (sz := s.heap.size)
  generalize hAe : va_A [] s.heap.size = A at hD hX ⊢
  have hA : ∀ q : Nat, s.heap.size ≤ q → A q := fun q h => by rw [← hAe]; exact Or.inr h
  obtain ⟨H, hH⟩ : ∃ H : Heap, H = s.heap := ⟨_, rfl⟩
  have hS : va_S A s.heap H [] := hH ▸ va_S.rf
  have hK := hX.1
  have hP : va_P D vwCl [] H := hH ▸ hP
  rw [← hH]
  have hl := lv_entry ([.ref (D.2 99 0), .int (nI n)]) (n := 2) (Nat.le_of_ble_eq_true rfl)
  rw [lg_entry_eq]
  generalize (lg_sl ([.ref (D.2 99 0), .int (nI n)]) ++ List.replicate (2 - (lg_sl ([.ref (D.2 99 0), .int (nI n)])).length) Slot.unset).toArray = ls at hl ⊢
  have hl : lv_has ls 2 [(0, .ref (D.2 99 0)), (1, .int (nI n))] := hl
  refine lv_aload_n hx hb dJ0_indexOf_0f7a4_0 rfl (lv_at hl 0 rfl) ?_
  refine lv_iload_n hx hb dJ0_indexOf_0f7a4_1 rfl (lv_at hl 1 rfl) ?_
  refine lv_iconst (v := 0) hx hb dJ0_indexOf_0f7a4_2 (by decide) ?_
  refine kc_i (wc := []) (wr := []) (va_runV (As := [.int (nI n), .int 0]) (rest := []) ⟨hx, hb, hml, hown, hts⟩ (c_J0_indexOf_7cf53 l D cy H.size n hn) (cwV 2 hts gJ0_indexOf_0f7a4_J0_indexOf_7cf53 rfl rfl rfl hdc_J0_indexOf_7cf53 ⟨Nat.le_of_ble_eq_true rfl, Nat.le_of_ble_eq_true rfl⟩) (cpre_W hX hP hD hS hA) rfl rfl hl.1 rfl (lv_room (Nat.le_of_ble_eq_true rfl)) dJ0_indexOf_0f7a4_3 ⟨Nat.le_of_ble_eq_true rfl, Nat.le_of_ble_eq_true rfl⟩) hP hD hS hA [] [] rfl rfl (by decide +kernel) (by decide +kernel) (fun ri u1 H locs hw hP hD hS => ?_)
  obtain ⟨hu, hri⟩ := hw
  subst hu
  have hP : va_P D vwCl [] H := hP
  have hD : va_D A [] := hD
  have hP9 := hP.sub (ws' := []) [] rfl
  have hD9 := hD.sub (ws' := []) [] (by decide +kernel) rfl
  exact W.iret (v := ri) hx hb hr (fun t9 ht9 hW9 => ⟨⟨ri, [], rfl, ⟨rfl, hri⟩, by rw [ht9]; exact hP9, hD9⟩, hS.F ht9⟩) hS.2.2 dJ0_indexOf_0f7a4_6
def q_X4_fits (cy : Nat → ClassId) (n : Nat) (p9 : Nat) : Int32 → va_W → Prop := fun (r : Int32) (u : va_W) => u = [] ∧ r = fitsI n p9
set_option maxHeartbeats 4000000 in
set_option maxRecDepth 100000 in
theorem c_X4_fits (l : Launch) (D : va_G) (cy : Nat → ClassId) (zz : Nat) (n : Nat) (p9 : Nat) (hn : n < 128) (hp9 : p9 < 27) : Met l yX4_fits wsX4_fits ({ frames := 4, cells := 0, slots := 0, locals := 91 } : Room) (va_Pc [.int (nI n), .int (nI p9)] (cpre D cy [] zz)) (va_Qi (q_X4_fits cy n p9) (cpost D (va_A [] zz)) (va_A [] zz)) 0 0 (va_A [] zz) := by
  refine Met.ofW (cc := cX4_fits) (maxL := 3) (ret := (some .boolean)) (by decide) rfl ?_
  intro p e s m args below meth c s₁ B hml hv
  obtain ⟨rfl, hsz, hP, hD0, hX⟩ := hv
  have hx := B.exec
  have hb := B.bytes
  have hr := B.returns
  have hts := atoms_spec (ws := wsX4_fits) B.pre
  have hown : s.vm.findClass RX4 = some m.cls := findClass_of_methodNamed B.named
  have hlocks := B.notSynchronized
  subst hsz
  have hD := hD0.self (sz := s.heap.size)
  generalize hAe : va_A [] s.heap.size = A at hD hX ⊢
  have hA : ∀ q : Nat, s.heap.size ≤ q → A q := fun q h => by rw [← hAe]; exact Or.inr h
  obtain ⟨H, hH⟩ : ∃ H : Heap, H = s.heap := ⟨_, rfl⟩
  have hS : va_S A s.heap H [] := hH ▸ va_S.rf
  have hK := hX.1
  have hP : va_P D vwCl [] H := hH ▸ hP
  rw [← hH]
  have hl := lv_entry ([.int (nI n), .int (nI p9)]) (n := 3) (Nat.le_of_ble_eq_true rfl)
  rw [lg_entry_eq]
  generalize (lg_sl ([.int (nI n), .int (nI p9)]) ++ List.replicate (3 - (lg_sl ([.int (nI n), .int (nI p9)])).length) Slot.unset).toArray = ls at hl ⊢
  have hl : lv_has ls 3 [(0, .int (nI n)), (1, .int (nI p9))] := hl
  refine lv_iload_n hx hb dX4_fits_0 rfl (lv_at hl 1 rfl) ?_
  refine lv_bipush (v := 23) hx hb dX4_fits_1 (by decide) ?_
  refine lv_icmp_lt (tgt := 8) hx hb dX4_fits_3 (by decide) (fun c_3 => ?_) (fun c_3 => ?_)
  · have hp23 : p9 < 23 := nI_ltN (b := 23) (by omega) (Int32.not_le.mpr c_3)
    refine lv_iload_n hx hb dX4_fits_8 rfl (lv_at hl 1 rfl) ?_
    refine lv_bipush (v := 8) hx hb dX4_fits_9 (by decide) ?_
    refine lv_irem hx hb dX4_fits_11 (by decide) ?_
    refine lv_topi (fun y1 ey1 => ?_)
    obtain rfl : y1 = nI (p9 % 8) := ey1.trans (b_rem8 p9 hp9)
    refine lv_istore_n (lv' := [(2, .int (nI (p9 % 8))), (0, .int (nI n)), (1, .int (nI p9))]) hx hb dX4_fits_12 rfl hl (by decide) rfl (fun ls hl => ?_)
    refine lv_iload_n hx hb dX4_fits_13 rfl (lv_at hl 0 rfl) ?_
    refine lv_if_ne (tgt := 33) hx hb dX4_fits_14 (by decide) (fun c_14 => ?_) (fun c_14 => ?_)
    · have hm0 : ¬ p9 % 8 = 0 := fun h => c_14 (by rw [h]; rfl)
      refine lv_iload_n hx hb dX4_fits_33 rfl (lv_at hl 0 rfl) ?_
      refine lv_bipush (v := 7) hx hb dX4_fits_34 (by decide) ?_
      refine lv_icmp_ne (tgt := 51) hx hb dX4_fits_36 (by decide) (fun c_36 => ?_) (fun c_36 => ?_)
      · have hm7 : ¬ p9 % 8 = 7 := fun h => c_36 (by rw [h]; rfl)
        refine lv_iload_n hx hb dX4_fits_51 rfl (lv_at hl 1 rfl) ?_
        refine lv_bipush (v := 97) hx hb dX4_fits_52 (by decide) ?_
        refine lv_icmp_lt (tgt := 67) hx hb dX4_fits_54 (by decide) (fun c_54 => ?_) (fun c_54 => ?_)
        · have hlo : n < 97 := nI_ltN (b := 97) (by omega) (Int32.not_le.mpr c_54)
          refine lv_iconst (v := 0) hx hb dX4_fits_67 (by decide) ?_
          have hP9 := hP.sub (ws' := []) [] rfl
          have hD9 := hD.sub (ws' := []) [] (by decide +kernel) rfl
          exact W.zret (v := 0) hx hb hr (rfl) (fun t9 ht9 hW9 => ⟨⟨0, [], rfl, ⟨rfl, ((if_pos hp23).trans ((if_neg hm0).trans ((if_neg hm7).trans (if_neg (fun h => absurd h.1 (Nat.not_le.mpr hlo)))))).symm⟩, by rw [ht9]; exact hP9, hD9⟩, hS.F ht9⟩) hS.2.2 dX4_fits_68
        · have hlo : 97 ≤ n := nI_leN (b := 97) (by decide) (Int32.not_lt.mp c_54)
          refine lv_iload_n hx hb dX4_fits_57 rfl (lv_at hl 1 rfl) ?_
          refine lv_bipush (v := 103) hx hb dX4_fits_58 (by decide) ?_
          refine lv_icmp_ge (tgt := 67) hx hb dX4_fits_60 (by decide) (fun c_60 => ?_) (fun c_60 => ?_)
          · have hhi : 103 ≤ n := nI_leN (b := 103) (by decide) c_60
            refine lv_iconst (v := 0) hx hb dX4_fits_67 (by decide) ?_
            have hP9 := hP.sub (ws' := []) [] rfl
            have hD9 := hD.sub (ws' := []) [] (by decide +kernel) rfl
            exact W.zret (v := 0) hx hb hr (rfl) (fun t9 ht9 hW9 => ⟨⟨0, [], rfl, ⟨rfl, ((if_pos hp23).trans ((if_neg hm0).trans ((if_neg hm7).trans (if_neg (fun h => absurd h.2 (Nat.not_lt.mpr hhi)))))).symm⟩, by rw [ht9]; exact hP9, hD9⟩, hS.F ht9⟩) hS.2.2 dX4_fits_68
          · have hhi : n < 103 := nI_ltN (b := 103) (by omega) c_60
            refine lv_iconst (v := 1) hx hb dX4_fits_63 (by decide) ?_
            refine lv_goto (tgt := 68) hx hb dX4_fits_64 (by decide) ?_
            have hP9 := hP.sub (ws' := []) [] rfl
            have hD9 := hD.sub (ws' := []) [] (by decide +kernel) rfl
            exact W.zret (v := 1) hx hb hr (rfl) (fun t9 ht9 hW9 => ⟨⟨1, [], rfl, ⟨rfl, ((if_pos hp23).trans ((if_neg hm0).trans ((if_neg hm7).trans (if_pos ⟨hlo, hhi⟩)))).symm⟩, by rw [ht9]; exact hP9, hD9⟩, hS.F ht9⟩) hS.2.2 dX4_fits_68
      · have hm7 : p9 % 8 = 7 := (nI_eq (a := p9 % 8) (b := 7) (by omega) (by decide)).mp c_36
        refine lv_iload_n hx hb dX4_fits_39 rfl (lv_at hl 1 rfl) ?_
        refine lv_bipush (v := 44) hx hb dX4_fits_40 (by decide) ?_
        refine lv_icmp_ne (tgt := 49) hx hb dX4_fits_42 (by decide) (fun c_42 => ?_) (fun c_42 => ?_)
        · have h44 : ¬ n = 44 := fun h => c_42 (by rw [h]; rfl)
          refine lv_iconst (v := 0) hx hb dX4_fits_49 (by decide) ?_
          have hP9 := hP.sub (ws' := []) [] rfl
          have hD9 := hD.sub (ws' := []) [] (by decide +kernel) rfl
          exact W.zret (v := 0) hx hb hr (rfl) (fun t9 ht9 hW9 => ⟨⟨0, [], rfl, ⟨rfl, ((if_pos hp23).trans ((if_neg hm0).trans ((if_pos hm7).trans (if_neg h44)))).symm⟩, by rw [ht9]; exact hP9, hD9⟩, hS.F ht9⟩) hS.2.2 dX4_fits_50
        · have h44 : n = 44 := (nI_eq (a := n) (b := 44) (by omega) (by decide)).mp c_42
          refine lv_iconst (v := 1) hx hb dX4_fits_45 (by decide) ?_
          refine lv_goto (tgt := 50) hx hb dX4_fits_46 (by decide) ?_
          have hP9 := hP.sub (ws' := []) [] rfl
          have hD9 := hD.sub (ws' := []) [] (by decide +kernel) rfl
          exact W.zret (v := 1) hx hb hr (rfl) (fun t9 ht9 hW9 => ⟨⟨1, [], rfl, ⟨rfl, ((if_pos hp23).trans ((if_neg hm0).trans ((if_pos hm7).trans (if_pos h44)))).symm⟩, by rw [ht9]; exact hP9, hD9⟩, hS.F ht9⟩) hS.2.2 dX4_fits_50
    · have hm0 : p9 % 8 = 0 := (nI_eq (a := p9 % 8) (b := 0) (by omega) (by decide)).mp c_14
      refine va_ldcS hx hb hown hX.2.1.2.2.2.2.1 dX4_fits_17 ?_
      refine lv_iload_n hx hb dX4_fits_19 rfl (lv_at hl 1 rfl) ?_
      refine lv_i2c (v := ((nI n).toUInt32 % 65536).toInt32) hx hb dX4_fits_20 rfl ?_
      refine lv_topi (fun y2 ey2 => ?_)
      obtain rfl : y2 = nI n := ey2.trans (b_c n hn)
      refine kc_i (wc := []) (wr := []) (va_runV (As := [.int (nI n)]) (rest := []) ⟨hx, hb, hml, hown, hts⟩ (c_J0_indexOf_0f7a4 l D cy H.size n hn) (cwV 1 hts gX4_fits_J0_indexOf_0f7a4 rfl rfl rfl hdc_J0_indexOf_0f7a4 ⟨Nat.le_of_ble_eq_true rfl, Nat.le_of_ble_eq_true rfl⟩) (cpre_W hX hP hD hS hA) rfl rfl hl.1 rfl (lv_room (Nat.le_of_ble_eq_true rfl)) dX4_fits_21 ⟨Nat.le_of_ble_eq_true rfl, Nat.le_of_ble_eq_true rfl⟩) hP hD hS hA [] [] rfl rfl (by decide +kernel) (by decide +kernel) (fun ri u3 H locs hw hP hD hS => ?_)
      obtain ⟨hu, hri⟩ := hw
      subst hu
      have hP : va_P D vwCl [] H := hP
      have hD : va_D A [] := hD
      refine lv_if_lt (tgt := 31) hx hb dX4_fits_24 (by decide) (fun c_24 => ?_) (fun c_24 => ?_)
      · have hk9 : kxI (nI n) < 0 := hri ▸ c_24
        refine lv_iconst (v := 0) hx hb dX4_fits_31 (by decide) ?_
        have hP9 := hP.sub (ws' := []) [] rfl
        have hD9 := hD.sub (ws' := []) [] (by decide +kernel) rfl
        exact W.zret (v := 0) hx hb hr (rfl) (fun t9 ht9 hW9 => ⟨⟨0, [], rfl, ⟨rfl, ((if_pos hp23).trans ((if_pos hm0).trans (if_pos hk9))).symm⟩, by rw [ht9]; exact hP9, hD9⟩, hS.F ht9⟩) hS.2.2 dX4_fits_32
      · have hk9 : ¬ kxI (nI n) < 0 := hri ▸ c_24
        refine lv_iconst (v := 1) hx hb dX4_fits_27 (by decide) ?_
        refine lv_goto (tgt := 32) hx hb dX4_fits_28 (by decide) ?_
        have hP9 := hP.sub (ws' := []) [] rfl
        have hD9 := hD.sub (ws' := []) [] (by decide +kernel) rfl
        exact W.zret (v := 1) hx hb hr (rfl) (fun t9 ht9 hW9 => ⟨⟨1, [], rfl, ⟨rfl, ((if_pos hp23).trans ((if_pos hm0).trans (if_neg hk9))).symm⟩, by rw [ht9]; exact hP9, hD9⟩, hS.F ht9⟩) hS.2.2 dX4_fits_32
  · refine lv_iconst (v := 0) hx hb dX4_fits_6 (by decide) ?_
    have hP9 := hP.sub (ws' := []) [] rfl
    have hD9 := hD.sub (ws' := []) [] (by decide +kernel) rfl
    exact W.zret (v := 0) hx hb hr (rfl) (fun t9 ht9 hW9 => ⟨⟨0, [], rfl, ⟨rfl, (if_neg (fun h => c_3 (nI_lt h (by decide)))).symm⟩, by rw [ht9]; exact hP9, hD9⟩, hS.F ht9⟩) hS.2.2 dX4_fits_7
def q_X4_fault (cy : Nat → ClassId) (h0 : Nat) (pg : Nat) (t0 : Nat) (t1 : Nat) (t2 : Nat) (sv : Nat) (lt : Nat) (tr : Nat) (rp : Nat) (sd : Int32) (pn : Nat → Nat) : Int32 → va_W → Prop := fun (r : Int32) (u : va_W) => ∃ (k : Nat), u = [(h0, .inr (4, [.ref pg, .int (nI lt), .int (nI tr), .int (nI rp), .ref t0, .ref t1, .ref t2, .ref sv, .int sd])), (pg, .inl (cy 0, 26, .inl (fun j => nI (pn j))))] ∧ r = nI k ∧ k ≤ lt ∧ (∀ j, j < k → fitsI (pn j) j = 1) ∧ (k < lt → ¬ fitsI (pn k) k = 1)
set_option maxHeartbeats 4000000 in
set_option maxRecDepth 100000 in
theorem g_X4_fault (l : Launch) (D : va_G) (cy : Nat → ClassId) (zz : Nat) (h0 : Nat) (pg : Nat) (t0 : Nat) (t1 : Nat) (t2 : Nat) (sv : Nat) (lt : Nat) (tr : Nat) (rp : Nat) (sd : Int32) (pn : Nat → Nat) (hlt : lt ≤ 26) (hpn : ∀ j, pn j < 128) : Met l yX4_fault wsX4_fault ({ frames := 5, cells := 0, slots := 0, locals := 113 } : Room) (va_Pc [.ref h0] (cpre D cy [(h0, .inr (4, [.ref pg, .int (nI lt), .int (nI tr), .int (nI rp), .ref t0, .ref t1, .ref t2, .ref sv, .int sd])), (pg, .inl (cy 0, 26, .inl (fun j => nI (pn j))))] zz)) (va_Qi (q_X4_fault cy h0 pg t0 t1 t2 sv lt tr rp sd pn) (cpost D (va_A [(h0, .inr (4, [.ref pg, .int (nI lt), .int (nI tr), .int (nI rp), .ref t0, .ref t1, .ref t2, .ref sv, .int sd])), (pg, .inl (cy 0, 26, .inl (fun j => nI (pn j))))] zz)) (va_A [(h0, .inr (4, [.ref pg, .int (nI lt), .int (nI tr), .int (nI rp), .ref t0, .ref t1, .ref t2, .ref sv, .int sd])), (pg, .inl (cy 0, 26, .inl (fun j => nI (pn j))))] zz)) 0 0 (va_A [(h0, .inr (4, [.ref pg, .int (nI lt), .int (nI tr), .int (nI rp), .ref t0, .ref t1, .ref t2, .ref sv, .int sd])), (pg, .inl (cy 0, 26, .inl (fun j => nI (pn j))))] zz) := by
  refine Met.ofW (cc := cX4_fault) (maxL := 2) (ret := (some .int)) (by decide) rfl ?_
  intro p e s m args below meth c s₁ B hml hv
  obtain ⟨rfl, hsz, hP, hD0, hX⟩ := hv
  have hx := B.exec
  have hb := B.bytes
  have hr := B.returns
  have hts := atoms_spec (ws := wsX4_fault) B.pre
  have hown : s.vm.findClass RX4 = some m.cls := findClass_of_methodNamed B.named
  have hlocks := B.notSynchronized
  subst hsz
  have hD := hD0.self (sz := s.heap.size)
  generalize hAe : va_A [(h0, .inr (4, [.ref pg, .int (nI lt), .int (nI tr), .int (nI rp), .ref t0, .ref t1, .ref t2, .ref sv, .int sd])), (pg, .inl (cy 0, 26, .inl (fun j => nI (pn j))))] s.heap.size = A at hD hX ⊢
  have hA : ∀ q : Nat, s.heap.size ≤ q → A q := fun q h => by rw [← hAe]; exact Or.inr h
  obtain ⟨H, hH⟩ : ∃ H : Heap, H = s.heap := ⟨_, rfl⟩
  have hS : va_S A s.heap H [] := hH ▸ va_S.rf
  have hK := hX.1
  have hP : va_P D vwCl [(h0, .inr (4, [.ref pg, .int (nI lt), .int (nI tr), .int (nI rp), .ref t0, .ref t1, .ref t2, .ref sv, .int sd])), (pg, .inl (cy 0, 26, .inl (fun j => nI (pn j))))] H := hH ▸ hP
  rw [← hH]
  have hw_X4 : ∀ w ∈ wsX40, w ∈ wsX4_fault := chX4 (by decide +kernel)
  have f_33 := hts (.fieldLink RX4 33 "CubeTower" "letters" "I") (inC wa_262 (by decide +kernel))
  have f_9 := hts (.fieldLink RX4 9 "CubeTower" "page" "[I") (inC wa_13 (by decide +kernel))
  have hl := lv_entry ([.ref h0]) (n := 2) (Nat.le_of_ble_eq_true rfl)
  rw [lg_entry_eq]
  generalize (lg_sl ([.ref h0]) ++ List.replicate (2 - (lg_sl ([.ref h0])).length) Slot.unset).toArray = ls at hl ⊢
  have hl : lv_has ls 2 [(0, .ref h0)] := hl
  refine lv_iconst (v := 0) hx hb dX4_fault_0 (by decide) ?_
  refine lv_istore_n (lv' := [(1, .int 0), (0, .ref h0)]) hx hb dX4_fault_1 rfl hl (by decide) rfl (fun ls hl => ?_)
  have lp_2 : ∀ (n_2 : Nat) (k : Nat) (hk : k ≤ lt) (hI : ∀ j, j < k → fitsI (pn j) j = 1) (hm : lt < k + n_2) (H : Heap) (locs : List Loc) (ls : Array Slot), va_P D vwCl [(h0, .inr (4, [.ref pg, .int (nI lt), .int (nI tr), .int (nI rp), .ref t0, .ref t1, .ref t2, .ref sv, .int sd])), (pg, .inl (cy 0, 26, .inl (fun j => nI (pn j))))] H → va_D A [(h0, .inr (4, [.ref pg, .int (nI lt), .int (nI tr), .int (nI rp), .ref t0, .ref t1, .ref t2, .ref sv, .int sd])), (pg, .inl (cy 0, 26, .inl (fun j => nI (pn j))))] → va_S A s.heap H locs → lv_has ls 2 [(0, .ref h0), (1, .int (nI k))] → W p l e (headSpec wsX4_fault ({ frames := 5, cells := 0, slots := 0, locals := 113 } : Room)).room s m ([.ref h0] : List Value).toArray below meth c H locs 0 0 (MQ below (va_Qi (q_X4_fault cy h0 pg t0 t1 t2 sv lt tr rp sd pn) (cpost D A) A) ([.ref h0] : List Value).toArray s 0 0 A) (F0 m 2 ls []) := by
    intro n_2
    induction n_2 with
    | zero => intro k hk hI hm; exact absurd hm (by omega)
    | succ n_2 ih_2 =>
      intro k hk hI hm H locs ls hP hD hS hl
      refine lv_iload_n hx hb dX4_fault_2 rfl (lv_at hl 1 rfl) ?_
      refine lv_aload_n hx hb dX4_fault_3 rfl (lv_at hl 0 rfl) ?_
      refine va_get (D := D) (ci := 4) (v := .int (nI lt)) (C := RX4) (T := TX4) (N := 9) hx hb hts hw_X4 hown hK hP 0 rfl rfl 1 (by decide) f_33 (fun _ h9 => h9) rfl dX4_fault_4 ?_
      refine lv_icmp_ge (tgt := 29) hx hb dX4_fault_7 (by decide) (fun c_7 => ?_) (fun c_7 => ?_)
      · have hkl : lt ≤ k := nI_leN (by omega) c_7
        refine lv_iload_n hx hb dX4_fault_29 rfl (lv_at hl 1 rfl) ?_
        have hP9 := hP.sub (ws' := [(h0, .inr (4, [.ref pg, .int (nI lt), .int (nI tr), .int (nI rp), .ref t0, .ref t1, .ref t2, .ref sv, .int sd])), (pg, .inl (cy 0, 26, .inl (fun j => nI (pn j))))]) [0, 1] rfl
        have hD9 := hD.sub (ws' := [(h0, .inr (4, [.ref pg, .int (nI lt), .int (nI tr), .int (nI rp), .ref t0, .ref t1, .ref t2, .ref sv, .int sd])), (pg, .inl (cy 0, 26, .inl (fun j => nI (pn j))))]) [0, 1] (by decide +kernel) rfl
        exact W.iret (v := nI k) hx hb hr (fun t9 ht9 hW9 => ⟨⟨nI k, [(h0, .inr (4, [.ref pg, .int (nI lt), .int (nI tr), .int (nI rp), .ref t0, .ref t1, .ref t2, .ref sv, .int sd])), (pg, .inl (cy 0, 26, .inl (fun j => nI (pn j))))], rfl, ⟨k, rfl, rfl, hk, hI, (fun h => absurd h (Nat.not_lt.mpr hkl))⟩, by rw [ht9]; exact hP9, hD9⟩, hS.F ht9⟩) hS.2.2 dX4_fault_30
      · have hkl : k < lt := nI_ltN (by omega) c_7
        refine lv_aload_n hx hb dX4_fault_10 rfl (lv_at hl 0 rfl) ?_
        refine va_get (D := D) (ci := 4) (v := .ref pg) (C := RX4) (T := TX4) (N := 9) hx hb hts hw_X4 hown hK hP 0 rfl rfl 0 (by decide) f_9 (fun _ h9 => h9) rfl dX4_fault_11 ?_
        refine lv_iload_n hx hb dX4_fault_14 rfl (lv_at hl 1 rfl) ?_
        refine va_iald hx hb hK hP 1 0 rfl rfl (nI_in (by omega) (by decide)) dX4_fault_15 ?_
        refine lv_topi (fun y1 ey1 => ?_)
        obtain rfl : y1 = nI (pn k) := ey1.trans (congrArg (fun j => nI (pn j)) (nI_clamp (by omega)))
        refine lv_iload_n hx hb dX4_fault_16 rfl (lv_at hl 1 rfl) ?_
        refine kc_i (wc := []) (wr := [(h0, .inr (4, [.ref pg, .int (nI lt), .int (nI tr), .int (nI rp), .ref t0, .ref t1, .ref t2, .ref sv, .int sd])), (pg, .inl (cy 0, 26, .inl (fun j => nI (pn j))))]) (va_runS (As := [.int (nI (pn k)), .int (nI k)]) (rest := []) ⟨hx, hb, hml, hown, hts⟩ (c_X4_fits l D cy H.size (pn k) k (hpn _) (by omega)) (va_cwS 2 hts gX4_fault_X4_fits rfl rfl rfl hdc_X4_fits.2 ⟨Nat.le_of_ble_eq_true rfl, Nat.le_of_ble_eq_true rfl⟩) (cpre_S (wc := []) hX hP hD hS hA [] (by decide +kernel) rfl) rfl rfl hl.1 rfl (lv_room (Nat.le_of_ble_eq_true rfl)) dX4_fault_17 ⟨Nat.le_of_ble_eq_true rfl, Nat.le_of_ble_eq_true rfl⟩) hP hD hS hA [] [0, 1] rfl rfl (by decide +kernel) (by decide +kernel) (fun rf u2 H locs hw hP hD hS => ?_)
        obtain ⟨hu, hrf⟩ := hw
        subst hu
        have hP : va_P D vwCl [(h0, .inr (4, [.ref pg, .int (nI lt), .int (nI tr), .int (nI rp), .ref t0, .ref t1, .ref t2, .ref sv, .int sd])), (pg, .inl (cy 0, 26, .inl (fun j => nI (pn j))))] H := hP
        have hD : va_D A [(h0, .inr (4, [.ref pg, .int (nI lt), .int (nI tr), .int (nI rp), .ref t0, .ref t1, .ref t2, .ref sv, .int sd])), (pg, .inl (cy 0, 26, .inl (fun j => nI (pn j))))] := hD
        refine lv_if_eq (tgt := 29) hx hb dX4_fault_20 (by decide) (fun c_20 => ?_) (fun c_20 => ?_)
        · refine lv_iload_n hx hb dX4_fault_29 rfl (lv_at hl 1 rfl) ?_
          have hP9 := hP.sub (ws' := [(h0, .inr (4, [.ref pg, .int (nI lt), .int (nI tr), .int (nI rp), .ref t0, .ref t1, .ref t2, .ref sv, .int sd])), (pg, .inl (cy 0, 26, .inl (fun j => nI (pn j))))]) [0, 1] rfl
          have hD9 := hD.sub (ws' := [(h0, .inr (4, [.ref pg, .int (nI lt), .int (nI tr), .int (nI rp), .ref t0, .ref t1, .ref t2, .ref sv, .int sd])), (pg, .inl (cy 0, 26, .inl (fun j => nI (pn j))))]) [0, 1] (by decide +kernel) rfl
          exact W.iret (v := nI k) hx hb hr (fun t9 ht9 hW9 => ⟨⟨nI k, [(h0, .inr (4, [.ref pg, .int (nI lt), .int (nI tr), .int (nI rp), .ref t0, .ref t1, .ref t2, .ref sv, .int sd])), (pg, .inl (cy 0, 26, .inl (fun j => nI (pn j))))], rfl, ⟨k, rfl, rfl, hk, hI, (fun _ z => absurd (hrf.symm.trans c_20) (by rw [z]; decide))⟩, by rw [ht9]; exact hP9, hD9⟩, hS.F ht9⟩) hS.2.2 dX4_fault_30
        · refine lv_iinc (v := nI (k + 1)) (lv' := [(1, .int (nI (k + 1))), (0, .ref h0)]) hx hb dX4_fault_23 hl (k := 1) rfl ((nI_succ k).symm) (by decide) rfl (fun ls hl => ?_)
          refine lv_goto (tgt := 2) hx hb dX4_fault_26 (by decide) ?_
          exact ih_2 (k + 1) (by omega) (fun j h => (Nat.lt_succ_iff_lt_or_eq.mp h).elim (hI j) (fun q => by rw [q]; exact (fits01 _ _).resolve_left (fun z => c_20 (hrf.trans z)))) (by omega) _ _ _ (hP.sub [0, 1] rfl) (hD.sub [0, 1] (by decide +kernel) rfl) hS (lv_sub hl [1, 0] rfl)
  exact lp_2 (lt + 1) 0 (Nat.zero_le _) (fun j h => absurd h (Nat.not_lt_zero j)) (by omega) _ _ _ (hP.sub [0, 1] rfl) (hD.sub [0, 1] (by decide +kernel) rfl) hS (lv_sub hl [1, 0] rfl)
