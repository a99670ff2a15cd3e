def lt1 (n : Nat) : Prop := 97 ≤ n ∧ n < 103
theorem in05 : ∀ n, n < 128 → ((¬ (nI n - 97) < 0 ∧ ¬ 5 < (nI n - 97)) ↔ (97 ≤ n ∧ n < 103)) := by decide +kernel
theorem kb_kx : ∀ n, n < 128 → (kbI (nI n) = -1 ↔ kxI (nI n) < 0) := by decide +kernel
theorem kb_kn : ∀ n, n < 128 → ¬ kbI (nI n) = -1 → kbI (nI n) = nI (kn n) := by decide +kernel
theorem am128 {pl : Nat} {mp : Nat → Nat} (h : ∀ j, mp j < 128) (j : Nat) : amF pl mp j < 128 := by
  unfold amF
  split
  · exact h j
  · decide
theorem ft_k {n p : Nat} (hn : n < 128) (hp : p < 23) (h0 : p % 8 = 0) : (fitsI n p = 1 ↔ ¬ kbI (nI n) = -1) := by
  unfold fitsI
  rw [if_pos hp, if_pos h0]
  constructor
  · intro h q
    rw [if_pos ((kb_kx n hn).mp q)] at h
    exact absurd h (by decide)
  · intro h
    rw [if_neg (fun q => h ((kb_kx n hn).mpr q))]
theorem ft_c {n p : Nat} (hp : p < 23) (h0 : ¬ p % 8 = 0) (h7 : ¬ p % 8 = 7) : (fitsI n p = 1 ↔ lt1 n) := by
  unfold fitsI lt1
  rw [if_pos hp, if_neg h0, if_neg h7]
  constructor
  · intro h
    by_cases q : 97 ≤ n ∧ n < 103
    · exact q
    · rw [if_neg q] at h
      exact absurd h (by decide)
  · intro h
    rw [if_pos h]
theorem ft_m {n p : Nat} (hp : p < 23) (h7 : p % 8 = 7) : (fitsI n p = 1 ↔ n = 44) := by
  unfold fitsI
  rw [if_pos hp, if_neg (by omega), if_pos h7]
  constructor
  · intro h
    by_cases q : n = 44
    · exact q
    · rw [if_neg q] at h
      exact absurd h (by decide)
  · intro h
    rw [if_pos h]
def FM (q : Nat → Nat) (e : Nat) : Prop := (∀ j, j < e → fitsI (q j) j = 1) ∧ ¬ fitsI (q e) e = 1
theorem FM_one {q : Nat → Nat} {a b : Nat} (ha : FM q a) (hb : FM q b) : a = b := by
  rcases Nat.lt_trichotomy a b with h | h | h
  · exact absurd (hb.1 a h) ha.2
  · exact h
  · exact absurd (ha.1 b h) hb.2
def RC (q : Nat → Nat) (a e : Nat) : Prop := a ≤ e ∧ e ≤ a + 7 ∧ (e = a → kbI (nI (q a)) = -1) ∧ (a < e → ¬ kbI (nI (q a)) = -1) ∧ (∀ i, a < i → i < e → lt1 (q i)) ∧ (a < e → e < a + 7 → ¬ lt1 (q e))
theorem RC_ok {q : Nat → Nat} (hq : ∀ j, q j < 128) {a e : Nat} (ha : a % 8 = 0) (hl : a < 17) (h : RC q a e) : ∀ i, a ≤ i → i < e → fitsI (q i) i = 1 := by
  obtain ⟨h1, h2, h3, h4, h5, h6⟩ := h
  intro i hi he
  by_cases q0 : i = a
  · subst q0
    exact (ft_k (hq i) (by omega) ha).mpr (h4 he)
  · exact (ft_c (by omega) (by omega) (by omega)).mpr (h5 i (by omega) he)
theorem RC_no {q : Nat → Nat} (hq : ∀ j, q j < 128) {a e : Nat} (ha : a % 8 = 0) (hl : a < 17) (h : RC q a e) (hne : ¬ e = a + 7) : ¬ fitsI (q e) e = 1 := by
  obtain ⟨h1, h2, h3, h4, h5, h6⟩ := h
  by_cases q0 : e = a
  · subst q0
    exact fun z => (ft_k (hq e) (by omega) ha).mp z (h3 rfl)
  · exact fun z => h6 (by omega) (by omega) ((ft_c (by omega) (by omega) (by omega)).mp z)
theorem wn0n {r v lo hi : Int32} (h : r = (if ¬ v < lo ∧ ¬ hi < v then 1 else 0)) (h0 : r = 0) : ¬ (¬ v < lo ∧ ¬ hi < v) := hs0 _ h h0
theorem wn1n {r v lo hi : Int32} (h : r = (if ¬ v < lo ∧ ¬ hi < v then 1 else 0)) (h0 : ¬ r = 0) : ¬ v < lo ∧ ¬ hi < v := hs1 _ h h0
def q_X5_readCube (cy : Nat → ClassId) (m0 : Nat) (kO : Nat) (lO : Nat) (sC : Nat) (sW : Nat) (sD : Nat) (pG : Nat) (wO : Nat) (fO : Nat) (mO : Nat) (cO : Nat) (th : Nat) (kK : Nat) (kL : Nat) (kC : Nat) (kW : Nat) (kD : Nat) (tw : Nat) (cb : Nat) (tu : Nat) (ak : Nat) (se : Nat) (pl : Nat) (iw : Int32) (nc : Nat) (sn : Int64) (ik : Int32) (kt : Nat) (ku : Nat) (ks : Nat) (hh : Int64) (mp : Nat → Nat) (a9 : Nat) : Int32 → va_W → Prop := fun (r : Int32) (u : va_W) => ∃ (e9 : Nat), u = [(m0, .inr (5, [.int (nI tw), .int (nI cb), .ref kO, .ref lO, .int (nI tu), .int (nI ak), .int (nI se), .ref sC, .ref sW, .ref sD, .int (nI pl), .ref pG, .int iw, .int (nI nc), .ref wO, .ref fO, .ref mO, .ref cO, .long sn, .ref th, .int ik, .int (nI kt), .int (nI ku), .int (nI ks), .ref kK, .ref kL, .ref kC, .ref kW, .ref kD, .long hh])), (pG, .inl (cy 1, 26, .inl (fun j => nI (mp j))))] ∧ r = nI e9 ∧ RC (amF pl mp) a9 e9
set_option maxHeartbeats 4000000 in
set_option maxRecDepth 100000 in
theorem c_X5_readCube (l : Launch) (D : va_G) (cy : Nat → ClassId) (zz : Nat) (m0 : Nat) (kO : Nat) (lO : Nat) (sC : Nat) (sW : Nat) (sD : Nat) (pG : Nat) (wO : Nat) (fO : Nat) (mO : Nat) (cO : Nat) (th : Nat) (kK : Nat) (kL : Nat) (kC : Nat) (kW : Nat) (kD : Nat) (tw : Nat) (cb : Nat) (tu : Nat) (ak : Nat) (se : Nat) (pl : Nat) (iw : Int32) (nc : Nat) (sn : Int64) (ik : Int32) (kt : Nat) (ku : Nat) (ks : Nat) (hh : Int64) (mp : Nat → Nat) (a9 : Nat) (hpl : pl ≤ 26) (hmp : ∀ j, mp j < 128) (ha9 : a9 < 17) : Met l yX5_readCube wsX5_readCube ({ frames := 1, cells := 0, slots := 0, locals := 22 } : Room) (va_Pc [.ref m0, .int (nI a9)] (cpre D cy [(m0, .inr (5, [.int (nI tw), .int (nI cb), .ref kO, .ref lO, .int (nI tu), .int (nI ak), .int (nI se), .ref sC, .ref sW, .ref sD, .int (nI pl), .ref pG, .int iw, .int (nI nc), .ref wO, .ref fO, .ref mO, .ref cO, .long sn, .ref th, .int ik, .int (nI kt), .int (nI ku), .int (nI ks), .ref kK, .ref kL, .ref kC, .ref kW, .ref kD, .long hh])), (pG, .inl (cy 1, 26, .inl (fun j => nI (mp j))))] zz)) (va_Qi (q_X5_readCube cy m0 kO lO sC sW sD pG wO fO mO cO th kK kL kC kW kD tw cb tu ak se pl iw nc sn ik kt ku ks hh mp a9) (cpost D (va_A [(m0, .inr (5, [.int (nI tw), .int (nI cb), .ref kO, .ref lO, .int (nI tu), .int (nI ak), .int (nI se), .ref sC, .ref sW, .ref sD, .int (nI pl), .ref pG, .int iw, .int (nI nc), .ref wO, .ref fO, .ref mO, .ref cO, .long sn, .ref th, .int ik, .int (nI kt), .int (nI ku), .int (nI ks), .ref kK, .ref kL, .ref kC, .ref kW, .ref kD, .long hh])), (pG, .inl (cy 1, 26, .inl (fun j => nI (mp j))))] zz)) (va_A [(m0, .inr (5, [.int (nI tw), .int (nI cb), .ref kO, .ref lO, .int (nI tu), .int (nI ak), .int (nI se), .ref sC, .ref sW, .ref sD, .int (nI pl), .ref pG, .int iw, .int (nI nc), .ref wO, .ref fO, .ref mO, .ref cO, .long sn, .ref th, .int ik, .int (nI kt), .int (nI ku), .int (nI ks), .ref kK, .ref kL, .ref kC, .ref kW, .ref kD, .long hh])), (pG, .inl (cy 1, 26, .inl (fun j => nI (mp j))))] zz)) 0 0 (va_A [(m0, .inr (5, [.int (nI tw), .int (nI cb), .ref kO, .ref lO, .int (nI tu), .int (nI ak), .int (nI se), .ref sC, .ref sW, .ref sD, .int (nI pl), .ref pG, .int iw, .int (nI nc), .ref wO, .ref fO, .ref mO, .ref cO, .long sn, .ref th, .int ik, .int (nI kt), .int (nI ku), .int (nI ks), .ref kK, .ref kL, .ref kC, .ref kW, .ref kD, .long hh])), (pG, .inl (cy 1, 26, .inl (fun j => nI (mp j))))] zz) := by
  refine Met.ofW (cc := cX5_readCube) (maxL := 3) (ret := (some .int)) (by decide) rfl ?_
  intro p e s m args below meth c s₁ B hml hv
  obtain ⟨rfl, hsz, hP, hD0, hX⟩ := hv
  have hx := B.exec
  have hb := B.bytes
  have hr := B.returns
  have hts := atoms_spec (ws := wsX5_readCube) B.pre
  have hown : s.vm.findClass RX5 = some m.cls := findClass_of_methodNamed B.named
  have hlocks := B.notSynchronized
  subst hsz
  have hD := hD0.self (sz := s.heap.size)
  generalize hAe : va_A [(m0, .inr (5, [.int (nI tw), .int (nI cb), .ref kO, .ref lO, .int (nI tu), .int (nI ak), .int (nI se), .ref sC, .ref sW, .ref sD, .int (nI pl), .ref pG, .int iw, .int (nI nc), .ref wO, .ref fO, .ref mO, .ref cO, .long sn, .ref th, .int ik, .int (nI kt), .int (nI ku), .int (nI ks), .ref kK, .ref kL, .ref kC, .ref kW, .ref kD, .long hh])), (pG, .inl (cy 1, 26, .inl (fun j => nI (mp j))))] s.heap.size = A at hD hX ⊢
  have hA : ∀ q : Nat, s.heap.size ≤ q → A q := fun q h => by rw [← hAe]; exact Or.inr h
  obtain ⟨H, hH⟩ : ∃ H : Heap, H = s.heap := ⟨_, rfl⟩
  have hS : va_S A s.heap H [] := hH ▸ va_S.rf
  have hK := hX.1
  have hP : va_P D vwCl [(m0, .inr (5, [.int (nI tw), .int (nI cb), .ref kO, .ref lO, .int (nI tu), .int (nI ak), .int (nI se), .ref sC, .ref sW, .ref sD, .int (nI pl), .ref pG, .int iw, .int (nI nc), .ref wO, .ref fO, .ref mO, .ref cO, .long sn, .ref th, .int ik, .int (nI kt), .int (nI ku), .int (nI ks), .ref kK, .ref kL, .ref kC, .ref kW, .ref kD, .long hh])), (pG, .inl (cy 1, 26, .inl (fun j => nI (mp j))))] H := hH ▸ hP
  rw [← hH]
  have hl := lv_entry ([.ref m0, .int (nI a9)]) (n := 3) (Nat.le_of_ble_eq_true rfl)
  rw [lg_entry_eq]
  generalize (lg_sl ([.ref m0, .int (nI a9)]) ++ List.replicate (3 - (lg_sl ([.ref m0, .int (nI a9)])).length) Slot.unset).toArray = ls at hl ⊢
  have hl : lv_has ls 3 [(0, .ref m0), (1, .int (nI a9))] := hl
  refine lv_aload_n hx hb dX5_readCube_0 rfl (lv_at hl 0 rfl) ?_
  refine lv_iload_n hx hb dX5_readCube_1 rfl (lv_at hl 1 rfl) ?_
  refine kc_i (wc := [(m0, .inr (5, [.int (nI tw), .int (nI cb), .ref kO, .ref lO, .int (nI tu), .int (nI ak), .int (nI se), .ref sC, .ref sW, .ref sD, .int (nI pl), .ref pG, .int iw, .int (nI nc), .ref wO, .ref fO, .ref mO, .ref cO, .long sn, .ref th, .int ik, .int (nI kt), .int (nI ku), .int (nI ks), .ref kK, .ref kL, .ref kC, .ref kW, .ref kD, .long hh])), (pG, .inl (cy 1, 26, .inl (fun j => nI (mp j))))]) (wr := []) (va_runV (As := [.int (nI a9)]) (rest := []) ⟨hx, hb, hml, hown, hts⟩ (c_X5_at l D cy H.size m0 kO lO sC sW sD pG wO fO mO cO th kK kL kC kW kD tw cb tu ak se pl iw nc sn ik kt ku ks hh mp a9 hpl (by omega)) (cwV 1 hts gX5_readCube_X5_at rfl rfl rfl hdc_X5_at ⟨Nat.le_of_ble_eq_true rfl, Nat.le_of_ble_eq_true rfl⟩) (cpre_V (wc := [(m0, .inr (5, [.int (nI tw), .int (nI cb), .ref kO, .ref lO, .int (nI tu), .int (nI ak), .int (nI se), .ref sC, .ref sW, .ref sD, .int (nI pl), .ref pG, .int iw, .int (nI nc), .ref wO, .ref fO, .ref mO, .ref cO, .long sn, .ref th, .int ik, .int (nI kt), .int (nI ku), .int (nI ks), .ref kK, .ref kL, .ref kC, .ref kW, .ref kD, .long hh])), (pG, .inl (cy 1, 26, .inl (fun j => nI (mp j))))]) 0 5 rfl rfl hX hP hD hS hA [0, 1] (by decide +kernel) rfl) rfl rfl hl.1 rfl (lv_room (Nat.le_of_ble_eq_true rfl)) dX5_readCube_2 ⟨Nat.le_of_ble_eq_true rfl, Nat.le_of_ble_eq_true rfl⟩) hP hD hS hA [0, 1] [] rfl rfl (by decide +kernel) (by decide +kernel) (fun rt u1 H locs hw hP hD hS => ?_)
  obtain ⟨hu, hrt⟩ := hw
  subst hu
  have hP : va_P D vwCl [(m0, .inr (5, [.int (nI tw), .int (nI cb), .ref kO, .ref lO, .int (nI tu), .int (nI ak), .int (nI se), .ref sC, .ref sW, .ref sD, .int (nI pl), .ref pG, .int iw, .int (nI nc), .ref wO, .ref fO, .ref mO, .ref cO, .long sn, .ref th, .int ik, .int (nI kt), .int (nI ku), .int (nI ks), .ref kK, .ref kL, .ref kC, .ref kW, .ref kD, .long hh])), (pG, .inl (cy 1, 26, .inl (fun j => nI (mp j))))] H := hP
  have hD : va_D A [(m0, .inr (5, [.int (nI tw), .int (nI cb), .ref kO, .ref lO, .int (nI tu), .int (nI ak), .int (nI se), .ref sC, .ref sW, .ref sD, .int (nI pl), .ref pG, .int iw, .int (nI nc), .ref wO, .ref fO, .ref mO, .ref cO, .long sn, .ref th, .int ik, .int (nI kt), .int (nI ku), .int (nI ks), .ref kK, .ref kL, .ref kC, .ref kW, .ref kD, .long hh])), (pG, .inl (cy 1, 26, .inl (fun j => nI (mp j))))] := hD
  subst hrt
  refine kc_i (wc := []) (wr := [(m0, .inr (5, [.int (nI tw), .int (nI cb), .ref kO, .ref lO, .int (nI tu), .int (nI ak), .int (nI se), .ref sC, .ref sW, .ref sD, .int (nI pl), .ref pG, .int iw, .int (nI nc), .ref wO, .ref fO, .ref mO, .ref cO, .long sn, .ref th, .int ik, .int (nI kt), .int (nI ku), .int (nI ks), .ref kK, .ref kL, .ref kC, .ref kW, .ref kD, .long hh])), (pG, .inl (cy 1, 26, .inl (fun j => nI (mp j))))]) (va_runS (As := [.int (nI (amF pl mp a9))]) (rest := []) ⟨hx, hb, hml, hown, hts⟩ (c_X5_kindBy l D cy H.size (nI (amF pl mp a9)) ) (va_cwS 1 hts gX5_readCube_X5_kindBy rfl rfl rfl hdc_X5_kindBy.2 ⟨Nat.le_of_ble_eq_true rfl, Nat.le_of_ble_eq_true rfl⟩) (cpre_S (wc := []) hX hP hD hS hA [] (by decide +kernel) rfl) rfl rfl hl.1 rfl (lv_room (Nat.le_of_ble_eq_true rfl)) dX5_readCube_5 ⟨Nat.le_of_ble_eq_true rfl, Nat.le_of_ble_eq_true rfl⟩) hP hD hS hA [] [0, 1] rfl rfl (by decide +kernel) (by decide +kernel) (fun rk u2 H locs hw hP hD hS => ?_)
  obtain ⟨hu, hrk⟩ := hw
  subst hu
  have hP : va_P D vwCl [(m0, .inr (5, [.int (nI tw), .int (nI cb), .ref kO, .ref lO, .int (nI tu), .int (nI ak), .int (nI se), .ref sC, .ref sW, .ref sD, .int (nI pl), .ref pG, .int iw, .int (nI nc), .ref wO, .ref fO, .ref mO, .ref cO, .long sn, .ref th, .int ik, .int (nI kt), .int (nI ku), .int (nI ks), .ref kK, .ref kL, .ref kC, .ref kW, .ref kD, .long hh])), (pG, .inl (cy 1, 26, .inl (fun j => nI (mp j))))] H := hP
  have hD : va_D A [(m0, .inr (5, [.int (nI tw), .int (nI cb), .ref kO, .ref lO, .int (nI tu), .int (nI ak), .int (nI se), .ref sC, .ref sW, .ref sD, .int (nI pl), .ref pG, .int iw, .int (nI nc), .ref wO, .ref fO, .ref mO, .ref cO, .long sn, .ref th, .int ik, .int (nI kt), .int (nI ku), .int (nI ks), .ref kK, .ref kL, .ref kC, .ref kW, .ref kD, .long hh])), (pG, .inl (cy 1, 26, .inl (fun j => nI (mp j))))] := hD
  subst hrk
  refine lv_iconst (v := (-1)) hx hb dX5_readCube_8 (by decide) ?_
  refine lv_icmp_ne (tgt := 14) hx hb dX5_readCube_9 (by decide) (fun c_9 => ?_) (fun c_9 => ?_)
  · have hkb : ¬ kbI (nI (amF pl mp a9)) = -1 := c_9
    refine lv_iload_n hx hb dX5_readCube_14 rfl (lv_at hl 1 rfl) ?_
    refine lv_iconst (v := 1) hx hb dX5_readCube_15 (by decide) ?_
    refine lv_iadd hx hb dX5_readCube_16 ?_
    refine lv_topi (fun y3 ey3 => ?_)
    obtain rfl : y3 = nI (a9 + 1) := ey3.trans ((nI_succ a9).symm)
    refine lv_istore_n (lv' := [(2, .int (nI (a9 + 1))), (0, .ref m0), (1, .int (nI a9))]) hx hb dX5_readCube_17 rfl hl (by decide) rfl (fun ls hl => ?_)
    have lp_18 : ∀ (n_18 : Nat) (k : Nat) (hk1 : a9 < k) (hk2 : k ≤ a9 + 7) (hI : ∀ i, a9 < i → i < k → lt1 (amF pl mp i)) (hm : a9 + 7 < k + n_18) (H : Heap) (locs : List Loc) (ls : Array Slot), va_P D vwCl [(m0, .inr (5, [.int (nI tw), .int (nI cb), .ref kO, .ref lO, .int (nI tu), .int (nI ak), .int (nI se), .ref sC, .ref sW, .ref sD, .int (nI pl), .ref pG, .int iw, .int (nI nc), .ref wO, .ref fO, .ref mO, .ref cO, .long sn, .ref th, .int ik, .int (nI kt), .int (nI ku), .int (nI ks), .ref kK, .ref kL, .ref kC, .ref kW, .ref kD, .long hh])), (pG, .inl (cy 1, 26, .inl (fun j => nI (mp j))))] H → va_D A [(m0, .inr (5, [.int (nI tw), .int (nI cb), .ref kO, .ref lO, .int (nI tu), .int (nI ak), .int (nI se), .ref sC, .ref sW, .ref sD, .int (nI pl), .ref pG, .int iw, .int (nI nc), .ref wO, .ref fO, .ref mO, .ref cO, .long sn, .ref th, .int ik, .int (nI kt), .int (nI ku), .int (nI ks), .ref kK, .ref kL, .ref kC, .ref kW, .ref kD, .long hh])), (pG, .inl (cy 1, 26, .inl (fun j => nI (mp j))))] → va_S A s.heap H locs → lv_has ls 3 [(0, .ref m0), (1, .int (nI a9)), (2, .int (nI k))] → W p l e (headSpec wsX5_readCube ({ frames := 1, cells := 0, slots := 0, locals := 22 } : Room)).room s m ([.ref m0, .int (nI a9)] : List Value).toArray below meth c H locs 0 0 (MQ below (va_Qi (q_X5_readCube cy m0 kO lO sC sW sD pG wO fO mO cO th kK kL kC kW kD tw cb tu ak se pl iw nc sn ik kt ku ks hh mp a9) (cpost D A) A) ([.ref m0, .int (nI a9)] : List Value).toArray s 0 0 A) (F0 m 18 ls []) := by
      intro n_18
      induction n_18 with
      | zero => intro k hk1 hk2 hI hm; exact absurd hm (by omega)
      | succ n_18 ih_18 =>
        intro k hk1 hk2 hI hm H locs ls hP hD hS hl
        refine lv_iload_n hx hb dX5_readCube_18 rfl (lv_at hl 2 rfl) ?_
        refine lv_iload_n hx hb dX5_readCube_19 rfl (lv_at hl 1 rfl) ?_
        refine lv_bipush (v := 6) hx hb dX5_readCube_20 (by decide) ?_
        refine lv_iadd hx hb dX5_readCube_22 ?_
        refine lv_topi (fun y4 ey4 => ?_)
        obtain rfl : y4 = nI (a9 + 6) := ey4.trans (nIa a9 6)
        refine lv_icmp_gt (tgt := 48) hx hb dX5_readCube_23 (by decide) (fun c_23 => ?_) (fun c_23 => ?_)
        · have hk7 : a9 + 6 < k := by
            rcases Nat.lt_or_ge (a9 + 6) k with q | q
            · exact q
            · exact absurd c_23 (nI_nlt q (by omega))
          refine lv_iload_n hx hb dX5_readCube_48 rfl (lv_at hl 2 rfl) ?_
          have hP9 := hP.sub (ws' := [(m0, .inr (5, [.int (nI tw), .int (nI cb), .ref kO, .ref lO, .int (nI tu), .int (nI ak), .int (nI se), .ref sC, .ref sW, .ref sD, .int (nI pl), .ref pG, .int iw, .int (nI nc), .ref wO, .ref fO, .ref mO, .ref cO, .long sn, .ref th, .int ik, .int (nI kt), .int (nI ku), .int (nI ks), .ref kK, .ref kL, .ref kC, .ref kW, .ref kD, .long hh])), (pG, .inl (cy 1, 26, .inl (fun j => nI (mp j))))]) [0, 1] rfl
          have hD9 := hD.sub (ws' := [(m0, .inr (5, [.int (nI tw), .int (nI cb), .ref kO, .ref lO, .int (nI tu), .int (nI ak), .int (nI se), .ref sC, .ref sW, .ref sD, .int (nI pl), .ref pG, .int iw, .int (nI nc), .ref wO, .ref fO, .ref mO, .ref cO, .long sn, .ref th, .int ik, .int (nI kt), .int (nI ku), .int (nI ks), .ref kK, .ref kL, .ref kC, .ref kW, .ref kD, .long hh])), (pG, .inl (cy 1, 26, .inl (fun j => nI (mp j))))]) [0, 1] (by decide +kernel) rfl
          exact W.iret (v := nI k) hx hb hr (fun t9 ht9 hW9 => ⟨⟨nI k, [(m0, .inr (5, [.int (nI tw), .int (nI cb), .ref kO, .ref lO, .int (nI tu), .int (nI ak), .int (nI se), .ref sC, .ref sW, .ref sD, .int (nI pl), .ref pG, .int iw, .int (nI nc), .ref wO, .ref fO, .ref mO, .ref cO, .long sn, .ref th, .int ik, .int (nI kt), .int (nI ku), .int (nI ks), .ref kK, .ref kL, .ref kC, .ref kW, .ref kD, .long hh])), (pG, .inl (cy 1, 26, .inl (fun j => nI (mp j))))], rfl, ⟨k, rfl, rfl, ⟨by omega, by omega, fun h => absurd h (by omega), fun _ => hkb, fun i h1 h2 => hI i h1 h2, fun _ h => absurd h (by omega)⟩⟩, by rw [ht9]; exact hP9, hD9⟩, hS.F ht9⟩) hS.2.2 dX5_readCube_49
        · have hk7 : k ≤ a9 + 6 := by
            rcases Nat.lt_or_ge (a9 + 6) k with q | q
            · exact absurd (nI_lt q (by omega)) c_23
            · exact q
          refine lv_aload_n hx hb dX5_readCube_26 rfl (lv_at hl 0 rfl) ?_
          refine lv_iload_n hx hb dX5_readCube_27 rfl (lv_at hl 2 rfl) ?_
          refine kc_i (wc := [(m0, .inr (5, [.int (nI tw), .int (nI cb), .ref kO, .ref lO, .int (nI tu), .int (nI ak), .int (nI se), .ref sC, .ref sW, .ref sD, .int (nI pl), .ref pG, .int iw, .int (nI nc), .ref wO, .ref fO, .ref mO, .ref cO, .long sn, .ref th, .int ik, .int (nI kt), .int (nI ku), .int (nI ks), .ref kK, .ref kL, .ref kC, .ref kW, .ref kD, .long hh])), (pG, .inl (cy 1, 26, .inl (fun j => nI (mp j))))]) (wr := []) (va_runV (As := [.int (nI k)]) (rest := []) ⟨hx, hb, hml, hown, hts⟩ (c_X5_at l D cy H.size m0 kO lO sC sW sD pG wO fO mO cO th kK kL kC kW kD tw cb tu ak se pl iw nc sn ik kt ku ks hh mp k hpl (by omega)) (cwV 1 hts gX5_readCube_X5_at rfl rfl rfl hdc_X5_at ⟨Nat.le_of_ble_eq_true rfl, Nat.le_of_ble_eq_true rfl⟩) (cpre_V (wc := [(m0, .inr (5, [.int (nI tw), .int (nI cb), .ref kO, .ref lO, .int (nI tu), .int (nI ak), .int (nI se), .ref sC, .ref sW, .ref sD, .int (nI pl), .ref pG, .int iw, .int (nI nc), .ref wO, .ref fO, .ref mO, .ref cO, .long sn, .ref th, .int ik, .int (nI kt), .int (nI ku), .int (nI ks), .ref kK, .ref kL, .ref kC, .ref kW, .ref kD, .long hh])), (pG, .inl (cy 1, 26, .inl (fun j => nI (mp j))))]) 0 5 rfl rfl hX hP hD hS hA [0, 1] (by decide +kernel) rfl) rfl rfl hl.1 rfl (lv_room (Nat.le_of_ble_eq_true rfl)) dX5_readCube_28 ⟨Nat.le_of_ble_eq_true rfl, Nat.le_of_ble_eq_true rfl⟩) hP hD hS hA [0, 1] [] rfl rfl (by decide +kernel) (by decide +kernel) (fun rt u5 H locs hw hP hD hS => ?_)
          obtain ⟨hu, hrt⟩ := hw
          subst hu
          have hP : va_P D vwCl [(m0, .inr (5, [.int (nI tw), .int (nI cb), .ref kO, .ref lO, .int (nI tu), .int (nI ak), .int (nI se), .ref sC, .ref sW, .ref sD, .int (nI pl), .ref pG, .int iw, .int (nI nc), .ref wO, .ref fO, .ref mO, .ref cO, .long sn, .ref th, .int ik, .int (nI kt), .int (nI ku), .int (nI ks), .ref kK, .ref kL, .ref kC, .ref kW, .ref kD, .long hh])), (pG, .inl (cy 1, 26, .inl (fun j => nI (mp j))))] H := hP
          have hD : va_D A [(m0, .inr (5, [.int (nI tw), .int (nI cb), .ref kO, .ref lO, .int (nI tu), .int (nI ak), .int (nI se), .ref sC, .ref sW, .ref sD, .int (nI pl), .ref pG, .int iw, .int (nI nc), .ref wO, .ref fO, .ref mO, .ref cO, .long sn, .ref th, .int ik, .int (nI kt), .int (nI ku), .int (nI ks), .ref kK, .ref kL, .ref kC, .ref kW, .ref kD, .long hh])), (pG, .inl (cy 1, 26, .inl (fun j => nI (mp j))))] := hD
          subst hrt
          refine lv_bipush (v := 97) hx hb dX5_readCube_31 (by decide) ?_
          refine lv_isub hx hb dX5_readCube_33 ?_
          refine lv_iconst (v := 0) hx hb dX5_readCube_34 (by decide) ?_
          refine lv_iconst (v := 5) hx hb dX5_readCube_35 (by decide) ?_
          refine kc_i (wc := []) (wr := [(m0, .inr (5, [.int (nI tw), .int (nI cb), .ref kO, .ref lO, .int (nI tu), .int (nI ak), .int (nI se), .ref sC, .ref sW, .ref sD, .int (nI pl), .ref pG, .int iw, .int (nI nc), .ref wO, .ref fO, .ref mO, .ref cO, .long sn, .ref th, .int ik, .int (nI kt), .int (nI ku), .int (nI ks), .ref kK, .ref kL, .ref kC, .ref kW, .ref kD, .long hh])), (pG, .inl (cy 1, 26, .inl (fun j => nI (mp j))))]) (va_runS (As := [.int ((nI (amF pl mp k)) - 97), .int 0, .int 5]) (rest := []) ⟨hx, hb, hml, hown, hts⟩ (c_X5_within l D cy H.size ((nI (amF pl mp k)) - 97) 0 5 ) (va_cwS 3 hts gX5_readCube_X5_within rfl rfl rfl hdc_X5_within.2 ⟨Nat.le_of_ble_eq_true rfl, Nat.le_of_ble_eq_true rfl⟩) (cpre_S (wc := []) hX hP hD hS hA [] (by decide +kernel) rfl) rfl rfl hl.1 rfl (lv_room (Nat.le_of_ble_eq_true rfl)) dX5_readCube_36 ⟨Nat.le_of_ble_eq_true rfl, Nat.le_of_ble_eq_true rfl⟩) hP hD hS hA [] [0, 1] rfl rfl (by decide +kernel) (by decide +kernel) (fun ww u6 H locs hw hP hD hS => ?_)
          obtain ⟨hu, hww⟩ := hw
          subst hu
          have hP : va_P D vwCl [(m0, .inr (5, [.int (nI tw), .int (nI cb), .ref kO, .ref lO, .int (nI tu), .int (nI ak), .int (nI se), .ref sC, .ref sW, .ref sD, .int (nI pl), .ref pG, .int iw, .int (nI nc), .ref wO, .ref fO, .ref mO, .ref cO, .long sn, .ref th, .int ik, .int (nI kt), .int (nI ku), .int (nI ks), .ref kK, .ref kL, .ref kC, .ref kW, .ref kD, .long hh])), (pG, .inl (cy 1, 26, .inl (fun j => nI (mp j))))] H := hP
          have hD : va_D A [(m0, .inr (5, [.int (nI tw), .int (nI cb), .ref kO, .ref lO, .int (nI tu), .int (nI ak), .int (nI se), .ref sC, .ref sW, .ref sD, .int (nI pl), .ref pG, .int iw, .int (nI nc), .ref wO, .ref fO, .ref mO, .ref cO, .long sn, .ref th, .int ik, .int (nI kt), .int (nI ku), .int (nI ks), .ref kK, .ref kL, .ref kC, .ref kW, .ref kD, .long hh])), (pG, .inl (cy 1, 26, .inl (fun j => nI (mp j))))] := hD
          refine lv_if_eq (tgt := 48) hx hb dX5_readCube_39 (by decide) (fun c_39 => ?_) (fun c_39 => ?_)
          · have hno : ¬ lt1 (amF pl mp k) := fun q => wn0n hww c_39 ((in05 _ (am128 hmp k)).mpr q)
            refine lv_iload_n hx hb dX5_readCube_48 rfl (lv_at hl 2 rfl) ?_
            have hP9 := hP.sub (ws' := [(m0, .inr (5, [.int (nI tw), .int (nI cb), .ref kO, .ref lO, .int (nI tu), .int (nI ak), .int (nI se), .ref sC, .ref sW, .ref sD, .int (nI pl), .ref pG, .int iw, .int (nI nc), .ref wO, .ref fO, .ref mO, .ref cO, .long sn, .ref th, .int ik, .int (nI kt), .int (nI ku), .int (nI ks), .ref kK, .ref kL, .ref kC, .ref kW, .ref kD, .long hh])), (pG, .inl (cy 1, 26, .inl (fun j => nI (mp j))))]) [0, 1] rfl
            have hD9 := hD.sub (ws' := [(m0, .inr (5, [.int (nI tw), .int (nI cb), .ref kO, .ref lO, .int (nI tu), .int (nI ak), .int (nI se), .ref sC, .ref sW, .ref sD, .int (nI pl), .ref pG, .int iw, .int (nI nc), .ref wO, .ref fO, .ref mO, .ref cO, .long sn, .ref th, .int ik, .int (nI kt), .int (nI ku), .int (nI ks), .ref kK, .ref kL, .ref kC, .ref kW, .ref kD, .long hh])), (pG, .inl (cy 1, 26, .inl (fun j => nI (mp j))))]) [0, 1] (by decide +kernel) rfl
            exact W.iret (v := nI k) hx hb hr (fun t9 ht9 hW9 => ⟨⟨nI k, [(m0, .inr (5, [.int (nI tw), .int (nI cb), .ref kO, .ref lO, .int (nI tu), .int (nI ak), .int (nI se), .ref sC, .ref sW, .ref sD, .int (nI pl), .ref pG, .int iw, .int (nI nc), .ref wO, .ref fO, .ref mO, .ref cO, .long sn, .ref th, .int ik, .int (nI kt), .int (nI ku), .int (nI ks), .ref kK, .ref kL, .ref kC, .ref kW, .ref kD, .long hh])), (pG, .inl (cy 1, 26, .inl (fun j => nI (mp j))))], rfl, ⟨k, rfl, rfl, ⟨by omega, by omega, fun h => absurd h (by omega), fun _ => hkb, fun i h1 h2 => hI i h1 h2, fun _ _ => hno⟩⟩, by rw [ht9]; exact hP9, hD9⟩, hS.F ht9⟩) hS.2.2 dX5_readCube_49
          · have hyes : lt1 (amF pl mp k) := (in05 _ (am128 hmp k)).mp (wn1n hww c_39)
            refine lv_iinc (v := nI (k + 1)) (lv' := [(2, .int (nI (k + 1))), (0, .ref m0), (1, .int (nI a9))]) hx hb dX5_readCube_42 hl (k := 2) rfl ((nI_succ k).symm) (by decide) rfl (fun ls hl => ?_)
            refine lv_goto (tgt := 18) hx hb dX5_readCube_45 (by decide) ?_
            exact ih_18 (k + 1) (by omega) (by omega) (fun i h1 h2 => (Nat.lt_succ_iff_lt_or_eq.mp h2).elim (hI i h1) (fun q => by rw [q]; exact hyes)) (by omega) _ _ _ (hP.sub [0, 1] rfl) (hD.sub [0, 1] (by decide +kernel) rfl) hS (lv_sub hl [1, 2, 0] rfl)
    exact lp_18 8 (a9 + 1) (by omega) (by omega) (fun i h1 h2 => absurd h1 (by omega)) (by omega) _ _ _ (hP.sub [0, 1] rfl) (hD.sub [0, 1] (by decide +kernel) rfl) hS (lv_sub hl [1, 2, 0] rfl)
  · refine lv_iload_n hx hb dX5_readCube_12 rfl (lv_at hl 1 rfl) ?_
    have hP9 := hP.sub (ws' := [(m0, .inr (5, [.int (nI tw), .int (nI cb), .ref kO, .ref lO, .int (nI tu), .int (nI ak), .int (nI se), .ref sC, .ref sW, .ref sD, .int (nI pl), .ref pG, .int iw, .int (nI nc), .ref wO, .ref fO, .ref mO, .ref cO, .long sn, .ref th, .int ik, .int (nI kt), .int (nI ku), .int (nI ks), .ref kK, .ref kL, .ref kC, .ref kW, .ref kD, .long hh])), (pG, .inl (cy 1, 26, .inl (fun j => nI (mp j))))]) [0, 1] rfl
    have hD9 := hD.sub (ws' := [(m0, .inr (5, [.int (nI tw), .int (nI cb), .ref kO, .ref lO, .int (nI tu), .int (nI ak), .int (nI se), .ref sC, .ref sW, .ref sD, .int (nI pl), .ref pG, .int iw, .int (nI nc), .ref wO, .ref fO, .ref mO, .ref cO, .long sn, .ref th, .int ik, .int (nI kt), .int (nI ku), .int (nI ks), .ref kK, .ref kL, .ref kC, .ref kW, .ref kD, .long hh])), (pG, .inl (cy 1, 26, .inl (fun j => nI (mp j))))]) [0, 1] (by decide +kernel) rfl
    exact W.iret (v := nI a9) hx hb hr (fun t9 ht9 hW9 => ⟨⟨nI a9, [(m0, .inr (5, [.int (nI tw), .int (nI cb), .ref kO, .ref lO, .int (nI tu), .int (nI ak), .int (nI se), .ref sC, .ref sW, .ref sD, .int (nI pl), .ref pG, .int iw, .int (nI nc), .ref wO, .ref fO, .ref mO, .ref cO, .long sn, .ref th, .int ik, .int (nI kt), .int (nI ku), .int (nI ks), .ref kK, .ref kL, .ref kC, .ref kW, .ref kD, .long hh])), (pG, .inl (cy 1, 26, .inl (fun j => nI (mp j))))], rfl, ⟨a9, rfl, rfl, ⟨Nat.le_refl _, by omega, fun _ => c_9, fun h => absurd h (Nat.lt_irrefl _), fun i h1 h2 => absurd (Nat.lt_trans h1 h2) (Nat.lt_irrefl _), fun h => absurd h (Nat.lt_irrefl _)⟩⟩, by rw [ht9]; exact hP9, hD9⟩, hS.F ht9⟩) hS.2.2 dX5_readCube_13
def q_X5_read (cy : Nat → ClassId) (m0 : Nat) (kO : Nat) (lO : Nat) (sC : Nat) (sW : Nat) (sD : Nat) (pG : Nat) (wO : Nat) (fO : Nat) (mO : Nat) (cO : Nat) (th : Nat) (kK : Nat) (kL : Nat) (kC : Nat) (kW : Nat) (kD : Nat) (tw : Nat) (cb : Nat) (tu : Nat) (ak : Nat) (se : Nat) (pl : Nat) (iw : Int32) (nc : Nat) (sn : Int64) (ik : Int32) (kt : Nat) (ku : Nat) (ks : Nat) (hh : Int64) (mp : Nat → Nat) : Int32 → va_W → Prop := fun (r : Int32) (u : va_W) => ∃ (e9 : Nat), ∃ (iwx : Int32), ∃ (ncx : Nat), u = [(m0, .inr (5, [.int (nI tw), .int (nI cb), .ref kO, .ref lO, .int (nI tu), .int (nI ak), .int (nI se), .ref sC, .ref sW, .ref sD, .int (nI pl), .ref pG, .int iwx, .int (nI ncx), .ref wO, .ref fO, .ref mO, .ref cO, .long sn, .ref th, .int ik, .int (nI kt), .int (nI ku), .int (nI ks), .ref kK, .ref kL, .ref kC, .ref kW, .ref kD, .long hh])), (pG, .inl (cy 1, 26, .inl (fun j => nI (mp j))))] ∧ r = nI e9 ∧ FM (amF pl mp) e9 ∧ ((iwx = 1 ∧ ((e9 = 15 ∧ pl = 15 ∧ ncx = 2) ∨ (e9 = 23 ∧ pl = 23 ∧ ncx = 3))) ∨ (iwx = 0 ∧ ¬ ((e9 = 15 ∨ e9 = 23) ∧ e9 = pl)))
theorem el_X5_read {cy : Nat → ClassId} {m0 : Nat} {kO : Nat} {lO : Nat} {sC : Nat} {sW : Nat} {sD : Nat} {pG : Nat} {wO : Nat} {fO : Nat} {mO : Nat} {cO : Nat} {th : Nat} {kK : Nat} {kL : Nat} {kC : Nat} {kW : Nat} {kD : Nat} {tw : Nat} {cb : Nat} {tu : Nat} {ak : Nat} {se : Nat} {pl : Nat} {iw : Int32} {nc : Nat} {sn : Int64} {ik : Int32} {kt : Nat} {ku : Nat} {ks : Nat} {hh : Int64} {mp : Nat → Nat} {r : Int32} {u : va_W} {Q9 : Prop} (h9 : q_X5_read cy m0 kO lO sC sW sD pG wO fO mO cO th kK kL kC kW kD tw cb tu ak se pl iw nc sn ik kt ku ks hh mp r u) (k9 : ∀ (e9 : Nat) (iwx : Int32) (ncx : Nat), (u = [(m0, .inr (5, [.int (nI tw), .int (nI cb), .ref kO, .ref lO, .int (nI tu), .int (nI ak), .int (nI se), .ref sC, .ref sW, .ref sD, .int (nI pl), .ref pG, .int iwx, .int (nI ncx), .ref wO, .ref fO, .ref mO, .ref cO, .long sn, .ref th, .int ik, .int (nI kt), .int (nI ku), .int (nI ks), .ref kK, .ref kL, .ref kC, .ref kW, .ref kD, .long hh])), (pG, .inl (cy 1, 26, .inl (fun j => nI (mp j))))]) → (r = nI e9) → (FM (amF pl mp) e9) → (((iwx = 1 ∧ ((e9 = 15 ∧ pl = 15 ∧ ncx = 2) ∨ (e9 = 23 ∧ pl = 23 ∧ ncx = 3))) ∨ (iwx = 0 ∧ ¬ ((e9 = 15 ∨ e9 = 23) ∧ e9 = pl)))) → Q9) : Q9 := Exists.elim h9 (fun e9 h9 => Exists.elim h9 (fun iwx h9 => Exists.elim h9 (fun ncx h9 => k9 e9 iwx ncx h9.1 h9.2.1 h9.2.2.1 h9.2.2.2)))
set_option maxHeartbeats 4000000 in
set_option maxRecDepth 100000 in
theorem g_X5_read (l : Launch) (D : va_G) (cy : Nat → ClassId) (zz : Nat) (m0 : Nat) (kO : Nat) (lO : Nat) (sC : Nat) (sW : Nat) (sD : Nat) (pG : Nat) (wO : Nat) (fO : Nat) (mO : Nat) (cO : Nat) (th : Nat) (kK : Nat) (kL : Nat) (kC : Nat) (kW : Nat) (kD : Nat) (tw : Nat) (cb : Nat) (tu : Nat) (ak : Nat) (se : Nat) (pl : Nat) (iw : Int32) (nc : Nat) (sn : Int64) (ik : Int32) (kt : Nat) (ku : Nat) (ks : Nat) (hh : Int64) (mp : Nat → Nat) (hpl : pl ≤ 26) (hmp : ∀ j, mp j < 128) : Met l yX5_read wsX5_read ({ frames := 2, cells := 0, slots := 0, locals := 44 } : Room) (va_Pc [.ref m0] (cpre D cy [(m0, .inr (5, [.int (nI tw), .int (nI cb), .ref kO, .ref lO, .int (nI tu), .int (nI ak), .int (nI se), .ref sC, .ref sW, .ref sD, .int (nI pl), .ref pG, .int iw, .int (nI nc), .ref wO, .ref fO, .ref mO, .ref cO, .long sn, .ref th, .int ik, .int (nI kt), .int (nI ku), .int (nI ks), .ref kK, .ref kL, .ref kC, .ref kW, .ref kD, .long hh])), (pG, .inl (cy 1, 26, .inl (fun j => nI (mp j))))] zz)) (va_Qi (q_X5_read cy m0 kO lO sC sW sD pG wO fO mO cO th kK kL kC kW kD tw cb tu ak se pl iw nc sn ik kt ku ks hh mp) (cpost D (va_A [(m0, .inr (5, [.int (nI tw), .int (nI cb), .ref kO, .ref lO, .int (nI tu), .int (nI ak), .int (nI se), .ref sC, .ref sW, .ref sD, .int (nI pl), .ref pG, .int iw, .int (nI nc), .ref wO, .ref fO, .ref mO, .ref cO, .long sn, .ref th, .int ik, .int (nI kt), .int (nI ku), .int (nI ks), .ref kK, .ref kL, .ref kC, .ref kW, .ref kD, .long hh])), (pG, .inl (cy 1, 26, .inl (fun j => nI (mp j))))] zz)) (va_A [(m0, .inr (5, [.int (nI tw), .int (nI cb), .ref kO, .ref lO, .int (nI tu), .int (nI ak), .int (nI se), .ref sC, .ref sW, .ref sD, .int (nI pl), .ref pG, .int iw, .int (nI nc), .ref wO, .ref fO, .ref mO, .ref cO, .long sn, .ref th, .int ik, .int (nI kt), .int (nI ku), .int (nI ks), .ref kK, .ref kL, .ref kC, .ref kW, .ref kD, .long hh])), (pG, .inl (cy 1, 26, .inl (fun j => nI (mp j))))] zz)) 0 0 (va_A [(m0, .inr (5, [.int (nI tw), .int (nI cb), .ref kO, .ref lO, .int (nI tu), .int (nI ak), .int (nI se), .ref sC, .ref sW, .ref sD, .int (nI pl), .ref pG, .int iw, .int (nI nc), .ref wO, .ref fO, .ref mO, .ref cO, .long sn, .ref th, .int ik, .int (nI kt), .int (nI ku), .int (nI ks), .ref kK, .ref kL, .ref kC, .ref kW, .ref kD, .long hh])), (pG, .inl (cy 1, 26, .inl (fun j => nI (mp j))))] zz) := by
  refine Met.ofW (cc := cX5_read) (maxL := 3) (ret := (some .int)) (by decide) rfl ?_
  intro p e s m args below meth c s₁ B hml hv
  obtain ⟨rfl, hsz, hP, hD0, hX⟩ := hv
  have hx := B.exec
  have hb := B.bytes
  have hr := B.returns
  have hts := atoms_spec (ws := wsX5_read) B.pre
  have hown : s.vm.findClass RX5 = some m.cls := findClass_of_methodNamed B.named
  have hlocks := B.notSynchronized
  subst hsz
  have hD := hD0.self (sz := s.heap.size)
  generalize hAe : va_A [(m0, .inr (5, [.int (nI tw), .int (nI cb), .ref kO, .ref lO, .int (nI tu), .int (nI ak), .int (nI se), .ref sC, .ref sW, .ref sD, .int (nI pl), .ref pG, .int iw, .int (nI nc), .ref wO, .ref fO, .ref mO, .ref cO, .long sn, .ref th, .int ik, .int (nI kt), .int (nI ku), .int (nI ks), .ref kK, .ref kL, .ref kC, .ref kW, .ref kD, .long hh])), (pG, .inl (cy 1, 26, .inl (fun j => nI (mp j))))] s.heap.size = A at hD hX ⊢
  have hA : ∀ q : Nat, s.heap.size ≤ q → A q := fun q h => by rw [← hAe]; exact Or.inr h
  obtain ⟨H, hH⟩ : ∃ H : Heap, H = s.heap := ⟨_, rfl⟩
  have hS : va_S A s.heap H [] := hH ▸ va_S.rf
  have hK := hX.1
  have hP : va_P D vwCl [(m0, .inr (5, [.int (nI tw), .int (nI cb), .ref kO, .ref lO, .int (nI tu), .int (nI ak), .int (nI se), .ref sC, .ref sW, .ref sD, .int (nI pl), .ref pG, .int iw, .int (nI nc), .ref wO, .ref fO, .ref mO, .ref cO, .long sn, .ref th, .int ik, .int (nI kt), .int (nI ku), .int (nI ks), .ref kK, .ref kL, .ref kC, .ref kW, .ref kD, .long hh])), (pG, .inl (cy 1, 26, .inl (fun j => nI (mp j))))] H := hH ▸ hP
  rw [← hH]
  have hw_X5 : ∀ w ∈ wsX50, w ∈ wsX5_read := chX5 (by decide +kernel)
  have f_74 := hts (.fieldLink RX5 74 "CubeTowerModel" "isWhole" "Z") (inC wa_583 (by decide +kernel))
  have f_78 := hts (.fieldLink RX5 78 "CubeTowerModel" "newCubes" "I") (inC wa_584 (by decide +kernel))
  have f_63 := hts (.fieldLink RX5 63 "CubeTowerModel" "pageLength" "I") (inC wa_267 (by decide +kernel))
  have hl := lv_entry ([.ref m0]) (n := 3) (Nat.le_of_ble_eq_true rfl)
  rw [lg_entry_eq]
  generalize (lg_sl ([.ref m0]) ++ List.replicate (3 - (lg_sl ([.ref m0])).length) Slot.unset).toArray = ls at hl ⊢
  have hl : lv_has ls 3 [(0, .ref m0)] := hl
  refine lv_aload_n hx hb dX5_read_0 rfl (lv_at hl 0 rfl) ?_
  refine lv_iconst (v := 0) hx hb dX5_read_1 (by decide) ?_
  refine va_put (D := D) (ci := 5) (v := .int 0) (ty := .boolean) (C := RX5) (T := TX5) (N := 30) hx hb hts hw_X5 tyX5 tyX5_ok nmX5 hown hK hP hD hS 0 rfl rfl 12 (by decide) f_74 (fun _ h9 => h9) rfl (tyX5_ok 12 (by decide)) rfl rfl (Nat.le_of_ble_eq_true rfl) dX5_read_2 (fun H locs hP hD hS => ?_)
  have hP : va_P D vwCl [(m0, .inr (5, [.int (nI tw), .int (nI cb), .ref kO, .ref lO, .int (nI tu), .int (nI ak), .int (nI se), .ref sC, .ref sW, .ref sD, .int (nI pl), .ref pG, .int 0, .int (nI nc), .ref wO, .ref fO, .ref mO, .ref cO, .long sn, .ref th, .int ik, .int (nI kt), .int (nI ku), .int (nI ks), .ref kK, .ref kL, .ref kC, .ref kW, .ref kD, .long hh])), (pG, .inl (cy 1, 26, .inl (fun j => nI (mp j))))] H := hP
  have hD : va_D A [(m0, .inr (5, [.int (nI tw), .int (nI cb), .ref kO, .ref lO, .int (nI tu), .int (nI ak), .int (nI se), .ref sC, .ref sW, .ref sD, .int (nI pl), .ref pG, .int 0, .int (nI nc), .ref wO, .ref fO, .ref mO, .ref cO, .long sn, .ref th, .int ik, .int (nI kt), .int (nI ku), .int (nI ks), .ref kK, .ref kL, .ref kC, .ref kW, .ref kD, .long hh])), (pG, .inl (cy 1, 26, .inl (fun j => nI (mp j))))] := hD
  refine lv_aload_n hx hb dX5_read_5 rfl (lv_at hl 0 rfl) ?_
  refine lv_iconst (v := 0) hx hb dX5_read_6 (by decide) ?_
  refine va_put (D := D) (ci := 5) (v := .int 0) (ty := .int) (C := RX5) (T := TX5) (N := 30) hx hb hts hw_X5 tyX5 tyX5_ok nmX5 hown hK hP hD hS 0 rfl rfl 13 (by decide) f_78 (fun _ h9 => h9) rfl (tyX5_ok 13 (by decide)) rfl rfl (Nat.le_of_ble_eq_true rfl) dX5_read_7 (fun H locs hP hD hS => ?_)
  have hP : va_P D vwCl [(m0, .inr (5, [.int (nI tw), .int (nI cb), .ref kO, .ref lO, .int (nI tu), .int (nI ak), .int (nI se), .ref sC, .ref sW, .ref sD, .int (nI pl), .ref pG, .int 0, .int 0, .ref wO, .ref fO, .ref mO, .ref cO, .long sn, .ref th, .int ik, .int (nI kt), .int (nI ku), .int (nI ks), .ref kK, .ref kL, .ref kC, .ref kW, .ref kD, .long hh])), (pG, .inl (cy 1, 26, .inl (fun j => nI (mp j))))] H := hP
  have hD : va_D A [(m0, .inr (5, [.int (nI tw), .int (nI cb), .ref kO, .ref lO, .int (nI tu), .int (nI ak), .int (nI se), .ref sC, .ref sW, .ref sD, .int (nI pl), .ref pG, .int 0, .int 0, .ref wO, .ref fO, .ref mO, .ref cO, .long sn, .ref th, .int ik, .int (nI kt), .int (nI ku), .int (nI ks), .ref kK, .ref kL, .ref kC, .ref kW, .ref kD, .long hh])), (pG, .inl (cy 1, 26, .inl (fun j => nI (mp j))))] := hD
  refine lv_iconst (v := 0) hx hb dX5_read_10 (by decide) ?_
  refine lv_istore_n (lv' := [(1, .int 0), (0, .ref m0)]) hx hb dX5_read_11 rfl hl (by decide) rfl (fun ls hl => ?_)
  refine lv_aload_n hx hb dX5_read_12 rfl (lv_at hl 1 rfl) ?_
  refine va_get (D := D) (ci := 5) (v := .int 0) (C := RX5) (T := TX5) (N := 30) hx hb hts hw_X5 hown hK hP 0 rfl rfl 13 (by decide) f_78 (fun _ h9 => h9) rfl dX5_read_13 ?_
  refine lv_iconst (v := 3) hx hb dX5_read_16 (by decide) ?_
  refine lv_icmp_ge (tgt := 101) hx hb dX5_read_17 (by decide) (fun c_17 => ?_) (fun c_17 => ?_)
  · exact absurd c_17 (by decide)
  · refine lv_aload_n hx hb dX5_read_20 rfl (lv_at hl 1 rfl) ?_
    refine lv_iload_n hx hb dX5_read_21 rfl (lv_at hl 0 rfl) ?_
    refine kc_i (wc := [(m0, .inr (5, [.int (nI tw), .int (nI cb), .ref kO, .ref lO, .int (nI tu), .int (nI ak), .int (nI se), .ref sC, .ref sW, .ref sD, .int (nI pl), .ref pG, .int 0, .int (nI 0), .ref wO, .ref fO, .ref mO, .ref cO, .long sn, .ref th, .int ik, .int (nI kt), .int (nI ku), .int (nI ks), .ref kK, .ref kL, .ref kC, .ref kW, .ref kD, .long hh])), (pG, .inl (cy 1, 26, .inl (fun j => nI (mp j))))]) (wr := []) (va_runV (As := [.int 0]) (rest := []) ⟨hx, hb, hml, hown, hts⟩ (c_X5_readCube l D cy H.size m0 kO lO sC sW sD pG wO fO mO cO th kK kL kC kW kD tw cb tu ak se pl 0 0 sn ik kt ku ks hh mp 0 hpl hmp (by decide)) (cwV 1 hts gX5_read_X5_readCube rfl rfl rfl hdc_X5_readCube ⟨Nat.le_of_ble_eq_true rfl, Nat.le_of_ble_eq_true rfl⟩) (cpre_V (wc := [(m0, .inr (5, [.int (nI tw), .int (nI cb), .ref kO, .ref lO, .int (nI tu), .int (nI ak), .int (nI se), .ref sC, .ref sW, .ref sD, .int (nI pl), .ref pG, .int 0, .int (nI 0), .ref wO, .ref fO, .ref mO, .ref cO, .long sn, .ref th, .int ik, .int (nI kt), .int (nI ku), .int (nI ks), .ref kK, .ref kL, .ref kC, .ref kW, .ref kD, .long hh])), (pG, .inl (cy 1, 26, .inl (fun j => nI (mp j))))]) 0 5 rfl rfl hX hP hD hS hA [0, 1] (by decide +kernel) rfl) rfl rfl hl.1 rfl (lv_room (Nat.le_of_ble_eq_true rfl)) dX5_read_22 ⟨Nat.le_of_ble_eq_true rfl, Nat.le_of_ble_eq_true rfl⟩) hP hD hS hA [0, 1] [] rfl rfl (by decide +kernel) (by decide +kernel) (fun rr0 u1 H locs hw hP hD hS => ?_)
    obtain ⟨e0, hu, hr0, hc0⟩ := hw
    subst hu
    have hP : va_P D vwCl [(m0, .inr (5, [.int (nI tw), .int (nI cb), .ref kO, .ref lO, .int (nI tu), .int (nI ak), .int (nI se), .ref sC, .ref sW, .ref sD, .int (nI pl), .ref pG, .int 0, .int 0, .ref wO, .ref fO, .ref mO, .ref cO, .long sn, .ref th, .int ik, .int (nI kt), .int (nI ku), .int (nI ks), .ref kK, .ref kL, .ref kC, .ref kW, .ref kD, .long hh])), (pG, .inl (cy 1, 26, .inl (fun j => nI (mp j))))] H := hP
    have hD : va_D A [(m0, .inr (5, [.int (nI tw), .int (nI cb), .ref kO, .ref lO, .int (nI tu), .int (nI ak), .int (nI se), .ref sC, .ref sW, .ref sD, .int (nI pl), .ref pG, .int 0, .int 0, .ref wO, .ref fO, .ref mO, .ref cO, .long sn, .ref th, .int ik, .int (nI kt), .int (nI ku), .int (nI ks), .ref kK, .ref kL, .ref kC, .ref kW, .ref kD, .long hh])), (pG, .inl (cy 1, 26, .inl (fun j => nI (mp j))))] := hD
    subst hr0
    refine lv_istore_n (lv' := [(2, .int (nI e0)), (1, .int 0), (0, .ref m0)]) hx hb dX5_read_25 rfl hl (by decide) rfl (fun ls hl => ?_)
    refine lv_iload_n hx hb dX5_read_26 rfl (lv_at hl 0 rfl) ?_
    refine lv_iload_n hx hb dX5_read_27 rfl (lv_at hl 1 rfl) ?_
    refine lv_iconst (v := 1) hx hb dX5_read_28 (by decide) ?_
    refine lv_iadd hx hb dX5_read_29 ?_
    refine lv_topi (fun y2 ey2 => ?_)
    obtain rfl : y2 = 1 := ey2.trans (by decide)
    refine lv_bipush (v := 6) hx hb dX5_read_30 (by decide) ?_
    refine lv_iadd hx hb dX5_read_32 ?_
    refine lv_topi (fun y3 ey3 => ?_)
    obtain rfl : y3 = 7 := ey3.trans (by decide)
    refine lv_icmp_eq (tgt := 38) hx hb dX5_read_33 (by decide) (fun c_33 => ?_) (fun c_33 => ?_)
    · have he0 : e0 = 7 := (nI_eq (a := e0) (b := 7) (by have h9 := hc0.2.1; omega) (by decide)).mp c_33
      subst he0
      have hl : lv_has ls 3 [(2, .int 7), (1, .int 0), (0, .ref m0)] := hl
      refine lv_aload_n hx hb dX5_read_38 rfl (lv_at hl 2 rfl) ?_
      refine lv_dup hx hb dX5_read_39 rfl ?_
      refine va_get (D := D) (ci := 5) (v := .int 0) (C := RX5) (T := TX5) (N := 30) hx hb hts hw_X5 hown hK hP 0 rfl rfl 13 (by decide) f_78 (fun _ h9 => h9) rfl dX5_read_40 ?_
      refine lv_iconst (v := 1) hx hb dX5_read_43 (by decide) ?_
      refine lv_iadd hx hb dX5_read_44 ?_
      refine lv_topi (fun y4 ey4 => ?_)
      obtain rfl : y4 = 1 := ey4.trans (by decide)
      refine va_put (D := D) (ci := 5) (v := .int 1) (ty := .int) (C := RX5) (T := TX5) (N := 30) hx hb hts hw_X5 tyX5 tyX5_ok nmX5 hown hK hP hD hS 0 rfl rfl 13 (by decide) f_78 (fun _ h9 => h9) rfl (tyX5_ok 13 (by decide)) rfl rfl (Nat.le_of_ble_eq_true rfl) dX5_read_45 (fun H locs hP hD hS => ?_)
      have hP : va_P D vwCl [(m0, .inr (5, [.int (nI tw), .int (nI cb), .ref kO, .ref lO, .int (nI tu), .int (nI ak), .int (nI se), .ref sC, .ref sW, .ref sD, .int (nI pl), .ref pG, .int 0, .int 1, .ref wO, .ref fO, .ref mO, .ref cO, .long sn, .ref th, .int ik, .int (nI kt), .int (nI ku), .int (nI ks), .ref kK, .ref kL, .ref kC, .ref kW, .ref kD, .long hh])), (pG, .inl (cy 1, 26, .inl (fun j => nI (mp j))))] H := hP
      have hD : va_D A [(m0, .inr (5, [.int (nI tw), .int (nI cb), .ref kO, .ref lO, .int (nI tu), .int (nI ak), .int (nI se), .ref sC, .ref sW, .ref sD, .int (nI pl), .ref pG, .int 0, .int 1, .ref wO, .ref fO, .ref mO, .ref cO, .long sn, .ref th, .int ik, .int (nI kt), .int (nI ku), .int (nI ks), .ref kK, .ref kL, .ref kC, .ref kW, .ref kD, .long hh])), (pG, .inl (cy 1, 26, .inl (fun j => nI (mp j))))] := hD
      refine lv_iload_n hx hb dX5_read_48 rfl (lv_at hl 0 rfl) ?_
      refine lv_istore_n (lv' := [(1, .int 7), (2, .int 7), (0, .ref m0)]) hx hb dX5_read_49 rfl hl (by decide) rfl (fun ls hl => ?_)
      refine lv_aload_n hx hb dX5_read_50 rfl (lv_at hl 2 rfl) ?_
      refine lv_aload_n hx hb dX5_read_51 rfl (lv_at hl 2 rfl) ?_
      refine va_get (D := D) (ci := 5) (v := .int 1) (C := RX5) (T := TX5) (N := 30) hx hb hts hw_X5 hown hK hP 0 rfl rfl 13 (by decide) f_78 (fun _ h9 => h9) rfl dX5_read_52 ?_
      refine lv_iconst (v := 1) hx hb dX5_read_55 (by decide) ?_
      refine lv_icmp_le (tgt := 71) hx hb dX5_read_56 (by decide) (fun c_56 => ?_) (fun c_56 => ?_)
      · refine lv_iconst (v := 0) hx hb dX5_read_71 (by decide) ?_
        refine va_put (D := D) (ci := 5) (v := .int 0) (ty := .boolean) (C := RX5) (T := TX5) (N := 30) hx hb hts hw_X5 tyX5 tyX5_ok nmX5 hown hK hP hD hS 0 rfl rfl 12 (by decide) f_74 (fun _ h9 => h9) rfl (tyX5_ok 12 (by decide)) rfl rfl (Nat.le_of_ble_eq_true rfl) dX5_read_72 (fun H locs hP hD hS => ?_)
        have hP : va_P D vwCl [(m0, .inr (5, [.int (nI tw), .int (nI cb), .ref kO, .ref lO, .int (nI tu), .int (nI ak), .int (nI se), .ref sC, .ref sW, .ref sD, .int (nI pl), .ref pG, .int 0, .int 1, .ref wO, .ref fO, .ref mO, .ref cO, .long sn, .ref th, .int ik, .int (nI kt), .int (nI ku), .int (nI ks), .ref kK, .ref kL, .ref kC, .ref kW, .ref kD, .long hh])), (pG, .inl (cy 1, 26, .inl (fun j => nI (mp j))))] H := hP
        have hD : va_D A [(m0, .inr (5, [.int (nI tw), .int (nI cb), .ref kO, .ref lO, .int (nI tu), .int (nI ak), .int (nI se), .ref sC, .ref sW, .ref sD, .int (nI pl), .ref pG, .int 0, .int 1, .ref wO, .ref fO, .ref mO, .ref cO, .long sn, .ref th, .int ik, .int (nI kt), .int (nI ku), .int (nI ks), .ref kK, .ref kL, .ref kC, .ref kW, .ref kD, .long hh])), (pG, .inl (cy 1, 26, .inl (fun j => nI (mp j))))] := hD
        refine lv_aload_n hx hb dX5_read_75 rfl (lv_at hl 2 rfl) ?_
        refine va_get (D := D) (ci := 5) (v := .int 1) (C := RX5) (T := TX5) (N := 30) hx hb hts hw_X5 hown hK hP 0 rfl rfl 13 (by decide) f_78 (fun _ h9 => h9) rfl dX5_read_76 ?_
        refine lv_iconst (v := 3) hx hb dX5_read_79 (by decide) ?_
        refine lv_icmp_eq (tgt := 93) hx hb dX5_read_80 (by decide) (fun c_80 => ?_) (fun c_80 => ?_)
        · exact absurd c_80 (by decide)
        · refine lv_aload_n hx hb dX5_read_83 rfl (lv_at hl 2 rfl) ?_
          refine lv_iload_n hx hb dX5_read_84 rfl (lv_at hl 0 rfl) ?_
          refine kc_i (wc := [(m0, .inr (5, [.int (nI tw), .int (nI cb), .ref kO, .ref lO, .int (nI tu), .int (nI ak), .int (nI se), .ref sC, .ref sW, .ref sD, .int (nI pl), .ref pG, .int 0, .int (nI 1), .ref wO, .ref fO, .ref mO, .ref cO, .long sn, .ref th, .int ik, .int (nI kt), .int (nI ku), .int (nI ks), .ref kK, .ref kL, .ref kC, .ref kW, .ref kD, .long hh])), (pG, .inl (cy 1, 26, .inl (fun j => nI (mp j))))]) (wr := []) (va_runV (As := [.int 7]) (rest := []) ⟨hx, hb, hml, hown, hts⟩ (c_X5_at l D cy H.size m0 kO lO sC sW sD pG wO fO mO cO th kK kL kC kW kD tw cb tu ak se pl 0 1 sn ik kt ku ks hh mp 7 hpl (by decide)) (cwV 1 hts gX5_read_X5_at rfl rfl rfl hdc_X5_at ⟨Nat.le_of_ble_eq_true rfl, Nat.le_of_ble_eq_true rfl⟩) (cpre_V (wc := [(m0, .inr (5, [.int (nI tw), .int (nI cb), .ref kO, .ref lO, .int (nI tu), .int (nI ak), .int (nI se), .ref sC, .ref sW, .ref sD, .int (nI pl), .ref pG, .int 0, .int (nI 1), .ref wO, .ref fO, .ref mO, .ref cO, .long sn, .ref th, .int ik, .int (nI kt), .int (nI ku), .int (nI ks), .ref kK, .ref kL, .ref kC, .ref kW, .ref kD, .long hh])), (pG, .inl (cy 1, 26, .inl (fun j => nI (mp j))))]) 0 5 rfl rfl hX hP hD hS hA [0, 1] (by decide +kernel) rfl) rfl rfl hl.1 rfl (lv_room (Nat.le_of_ble_eq_true rfl)) dX5_read_85 ⟨Nat.le_of_ble_eq_true rfl, Nat.le_of_ble_eq_true rfl⟩) hP hD hS hA [0, 1] [] rfl rfl (by decide +kernel) (by decide +kernel) (fun rt u5 H locs hw hP hD hS => ?_)
          obtain ⟨hu, hrt⟩ := hw
          subst hu
          have hP : va_P D vwCl [(m0, .inr (5, [.int (nI tw), .int (nI cb), .ref kO, .ref lO, .int (nI tu), .int (nI ak), .int (nI se), .ref sC, .ref sW, .ref sD, .int (nI pl), .ref pG, .int 0, .int 1, .ref wO, .ref fO, .ref mO, .ref cO, .long sn, .ref th, .int ik, .int (nI kt), .int (nI ku), .int (nI ks), .ref kK, .ref kL, .ref kC, .ref kW, .ref kD, .long hh])), (pG, .inl (cy 1, 26, .inl (fun j => nI (mp j))))] H := hP
          have hD : va_D A [(m0, .inr (5, [.int (nI tw), .int (nI cb), .ref kO, .ref lO, .int (nI tu), .int (nI ak), .int (nI se), .ref sC, .ref sW, .ref sD, .int (nI pl), .ref pG, .int 0, .int 1, .ref wO, .ref fO, .ref mO, .ref cO, .long sn, .ref th, .int ik, .int (nI kt), .int (nI ku), .int (nI ks), .ref kK, .ref kL, .ref kC, .ref kW, .ref kD, .long hh])), (pG, .inl (cy 1, 26, .inl (fun j => nI (mp j))))] := hD
          subst hrt
          refine lv_bipush (v := 44) hx hb dX5_read_88 (by decide) ?_
          refine lv_icmp_eq (tgt := 95) hx hb dX5_read_90 (by decide) (fun c_90 => ?_) (fun c_90 => ?_)
          · have hm0 : fitsI (amF pl mp 7) 7 = 1 := (ft_m (by decide) (by decide)).mpr ((nI_eq (a := amF pl mp 7) (b := 44) (Nat.lt_trans (am128 hmp _) (by decide)) (by decide)).mp c_90)
            refine lv_iinc (v := 8) (lv' := [(1, .int 8), (2, .int 7), (0, .ref m0)]) hx hb dX5_read_95 hl (k := 0) rfl (by decide) (by decide) rfl (fun ls hl => ?_)
            refine lv_goto (tgt := 12) hx hb dX5_read_98 (by decide) ?_
            refine lv_aload_n hx hb dX5_read_12 rfl (lv_at hl 2 rfl) ?_
            refine va_get (D := D) (ci := 5) (v := .int 1) (C := RX5) (T := TX5) (N := 30) hx hb hts hw_X5 hown hK hP 0 rfl rfl 13 (by decide) f_78 (fun _ h9 => h9) rfl dX5_read_13 ?_
            refine lv_iconst (v := 3) hx hb dX5_read_16 (by decide) ?_
            refine lv_icmp_ge (tgt := 101) hx hb dX5_read_17 (by decide) (fun c_17 => ?_) (fun c_17 => ?_)
            · exact absurd c_17 (by decide)
            · refine lv_aload_n hx hb dX5_read_20 rfl (lv_at hl 2 rfl) ?_
              refine lv_iload_n hx hb dX5_read_21 rfl (lv_at hl 0 rfl) ?_
              refine kc_i (wc := [(m0, .inr (5, [.int (nI tw), .int (nI cb), .ref kO, .ref lO, .int (nI tu), .int (nI ak), .int (nI se), .ref sC, .ref sW, .ref sD, .int (nI pl), .ref pG, .int 0, .int (nI 1), .ref wO, .ref fO, .ref mO, .ref cO, .long sn, .ref th, .int ik, .int (nI kt), .int (nI ku), .int (nI ks), .ref kK, .ref kL, .ref kC, .ref kW, .ref kD, .long hh])), (pG, .inl (cy 1, 26, .inl (fun j => nI (mp j))))]) (wr := []) (va_runV (As := [.int 8]) (rest := []) ⟨hx, hb, hml, hown, hts⟩ (c_X5_readCube l D cy H.size m0 kO lO sC sW sD pG wO fO mO cO th kK kL kC kW kD tw cb tu ak se pl 0 1 sn ik kt ku ks hh mp 8 hpl hmp (by decide)) (cwV 1 hts gX5_read_X5_readCube rfl rfl rfl hdc_X5_readCube ⟨Nat.le_of_ble_eq_true rfl, Nat.le_of_ble_eq_true rfl⟩) (cpre_V (wc := [(m0, .inr (5, [.int (nI tw), .int (nI cb), .ref kO, .ref lO, .int (nI tu), .int (nI ak), .int (nI se), .ref sC, .ref sW, .ref sD, .int (nI pl), .ref pG, .int 0, .int (nI 1), .ref wO, .ref fO, .ref mO, .ref cO, .long sn, .ref th, .int ik, .int (nI kt), .int (nI ku), .int (nI ks), .ref kK, .ref kL, .ref kC, .ref kW, .ref kD, .long hh])), (pG, .inl (cy 1, 26, .inl (fun j => nI (mp j))))]) 0 5 rfl rfl hX hP hD hS hA [0, 1] (by decide +kernel) rfl) rfl rfl hl.1 rfl (lv_room (Nat.le_of_ble_eq_true rfl)) dX5_read_22 ⟨Nat.le_of_ble_eq_true rfl, Nat.le_of_ble_eq_true rfl⟩) hP hD hS hA [0, 1] [] rfl rfl (by decide +kernel) (by decide +kernel) (fun rr1 u6 H locs hw hP hD hS => ?_)
              obtain ⟨e1, hu, hr1, hc1⟩ := hw
              subst hu
              have hP : va_P D vwCl [(m0, .inr (5, [.int (nI tw), .int (nI cb), .ref kO, .ref lO, .int (nI tu), .int (nI ak), .int (nI se), .ref sC, .ref sW, .ref sD, .int (nI pl), .ref pG, .int 0, .int 1, .ref wO, .ref fO, .ref mO, .ref cO, .long sn, .ref th, .int ik, .int (nI kt), .int (nI ku), .int (nI ks), .ref kK, .ref kL, .ref kC, .ref kW, .ref kD, .long hh])), (pG, .inl (cy 1, 26, .inl (fun j => nI (mp j))))] H := hP
              have hD : va_D A [(m0, .inr (5, [.int (nI tw), .int (nI cb), .ref kO, .ref lO, .int (nI tu), .int (nI ak), .int (nI se), .ref sC, .ref sW, .ref sD, .int (nI pl), .ref pG, .int 0, .int 1, .ref wO, .ref fO, .ref mO, .ref cO, .long sn, .ref th, .int ik, .int (nI kt), .int (nI ku), .int (nI ks), .ref kK, .ref kL, .ref kC, .ref kW, .ref kD, .long hh])), (pG, .inl (cy 1, 26, .inl (fun j => nI (mp j))))] := hD
              subst hr1
              refine lv_istore_n (lv' := [(2, .int (nI e1)), (1, .int 8), (0, .ref m0)]) hx hb dX5_read_25 rfl hl (by decide) rfl (fun ls hl => ?_)
              refine lv_iload_n hx hb dX5_read_26 rfl (lv_at hl 0 rfl) ?_
              refine lv_iload_n hx hb dX5_read_27 rfl (lv_at hl 1 rfl) ?_
              refine lv_iconst (v := 1) hx hb dX5_read_28 (by decide) ?_
              refine lv_iadd hx hb dX5_read_29 ?_
              refine lv_topi (fun y7 ey7 => ?_)
              obtain rfl : y7 = 9 := ey7.trans (by decide)
              refine lv_bipush (v := 6) hx hb dX5_read_30 (by decide) ?_
              refine lv_iadd hx hb dX5_read_32 ?_
              refine lv_topi (fun y8 ey8 => ?_)
              obtain rfl : y8 = 15 := ey8.trans (by decide)
              refine lv_icmp_eq (tgt := 38) hx hb dX5_read_33 (by decide) (fun c_33 => ?_) (fun c_33 => ?_)
              · have he1 : e1 = 15 := (nI_eq (a := e1) (b := 15) (by have h9 := hc1.2.1; omega) (by decide)).mp c_33
                subst he1
                have hl : lv_has ls 3 [(2, .int 15), (1, .int 8), (0, .ref m0)] := hl
                refine lv_aload_n hx hb dX5_read_38 rfl (lv_at hl 2 rfl) ?_
                refine lv_dup hx hb dX5_read_39 rfl ?_
                refine va_get (D := D) (ci := 5) (v := .int 1) (C := RX5) (T := TX5) (N := 30) hx hb hts hw_X5 hown hK hP 0 rfl rfl 13 (by decide) f_78 (fun _ h9 => h9) rfl dX5_read_40 ?_
                refine lv_iconst (v := 1) hx hb dX5_read_43 (by decide) ?_
                refine lv_iadd hx hb dX5_read_44 ?_
                refine lv_topi (fun y9 ey9 => ?_)
                obtain rfl : y9 = 2 := ey9.trans (by decide)
                refine va_put (D := D) (ci := 5) (v := .int 2) (ty := .int) (C := RX5) (T := TX5) (N := 30) hx hb hts hw_X5 tyX5 tyX5_ok nmX5 hown hK hP hD hS 0 rfl rfl 13 (by decide) f_78 (fun _ h9 => h9) rfl (tyX5_ok 13 (by decide)) rfl rfl (Nat.le_of_ble_eq_true rfl) dX5_read_45 (fun H locs hP hD hS => ?_)
                have hP : va_P D vwCl [(m0, .inr (5, [.int (nI tw), .int (nI cb), .ref kO, .ref lO, .int (nI tu), .int (nI ak), .int (nI se), .ref sC, .ref sW, .ref sD, .int (nI pl), .ref pG, .int 0, .int 2, .ref wO, .ref fO, .ref mO, .ref cO, .long sn, .ref th, .int ik, .int (nI kt), .int (nI ku), .int (nI ks), .ref kK, .ref kL, .ref kC, .ref kW, .ref kD, .long hh])), (pG, .inl (cy 1, 26, .inl (fun j => nI (mp j))))] H := hP
                have hD : va_D A [(m0, .inr (5, [.int (nI tw), .int (nI cb), .ref kO, .ref lO, .int (nI tu), .int (nI ak), .int (nI se), .ref sC, .ref sW, .ref sD, .int (nI pl), .ref pG, .int 0, .int 2, .ref wO, .ref fO, .ref mO, .ref cO, .long sn, .ref th, .int ik, .int (nI kt), .int (nI ku), .int (nI ks), .ref kK, .ref kL, .ref kC, .ref kW, .ref kD, .long hh])), (pG, .inl (cy 1, 26, .inl (fun j => nI (mp j))))] := hD
                refine lv_iload_n hx hb dX5_read_48 rfl (lv_at hl 0 rfl) ?_
                refine lv_istore_n (lv' := [(1, .int 15), (2, .int 15), (0, .ref m0)]) hx hb dX5_read_49 rfl hl (by decide) rfl (fun ls hl => ?_)
                refine lv_aload_n hx hb dX5_read_50 rfl (lv_at hl 2 rfl) ?_
                refine lv_aload_n hx hb dX5_read_51 rfl (lv_at hl 2 rfl) ?_
                refine va_get (D := D) (ci := 5) (v := .int 2) (C := RX5) (T := TX5) (N := 30) hx hb hts hw_X5 hown hK hP 0 rfl rfl 13 (by decide) f_78 (fun _ h9 => h9) rfl dX5_read_52 ?_
                refine lv_iconst (v := 1) hx hb dX5_read_55 (by decide) ?_
                refine lv_icmp_le (tgt := 71) hx hb dX5_read_56 (by decide) (fun c_56 => ?_) (fun c_56 => ?_)
                · exact absurd c_56 (by decide)
                · refine lv_iload_n hx hb dX5_read_59 rfl (lv_at hl 0 rfl) ?_
                  refine lv_aload_n hx hb dX5_read_60 rfl (lv_at hl 2 rfl) ?_
                  refine va_get (D := D) (ci := 5) (v := .int (nI pl)) (C := RX5) (T := TX5) (N := 30) hx hb hts hw_X5 hown hK hP 0 rfl rfl 10 (by decide) f_63 (fun _ h9 => h9) rfl dX5_read_61 ?_
                  refine lv_icmp_ne (tgt := 71) hx hb dX5_read_64 (by decide) (fun c_64 => ?_) (fun c_64 => ?_)
                  · have hp9 : ¬ pl = 15 := fun q => c_64 (by rw [q]; rfl)
                    refine lv_iconst (v := 0) hx hb dX5_read_71 (by decide) ?_
                    refine va_put (D := D) (ci := 5) (v := .int 0) (ty := .boolean) (C := RX5) (T := TX5) (N := 30) hx hb hts hw_X5 tyX5 tyX5_ok nmX5 hown hK hP hD hS 0 rfl rfl 12 (by decide) f_74 (fun _ h9 => h9) rfl (tyX5_ok 12 (by decide)) rfl rfl (Nat.le_of_ble_eq_true rfl) dX5_read_72 (fun H locs hP hD hS => ?_)
                    have hP : va_P D vwCl [(m0, .inr (5, [.int (nI tw), .int (nI cb), .ref kO, .ref lO, .int (nI tu), .int (nI ak), .int (nI se), .ref sC, .ref sW, .ref sD, .int (nI pl), .ref pG, .int 0, .int 2, .ref wO, .ref fO, .ref mO, .ref cO, .long sn, .ref th, .int ik, .int (nI kt), .int (nI ku), .int (nI ks), .ref kK, .ref kL, .ref kC, .ref kW, .ref kD, .long hh])), (pG, .inl (cy 1, 26, .inl (fun j => nI (mp j))))] H := hP
                    have hD : va_D A [(m0, .inr (5, [.int (nI tw), .int (nI cb), .ref kO, .ref lO, .int (nI tu), .int (nI ak), .int (nI se), .ref sC, .ref sW, .ref sD, .int (nI pl), .ref pG, .int 0, .int 2, .ref wO, .ref fO, .ref mO, .ref cO, .long sn, .ref th, .int ik, .int (nI kt), .int (nI ku), .int (nI ks), .ref kK, .ref kL, .ref kC, .ref kW, .ref kD, .long hh])), (pG, .inl (cy 1, 26, .inl (fun j => nI (mp j))))] := hD
                    refine lv_aload_n hx hb dX5_read_75 rfl (lv_at hl 2 rfl) ?_
                    refine va_get (D := D) (ci := 5) (v := .int 2) (C := RX5) (T := TX5) (N := 30) hx hb hts hw_X5 hown hK hP 0 rfl rfl 13 (by decide) f_78 (fun _ h9 => h9) rfl dX5_read_76 ?_
                    refine lv_iconst (v := 3) hx hb dX5_read_79 (by decide) ?_
                    refine lv_icmp_eq (tgt := 93) hx hb dX5_read_80 (by decide) (fun c_80 => ?_) (fun c_80 => ?_)
                    · exact absurd c_80 (by decide)
                    · refine lv_aload_n hx hb dX5_read_83 rfl (lv_at hl 2 rfl) ?_
                      refine lv_iload_n hx hb dX5_read_84 rfl (lv_at hl 0 rfl) ?_
                      refine kc_i (wc := [(m0, .inr (5, [.int (nI tw), .int (nI cb), .ref kO, .ref lO, .int (nI tu), .int (nI ak), .int (nI se), .ref sC, .ref sW, .ref sD, .int (nI pl), .ref pG, .int 0, .int (nI 2), .ref wO, .ref fO, .ref mO, .ref cO, .long sn, .ref th, .int ik, .int (nI kt), .int (nI ku), .int (nI ks), .ref kK, .ref kL, .ref kC, .ref kW, .ref kD, .long hh])), (pG, .inl (cy 1, 26, .inl (fun j => nI (mp j))))]) (wr := []) (va_runV (As := [.int 15]) (rest := []) ⟨hx, hb, hml, hown, hts⟩ (c_X5_at l D cy H.size m0 kO lO sC sW sD pG wO fO mO cO th kK kL kC kW kD tw cb tu ak se pl 0 2 sn ik kt ku ks hh mp 15 hpl (by decide)) (cwV 1 hts gX5_read_X5_at rfl rfl rfl hdc_X5_at ⟨Nat.le_of_ble_eq_true rfl, Nat.le_of_ble_eq_true rfl⟩) (cpre_V (wc := [(m0, .inr (5, [.int (nI tw), .int (nI cb), .ref kO, .ref lO, .int (nI tu), .int (nI ak), .int (nI se), .ref sC, .ref sW, .ref sD, .int (nI pl), .ref pG, .int 0, .int (nI 2), .ref wO, .ref fO, .ref mO, .ref cO, .long sn, .ref th, .int ik, .int (nI kt), .int (nI ku), .int (nI ks), .ref kK, .ref kL, .ref kC, .ref kW, .ref kD, .long hh])), (pG, .inl (cy 1, 26, .inl (fun j => nI (mp j))))]) 0 5 rfl rfl hX hP hD hS hA [0, 1] (by decide +kernel) rfl) rfl rfl hl.1 rfl (lv_room (Nat.le_of_ble_eq_true rfl)) dX5_read_85 ⟨Nat.le_of_ble_eq_true rfl, Nat.le_of_ble_eq_true rfl⟩) hP hD hS hA [0, 1] [] rfl rfl (by decide +kernel) (by decide +kernel) (fun rt u10 H locs hw hP hD hS => ?_)
                      obtain ⟨hu, hrt⟩ := hw
                      subst hu
                      have hP : va_P D vwCl [(m0, .inr (5, [.int (nI tw), .int (nI cb), .ref kO, .ref lO, .int (nI tu), .int (nI ak), .int (nI se), .ref sC, .ref sW, .ref sD, .int (nI pl), .ref pG, .int 0, .int 2, .ref wO, .ref fO, .ref mO, .ref cO, .long sn, .ref th, .int ik, .int (nI kt), .int (nI ku), .int (nI ks), .ref kK, .ref kL, .ref kC, .ref kW, .ref kD, .long hh])), (pG, .inl (cy 1, 26, .inl (fun j => nI (mp j))))] H := hP
                      have hD : va_D A [(m0, .inr (5, [.int (nI tw), .int (nI cb), .ref kO, .ref lO, .int (nI tu), .int (nI ak), .int (nI se), .ref sC, .ref sW, .ref sD, .int (nI pl), .ref pG, .int 0, .int 2, .ref wO, .ref fO, .ref mO, .ref cO, .long sn, .ref th, .int ik, .int (nI kt), .int (nI ku), .int (nI ks), .ref kK, .ref kL, .ref kC, .ref kW, .ref kD, .long hh])), (pG, .inl (cy 1, 26, .inl (fun j => nI (mp j))))] := hD
                      subst hrt
                      refine lv_bipush (v := 44) hx hb dX5_read_88 (by decide) ?_
                      refine lv_icmp_eq (tgt := 95) hx hb dX5_read_90 (by decide) (fun c_90 => ?_) (fun c_90 => ?_)
                      · have hm1 : fitsI (amF pl mp 15) 15 = 1 := (ft_m (by decide) (by decide)).mpr ((nI_eq (a := amF pl mp 15) (b := 44) (Nat.lt_trans (am128 hmp _) (by decide)) (by decide)).mp c_90)
                        refine lv_iinc (v := 16) (lv' := [(1, .int 16), (2, .int 15), (0, .ref m0)]) hx hb dX5_read_95 hl (k := 0) rfl (by decide) (by decide) rfl (fun ls hl => ?_)
                        refine lv_goto (tgt := 12) hx hb dX5_read_98 (by decide) ?_
                        refine lv_aload_n hx hb dX5_read_12 rfl (lv_at hl 2 rfl) ?_
                        refine va_get (D := D) (ci := 5) (v := .int 2) (C := RX5) (T := TX5) (N := 30) hx hb hts hw_X5 hown hK hP 0 rfl rfl 13 (by decide) f_78 (fun _ h9 => h9) rfl dX5_read_13 ?_
                        refine lv_iconst (v := 3) hx hb dX5_read_16 (by decide) ?_
                        refine lv_icmp_ge (tgt := 101) hx hb dX5_read_17 (by decide) (fun c_17 => ?_) (fun c_17 => ?_)
                        · exact absurd c_17 (by decide)
                        · refine lv_aload_n hx hb dX5_read_20 rfl (lv_at hl 2 rfl) ?_
                          refine lv_iload_n hx hb dX5_read_21 rfl (lv_at hl 0 rfl) ?_
                          refine kc_i (wc := [(m0, .inr (5, [.int (nI tw), .int (nI cb), .ref kO, .ref lO, .int (nI tu), .int (nI ak), .int (nI se), .ref sC, .ref sW, .ref sD, .int (nI pl), .ref pG, .int 0, .int (nI 2), .ref wO, .ref fO, .ref mO, .ref cO, .long sn, .ref th, .int ik, .int (nI kt), .int (nI ku), .int (nI ks), .ref kK, .ref kL, .ref kC, .ref kW, .ref kD, .long hh])), (pG, .inl (cy 1, 26, .inl (fun j => nI (mp j))))]) (wr := []) (va_runV (As := [.int 16]) (rest := []) ⟨hx, hb, hml, hown, hts⟩ (c_X5_readCube l D cy H.size m0 kO lO sC sW sD pG wO fO mO cO th kK kL kC kW kD tw cb tu ak se pl 0 2 sn ik kt ku ks hh mp 16 hpl hmp (by decide)) (cwV 1 hts gX5_read_X5_readCube rfl rfl rfl hdc_X5_readCube ⟨Nat.le_of_ble_eq_true rfl, Nat.le_of_ble_eq_true rfl⟩) (cpre_V (wc := [(m0, .inr (5, [.int (nI tw), .int (nI cb), .ref kO, .ref lO, .int (nI tu), .int (nI ak), .int (nI se), .ref sC, .ref sW, .ref sD, .int (nI pl), .ref pG, .int 0, .int (nI 2), .ref wO, .ref fO, .ref mO, .ref cO, .long sn, .ref th, .int ik, .int (nI kt), .int (nI ku), .int (nI ks), .ref kK, .ref kL, .ref kC, .ref kW, .ref kD, .long hh])), (pG, .inl (cy 1, 26, .inl (fun j => nI (mp j))))]) 0 5 rfl rfl hX hP hD hS hA [0, 1] (by decide +kernel) rfl) rfl rfl hl.1 rfl (lv_room (Nat.le_of_ble_eq_true rfl)) dX5_read_22 ⟨Nat.le_of_ble_eq_true rfl, Nat.le_of_ble_eq_true rfl⟩) hP hD hS hA [0, 1] [] rfl rfl (by decide +kernel) (by decide +kernel) (fun rr2 u11 H locs hw hP hD hS => ?_)
                          obtain ⟨e2, hu, hr2, hc2⟩ := hw
                          subst hu
                          have hP : va_P D vwCl [(m0, .inr (5, [.int (nI tw), .int (nI cb), .ref kO, .ref lO, .int (nI tu), .int (nI ak), .int (nI se), .ref sC, .ref sW, .ref sD, .int (nI pl), .ref pG, .int 0, .int 2, .ref wO, .ref fO, .ref mO, .ref cO, .long sn, .ref th, .int ik, .int (nI kt), .int (nI ku), .int (nI ks), .ref kK, .ref kL, .ref kC, .ref kW, .ref kD, .long hh])), (pG, .inl (cy 1, 26, .inl (fun j => nI (mp j))))] H := hP
                          have hD : va_D A [(m0, .inr (5, [.int (nI tw), .int (nI cb), .ref kO, .ref lO, .int (nI tu), .int (nI ak), .int (nI se), .ref sC, .ref sW, .ref sD, .int (nI pl), .ref pG, .int 0, .int 2, .ref wO, .ref fO, .ref mO, .ref cO, .long sn, .ref th, .int ik, .int (nI kt), .int (nI ku), .int (nI ks), .ref kK, .ref kL, .ref kC, .ref kW, .ref kD, .long hh])), (pG, .inl (cy 1, 26, .inl (fun j => nI (mp j))))] := hD
                          subst hr2
                          refine lv_istore_n (lv' := [(2, .int (nI e2)), (1, .int 16), (0, .ref m0)]) hx hb dX5_read_25 rfl hl (by decide) rfl (fun ls hl => ?_)
                          refine lv_iload_n hx hb dX5_read_26 rfl (lv_at hl 0 rfl) ?_
                          refine lv_iload_n hx hb dX5_read_27 rfl (lv_at hl 1 rfl) ?_
                          refine lv_iconst (v := 1) hx hb dX5_read_28 (by decide) ?_
                          refine lv_iadd hx hb dX5_read_29 ?_
                          refine lv_topi (fun y12 ey12 => ?_)
                          obtain rfl : y12 = 17 := ey12.trans (by decide)
                          refine lv_bipush (v := 6) hx hb dX5_read_30 (by decide) ?_
                          refine lv_iadd hx hb dX5_read_32 ?_
                          refine lv_topi (fun y13 ey13 => ?_)
                          obtain rfl : y13 = 23 := ey13.trans (by decide)
                          refine lv_icmp_eq (tgt := 38) hx hb dX5_read_33 (by decide) (fun c_33 => ?_) (fun c_33 => ?_)
                          · have he2 : e2 = 23 := (nI_eq (a := e2) (b := 23) (by have h9 := hc2.2.1; omega) (by decide)).mp c_33
                            subst he2
                            have hl : lv_has ls 3 [(2, .int 23), (1, .int 16), (0, .ref m0)] := hl
                            refine lv_aload_n hx hb dX5_read_38 rfl (lv_at hl 2 rfl) ?_
                            refine lv_dup hx hb dX5_read_39 rfl ?_
                            refine va_get (D := D) (ci := 5) (v := .int 2) (C := RX5) (T := TX5) (N := 30) hx hb hts hw_X5 hown hK hP 0 rfl rfl 13 (by decide) f_78 (fun _ h9 => h9) rfl dX5_read_40 ?_
                            refine lv_iconst (v := 1) hx hb dX5_read_43 (by decide) ?_
                            refine lv_iadd hx hb dX5_read_44 ?_
                            refine lv_topi (fun y14 ey14 => ?_)
                            obtain rfl : y14 = 3 := ey14.trans (by decide)
                            refine va_put (D := D) (ci := 5) (v := .int 3) (ty := .int) (C := RX5) (T := TX5) (N := 30) hx hb hts hw_X5 tyX5 tyX5_ok nmX5 hown hK hP hD hS 0 rfl rfl 13 (by decide) f_78 (fun _ h9 => h9) rfl (tyX5_ok 13 (by decide)) rfl rfl (Nat.le_of_ble_eq_true rfl) dX5_read_45 (fun H locs hP hD hS => ?_)
                            have hP : va_P D vwCl [(m0, .inr (5, [.int (nI tw), .int (nI cb), .ref kO, .ref lO, .int (nI tu), .int (nI ak), .int (nI se), .ref sC, .ref sW, .ref sD, .int (nI pl), .ref pG, .int 0, .int 3, .ref wO, .ref fO, .ref mO, .ref cO, .long sn, .ref th, .int ik, .int (nI kt), .int (nI ku), .int (nI ks), .ref kK, .ref kL, .ref kC, .ref kW, .ref kD, .long hh])), (pG, .inl (cy 1, 26, .inl (fun j => nI (mp j))))] H := hP
                            have hD : va_D A [(m0, .inr (5, [.int (nI tw), .int (nI cb), .ref kO, .ref lO, .int (nI tu), .int (nI ak), .int (nI se), .ref sC, .ref sW, .ref sD, .int (nI pl), .ref pG, .int 0, .int 3, .ref wO, .ref fO, .ref mO, .ref cO, .long sn, .ref th, .int ik, .int (nI kt), .int (nI ku), .int (nI ks), .ref kK, .ref kL, .ref kC, .ref kW, .ref kD, .long hh])), (pG, .inl (cy 1, 26, .inl (fun j => nI (mp j))))] := hD
                            refine lv_iload_n hx hb dX5_read_48 rfl (lv_at hl 0 rfl) ?_
                            refine lv_istore_n (lv' := [(1, .int 23), (2, .int 23), (0, .ref m0)]) hx hb dX5_read_49 rfl hl (by decide) rfl (fun ls hl => ?_)
                            refine lv_aload_n hx hb dX5_read_50 rfl (lv_at hl 2 rfl) ?_
                            refine lv_aload_n hx hb dX5_read_51 rfl (lv_at hl 2 rfl) ?_
                            refine va_get (D := D) (ci := 5) (v := .int 3) (C := RX5) (T := TX5) (N := 30) hx hb hts hw_X5 hown hK hP 0 rfl rfl 13 (by decide) f_78 (fun _ h9 => h9) rfl dX5_read_52 ?_
                            refine lv_iconst (v := 1) hx hb dX5_read_55 (by decide) ?_
                            refine lv_icmp_le (tgt := 71) hx hb dX5_read_56 (by decide) (fun c_56 => ?_) (fun c_56 => ?_)
                            · exact absurd c_56 (by decide)
                            · refine lv_iload_n hx hb dX5_read_59 rfl (lv_at hl 0 rfl) ?_
                              refine lv_aload_n hx hb dX5_read_60 rfl (lv_at hl 2 rfl) ?_
                              refine va_get (D := D) (ci := 5) (v := .int (nI pl)) (C := RX5) (T := TX5) (N := 30) hx hb hts hw_X5 hown hK hP 0 rfl rfl 10 (by decide) f_63 (fun _ h9 => h9) rfl dX5_read_61 ?_
                              refine lv_icmp_ne (tgt := 71) hx hb dX5_read_64 (by decide) (fun c_64 => ?_) (fun c_64 => ?_)
                              · have hp9 : ¬ pl = 23 := fun q => c_64 (by rw [q]; rfl)
                                refine lv_iconst (v := 0) hx hb dX5_read_71 (by decide) ?_
                                refine va_put (D := D) (ci := 5) (v := .int 0) (ty := .boolean) (C := RX5) (T := TX5) (N := 30) hx hb hts hw_X5 tyX5 tyX5_ok nmX5 hown hK hP hD hS 0 rfl rfl 12 (by decide) f_74 (fun _ h9 => h9) rfl (tyX5_ok 12 (by decide)) rfl rfl (Nat.le_of_ble_eq_true rfl) dX5_read_72 (fun H locs hP hD hS => ?_)
                                have hP : va_P D vwCl [(m0, .inr (5, [.int (nI tw), .int (nI cb), .ref kO, .ref lO, .int (nI tu), .int (nI ak), .int (nI se), .ref sC, .ref sW, .ref sD, .int (nI pl), .ref pG, .int 0, .int 3, .ref wO, .ref fO, .ref mO, .ref cO, .long sn, .ref th, .int ik, .int (nI kt), .int (nI ku), .int (nI ks), .ref kK, .ref kL, .ref kC, .ref kW, .ref kD, .long hh])), (pG, .inl (cy 1, 26, .inl (fun j => nI (mp j))))] H := hP
                                have hD : va_D A [(m0, .inr (5, [.int (nI tw), .int (nI cb), .ref kO, .ref lO, .int (nI tu), .int (nI ak), .int (nI se), .ref sC, .ref sW, .ref sD, .int (nI pl), .ref pG, .int 0, .int 3, .ref wO, .ref fO, .ref mO, .ref cO, .long sn, .ref th, .int ik, .int (nI kt), .int (nI ku), .int (nI ks), .ref kK, .ref kL, .ref kC, .ref kW, .ref kD, .long hh])), (pG, .inl (cy 1, 26, .inl (fun j => nI (mp j))))] := hD
                                refine lv_aload_n hx hb dX5_read_75 rfl (lv_at hl 2 rfl) ?_
                                refine va_get (D := D) (ci := 5) (v := .int 3) (C := RX5) (T := TX5) (N := 30) hx hb hts hw_X5 hown hK hP 0 rfl rfl 13 (by decide) f_78 (fun _ h9 => h9) rfl dX5_read_76 ?_
                                refine lv_iconst (v := 3) hx hb dX5_read_79 (by decide) ?_
                                refine lv_icmp_eq (tgt := 93) hx hb dX5_read_80 (by decide) (fun c_80 => ?_) (fun c_80 => ?_)
                                · refine lv_iload_n hx hb dX5_read_93 rfl (lv_at hl 0 rfl) ?_
                                  have hP9 := hP.sub (ws' := [(m0, .inr (5, [.int (nI tw), .int (nI cb), .ref kO, .ref lO, .int (nI tu), .int (nI ak), .int (nI se), .ref sC, .ref sW, .ref sD, .int (nI pl), .ref pG, .int 0, .int (nI 3), .ref wO, .ref fO, .ref mO, .ref cO, .long sn, .ref th, .int ik, .int (nI kt), .int (nI ku), .int (nI ks), .ref kK, .ref kL, .ref kC, .ref kW, .ref kD, .long hh])), (pG, .inl (cy 1, 26, .inl (fun j => nI (mp j))))]) [0, 1] rfl
                                  have hD9 := hD.sub (ws' := [(m0, .inr (5, [.int (nI tw), .int (nI cb), .ref kO, .ref lO, .int (nI tu), .int (nI ak), .int (nI se), .ref sC, .ref sW, .ref sD, .int (nI pl), .ref pG, .int 0, .int (nI 3), .ref wO, .ref fO, .ref mO, .ref cO, .long sn, .ref th, .int ik, .int (nI kt), .int (nI ku), .int (nI ks), .ref kK, .ref kL, .ref kC, .ref kW, .ref kD, .long hh])), (pG, .inl (cy 1, 26, .inl (fun j => nI (mp j))))]) [0, 1] (by decide +kernel) rfl
                                  exact W.iret (v := 23) hx hb hr (fun t9 ht9 hW9 => ⟨⟨23, [(m0, .inr (5, [.int (nI tw), .int (nI cb), .ref kO, .ref lO, .int (nI tu), .int (nI ak), .int (nI se), .ref sC, .ref sW, .ref sD, .int (nI pl), .ref pG, .int 0, .int (nI 3), .ref wO, .ref fO, .ref mO, .ref cO, .long sn, .ref th, .int ik, .int (nI kt), .int (nI ku), .int (nI ks), .ref kK, .ref kL, .ref kC, .ref kW, .ref kD, .long hh])), (pG, .inl (cy 1, 26, .inl (fun j => nI (mp j))))], rfl, ⟨23, 0, 3, rfl, rfl, ⟨(fun j hj => if h_0 : j < 7 then (RC_ok (am128 hmp) (by decide) (by decide) hc0) j (Nat.zero_le _) h_0 else if h_0c : j = 7 then (by rw [h_0c]; exact hm0) else if h_1 : j < 15 then (RC_ok (am128 hmp) (by decide) (by decide) hc1) j (by omega) h_1 else if h_1c : j = 15 then (by rw [h_1c]; exact hm1) else (RC_ok (am128 hmp) (by decide) (by decide) hc2) j (by omega) hj), (by unfold fitsI; rw [if_neg (by decide)]; decide)⟩, (Or.inr ⟨rfl, fun q => hp9 q.2.symm⟩)⟩, by rw [ht9]; exact hP9, hD9⟩, hS.F ht9⟩) hS.2.2 dX5_read_94
                                · exact absurd c_80 (by decide)
                              · have hp9 : pl = 23 := ((nI_eq (a := 23) (b := pl) (by decide) (by omega)).mp c_64).symm
                                refine lv_iconst (v := 1) hx hb dX5_read_67 (by decide) ?_
                                refine lv_goto (tgt := 72) hx hb dX5_read_68 (by decide) ?_
                                refine va_put (D := D) (ci := 5) (v := .int 1) (ty := .boolean) (C := RX5) (T := TX5) (N := 30) hx hb hts hw_X5 tyX5 tyX5_ok nmX5 hown hK hP hD hS 0 rfl rfl 12 (by decide) f_74 (fun _ h9 => h9) rfl (tyX5_ok 12 (by decide)) rfl rfl (Nat.le_of_ble_eq_true rfl) dX5_read_72 (fun H locs hP hD hS => ?_)
                                have hP : va_P D vwCl [(m0, .inr (5, [.int (nI tw), .int (nI cb), .ref kO, .ref lO, .int (nI tu), .int (nI ak), .int (nI se), .ref sC, .ref sW, .ref sD, .int (nI pl), .ref pG, .int 1, .int 3, .ref wO, .ref fO, .ref mO, .ref cO, .long sn, .ref th, .int ik, .int (nI kt), .int (nI ku), .int (nI ks), .ref kK, .ref kL, .ref kC, .ref kW, .ref kD, .long hh])), (pG, .inl (cy 1, 26, .inl (fun j => nI (mp j))))] H := hP
                                have hD : va_D A [(m0, .inr (5, [.int (nI tw), .int (nI cb), .ref kO, .ref lO, .int (nI tu), .int (nI ak), .int (nI se), .ref sC, .ref sW, .ref sD, .int (nI pl), .ref pG, .int 1, .int 3, .ref wO, .ref fO, .ref mO, .ref cO, .long sn, .ref th, .int ik, .int (nI kt), .int (nI ku), .int (nI ks), .ref kK, .ref kL, .ref kC, .ref kW, .ref kD, .long hh])), (pG, .inl (cy 1, 26, .inl (fun j => nI (mp j))))] := hD
                                refine lv_aload_n hx hb dX5_read_75 rfl (lv_at hl 2 rfl) ?_
                                refine va_get (D := D) (ci := 5) (v := .int 3) (C := RX5) (T := TX5) (N := 30) hx hb hts hw_X5 hown hK hP 0 rfl rfl 13 (by decide) f_78 (fun _ h9 => h9) rfl dX5_read_76 ?_
                                refine lv_iconst (v := 3) hx hb dX5_read_79 (by decide) ?_
                                refine lv_icmp_eq (tgt := 93) hx hb dX5_read_80 (by decide) (fun c_80 => ?_) (fun c_80 => ?_)
                                · refine lv_iload_n hx hb dX5_read_93 rfl (lv_at hl 0 rfl) ?_
                                  have hP9 := hP.sub (ws' := [(m0, .inr (5, [.int (nI tw), .int (nI cb), .ref kO, .ref lO, .int (nI tu), .int (nI ak), .int (nI se), .ref sC, .ref sW, .ref sD, .int (nI pl), .ref pG, .int 1, .int (nI 3), .ref wO, .ref fO, .ref mO, .ref cO, .long sn, .ref th, .int ik, .int (nI kt), .int (nI ku), .int (nI ks), .ref kK, .ref kL, .ref kC, .ref kW, .ref kD, .long hh])), (pG, .inl (cy 1, 26, .inl (fun j => nI (mp j))))]) [0, 1] rfl
                                  have hD9 := hD.sub (ws' := [(m0, .inr (5, [.int (nI tw), .int (nI cb), .ref kO, .ref lO, .int (nI tu), .int (nI ak), .int (nI se), .ref sC, .ref sW, .ref sD, .int (nI pl), .ref pG, .int 1, .int (nI 3), .ref wO, .ref fO, .ref mO, .ref cO, .long sn, .ref th, .int ik, .int (nI kt), .int (nI ku), .int (nI ks), .ref kK, .ref kL, .ref kC, .ref kW, .ref kD, .long hh])), (pG, .inl (cy 1, 26, .inl (fun j => nI (mp j))))]) [0, 1] (by decide +kernel) rfl
                                  exact W.iret (v := 23) hx hb hr (fun t9 ht9 hW9 => ⟨⟨23, [(m0, .inr (5, [.int (nI tw), .int (nI cb), .ref kO, .ref lO, .int (nI tu), .int (nI ak), .int (nI se), .ref sC, .ref sW, .ref sD, .int (nI pl), .ref pG, .int 1, .int (nI 3), .ref wO, .ref fO, .ref mO, .ref cO, .long sn, .ref th, .int ik, .int (nI kt), .int (nI ku), .int (nI ks), .ref kK, .ref kL, .ref kC, .ref kW, .ref kD, .long hh])), (pG, .inl (cy 1, 26, .inl (fun j => nI (mp j))))], rfl, ⟨23, 1, 3, rfl, rfl, ⟨(fun j hj => if h_0 : j < 7 then (RC_ok (am128 hmp) (by decide) (by decide) hc0) j (Nat.zero_le _) h_0 else if h_0c : j = 7 then (by rw [h_0c]; exact hm0) else if h_1 : j < 15 then (RC_ok (am128 hmp) (by decide) (by decide) hc1) j (by omega) h_1 else if h_1c : j = 15 then (by rw [h_1c]; exact hm1) else (RC_ok (am128 hmp) (by decide) (by decide) hc2) j (by omega) hj), (by unfold fitsI; rw [if_neg (by decide)]; decide)⟩, (Or.inl ⟨rfl, Or.inr ⟨rfl, hp9, rfl⟩⟩)⟩, by rw [ht9]; exact hP9, hD9⟩, hS.F ht9⟩) hS.2.2 dX5_read_94
                                · exact absurd c_80 (by decide)
                          · have he2 : ¬ e2 = 23 := fun q => c_33 (by rw [q]; rfl)
                            refine lv_iload_n hx hb dX5_read_36 rfl (lv_at hl 0 rfl) ?_
                            have hP9 := hP.sub (ws' := [(m0, .inr (5, [.int (nI tw), .int (nI cb), .ref kO, .ref lO, .int (nI tu), .int (nI ak), .int (nI se), .ref sC, .ref sW, .ref sD, .int (nI pl), .ref pG, .int 0, .int (nI 2), .ref wO, .ref fO, .ref mO, .ref cO, .long sn, .ref th, .int ik, .int (nI kt), .int (nI ku), .int (nI ks), .ref kK, .ref kL, .ref kC, .ref kW, .ref kD, .long hh])), (pG, .inl (cy 1, 26, .inl (fun j => nI (mp j))))]) [0, 1] rfl
                            have hD9 := hD.sub (ws' := [(m0, .inr (5, [.int (nI tw), .int (nI cb), .ref kO, .ref lO, .int (nI tu), .int (nI ak), .int (nI se), .ref sC, .ref sW, .ref sD, .int (nI pl), .ref pG, .int 0, .int (nI 2), .ref wO, .ref fO, .ref mO, .ref cO, .long sn, .ref th, .int ik, .int (nI kt), .int (nI ku), .int (nI ks), .ref kK, .ref kL, .ref kC, .ref kW, .ref kD, .long hh])), (pG, .inl (cy 1, 26, .inl (fun j => nI (mp j))))]) [0, 1] (by decide +kernel) rfl
                            exact W.iret (v := nI e2) hx hb hr (fun t9 ht9 hW9 => ⟨⟨nI e2, [(m0, .inr (5, [.int (nI tw), .int (nI cb), .ref kO, .ref lO, .int (nI tu), .int (nI ak), .int (nI se), .ref sC, .ref sW, .ref sD, .int (nI pl), .ref pG, .int 0, .int (nI 2), .ref wO, .ref fO, .ref mO, .ref cO, .long sn, .ref th, .int ik, .int (nI kt), .int (nI ku), .int (nI ks), .ref kK, .ref kL, .ref kC, .ref kW, .ref kD, .long hh])), (pG, .inl (cy 1, 26, .inl (fun j => nI (mp j))))], rfl, ⟨e2, 0, 2, rfl, rfl, ⟨(fun j hj => if h_0 : j < 7 then (RC_ok (am128 hmp) (by decide) (by decide) hc0) j (Nat.zero_le _) h_0 else if h_0c : j = 7 then (by rw [h_0c]; exact hm0) else if h_1 : j < 15 then (RC_ok (am128 hmp) (by decide) (by decide) hc1) j (by omega) h_1 else if h_1c : j = 15 then (by rw [h_1c]; exact hm1) else (RC_ok (am128 hmp) (by decide) (by decide) hc2) j (by omega) hj), RC_no (am128 hmp) (by decide) (by decide) hc2 he2⟩, (Or.inr ⟨rfl, fun q => by have h9 := hc2.1; have h8 := hc2.2.1; omega⟩)⟩, by rw [ht9]; exact hP9, hD9⟩, hS.F ht9⟩) hS.2.2 dX5_read_37
                      · have hcm : ¬ amF pl mp 15 = 44 := fun q => c_90 (by rw [q]; rfl)
                        refine lv_iload_n hx hb dX5_read_93 rfl (lv_at hl 0 rfl) ?_
                        have hP9 := hP.sub (ws' := [(m0, .inr (5, [.int (nI tw), .int (nI cb), .ref kO, .ref lO, .int (nI tu), .int (nI ak), .int (nI se), .ref sC, .ref sW, .ref sD, .int (nI pl), .ref pG, .int 0, .int (nI 2), .ref wO, .ref fO, .ref mO, .ref cO, .long sn, .ref th, .int ik, .int (nI kt), .int (nI ku), .int (nI ks), .ref kK, .ref kL, .ref kC, .ref kW, .ref kD, .long hh])), (pG, .inl (cy 1, 26, .inl (fun j => nI (mp j))))]) [0, 1] rfl
                        have hD9 := hD.sub (ws' := [(m0, .inr (5, [.int (nI tw), .int (nI cb), .ref kO, .ref lO, .int (nI tu), .int (nI ak), .int (nI se), .ref sC, .ref sW, .ref sD, .int (nI pl), .ref pG, .int 0, .int (nI 2), .ref wO, .ref fO, .ref mO, .ref cO, .long sn, .ref th, .int ik, .int (nI kt), .int (nI ku), .int (nI ks), .ref kK, .ref kL, .ref kC, .ref kW, .ref kD, .long hh])), (pG, .inl (cy 1, 26, .inl (fun j => nI (mp j))))]) [0, 1] (by decide +kernel) rfl
                        exact W.iret (v := 15) hx hb hr (fun t9 ht9 hW9 => ⟨⟨15, [(m0, .inr (5, [.int (nI tw), .int (nI cb), .ref kO, .ref lO, .int (nI tu), .int (nI ak), .int (nI se), .ref sC, .ref sW, .ref sD, .int (nI pl), .ref pG, .int 0, .int (nI 2), .ref wO, .ref fO, .ref mO, .ref cO, .long sn, .ref th, .int ik, .int (nI kt), .int (nI ku), .int (nI ks), .ref kK, .ref kL, .ref kC, .ref kW, .ref kD, .long hh])), (pG, .inl (cy 1, 26, .inl (fun j => nI (mp j))))], rfl, ⟨15, 0, 2, rfl, rfl, ⟨(fun j hj => if h_0 : j < 7 then (RC_ok (am128 hmp) (by decide) (by decide) hc0) j (Nat.zero_le _) h_0 else if h_0c : j = 7 then (by rw [h_0c]; exact hm0) else (RC_ok (am128 hmp) (by decide) (by decide) hc1) j (by omega) hj), (fun q => absurd ((ft_m (by decide) (by decide)).mp q) hcm)⟩, (Or.inr ⟨rfl, fun q => hp9 q.2.symm⟩)⟩, by rw [ht9]; exact hP9, hD9⟩, hS.F ht9⟩) hS.2.2 dX5_read_94
                  · have hp9 : pl = 15 := ((nI_eq (a := 15) (b := pl) (by decide) (by omega)).mp c_64).symm
                    refine lv_iconst (v := 1) hx hb dX5_read_67 (by decide) ?_
                    refine lv_goto (tgt := 72) hx hb dX5_read_68 (by decide) ?_
                    refine va_put (D := D) (ci := 5) (v := .int 1) (ty := .boolean) (C := RX5) (T := TX5) (N := 30) hx hb hts hw_X5 tyX5 tyX5_ok nmX5 hown hK hP hD hS 0 rfl rfl 12 (by decide) f_74 (fun _ h9 => h9) rfl (tyX5_ok 12 (by decide)) rfl rfl (Nat.le_of_ble_eq_true rfl) dX5_read_72 (fun H locs hP hD hS => ?_)
                    have hP : va_P D vwCl [(m0, .inr (5, [.int (nI tw), .int (nI cb), .ref kO, .ref lO, .int (nI tu), .int (nI ak), .int (nI se), .ref sC, .ref sW, .ref sD, .int (nI pl), .ref pG, .int 1, .int 2, .ref wO, .ref fO, .ref mO, .ref cO, .long sn, .ref th, .int ik, .int (nI kt), .int (nI ku), .int (nI ks), .ref kK, .ref kL, .ref kC, .ref kW, .ref kD, .long hh])), (pG, .inl (cy 1, 26, .inl (fun j => nI (mp j))))] H := hP
                    have hD : va_D A [(m0, .inr (5, [.int (nI tw), .int (nI cb), .ref kO, .ref lO, .int (nI tu), .int (nI ak), .int (nI se), .ref sC, .ref sW, .ref sD, .int (nI pl), .ref pG, .int 1, .int 2, .ref wO, .ref fO, .ref mO, .ref cO, .long sn, .ref th, .int ik, .int (nI kt), .int (nI ku), .int (nI ks), .ref kK, .ref kL, .ref kC, .ref kW, .ref kD, .long hh])), (pG, .inl (cy 1, 26, .inl (fun j => nI (mp j))))] := hD
                    refine lv_aload_n hx hb dX5_read_75 rfl (lv_at hl 2 rfl) ?_
                    refine va_get (D := D) (ci := 5) (v := .int 2) (C := RX5) (T := TX5) (N := 30) hx hb hts hw_X5 hown hK hP 0 rfl rfl 13 (by decide) f_78 (fun _ h9 => h9) rfl dX5_read_76 ?_
                    refine lv_iconst (v := 3) hx hb dX5_read_79 (by decide) ?_
                    refine lv_icmp_eq (tgt := 93) hx hb dX5_read_80 (by decide) (fun c_80 => ?_) (fun c_80 => ?_)
                    · exact absurd c_80 (by decide)
                    · refine lv_aload_n hx hb dX5_read_83 rfl (lv_at hl 2 rfl) ?_
                      refine lv_iload_n hx hb dX5_read_84 rfl (lv_at hl 0 rfl) ?_
                      refine kc_i (wc := [(m0, .inr (5, [.int (nI tw), .int (nI cb), .ref kO, .ref lO, .int (nI tu), .int (nI ak), .int (nI se), .ref sC, .ref sW, .ref sD, .int (nI pl), .ref pG, .int 1, .int (nI 2), .ref wO, .ref fO, .ref mO, .ref cO, .long sn, .ref th, .int ik, .int (nI kt), .int (nI ku), .int (nI ks), .ref kK, .ref kL, .ref kC, .ref kW, .ref kD, .long hh])), (pG, .inl (cy 1, 26, .inl (fun j => nI (mp j))))]) (wr := []) (va_runV (As := [.int 15]) (rest := []) ⟨hx, hb, hml, hown, hts⟩ (c_X5_at l D cy H.size m0 kO lO sC sW sD pG wO fO mO cO th kK kL kC kW kD tw cb tu ak se pl 1 2 sn ik kt ku ks hh mp 15 hpl (by decide)) (cwV 1 hts gX5_read_X5_at rfl rfl rfl hdc_X5_at ⟨Nat.le_of_ble_eq_true rfl, Nat.le_of_ble_eq_true rfl⟩) (cpre_V (wc := [(m0, .inr (5, [.int (nI tw), .int (nI cb), .ref kO, .ref lO, .int (nI tu), .int (nI ak), .int (nI se), .ref sC, .ref sW, .ref sD, .int (nI pl), .ref pG, .int 1, .int (nI 2), .ref wO, .ref fO, .ref mO, .ref cO, .long sn, .ref th, .int ik, .int (nI kt), .int (nI ku), .int (nI ks), .ref kK, .ref kL, .ref kC, .ref kW, .ref kD, .long hh])), (pG, .inl (cy 1, 26, .inl (fun j => nI (mp j))))]) 0 5 rfl rfl hX hP hD hS hA [0, 1] (by decide +kernel) rfl) rfl rfl hl.1 rfl (lv_room (Nat.le_of_ble_eq_true rfl)) dX5_read_85 ⟨Nat.le_of_ble_eq_true rfl, Nat.le_of_ble_eq_true rfl⟩) hP hD hS hA [0, 1] [] rfl rfl (by decide +kernel) (by decide +kernel) (fun rt u15 H locs hw hP hD hS => ?_)
                      obtain ⟨hu, hrt⟩ := hw
                      subst hu
                      have hP : va_P D vwCl [(m0, .inr (5, [.int (nI tw), .int (nI cb), .ref kO, .ref lO, .int (nI tu), .int (nI ak), .int (nI se), .ref sC, .ref sW, .ref sD, .int (nI pl), .ref pG, .int 1, .int 2, .ref wO, .ref fO, .ref mO, .ref cO, .long sn, .ref th, .int ik, .int (nI kt), .int (nI ku), .int (nI ks), .ref kK, .ref kL, .ref kC, .ref kW, .ref kD, .long hh])), (pG, .inl (cy 1, 26, .inl (fun j => nI (mp j))))] H := hP
                      have hD : va_D A [(m0, .inr (5, [.int (nI tw), .int (nI cb), .ref kO, .ref lO, .int (nI tu), .int (nI ak), .int (nI se), .ref sC, .ref sW, .ref sD, .int (nI pl), .ref pG, .int 1, .int 2, .ref wO, .ref fO, .ref mO, .ref cO, .long sn, .ref th, .int ik, .int (nI kt), .int (nI ku), .int (nI ks), .ref kK, .ref kL, .ref kC, .ref kW, .ref kD, .long hh])), (pG, .inl (cy 1, 26, .inl (fun j => nI (mp j))))] := hD
                      subst hrt
                      refine lv_bipush (v := 44) hx hb dX5_read_88 (by decide) ?_
                      refine lv_icmp_eq (tgt := 95) hx hb dX5_read_90 (by decide) (fun c_90 => ?_) (fun c_90 => ?_)
                      · exact absurd (c_90.symm.trans (congrArg nI (show amF pl mp 15 = 0 from if_neg (by omega)))) (by decide)
                      · have hcm : ¬ amF pl mp 15 = 44 := fun q => c_90 (by rw [q]; rfl)
                        refine lv_iload_n hx hb dX5_read_93 rfl (lv_at hl 0 rfl) ?_
                        have hP9 := hP.sub (ws' := [(m0, .inr (5, [.int (nI tw), .int (nI cb), .ref kO, .ref lO, .int (nI tu), .int (nI ak), .int (nI se), .ref sC, .ref sW, .ref sD, .int (nI pl), .ref pG, .int 1, .int (nI 2), .ref wO, .ref fO, .ref mO, .ref cO, .long sn, .ref th, .int ik, .int (nI kt), .int (nI ku), .int (nI ks), .ref kK, .ref kL, .ref kC, .ref kW, .ref kD, .long hh])), (pG, .inl (cy 1, 26, .inl (fun j => nI (mp j))))]) [0, 1] rfl
                        have hD9 := hD.sub (ws' := [(m0, .inr (5, [.int (nI tw), .int (nI cb), .ref kO, .ref lO, .int (nI tu), .int (nI ak), .int (nI se), .ref sC, .ref sW, .ref sD, .int (nI pl), .ref pG, .int 1, .int (nI 2), .ref wO, .ref fO, .ref mO, .ref cO, .long sn, .ref th, .int ik, .int (nI kt), .int (nI ku), .int (nI ks), .ref kK, .ref kL, .ref kC, .ref kW, .ref kD, .long hh])), (pG, .inl (cy 1, 26, .inl (fun j => nI (mp j))))]) [0, 1] (by decide +kernel) rfl
                        exact W.iret (v := 15) hx hb hr (fun t9 ht9 hW9 => ⟨⟨15, [(m0, .inr (5, [.int (nI tw), .int (nI cb), .ref kO, .ref lO, .int (nI tu), .int (nI ak), .int (nI se), .ref sC, .ref sW, .ref sD, .int (nI pl), .ref pG, .int 1, .int (nI 2), .ref wO, .ref fO, .ref mO, .ref cO, .long sn, .ref th, .int ik, .int (nI kt), .int (nI ku), .int (nI ks), .ref kK, .ref kL, .ref kC, .ref kW, .ref kD, .long hh])), (pG, .inl (cy 1, 26, .inl (fun j => nI (mp j))))], rfl, ⟨15, 1, 2, rfl, rfl, ⟨(fun j hj => if h_0 : j < 7 then (RC_ok (am128 hmp) (by decide) (by decide) hc0) j (Nat.zero_le _) h_0 else if h_0c : j = 7 then (by rw [h_0c]; exact hm0) else (RC_ok (am128 hmp) (by decide) (by decide) hc1) j (by omega) hj), (fun q => absurd ((ft_m (by decide) (by decide)).mp q) hcm)⟩, (Or.inl ⟨rfl, Or.inl ⟨rfl, hp9, rfl⟩⟩)⟩, by rw [ht9]; exact hP9, hD9⟩, hS.F ht9⟩) hS.2.2 dX5_read_94
              · have he1 : ¬ e1 = 15 := fun q => c_33 (by rw [q]; rfl)
                refine lv_iload_n hx hb dX5_read_36 rfl (lv_at hl 0 rfl) ?_
                have hP9 := hP.sub (ws' := [(m0, .inr (5, [.int (nI tw), .int (nI cb), .ref kO, .ref lO, .int (nI tu), .int (nI ak), .int (nI se), .ref sC, .ref sW, .ref sD, .int (nI pl), .ref pG, .int 0, .int (nI 1), .ref wO, .ref fO, .ref mO, .ref cO, .long sn, .ref th, .int ik, .int (nI kt), .int (nI ku), .int (nI ks), .ref kK, .ref kL, .ref kC, .ref kW, .ref kD, .long hh])), (pG, .inl (cy 1, 26, .inl (fun j => nI (mp j))))]) [0, 1] rfl
                have hD9 := hD.sub (ws' := [(m0, .inr (5, [.int (nI tw), .int (nI cb), .ref kO, .ref lO, .int (nI tu), .int (nI ak), .int (nI se), .ref sC, .ref sW, .ref sD, .int (nI pl), .ref pG, .int 0, .int (nI 1), .ref wO, .ref fO, .ref mO, .ref cO, .long sn, .ref th, .int ik, .int (nI kt), .int (nI ku), .int (nI ks), .ref kK, .ref kL, .ref kC, .ref kW, .ref kD, .long hh])), (pG, .inl (cy 1, 26, .inl (fun j => nI (mp j))))]) [0, 1] (by decide +kernel) rfl
                exact W.iret (v := nI e1) hx hb hr (fun t9 ht9 hW9 => ⟨⟨nI e1, [(m0, .inr (5, [.int (nI tw), .int (nI cb), .ref kO, .ref lO, .int (nI tu), .int (nI ak), .int (nI se), .ref sC, .ref sW, .ref sD, .int (nI pl), .ref pG, .int 0, .int (nI 1), .ref wO, .ref fO, .ref mO, .ref cO, .long sn, .ref th, .int ik, .int (nI kt), .int (nI ku), .int (nI ks), .ref kK, .ref kL, .ref kC, .ref kW, .ref kD, .long hh])), (pG, .inl (cy 1, 26, .inl (fun j => nI (mp j))))], rfl, ⟨e1, 0, 1, rfl, rfl, ⟨(fun j hj => if h_0 : j < 7 then (RC_ok (am128 hmp) (by decide) (by decide) hc0) j (Nat.zero_le _) h_0 else if h_0c : j = 7 then (by rw [h_0c]; exact hm0) else (RC_ok (am128 hmp) (by decide) (by decide) hc1) j (by omega) hj), RC_no (am128 hmp) (by decide) (by decide) hc1 he1⟩, (Or.inr ⟨rfl, fun q => by have h9 := hc1.1; have h8 := hc1.2.1; omega⟩)⟩, by rw [ht9]; exact hP9, hD9⟩, hS.F ht9⟩) hS.2.2 dX5_read_37
          · have hcm : ¬ amF pl mp 7 = 44 := fun q => c_90 (by rw [q]; rfl)
            refine lv_iload_n hx hb dX5_read_93 rfl (lv_at hl 0 rfl) ?_
            have hP9 := hP.sub (ws' := [(m0, .inr (5, [.int (nI tw), .int (nI cb), .ref kO, .ref lO, .int (nI tu), .int (nI ak), .int (nI se), .ref sC, .ref sW, .ref sD, .int (nI pl), .ref pG, .int 0, .int (nI 1), .ref wO, .ref fO, .ref mO, .ref cO, .long sn, .ref th, .int ik, .int (nI kt), .int (nI ku), .int (nI ks), .ref kK, .ref kL, .ref kC, .ref kW, .ref kD, .long hh])), (pG, .inl (cy 1, 26, .inl (fun j => nI (mp j))))]) [0, 1] rfl
            have hD9 := hD.sub (ws' := [(m0, .inr (5, [.int (nI tw), .int (nI cb), .ref kO, .ref lO, .int (nI tu), .int (nI ak), .int (nI se), .ref sC, .ref sW, .ref sD, .int (nI pl), .ref pG, .int 0, .int (nI 1), .ref wO, .ref fO, .ref mO, .ref cO, .long sn, .ref th, .int ik, .int (nI kt), .int (nI ku), .int (nI ks), .ref kK, .ref kL, .ref kC, .ref kW, .ref kD, .long hh])), (pG, .inl (cy 1, 26, .inl (fun j => nI (mp j))))]) [0, 1] (by decide +kernel) rfl
            exact W.iret (v := 7) hx hb hr (fun t9 ht9 hW9 => ⟨⟨7, [(m0, .inr (5, [.int (nI tw), .int (nI cb), .ref kO, .ref lO, .int (nI tu), .int (nI ak), .int (nI se), .ref sC, .ref sW, .ref sD, .int (nI pl), .ref pG, .int 0, .int (nI 1), .ref wO, .ref fO, .ref mO, .ref cO, .long sn, .ref th, .int ik, .int (nI kt), .int (nI ku), .int (nI ks), .ref kK, .ref kL, .ref kC, .ref kW, .ref kD, .long hh])), (pG, .inl (cy 1, 26, .inl (fun j => nI (mp j))))], rfl, ⟨7, 0, 1, rfl, rfl, ⟨(fun j hj => (RC_ok (am128 hmp) (by decide) (by decide) hc0) j (Nat.zero_le _) hj), (fun q => absurd ((ft_m (by decide) (by decide)).mp q) hcm)⟩, (Or.inr ⟨rfl, fun q => absurd q.1 (by decide)⟩)⟩, by rw [ht9]; exact hP9, hD9⟩, hS.F ht9⟩) hS.2.2 dX5_read_94
      · exact absurd c_56 (by decide)
    · have he0 : ¬ e0 = 7 := fun q => c_33 (by rw [q]; rfl)
      refine lv_iload_n hx hb dX5_read_36 rfl (lv_at hl 0 rfl) ?_
      have hP9 := hP.sub (ws' := [(m0, .inr (5, [.int (nI tw), .int (nI cb), .ref kO, .ref lO, .int (nI tu), .int (nI ak), .int (nI se), .ref sC, .ref sW, .ref sD, .int (nI pl), .ref pG, .int 0, .int (nI 0), .ref wO, .ref fO, .ref mO, .ref cO, .long sn, .ref th, .int ik, .int (nI kt), .int (nI ku), .int (nI ks), .ref kK, .ref kL, .ref kC, .ref kW, .ref kD, .long hh])), (pG, .inl (cy 1, 26, .inl (fun j => nI (mp j))))]) [0, 1] rfl
      have hD9 := hD.sub (ws' := [(m0, .inr (5, [.int (nI tw), .int (nI cb), .ref kO, .ref lO, .int (nI tu), .int (nI ak), .int (nI se), .ref sC, .ref sW, .ref sD, .int (nI pl), .ref pG, .int 0, .int (nI 0), .ref wO, .ref fO, .ref mO, .ref cO, .long sn, .ref th, .int ik, .int (nI kt), .int (nI ku), .int (nI ks), .ref kK, .ref kL, .ref kC, .ref kW, .ref kD, .long hh])), (pG, .inl (cy 1, 26, .inl (fun j => nI (mp j))))]) [0, 1] (by decide +kernel) rfl
      exact W.iret (v := nI e0) hx hb hr (fun t9 ht9 hW9 => ⟨⟨nI e0, [(m0, .inr (5, [.int (nI tw), .int (nI cb), .ref kO, .ref lO, .int (nI tu), .int (nI ak), .int (nI se), .ref sC, .ref sW, .ref sD, .int (nI pl), .ref pG, .int 0, .int (nI 0), .ref wO, .ref fO, .ref mO, .ref cO, .long sn, .ref th, .int ik, .int (nI kt), .int (nI ku), .int (nI ks), .ref kK, .ref kL, .ref kC, .ref kW, .ref kD, .long hh])), (pG, .inl (cy 1, 26, .inl (fun j => nI (mp j))))], rfl, ⟨e0, 0, 0, rfl, rfl, ⟨(fun j hj => (RC_ok (am128 hmp) (by decide) (by decide) hc0) j (Nat.zero_le _) hj), RC_no (am128 hmp) (by decide) (by decide) hc0 he0⟩, (Or.inr ⟨rfl, fun q => by have h9 := hc0.1; have h8 := hc0.2.1; omega⟩)⟩, by rw [ht9]; exact hP9, hD9⟩, hS.F ht9⟩) hS.2.2 dX5_read_37
def q_X5_fault (cy : Nat → ClassId) (m0 : Nat) (kO : Nat) (lO : Nat) (sC : Nat) (sW : Nat) (sD : Nat) (pG : Nat) (wO : Nat) (fO : Nat) (mO : Nat) (cO : Nat) (th : Nat) (kK : Nat) (kL : Nat) (kC : Nat) (kW : Nat) (kD : Nat) (tw : Nat) (cb : Nat) (tu : Nat) (ak : Nat) (se : Nat) (pl : Nat) (iw : Int32) (nc : Nat) (sn : Int64) (ik : Int32) (kt : Nat) (ku : Nat) (ks : Nat) (hh : Int64) (mp : Nat → Nat) : Int32 → va_W → Prop := fun (r : Int32) (u : va_W) => ∃ (e9 : Nat), ∃ (iwx : Int32), ∃ (ncx : Nat), u = [(m0, .inr (5, [.int (nI tw), .int (nI cb), .ref kO, .ref lO, .int (nI tu), .int (nI ak), .int (nI se), .ref sC, .ref sW, .ref sD, .int (nI pl), .ref pG, .int iwx, .int (nI ncx), .ref wO, .ref fO, .ref mO, .ref cO, .long sn, .ref th, .int ik, .int (nI kt), .int (nI ku), .int (nI ks), .ref kK, .ref kL, .ref kC, .ref kW, .ref kD, .long hh])), (pG, .inl (cy 1, 26, .inl (fun j => nI (mp j))))] ∧ r = nI e9 ∧ FM (amF pl mp) e9
set_option maxHeartbeats 4000000 in
set_option maxRecDepth 100000 in
theorem g_X5_fault (l : Launch) (D : va_G) (cy : Nat → ClassId) (zz : Nat) (m0 : Nat) (kO : Nat) (lO : Nat) (sC : Nat) (sW : Nat) (sD : Nat) (pG : Nat) (wO : Nat) (fO : Nat) (mO : Nat) (cO : Nat) (th : Nat) (kK : Nat) (kL : Nat) (kC : Nat) (kW : Nat) (kD : Nat) (tw : Nat) (cb : Nat) (tu : Nat) (ak : Nat) (se : Nat) (pl : Nat) (iw : Int32) (nc : Nat) (sn : Int64) (ik : Int32) (kt : Nat) (ku : Nat) (ks : Nat) (hh : Int64) (mp : Nat → Nat) (hpl : pl ≤ 26) (hmp : ∀ j, mp j < 128) : Met l yX5_fault wsX5_fault ({ frames := 3, cells := 0, slots := 0, locals := 66 } : Room) (va_Pc [.ref m0] (cpre D cy [(m0, .inr (5, [.int (nI tw), .int (nI cb), .ref kO, .ref lO, .int (nI tu), .int (nI ak), .int (nI se), .ref sC, .ref sW, .ref sD, .int (nI pl), .ref pG, .int iw, .int (nI nc), .ref wO, .ref fO, .ref mO, .ref cO, .long sn, .ref th, .int ik, .int (nI kt), .int (nI ku), .int (nI ks), .ref kK, .ref kL, .ref kC, .ref kW, .ref kD, .long hh])), (pG, .inl (cy 1, 26, .inl (fun j => nI (mp j))))] zz)) (va_Qi (q_X5_fault cy m0 kO lO sC sW sD pG wO fO mO cO th kK kL kC kW kD tw cb tu ak se pl iw nc sn ik kt ku ks hh mp) (cpost D (va_A [(m0, .inr (5, [.int (nI tw), .int (nI cb), .ref kO, .ref lO, .int (nI tu), .int (nI ak), .int (nI se), .ref sC, .ref sW, .ref sD, .int (nI pl), .ref pG, .int iw, .int (nI nc), .ref wO, .ref fO, .ref mO, .ref cO, .long sn, .ref th, .int ik, .int (nI kt), .int (nI ku), .int (nI ks), .ref kK, .ref kL, .ref kC, .ref kW, .ref kD, .long hh])), (pG, .inl (cy 1, 26, .inl (fun j => nI (mp j))))] zz)) (va_A [(m0, .inr (5, [.int (nI tw), .int (nI cb), .ref kO, .ref lO, .int (nI tu), .int (nI ak), .int (nI se), .ref sC, .ref sW, .ref sD, .int (nI pl), .ref pG, .int iw, .int (nI nc), .ref wO, .ref fO, .ref mO, .ref cO, .long sn, .ref th, .int ik, .int (nI kt), .int (nI ku), .int (nI ks), .ref kK, .ref kL, .ref kC, .ref kW, .ref kD, .long hh])), (pG, .inl (cy 1, 26, .inl (fun j => nI (mp j))))] zz)) 0 0 (va_A [(m0, .inr (5, [.int (nI tw), .int (nI cb), .ref kO, .ref lO, .int (nI tu), .int (nI ak), .int (nI se), .ref sC, .ref sW, .ref sD, .int (nI pl), .ref pG, .int iw, .int (nI nc), .ref wO, .ref fO, .ref mO, .ref cO, .long sn, .ref th, .int ik, .int (nI kt), .int (nI ku), .int (nI ks), .ref kK, .ref kL, .ref kC, .ref kW, .ref kD, .long hh])), (pG, .inl (cy 1, 26, .inl (fun j => nI (mp j))))] zz) := by
  refine Met.ofW (cc := cX5_fault) (maxL := 1) (ret := (some .int)) (by decide) rfl ?_
  intro p e s m args below meth c s₁ B hml hv
  obtain ⟨rfl, hsz, hP, hD0, hX⟩ := hv
  have hx := B.exec
  have hb := B.bytes
  have hr := B.returns
  have hts := atoms_spec (ws := wsX5_fault) B.pre
  have hown : s.vm.findClass RX5 = some m.cls := findClass_of_methodNamed B.named
  have hlocks := B.notSynchronized
  subst hsz
  have hD := hD0.self (sz := s.heap.size)
  generalize hAe : va_A [(m0, .inr (5, [.int (nI tw), .int (nI cb), .ref kO, .ref lO, .int (nI tu), .int (nI ak), .int (nI se), .ref sC, .ref sW, .ref sD, .int (nI pl), .ref pG, .int iw, .int (nI nc), .ref wO, .ref fO, .ref mO, .ref cO, .long sn, .ref th, .int ik, .int (nI kt), .int (nI ku), .int (nI ks), .ref kK, .ref kL, .ref kC, .ref kW, .ref kD, .long hh])), (pG, .inl (cy 1, 26, .inl (fun j => nI (mp j))))] s.heap.size = A at hD hX ⊢
  have hA : ∀ q : Nat, s.heap.size ≤ q → A q := fun q h => by rw [← hAe]; exact Or.inr h
  obtain ⟨H, hH⟩ : ∃ H : Heap, H = s.heap := ⟨_, rfl⟩
  have hS : va_S A s.heap H [] := hH ▸ va_S.rf
  have hK := hX.1
  have hP : va_P D vwCl [(m0, .inr (5, [.int (nI tw), .int (nI cb), .ref kO, .ref lO, .int (nI tu), .int (nI ak), .int (nI se), .ref sC, .ref sW, .ref sD, .int (nI pl), .ref pG, .int iw, .int (nI nc), .ref wO, .ref fO, .ref mO, .ref cO, .long sn, .ref th, .int ik, .int (nI kt), .int (nI ku), .int (nI ks), .ref kK, .ref kL, .ref kC, .ref kW, .ref kD, .long hh])), (pG, .inl (cy 1, 26, .inl (fun j => nI (mp j))))] H := hH ▸ hP
  rw [← hH]
  have hl := lv_entry ([.ref m0]) (n := 1) (Nat.le_of_ble_eq_true rfl)
  rw [lg_entry_eq]
  generalize (lg_sl ([.ref m0]) ++ List.replicate (1 - (lg_sl ([.ref m0])).length) Slot.unset).toArray = ls at hl ⊢
  have hl : lv_has ls 1 [(0, .ref m0)] := hl
  refine lv_aload_n hx hb dX5_fault_0 rfl (lv_at hl 0 rfl) ?_
  refine kc_i (wc := [(m0, .inr (5, [.int (nI tw), .int (nI cb), .ref kO, .ref lO, .int (nI tu), .int (nI ak), .int (nI se), .ref sC, .ref sW, .ref sD, .int (nI pl), .ref pG, .int iw, .int (nI nc), .ref wO, .ref fO, .ref mO, .ref cO, .long sn, .ref th, .int ik, .int (nI kt), .int (nI ku), .int (nI ks), .ref kK, .ref kL, .ref kC, .ref kW, .ref kD, .long hh])), (pG, .inl (cy 1, 26, .inl (fun j => nI (mp j))))]) (wr := []) (va_runV (As := []) (rest := []) ⟨hx, hb, hml, hown, hts⟩ (g_X5_read l D cy H.size m0 kO lO sC sW sD pG wO fO mO cO th kK kL kC kW kD tw cb tu ak se pl iw nc sn ik kt ku ks hh mp hpl hmp) (cwV 0 hts gX5_fault_X5_read rfl rfl rfl hdc_X5_read ⟨Nat.le_of_ble_eq_true rfl, Nat.le_of_ble_eq_true rfl⟩) (cpre_V (wc := [(m0, .inr (5, [.int (nI tw), .int (nI cb), .ref kO, .ref lO, .int (nI tu), .int (nI ak), .int (nI se), .ref sC, .ref sW, .ref sD, .int (nI pl), .ref pG, .int iw, .int (nI nc), .ref wO, .ref fO, .ref mO, .ref cO, .long sn, .ref th, .int ik, .int (nI kt), .int (nI ku), .int (nI ks), .ref kK, .ref kL, .ref kC, .ref kW, .ref kD, .long hh])), (pG, .inl (cy 1, 26, .inl (fun j => nI (mp j))))]) 0 5 rfl rfl hX hP hD hS hA [0, 1] (by decide +kernel) rfl) rfl rfl hl.1 rfl (lv_room (Nat.le_of_ble_eq_true rfl)) dX5_fault_1 ⟨Nat.le_of_ble_eq_true rfl, Nat.le_of_ble_eq_true rfl⟩) hP hD hS hA [0, 1] [] rfl rfl (by decide +kernel) (by decide +kernel) (fun rr u1 H locs hw hP hD hS => ?_)
  refine el_X5_read hw (fun e9 iw9 nc9 hu hrr hfm hrw => ?_)
  clear hw
  subst hu
  have hP : va_P D vwCl [(m0, .inr (5, [.int (nI tw), .int (nI cb), .ref kO, .ref lO, .int (nI tu), .int (nI ak), .int (nI se), .ref sC, .ref sW, .ref sD, .int (nI pl), .ref pG, .int iw9, .int (nI nc9), .ref wO, .ref fO, .ref mO, .ref cO, .long sn, .ref th, .int ik, .int (nI kt), .int (nI ku), .int (nI ks), .ref kK, .ref kL, .ref kC, .ref kW, .ref kD, .long hh])), (pG, .inl (cy 1, 26, .inl (fun j => nI (mp j))))] H := hP
  have hD : va_D A [(m0, .inr (5, [.int (nI tw), .int (nI cb), .ref kO, .ref lO, .int (nI tu), .int (nI ak), .int (nI se), .ref sC, .ref sW, .ref sD, .int (nI pl), .ref pG, .int iw9, .int (nI nc9), .ref wO, .ref fO, .ref mO, .ref cO, .long sn, .ref th, .int ik, .int (nI kt), .int (nI ku), .int (nI ks), .ref kK, .ref kL, .ref kC, .ref kW, .ref kD, .long hh])), (pG, .inl (cy 1, 26, .inl (fun j => nI (mp j))))] := hD
  subst hrr
  have hP9 := hP.sub (ws' := [(m0, .inr (5, [.int (nI tw), .int (nI cb), .ref kO, .ref lO, .int (nI tu), .int (nI ak), .int (nI se), .ref sC, .ref sW, .ref sD, .int (nI pl), .ref pG, .int iw9, .int (nI nc9), .ref wO, .ref fO, .ref mO, .ref cO, .long sn, .ref th, .int ik, .int (nI kt), .int (nI ku), .int (nI ks), .ref kK, .ref kL, .ref kC, .ref kW, .ref kD, .long hh])), (pG, .inl (cy 1, 26, .inl (fun j => nI (mp j))))]) [0, 1] rfl
  have hD9 := hD.sub (ws' := [(m0, .inr (5, [.int (nI tw), .int (nI cb), .ref kO, .ref lO, .int (nI tu), .int (nI ak), .int (nI se), .ref sC, .ref sW, .ref sD, .int (nI pl), .ref pG, .int iw9, .int (nI nc9), .ref wO, .ref fO, .ref mO, .ref cO, .long sn, .ref th, .int ik, .int (nI kt), .int (nI ku), .int (nI ks), .ref kK, .ref kL, .ref kC, .ref kW, .ref kD, .long hh])), (pG, .inl (cy 1, 26, .inl (fun j => nI (mp j))))]) [0, 1] (by decide +kernel) rfl
  exact W.iret (v := nI e9) hx hb hr (fun t9 ht9 hW9 => ⟨⟨nI e9, [(m0, .inr (5, [.int (nI tw), .int (nI cb), .ref kO, .ref lO, .int (nI tu), .int (nI ak), .int (nI se), .ref sC, .ref sW, .ref sD, .int (nI pl), .ref pG, .int iw9, .int (nI nc9), .ref wO, .ref fO, .ref mO, .ref cO, .long sn, .ref th, .int ik, .int (nI kt), .int (nI ku), .int (nI ks), .ref kK, .ref kL, .ref kC, .ref kW, .ref kD, .long hh])), (pG, .inl (cy 1, 26, .inl (fun j => nI (mp j))))], rfl, ⟨e9, iw9, nc9, rfl, rfl, hfm⟩, by rw [ht9]; exact hP9, hD9⟩, hS.F ht9⟩) hS.2.2 dX5_fault_4
