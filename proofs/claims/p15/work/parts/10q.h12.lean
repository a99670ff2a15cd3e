-- which side to paint
def uX (sz : Nat) (kd : Nat → Nat) (f : Nat → Nat → Int32) (J w t : Nat) : Nat := if J < sz then cw (f J) (wX (kqF sz kd J) w) (2 + t) else 6
def nc (u v : Nat → Nat) : Prop := ∀ t, t < 4 → ¬ (u t = v t ∧ u t < 6)
theorem nc_s {u v : Nat → Nat} (h : nc u v) : nc v u := fun t ht q => h t ht ⟨q.1.symm, by omega⟩
theorem uX_7 {sz : Nat} {kd : Nat → Nat} {f : Nat → Nat → Int32} {J w : Nat} (hkd : ∀ i, kd i < 5) (hO : Okf f) (hJ : J < 3) (hw : w < mX (kqF sz kd J)) : u7 (uX sz kd f J w) := by
  intro t ht
  unfold uX
  by_cases h : J < sz
  · rw [if_pos h]
    have := cw_lt (hO J hJ) (wX_in (kq5 (sz := sz) hkd J) hw) (s := 2 + t) (by omega)
    omega
  · rw [if_neg h]
    decide
theorem e1_0 {c d : Nat} : e1 c d = 0 ↔ ¬ c = d := by
  unfold e1
  by_cases h : c = d
  · rw [if_pos h]
    exact ⟨fun q => absurd q (by decide), fun q => absurd h q⟩
  · rw [if_neg h]
    exact ⟨fun _ => h, fun _ => rfl⟩
theorem c2_nc {f g : Nat → Int32} {x y : Int32} (hf : ∀ s, s < 6 → okv (f s)) (hx : x ∈ GW) : c2N f g x y = 0 ↔ nc (fun t => cw f x (2 + t)) (fun t => cw g y (2 + t)) := by
  have hl : ∀ t, t < 4 → cw f x (2 + t) < 6 := fun t ht => cw_lt hf hx (by omega)
  unfold c2N
  constructor
  · intro h t ht q
    have a0 : ¬ cw f x 2 = cw g y 2 := e1_0.mp (by omega)
    have a1 : ¬ cw f x 3 = cw g y 3 := e1_0.mp (by omega)
    have a2 : ¬ cw f x 4 = cw g y 4 := e1_0.mp (by omega)
    have a3 : ¬ cw f x 5 = cw g y 5 := e1_0.mp (by omega)
    rcases (show t = 0 ∨ t = 1 ∨ t = 2 ∨ t = 3 by omega) with rfl | rfl | rfl | rfl
    · exact a0 q.1
    · exact a1 q.1
    · exact a2 q.1
    · exact a3 q.1
  · intro h
    rw [e1_0.mpr (fun q => h 0 (by decide) ⟨q, hl 0 (by decide)⟩), e1_0.mpr (fun q => h 1 (by decide) ⟨q, hl 1 (by decide)⟩), e1_0.mpr (fun q => h 2 (by decide) ⟨q, hl 2 (by decide)⟩), e1_0.mpr (fun q => h 3 (by decide) ⟨q, hl 3 (by decide)⟩)]
theorem CN_nc {sz : Nat} {kd : Nat → Nat} {f : Nat → Nat → Int32} {n : Nat → Nat} (hsz : sz = 2 ∨ sz = 3) (hkd : ∀ i, kd i < 5) (hO : Okf f) (hn : ∀ J, J < 3 → n J < mX (kqF sz kd J)) : CN sz kd f (n 0) (n 1) (n 2) = 0 ↔ ∀ i j, i < 3 → j < 3 → ¬ i = j → nc (uX sz kd f i (n i)) (uX sz kd f j (n j)) := by
  have hx : ∀ J, J < 3 → wX (kqF sz kd J) (n J) ∈ GW := fun J hJ => wX_in (kq5 hkd J) (hn J hJ)
  have hu : ∀ J, J < sz → uX sz kd f J (n J) = fun t => cw (f J) (wX (kqF sz kd J) (n J)) (2 + t) := fun J hJ => by
    funext t
    exact if_pos hJ
  have h6 : ∀ J, ¬ J < sz → ∀ v, nc (uX sz kd f J (n J)) v := fun J hJ v t ht q => by
    have e : uX sz kd f J (n J) t = 6 := if_neg hJ
    omega
  have k01 : c2N (f 0) (f 1) (wX (kqF sz kd 0) (n 0)) (wX (kqF sz kd 1) (n 1)) = 0 ↔ nc (uX sz kd f 0 (n 0)) (uX sz kd f 1 (n 1)) := by
    rw [hu 0 (by omega), hu 1 (by omega)]
    exact c2_nc (hO 0 (by decide)) (hx 0 (by decide))
  unfold CN c3N
  rcases hsz with rfl | rfl
  · rw [if_pos rfl, k01]
    constructor
    · intro h i j hi hj hne
      by_cases i2 : i = 2
      · subst i2
        exact h6 2 (by decide) _
      · by_cases j2 : j = 2
        · subst j2
          exact nc_s (h6 2 (by decide) _)
        · rcases (show (i = 0 ∧ j = 1) ∨ (i = 1 ∧ j = 0) by omega) with ⟨rfl, rfl⟩ | ⟨rfl, rfl⟩
          · exact h
          · exact nc_s h
    · exact fun h => h 0 1 (by decide) (by decide) (by decide)
  · have k20 : c2N (f 2) (f 0) (wX (kqF 3 kd 2) (n 2)) (wX (kqF 3 kd 0) (n 0)) = 0 ↔ nc (uX 3 kd f 2 (n 2)) (uX 3 kd f 0 (n 0)) := by
      rw [hu 2 (by decide), hu 0 (by decide)]
      exact c2_nc (hO 2 (by decide)) (hx 2 (by decide))
    have k21 : c2N (f 2) (f 1) (wX (kqF 3 kd 2) (n 2)) (wX (kqF 3 kd 1) (n 1)) = 0 ↔ nc (uX 3 kd f 2 (n 2)) (uX 3 kd f 1 (n 1)) := by
      rw [hu 2 (by decide), hu 1 (by decide)]
      exact c2_nc (hO 2 (by decide)) (hx 2 (by decide))
    rw [if_neg (by decide)]
    constructor
    · intro h
      have a := k01.mp (by omega)
      have b := k20.mp (by omega)
      have c := k21.mp (by omega)
      intro i j hi hj hne
      rcases (show (i = 0 ∧ j = 1) ∨ (i = 1 ∧ j = 0) ∨ (i = 2 ∧ j = 0) ∨ (i = 0 ∧ j = 2) ∨ (i = 2 ∧ j = 1) ∨ (i = 1 ∧ j = 2) by omega) with ⟨rfl, rfl⟩ | ⟨rfl, rfl⟩ | ⟨rfl, rfl⟩ | ⟨rfl, rfl⟩ | ⟨rfl, rfl⟩ | ⟨rfl, rfl⟩
      · exact a
      · exact nc_s a
      · exact b
      · exact nc_s b
      · exact c
      · exact nc_s c
    · intro h
      rw [k01.mpr (h 0 1 (by decide) (by decide) (by decide)), k20.mpr (h 2 0 (by decide) (by decide) (by decide)), k21.mpr (h 2 1 (by decide) (by decide) (by decide))]
-- the place of a side in a way
def plX (x : Int32) (s : Nat) : Nat := if sdI x (nI 0) = nI s then 0 else if sdI x (nI 1) = nI s then 1 else if sdI x (nI 2) = nI s then 2 else if sdI x (nI 3) = nI s then 3 else if sdI x (nI 4) = nI s then 4 else 5
theorem pl_tab : ∀ x ∈ GW, ∀ s, s < 6 → plX x s < 6 ∧ ∀ t, t < 6 → (sdI x (nI t) = nI s ↔ t = plX x s) := by decide +kernel
theorem pl_row {g : Nat → Int32} {w s : Nat} {x : Int32} (hr : ∀ t, t < 6 → g (w * 6 + t) = sdI x (nI t)) : plF g w (nI s) = plX x s := by
  unfold plF plX
  rw [hr 0 (by decide), hr 1 (by decide), hr 2 (by decide), hr 3 (by decide), hr 4 (by decide)]
-- a painted tower
theorem okv_n6 {n : Nat} (h : n < 6) : okv (nI n) := ⟨nI_pos (by omega), show nI n < nI 6 from nI_lt h (by decide)⟩
def pf (f : Nat → Nat → Int32) (c s : Nat) (v : Int32) : Nat → Nat → Int32 := va_up f c (upd (f c) s v)
theorem pf_ok {f : Nat → Nat → Int32} {c s col : Nat} (hO : Okf f) (hcol : col < 6) : Okf (pf f c s (nI col)) := by
  intro j hj t ht
  unfold pf va_up
  by_cases e : j = c
  · rw [if_pos e]
    unfold upd
    by_cases q : t = s
    · rw [if_pos q]
      exact okv_n6 hcol
    · rw [if_neg q, ← e]
      exact hO j hj t ht
  · rw [if_neg e]
    exact hO j hj t ht
theorem pf_u {sz : Nat} {kd : Nat → Nat} {f : Nat → Nat → Int32} {c s col : Nat} (hkd : ∀ i, kd i < 5) (hs : s < 6) (hcol : col < 6) (hc3 : c < 3) (hc : c < sz) {w : Nat} (hw : w < mX (kqF sz kd c)) {t : Nat} (ht : t < 4) : uX sz kd (pf f c s (nI col)) c w t = if 2 + t = plX (wX (kqF sz kd c) w) s then col else uX sz kd f c w t := by
  have hx := wX_in (kq5 (sz := sz) hkd c) hw
  have hp := (pl_tab _ hx s hs).2 (2 + t) (by omega)
  have hd := gw_cn hx (s := 2 + t) (by omega)
  unfold uX
  rw [if_pos hc, if_pos hc]
  unfold cw pf
  rw [show va_up f c (upd (f c) s (nI col)) c = upd (f c) s (nI col) from if_pos rfl]
  by_cases q : 2 + t = plX (wX (kqF sz kd c) w) s
  · rw [if_pos q]
    have e : cn (sdI (wX (kqF sz kd c) w) (nI (2 + t))) = s := by
      rw [hp.mpr q]
      exact nI_clamp (by omega)
    rw [e, show upd (f c) s (nI col) s = nI col from if_pos rfl]
    exact nI_clamp (by omega)
  · rw [if_neg q]
    have e : ¬ cn (sdI (wX (kqF sz kd c) w) (nI (2 + t))) = s := fun r => q (hp.mp (by rw [hd.2, r]))
    rw [show upd (f c) s (nI col) (cn (sdI (wX (kqF sz kd c) w) (nI (2 + t)))) = f c (cn (sdI (wX (kqF sz kd c) w) (nI (2 + t)))) from if_neg e]
theorem pf_o {sz : Nat} {kd : Nat → Nat} {f : Nat → Nat → Int32} {c s J w : Nat} {v : Int32} (h : ¬ J = c) : uX sz kd (pf f c s v) J w = uX sz kd f J w := by
  funext t
  unfold uX
  rw [show pf f c s v J = f J from if_neg h]
def oA (c : Nat) : Nat := (c + 1) % 3
def oB (c : Nat) : Nat := (c + 2) % 3
-- the walls that the survey holds, as colours
theorem wv_u {z : Nat → Nat} {wf wg wh : Nat → Nat → Int32} {sz : Nat} {kd : Nat → Nat} {f : Nat → Nat → Int32} {q : Nat → Nat} {wv : Nat → Nat → Int32} {so le fe fi : Int32} (hw5 : ∀ k, k < 5 → WRel (z k) (wf k) (wg k) (wh k) (RT k)) (hkd : ∀ i, kd i < 5) (hO : Okf f) (h : SvF z wf wg wh sz kd f q wv so le fe fi) {J : Nat} (hJ : J < 3) : q J = kqF sz kd J ∧ z (q J) = mX (kqF sz kd J) ∧ ∀ w, w < mX (kqF sz kd J) → wv J w = wO (uX sz kd f J w) ∧ ∀ t, t < 6 → wf (q J) (w * 6 + t) = sdI (wX (kqF sz kd J) w) (nI t) := by
  obtain ⟨hq, hv, -⟩ := h
  have e : q J = kqF sz kd J := hq J hJ
  have zz := z_mX hw5 (kq5 (sz := sz) hkd J)
  refine ⟨e, by rw [e]; exact zz, fun w hw => ⟨?_, fun t ht => ?_⟩⟩
  · rw [hv J hJ w (by rw [e, zz]; exact hw)]
    by_cases hs : J < sz
    · have a := wl_at (w := w) hw5 hkd hO hJ hs hw
      have l : ∀ t, t < 6 → cw (f J) (wX (kqF sz kd J) w) t < 6 := fun t ht => cw_lt (hO J hJ) a.2 ht
      rw [a.1, show wlX (f J) (wX (kqF sz kd J) w) = wlN (cw (f J) (wX (kqF sz kd J) w) 2) (cw (f J) (wX (kqF sz kd J) w) 3) (cw (f J) (wX (kqF sz kd J) w) 4) (cw (f J) (wX (kqF sz kd J) w) 5) from rfl, wlN_O (l 2 (by decide)) (l 3 (by decide)) (l 4 (by decide)) (l 5 (by decide))]
      unfold wO uX
      rw [if_pos hs, if_pos hs, if_pos hs, if_pos hs]
    · rw [wlT_out hs]
      refine ((wO_0 (uX_7 hkd hO hJ hw)).mpr (fun t _ => if_neg hs)).symm
  · rw [e]
    exact (hw5 _ (kq5 hkd J)).2.2.2.2.1 w (by rw [zz]; exact hw) t ht
def HCv (z : Nat → Nat) (wf : Nat → Nat → Int32) (q : Nat → Nat) (wv : Nat → Nat → Int32) (p : Nat → Int32) (c s : Nat) : Int32 := hcF (wf (q c)) (wv c) (prA (wv (oA c)) (wv (oB c)) (z (q (oB c))) (z (q (oA c))) (0, p)).2 (prA (wv (oA c)) (wv (oB c)) (z (q (oB c))) (z (q (oA c))) (0, p)).1 (nI s) (z (q c))
-- bits of the helpful colours, way by way
theorem hc_bits {g v pp : Nat → Int32} {pn s : Nat} {x : Nat → Int32} (hP : ∀ k, k < pn → ∃ u u', u7 u ∧ u7 u' ∧ pp k = wO u ||| wO u') : ∀ n, (∀ k, k < n → plF g k (nI s) = plX (x k) s ∧ plX (x k) s < 6 ∧ ∃ u, u7 u ∧ v k = wO u) → ∃ m : Nat, hcF g v pp pn (nI s) n = nI m ∧ m < 64 ∧ ∀ c, c < 6 → (m.testBit c = true ↔ ∃ w, w < n ∧ 2 ≤ plX (x w) s ∧ ∃ u, u7 u ∧ v w = wO u ∧ ∃ k, k < pn ∧ pp k &&& wO (fun t => if t = plX (x w) s - 2 then 6 else u t) = 0 ∧ ∀ a b, u7 a → u7 b → pp k = wO a ||| wO b → ¬ c = a (plX (x w) s - 2) ∧ ¬ c = b (plX (x w) s - 2))
  | 0, _ => ⟨0, rfl, by decide, fun c _ => by
    rw [Nat.zero_testBit]
    exact ⟨fun h => absurd h (by decide), fun ⟨k, hk, _⟩ => absurd hk (Nat.not_lt_zero k)⟩⟩
  | n + 1, h => by
    obtain ⟨m, h1, h2, h3⟩ := hc_bits hP n (fun k hk => h k (by omega))
    obtain ⟨e1, e2, u, hu, e3⟩ := h n (by omega)
    show ∃ m : Nat, (if nI (plF g n (nI s)) - 2 < 0 then hcF g v pp pn (nI s) n else hcF g v pp pn (nI s) n ||| cfr pp pn (v n) ((nI (plF g n (nI s)) - 2) * 6)) = nI m ∧ _
    rw [e1]
    have hsub : ∀ p, p < 6 → (nI p - 2 < 0 ↔ p < 2) ∧ (2 ≤ p → (nI p - 2) * 6 = nI ((p - 2) * 6)) := by decide +kernel
    obtain ⟨s1, s2⟩ := hsub _ e2
    by_cases hp : plX (x n) s < 2
    · rw [if_pos (s1.mpr hp)]
      refine ⟨m, h1, h2, fun c hc => ?_⟩
      rw [h3 c hc]
      constructor
      · rintro ⟨w, hw, r⟩
        exact ⟨w, by omega, r⟩
      · rintro ⟨w, hw, r0, r⟩
        rcases Nat.lt_succ_iff_lt_or_eq.mp hw with q | q
        · exact ⟨w, q, r0, r⟩
        · rw [q] at r0
          omega
    · rw [if_neg (fun r => hp (s1.mp r)), s2 (by omega)]
      have hs4 : plX (x n) s - 2 < 4 := by omega
      obtain ⟨m', g1, g2, g3⟩ := cf_bits (ow := wO (fun t => if t = plX (x n) s - 2 then 6 else u t)) hs4 pn hP
      have eq : cfr pp pn (v n) (nI ((plX (x n) s - 2) * 6)) = nI m' := by
        unfold cfr
        rw [e3, ow_x hu hs4]
        exact g1
      rw [h1, eq]
      have ho := or64 h2 g2
      refine ⟨m ||| m', ho.1, ho.2, fun c hc => ?_⟩
      rw [Nat.testBit_or, Bool.or_eq_true, h3 c hc, g3 c hc]
      constructor
      · rintro (⟨w, hw, r⟩ | r)
        · exact ⟨w, by omega, r⟩
        · exact ⟨n, Nat.lt_succ_self _, by omega, u, hu, e3, r⟩
      · rintro ⟨w, hw, r0, u', hu', e', r⟩
        rcases Nat.lt_succ_iff_lt_or_eq.mp hw with q | q
        · exact Or.inl ⟨w, q, r0, u', hu', e', r⟩
        · subst q
          refine Or.inr ?_
          obtain ⟨k, hk, r1, r2⟩ := r
          refine ⟨k, hk, ?_, r2⟩
          have ew : wO (fun t => if t = plX (x w) s - 2 then 6 else u t) = wO (fun t => if t = plX (x w) s - 2 then 6 else u' t) := by
            rw [← ow_x hu hs4, ← ow_x hu' hs4, ← e3, ← e']
          rw [ew]
          exact r1
theorem help_iff {z : Nat → Nat} {wf wg wh : Nat → Nat → Int32} {sz : Nat} {kd : Nat → Nat} {f : Nat → Nat → Int32} {q : Nat → Nat} {wv : Nat → Nat → Int32} {so le fe fi : Int32} (hw5 : ∀ k, k < 5 → WRel (z k) (wf k) (wg k) (wh k) (RT k)) (hkd : ∀ i, kd i < 5) (hsz : sz = 2 ∨ sz = 3) (hO : Okf f) (h : SvF z wf wg wh sz kd f q wv so le fe fi) (hno : ∀ n : Nat → Nat, (∀ J, J < 3 → n J < mX (kqF sz kd J)) → ¬ CN sz kd f (n 0) (n 1) (n 2) = 0) (p : Nat → Int32) {c s : Nat} (hc : c < sz) (hs : s < 6) : ∃ m : Nat, HCv z wf q wv p c s = nI m ∧ m < 64 ∧ ∀ col, col < 6 → (m.testBit col = true ↔ ∃ n : Nat → Nat, (∀ J, J < 3 → n J < mX (kqF sz kd J)) ∧ CN sz kd (pf f c s (nI col)) (n 0) (n 1) (n 2) = 0) := by
  have hc3 : c < 3 := by omega
  have hA3 : oA c < 3 := Nat.mod_lt _ (by decide)
  have hB3 : oB c < 3 := Nat.mod_lt _ (by decide)
  have hAc : ¬ oA c = c := by unfold oA; omega
  have hBc : ¬ oB c = c := by unfold oB; omega
  have hAB : ¬ oA c = oB c := by unfold oA oB; omega
  have h3 : ∀ J, J < 3 → J = c ∨ J = oA c ∨ J = oB c := fun J hJ => by unfold oA oB; omega
  obtain ⟨c1, c2, c3⟩ := wv_u hw5 hkd hO h hc3
  obtain ⟨a1, a2, a3⟩ := wv_u hw5 hkd hO h hA3
  obtain ⟨b1, b2, b3⟩ := wv_u hw5 hkd hO h hB3
  have hps := PS_A (v1 := wv (oA c)) (v2 := wv (oB c)) (p := p) (m := z (q (oB c))) (z (q (oA c)))
  unfold HCv
  generalize prA (wv (oA c)) (wv (oB c)) (z (q (oB c))) (z (q (oA c))) (0, p) = S at hps ⊢
  have u_c : ∀ w, w < mX (kqF sz kd c) → u7 (uX sz kd f c w) := fun w hw => uX_7 hkd hO hc3 hw
  have u_A : ∀ w, w < mX (kqF sz kd (oA c)) → u7 (uX sz kd f (oA c) w) := fun w hw => uX_7 hkd hO hA3 hw
  have u_B : ∀ w, w < mX (kqF sz kd (oB c)) → u7 (uX sz kd f (oB c) w) := fun w hw => uX_7 hkd hO hB3 hw
  have pr : ∀ x, (∃ k, k < S.1 ∧ S.2 k = x) ↔ ∃ i, i < mX (kqF sz kd (oA c)) ∧ ∃ b, b < mX (kqF sz kd (oB c)) ∧ nc (uX sz kd f (oA c) i) (uX sz kd f (oB c) b) ∧ x = wO (uX sz kd f (oA c) i) ||| wO (uX sz kd f (oB c) b) := fun x => by
    rw [hps x, a2, b2]
    constructor
    · rintro ⟨i, hi, b, hb, e, r⟩
      rw [(a3 i hi).1, (b3 b hb).1] at e r
      exact ⟨i, hi, b, hb, (wO_dis (u_A i hi) (u_B b hb)).mp e, r⟩
    · rintro ⟨i, hi, b, hb, e, r⟩
      refine ⟨i, hi, b, hb, ?_, ?_⟩
      · rw [(a3 i hi).1, (b3 b hb).1]
        exact (wO_dis (u_A i hi) (u_B b hb)).mpr e
      · rw [(a3 i hi).1, (b3 b hb).1]
        exact r
  obtain ⟨m, m1, m2, m3⟩ := hc_bits (g := wf (q c)) (v := wv c) (pp := S.2) (pn := S.1) (s := s) (x := fun w => wX (kqF sz kd c) w) (fun k hk => by
    obtain ⟨i, hi, b, hb, -, r⟩ := (pr (S.2 k)).mp ⟨k, hk, rfl⟩
    exact ⟨_, _, u_A i hi, u_B b hb, r⟩) (z (q c)) (fun k hk => by
    rw [c2] at hk
    exact ⟨pl_row (c3 k hk).2, (pl_tab _ (wX_in (kq5 hkd c) hk) s hs).1, _, u_c k hk, (c3 k hk).1⟩)
  refine ⟨m, m1, m2, fun col hcol => ?_⟩
  have hO' : Okf (pf f c s (nI col)) := pf_ok hO hcol
  rw [m3 col hcol, c2]
  constructor
  · rintro ⟨w, hw, hp, u, hu, eu, k, hk, r1, r2⟩
    have hp : 2 ≤ plX (wX (kqF sz kd c) w) s := hp
    have p6 := (pl_tab _ (wX_in (kq5 (sz := sz) hkd c) hw) s hs).1
    have hs4 : plX (wX (kqF sz kd c) w) s - 2 < 4 := by omega
    obtain ⟨i, hi, b, hb, hnc, e⟩ := (pr (S.2 k)).mp ⟨k, hk, rfl⟩
    have r1 : S.2 k &&& wO (fun t => if t = plX (wX (kqF sz kd c) w) s - 2 then 6 else u t) = 0 := r1
    rw [← ow_x hu hs4, ← eu, (c3 w hw).1, ow_x (u_c w hw) hs4, e] at r1
    have ho7 : u7 (fun t => if t = plX (wX (kqF sz kd c) w) s - 2 then 6 else uX sz kd f c w t) := fun t ht => by
      show (if t = plX (wX (kqF sz kd c) w) s - 2 then 6 else uX sz kd f c w t) < 7
      split
      · decide
      · exact u_c w hw t ht
    have hd := (pair_dis (u_A i hi) (u_B b hb) ho7).mp r1
    have hfr := r2 _ _ (u_A i hi) (u_B b hb) e
    have up : ∀ v, v = uX sz kd f (oA c) i ∨ v = uX sz kd f (oB c) b → nc (uX sz kd (pf f c s (nI col)) c w) v := fun v hv t ht r => by
      rw [pf_u hkd hs hcol hc3 hc hw ht] at r
      have hdt := hd t ht
      by_cases q9 : 2 + t = plX (wX (kqF sz kd c) w) s
      · rw [if_pos q9] at r
        have et : plX (wX (kqF sz kd c) w) s - 2 = t := by omega
        have hfr : ¬ col = uX sz kd f (oA c) i (plX (wX (kqF sz kd c) w) s - 2) ∧ ¬ col = uX sz kd f (oB c) b (plX (wX (kqF sz kd c) w) s - 2) := hfr
        rw [et] at hfr
        rcases hv with rfl | rfl
        · exact hfr.1 r.1
        · exact hfr.2 r.1
      · rw [if_neg q9] at r
        have hdt : ¬ (uX sz kd f (oA c) i t = (if t = plX (wX (kqF sz kd c) w) s - 2 then 6 else uX sz kd f c w t) ∧ uX sz kd f (oA c) i t < 6) ∧ ¬ (uX sz kd f (oB c) b t = (if t = plX (wX (kqF sz kd c) w) s - 2 then 6 else uX sz kd f c w t) ∧ uX sz kd f (oB c) b t < 6) := hdt
        rw [if_neg (by omega)] at hdt
        rcases hv with rfl | rfl
        · exact hdt.1 ⟨r.1.symm, by omega⟩
        · exact hdt.2 ⟨r.1.symm, by omega⟩
    obtain ⟨n, hn⟩ : ∃ n : Nat → Nat, n = fun J => if J = c then w else if J = oA c then i else b := ⟨_, rfl⟩
    have nc0 : n c = w := by rw [hn]; exact if_pos rfl
    have nA : n (oA c) = i := by rw [hn]; exact (if_neg hAc).trans (if_pos rfl)
    have nB : n (oB c) = b := by rw [hn]; exact (if_neg hBc).trans (if_neg (fun r => hAB r.symm))
    have hr : ∀ J, J < 3 → n J < mX (kqF sz kd J) := fun J hJ => by
      rcases h3 J hJ with rfl | rfl | rfl
      · rw [nc0]; exact hw
      · rw [nA]; exact hi
      · rw [nB]; exact hb
    refine ⟨n, hr, (CN_nc hsz hkd hO' hr).mpr (fun x y hx hy hne => ?_)⟩
    have eA : uX sz kd (pf f c s (nI col)) (oA c) (n (oA c)) = uX sz kd f (oA c) i := by rw [pf_o hAc, nA]
    have eB : uX sz kd (pf f c s (nI col)) (oB c) (n (oB c)) = uX sz kd f (oB c) b := by rw [pf_o hBc, nB]
    rcases h3 x hx with rfl | rfl | rfl
    · rw [nc0]
      rcases h3 y hy with e9 | e9 | e9
      · exact absurd e9.symm hne
      · rw [e9, eA]
        exact up _ (Or.inl rfl)
      · rw [e9, eB]
        exact up _ (Or.inr rfl)
    · rw [eA]
      rcases h3 y hy with e9 | e9 | e9
      · rw [e9, nc0]
        exact nc_s (up _ (Or.inl rfl))
      · exact absurd e9.symm hne
      · rw [e9, eB]
        exact hnc
    · rw [eB]
      rcases h3 y hy with e9 | e9 | e9
      · rw [e9, nc0]
        exact nc_s (up _ (Or.inr rfl))
      · rw [e9, eA]
        exact nc_s hnc
      · exact absurd e9.symm hne
  · rintro ⟨n, hr, hz⟩
    have hz := (CN_nc hsz hkd hO' hr).mp hz
    have hw := hr c hc3
    have p6 := (pl_tab _ (wX_in (kq5 (sz := sz) hkd c) hw) s hs).1
    have up : ∀ J, J < 3 → ¬ J = c → nc (uX sz kd (pf f c s (nI col)) c (n c)) (uX sz kd f J (n J)) := fun J hJ hne => by
      have := hz c J hc3 hJ (fun r => hne r.symm)
      rw [pf_o hne] at this
      exact this
    have hnc : nc (uX sz kd f (oA c) (n (oA c))) (uX sz kd f (oB c) (n (oB c))) := by
      have := hz (oA c) (oB c) hA3 hB3 hAB
      rw [pf_o hAc, pf_o hBc] at this
      exact this
    have hp : 2 ≤ plX (wX (kqF sz kd c) (n c)) s := by
      rcases Nat.lt_or_ge (plX (wX (kqF sz kd c) (n c)) s) 2 with r | r
      · exfalso
        have same : ∀ J, J < 3 → ¬ J = c → nc (uX sz kd f c (n c)) (uX sz kd f J (n J)) := fun J hJ hne t ht r9 => by
          have := up J hJ hne t ht
          rw [pf_u hkd hs hcol hc3 hc hw ht, if_neg (by omega)] at this
          exact this r9
        refine hno n hr ((CN_nc hsz hkd hO hr).mpr (fun x y hx hy hne => ?_))
        by_cases xc : x = c
        · subst xc
          exact same y hy (fun r => hne r.symm)
        · by_cases yc : y = c
          · subst yc
            exact nc_s (same x hx xc)
          · have := hz x y hx hy hne
            rw [pf_o xc, pf_o yc] at this
            exact this
      · exact r
    have hs4 : plX (wX (kqF sz kd c) (n c)) s - 2 < 4 := by omega
    obtain ⟨k, hk, e⟩ := (pr _).mpr ⟨n (oA c), hr _ hA3, n (oB c), hr _ hB3, hnc, rfl⟩
    have ho7 : u7 (fun t => if t = plX (wX (kqF sz kd c) (n c)) s - 2 then 6 else uX sz kd f c (n c) t) := fun t ht => by
      show (if t = plX (wX (kqF sz kd c) (n c)) s - 2 then 6 else uX sz kd f c (n c) t) < 7
      split
      · decide
      · exact u_c _ hw t ht
    refine ⟨n c, hw, hp, _, u_c _ hw, (c3 _ hw).1, k, hk, ?_, fun a b ha hb e' => ?_⟩
    · rw [e]
      refine (pair_dis (u_A _ (hr _ hA3)) (u_B _ (hr _ hB3)) ho7).mpr (fun t ht => ?_)
      have key : ∀ J, J < 3 → ¬ J = c → ¬ (uX sz kd f J (n J) t = (if t = plX (wX (kqF sz kd c) (n c)) s - 2 then 6 else uX sz kd f c (n c) t) ∧ uX sz kd f J (n J) t < 6) := fun J hJ hne r => by
        by_cases q9 : t = plX (wX (kqF sz kd c) (n c)) s - 2
        · rw [if_pos q9] at r
          omega
        · rw [if_neg q9] at r
          have := up J hJ hne t ht
          rw [pf_u hkd hs hcol hc3 hc hw ht, if_neg (by omega)] at this
          exact this ⟨r.1.symm, by omega⟩
      exact ⟨key _ hA3 hAc, key _ hB3 hBc⟩
    · have base : ¬ col = uX sz kd f (oA c) (n (oA c)) (plX (wX (kqF sz kd c) (n c)) s - 2) ∧ ¬ col = uX sz kd f (oB c) (n (oB c)) (plX (wX (kqF sz kd c) (n c)) s - 2) := by
        have key : ∀ J, J < 3 → ¬ J = c → ¬ col = uX sz kd f J (n J) (plX (wX (kqF sz kd c) (n c)) s - 2) := fun J hJ hne r => by
          have := up J hJ hne (plX (wX (kqF sz kd c) (n c)) s - 2) hs4
          rw [pf_u hkd hs hcol hc3 hc hw hs4, if_pos (by omega)] at this
          exact this ⟨r, hcol⟩
        exact ⟨key _ hA3 hAc, key _ hB3 hBc⟩
      have f1 := fr_x (u_A _ (hr _ hA3)) (u_B _ (hr _ hB3)) hs4
      have f2 := fr_x ha hb hs4
      rw [← e', e] at f2
      have hm : fm (uX sz kd f (oA c) (n (oA c)) (plX (wX (kqF sz kd c) (n c)) s - 2)) (uX sz kd f (oB c) (n (oB c)) (plX (wX (kqF sz kd c) (n c)) s - 2)) = fm (a (plX (wX (kqF sz kd c) (n c)) s - 2)) (b (plX (wX (kqF sz kd c) (n c)) s - 2)) := (nI_eq (by have := f1.2; omega) (by have := f2.2; omega)).mp (f1.1.symm.trans f2.1)
      rw [← fm_bit _ (u_A _ (hr _ hA3) _ hs4) _ (u_B _ (hr _ hB3) _ hs4) col hcol, hm, fm_bit _ (ha _ hs4) _ (hb _ hs4) col hcol] at base
      exact base
