-- the reference's folds over all ways together
def leM (cb : Nat) (mn : Nat → Nat) (c : Nat → Int32) : Nat → Int32
  | 0 => 1048576
  | n + 1 => if cbI cb mn c n < leM cb mn c n then cbI cb mn c n else leM cb mn c n
def fbI (cb : Nat) (mn : Nat → Nat) (w2 : Nat → Int32) (k : Nat) : Int32 := (w2 (k % mn 0) + w2 (24 + k / mn 0 % mn 1)) + (if cb = 3 then w2 (48 + k / mn 0 / mn 1) else 0)
def feM (cb : Nat) (mn : Nat → Nat) (w2 c : Nat → Int32) : Nat → Int32
  | 0 => 1048576
  | n + 1 => if cbI cb mn c n = 0 ∧ fbI cb mn w2 n < feM cb mn w2 c n then fbI cb mn w2 n else feM cb mn w2 c n
theorem so_sum {cb : Nat} {mn : Nat → Nat} {c : Nat → Int32} {g : Nat → Nat} : ∀ n, (∀ k, k < n → (if cbI cb mn c k = 0 then 1 else 0) = g k) → soN cb mn c n = sumN n g
  | 0, _ => rfl
  | n + 1, h => by
    show soN cb mn c n + (if cbI cb mn c n = 0 then 1 else 0) = sumN n g + g n
    rw [so_sum n (fun k hk => h k (by omega)), h n (by omega)]
theorem le_min {cb : Nat} {mn : Nat → Nat} {c : Nat → Int32} {g : Nat → Nat} (hg : ∀ k, g k < 1000) : ∀ n, (∀ k, k < n → cbI cb mn c k = nI (g k)) → ∃ L : Nat, leM cb mn c n = nI L ∧ L ≤ 1048576 ∧ (∀ k, k < n → L ≤ g k) ∧ (L = 1048576 ∨ ∃ k, k < n ∧ L = g k)
  | 0, _ => ⟨1048576, rfl, Nat.le_refl _, fun k h => absurd h (Nat.not_lt_zero k), Or.inl rfl⟩
  | n + 1, h => by
    obtain ⟨L, h1, h2, h3, h4⟩ := le_min hg n (fun k hk => h k (by omega))
    have e := h n (by omega)
    have h9 := hg n
    show ∃ L : Nat, (if cbI cb mn c n < leM cb mn c n then cbI cb mn c n else leM cb mn c n) = nI L ∧ _
    rw [e, h1]
    by_cases q : g n < L
    · rw [if_pos (nI_lt q (by omega))]
      refine ⟨g n, rfl, by omega, fun k hk => ?_, Or.inr ⟨n, by omega, rfl⟩⟩
      rcases Nat.lt_succ_iff_lt_or_eq.mp hk with r | r
      · have := h3 k r
        omega
      · rw [r]
        exact Nat.le_refl _
    · rw [if_neg (fun r => q ((nI_lt_iff (by omega) (by omega)).mp r))]
      refine ⟨L, rfl, h2, fun k hk => ?_, ?_⟩
      · rcases Nat.lt_succ_iff_lt_or_eq.mp hk with r | r
        · exact h3 k r
        · rw [r]
          omega
      · rcases h4 with h4 | ⟨k, hk, h5⟩
        · exact Or.inl h4
        · exact Or.inr ⟨k, by omega, h5⟩
theorem fe_min {cb : Nat} {mn : Nat → Nat} {w2 c : Nat → Int32} {P : Nat → Prop} {g : Nat → Nat} (hg : ∀ k, g k < 1000) : ∀ n, (∀ k, k < n → (cbI cb mn c k = 0 ↔ P k) ∧ fbI cb mn w2 k = nI (g k)) → ∃ L : Nat, feM cb mn w2 c n = nI L ∧ L ≤ 1048576 ∧ (∀ k, k < n → P k → L ≤ g k) ∧ (L = 1048576 ∨ ∃ k, k < n ∧ P k ∧ L = g k)
  | 0, _ => ⟨1048576, rfl, Nat.le_refl _, fun k h => absurd h (Nat.not_lt_zero k), Or.inl rfl⟩
  | n + 1, h => by
    obtain ⟨L, h1, h2, h3, h4⟩ := fe_min hg n (fun k hk => h k (by omega))
    obtain ⟨e1, e2⟩ := h n (by omega)
    have h9 := hg n
    show ∃ L : Nat, (if cbI cb mn c n = 0 ∧ fbI cb mn w2 n < feM cb mn w2 c n then fbI cb mn w2 n else feM cb mn w2 c n) = nI L ∧ _
    rw [h1, e2]
    by_cases q : cbI cb mn c n = 0 ∧ nI (g n) < nI L
    · rw [if_pos q]
      have q2 := (nI_lt_iff (by omega) (by omega)).mp q.2
      refine ⟨g n, rfl, by omega, fun k hk hp => ?_, Or.inr ⟨n, by omega, e1.mp q.1, rfl⟩⟩
      rcases Nat.lt_succ_iff_lt_or_eq.mp hk with r | r
      · have := h3 k r hp
        omega
      · rw [r]
        exact Nat.le_refl _
    · rw [if_neg q]
      refine ⟨L, rfl, h2, fun k hk hp => ?_, ?_⟩
      · rcases Nat.lt_succ_iff_lt_or_eq.mp hk with r | r
        · exact h3 k r hp
        · subst r
          rcases Nat.lt_or_ge (g k) L with r | r
          · exact absurd ⟨e1.mpr hp, nI_lt r (by omega)⟩ q
          · exact r
      · rcases h4 with h4 | ⟨k, hk, hp, h5⟩
        · exact Or.inl h4
        · exact Or.inr ⟨k, by omega, hp, h5⟩
-- the number of all, as a product of three
theorem al_3 {cb : Nat} {mn : Nat → Nat} (h : cb = 2 ∨ cb = 3) (h2 : cb = 2 → mn 2 = 1) : alN cb mn = mn 0 * mn 1 * mn 2 := by
  unfold alN
  rcases h with rfl | rfl
  · rw [if_pos rfl, h2 rfl, Nat.mul_one]
  · rw [if_neg (by decide)]
theorem al_dec {m0 m1 m2 k : Nat} (h0 : 0 < m0) (h1 : 0 < m1) (hk : k < m0 * m1 * m2) : k % m0 < m0 ∧ k / m0 % m1 < m1 ∧ k / m0 / m1 < m2 := by
  refine ⟨Nat.mod_lt _ h0, Nat.mod_lt _ h1, ?_⟩
  rw [Nat.div_div_eq_div_mul]
  refine (Nat.div_lt_iff_lt_mul (Nat.mul_pos h0 h1)).mpr ?_
  rw [Nat.mul_comm m2]
  exact hk
theorem al_enc {m0 m1 m2 i j l : Nat} (hi : i < m0) (hj : j < m1) (hl : l < m2) : ∃ k, k < m0 * m1 * m2 ∧ k % m0 = i ∧ k / m0 % m1 = j ∧ k / m0 / m1 = l := by
  refine ⟨l * (m1 * m0) + (j * m0 + i), ?_, dec3 hi hj⟩
  have h1 : j * m0 + i < m1 * m0 := by
    have : (j + 1) * m0 ≤ m1 * m0 := Nat.mul_le_mul hj (Nat.le_refl _)
    rw [Nat.succ_mul] at this
    omega
  have h2 : (l + 1) * (m1 * m0) ≤ m2 * (m1 * m0) := Nat.mul_le_mul hl (Nat.le_refl _)
  rw [Nat.succ_mul] at h2
  rw [Nat.mul_comm m0 m1, Nat.mul_comm (m1 * m0) m2]
  omega
-- what the arrays hold, by the starts of the cubes
def gX (mk : Nat → Nat) (st : Nat → Int32) (J i : Nat) : Int32 := (layS (mk J) (st J) 96).1.getD i 0
def eX (mk : Nat → Nat) (st : Nat → Int32) (J i : Nat) : Nat := (layS (mk J) (st J) 96).2.getD i 0
theorem all_cb {cb : Nat} {mk : Nat → Nat} {ml st : Nat → Int32} {mn : Nat → Nat} {v1 v2 v3 : Nat → Int32} {f : Nat → Nat → Int32} (hcb : cb = 2 ∨ cb = 3) (hF : Fld ml f) (hO : Okf f) (hG : ∀ J, J < cb → ∀ i, i < mn J → gX mk st J i ∈ GW) (h : AllS cb mk ml st mn v1 v2 v3) {k : Nat} (h0 : 0 < mn 0) (h1 : 0 < mn 1) (hk : k < mn 0 * mn 1 * mn 2) : cbI cb mn v3 k = nI (c3N cb f (gX mk st 0 (k % mn 0)) (gX mk st 1 (k / mn 0 % mn 1)) (gX mk st 2 (k / mn 0 / mn 1))) := by
  obtain ⟨d0, d1, d2⟩ := al_dec h0 h1 hk
  have e : ∀ J, J < cb → ∀ i, i < mn J → v3 (24 * J + i) = laI (ml J) (gX mk st J i) := fun J hJ i hi => by
    obtain ⟨hL, hc⟩ := h.1 J hJ
    rw [hc i hi, (hL.2.2 i hi).1]
    rfl
  have e0 := e 0 (by omega) _ d0
  have e1 := e 1 (by omega) _ d1
  rw [show 24 * 0 + k % mn 0 = k % mn 0 by omega] at e0
  rw [show 24 * 1 + k / mn 0 % mn 1 = 24 + k / mn 0 % mn 1 by omega] at e1
  unfold cbI
  rw [e0, e1]
  refine mf_c3 hF hO (hG 0 (by omega) _ d0) (hG 1 (by omega) _ d1) (fun hne => ?_)
  have e2 := e 2 (by omega) _ d2
  rw [show 24 * 2 + k / mn 0 / mn 1 = 48 + k / mn 0 / mn 1 by omega] at e2
  exact ⟨hG 2 (by omega) _ d2, e2⟩
theorem all_fb {cb : Nat} {mk : Nat → Nat} {ml st : Nat → Int32} {mn : Nat → Nat} {v1 v2 v3 : Nat → Int32} (hcb : cb = 2 ∨ cb = 3) (h : AllS cb mk ml st mn v1 v2 v3) {k : Nat} (h0 : 0 < mn 0) (h1 : 0 < mn 1) (hk : k < mn 0 * mn 1 * mn 2) : fbI cb mn v2 k = nI (eX mk st 0 (k % mn 0) + eX mk st 1 (k / mn 0 % mn 1) + (if cb = 3 then eX mk st 2 (k / mn 0 / mn 1) else 0)) := by
  obtain ⟨d0, d1, d2⟩ := al_dec h0 h1 hk
  have e : ∀ J, J < cb → ∀ i, i < mn J → v2 (24 * J + i) = nI (eX mk st J i) := fun J hJ i hi => ((h.1 J hJ).1.2.2 i hi).2.1
  have e0 := e 0 (by omega) _ d0
  have e1 := e 1 (by omega) _ d1
  rw [show 24 * 0 + k % mn 0 = k % mn 0 by omega] at e0
  rw [show 24 * 1 + k / mn 0 % mn 1 = 24 + k / mn 0 % mn 1 by omega] at e1
  unfold fbI
  rw [e0, e1]
  rcases hcb with rfl | rfl
  · rw [if_neg (by decide), if_neg (by decide), Int32.add_zero, Nat.add_zero, nIa]
  · have e2 := e 2 (by decide) _ d2
    rw [show 24 * 2 + k / mn 0 / mn 1 = 48 + k / mn 0 / mn 1 by omega] at e2
    rw [if_pos rfl, if_pos rfl, e2, nIa, nIa]
-- as all lies: the class's ways
theorem gX_w {mk kd : Nat → Nat} {sz J : Nat} (hkd : ∀ i, kd i < 5) (hk : ∀ j, j < 3 → mk j = kd j) (hJ3 : J < 3) (hJ : J < sz) (i : Nat) : gX mk (fun _ => 181896) J i = wX (kqF sz kd J) i ∧ eX mk (fun _ => 181896) J i = dX (kqF sz kd J) i := by
  have e : kqF sz kd J = kd J := if_pos hJ
  have s := same_ways (kd J) (hkd J)
  unfold gX eX
  rw [e, hk J hJ3, s]
  exact ⟨rfl, rfl⟩
theorem mn_w {mk kd : Nat → Nat} {ml : Nat → Int32} {cb : Nat} {mn : Nat → Nat} {v1 v2 v3 : Nat → Int32} (hcb : cb = 2 ∨ cb = 3) (hkd : ∀ i, kd i < 5) (hk : ∀ j, j < 3 → mk j = kd j) (h : AllR cb mk ml mn v1 v2 v3) : ∀ J, J < 3 → mn J = mX (kqF cb kd J) := by
  intro J hJ
  by_cases hc : J < cb
  · have l := (h.1 J hc).1.1
    have s := same_ways (kd J) (hkd J)
    rw [hk J hJ, s] at l
    rw [show kqF cb kd J = kd J from if_pos hc, ← l]
    rfl
  · obtain rfl : cb = 2 := by omega
    obtain rfl : J = 2 := by omega
    rw [h.2 rfl, show kqF 2 kd 2 = 3 from if_neg (by decide)]
    decide +kernel
theorem all_CN {mk kd : Nat → Nat} {ml : Nat → Int32} {cb : Nat} {mn : Nat → Nat} {v1 v2 v3 : Nat → Int32} {f : Nat → Nat → Int32} (hcb : cb = 2 ∨ cb = 3) (hkd : ∀ i, kd i < 5) (hk : ∀ j, j < 3 → mk j = kd j) (hF : Fld ml f) (hO : Okf f) (h : AllR cb mk ml mn v1 v2 v3) : ∀ k, k < alN cb mn → cbI cb mn v3 k = nI (CN cb kd f (k % mn 0) (k / mn 0 % mn 1) (k / mn 0 / mn 1)) := by
  intro k hk9
  have hm := mn_w hcb hkd hk h
  have t0 := (tab_ok _ (kq5 (sz := cb) hkd 0)).1
  have t1 := (tab_ok _ (kq5 (sz := cb) hkd 1)).1
  have m0 := hm 0 (by decide)
  have m1 := hm 1 (by decide)
  rw [al_3 hcb h.2] at hk9
  rw [all_cb hcb hF hO (fun J hJ i hi => ?_) h (by omega) (by omega) hk9]
  · unfold CN c3N
    rw [(gX_w (sz := cb) (J := 0) hkd hk (by decide) (by omega) _).1, (gX_w (sz := cb) (J := 1) hkd hk (by decide) (by omega) _).1]
    by_cases h2 : cb = 2
    · rw [if_pos h2, if_pos h2]
    · rw [if_neg h2, if_neg h2, (gX_w (sz := cb) (J := 2) hkd hk (by decide) (by omega) _).1]
  · rw [(gX_w hkd hk (by omega) hJ i).1]
    exact wX_in (kq5 hkd J) (by rw [← hm J (by omega)]; exact hi)
theorem so_S3 {mk kd : Nat → Nat} {ml : Nat → Int32} {cb : Nat} {mn : Nat → Nat} {v1 v2 v3 : Nat → Int32} {f : Nat → Nat → Int32} (hcb : cb = 2 ∨ cb = 3) (hkd : ∀ i, kd i < 5) (hk : ∀ j, j < 3 → mk j = kd j) (hF : Fld ml f) (hO : Okf f) (h : AllR cb mk ml mn v1 v2 v3) : soN cb mn v3 (alN cb mn) = S3 cb kd f := by
  have hm := mn_w hcb hkd hk h
  rw [so_sum (g := fun k => ind (CN cb kd f) (k % mn 0) (k / mn 0 % mn 1) (k / mn 0 / mn 1)) (alN cb mn) (fun k hk9 => ?_), al_3 hcb h.2, sum_ref (fun i j l => ind (CN cb kd f) i j l)]
  · unfold S3
    rw [hm 0 (by decide), hm 1 (by decide), hm 2 (by decide)]
  · rw [all_CN hcb hkd hk hF hO h k hk9]
    unfold ind
    have h12 := c3_le cb f (wX (kqF cb kd 0) (k % mn 0)) (wX (kqF cb kd 1) (k / mn 0 % mn 1)) (wX (kqF cb kd 2) (k / mn 0 / mn 1))
    by_cases q : CN cb kd f (k % mn 0) (k / mn 0 % mn 1) (k / mn 0 / mn 1) = 0
    · rw [if_pos q, if_pos (by rw [q]; rfl)]
    · rw [if_neg q, if_neg (fun r => q (nI_z (Nat.lt_of_le_of_lt h12 (by decide)) r))]
-- ways: both answers are the same
theorem ways_sol {z : Nat → Nat} {wf wg wh : Nat → Nat → Int32} {kd mk : Nat → Nat} {f : Nat → Nat → Int32} {q : Nat → Nat} {wv : Nat → Nat → Int32} {so le fe fi : Int32} {ml : Nat → Int32} {cb : Nat} {mn : Nat → Nat} {v1 v2 v3 : Nat → Int32} (hw5 : ∀ k, k < 5 → WRel (z k) (wf k) (wg k) (wh k) (RT k)) (hcb : cb = 2 ∨ cb = 3) (hkd : ∀ i, kd i < 5) (hk : ∀ j, j < 3 → mk j = kd j) (hF : Fld ml f) (hO : Okf f) (hs : SvF z wf wg wh cb kd f q wv so le fe fi) (h : AllR cb mk ml mn v1 v2 v3) : so = nI (soN cb mn v3 (alN cb mn)) := by
  rw [so_S3 hcb hkd hk hF hO h]
  exact (sv_QI hw5 hkd hcb hO hs).1.1
theorem ways_le {z : Nat → Nat} {wf wg wh : Nat → Nat → Int32} {kd mk : Nat → Nat} {f : Nat → Nat → Int32} {q : Nat → Nat} {wv : Nat → Nat → Int32} {so le fe fi : Int32} {ml : Nat → Int32} {cb : Nat} {mn : Nat → Nat} {v1 v2 v3 : Nat → Int32} (hw5 : ∀ k, k < 5 → WRel (z k) (wf k) (wg k) (wh k) (RT k)) (hcb : cb = 2 ∨ cb = 3) (hkd : ∀ i, kd i < 5) (hk : ∀ j, j < 3 → mk j = kd j) (hF : Fld ml f) (hO : Okf f) (hs : SvF z wf wg wh cb kd f q wv so le fe fi) (h : AllR cb mk ml mn v1 v2 v3) : le = leM cb mn v3 (alN cb mn) := by
  have hm := mn_w hcb hkd hk h
  have t0 := (tab_ok _ (kq5 (sz := cb) hkd 0)).1
  have t1 := (tab_ok _ (kq5 (sz := cb) hkd 1)).1
  have t2 := (tab_ok _ (kq5 (sz := cb) hkd 2)).1
  have m0 := hm 0 (by decide)
  have m1 := hm 1 (by decide)
  have m2 := hm 2 (by decide)
  obtain ⟨-, ⟨L, l1, l2, l3, l4⟩, -⟩ := sv_QI hw5 hkd hcb hO hs
  obtain ⟨M, n1, n2, n3, n4⟩ := le_min (g := fun k => CN cb kd f (k % mn 0) (k / mn 0 % mn 1) (k / mn 0 / mn 1)) (fun k => Nat.lt_of_le_of_lt (c3_le _ _ _ _ _) (by decide)) (alN cb mn) (all_CN hcb hkd hk hF hO h)
  have hal := al_3 hcb h.2
  have c12 : ∀ i j l, CN cb kd f i j l ≤ 12 := fun i j l => c3_le _ _ _ _ _
  have L12 : L ≤ 12 := Nat.le_trans (l3 0 0 0 ⟨by omega, by omega, by omega⟩) (c12 0 0 0)
  have hp : 0 < alN cb mn := by
    rw [hal]
    exact Nat.mul_pos (Nat.mul_pos (by omega) (by omega)) (by omega)
  have M12 : M ≤ 12 := Nat.le_trans (n3 0 hp) (c12 _ _ _)
  show le = _
  rw [n1, show le = nI L from l1]
  refine congrArg nI (Nat.le_antisymm ?_ ?_)
  · rcases n4 with n4 | ⟨k, hk9, e⟩
    · omega
    · obtain ⟨d0, d1, d2⟩ := al_dec (m2 := mn 2) (show 0 < mn 0 by omega) (show 0 < mn 1 by omega) (by rw [← hal]; exact hk9)
      rw [e]
      exact l3 _ _ _ ⟨by omega, by omega, by omega⟩
  · rcases l4 with l4 | ⟨a, b, c, ⟨ha, hb, hc⟩, e⟩
    · omega
    · obtain ⟨k, hk9, e0, e1, e2⟩ := al_enc (m0 := mn 0) (m1 := mn 1) (m2 := mn 2) (i := a) (j := b) (l := c) (by omega) (by omega) (by omega)
      have h9 := n3 k (by rw [hal]; exact hk9)
      rw [e]
      show M ≤ CN cb kd f a b c
      have h8 : M ≤ CN cb kd f (k % mn 0) (k / mn 0 % mn 1) (k / mn 0 / mn 1) := h9
      rw [e0, e1, e2] at h8
      exact h8
