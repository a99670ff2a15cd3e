-- painting: the first side
def spI (H : Nat → Nat → Int32) : Nat → Nat → Int32
  | 0, _ => -1
  | n + 1, i => if H (i / 6) (i % 6) = 0 then spI H n (i + 1) else nI (100 * (i / 6) + 10 * (i % 6)) + ntF (H (i / 6) (i % 6))
theorem sp_first (H : Nat → Nat → Int32) : ∀ n i, (∃ k, i ≤ k ∧ k < i + n ∧ ¬ H (k / 6) (k % 6) = 0 ∧ (∀ j, i ≤ j → j < k → H (j / 6) (j % 6) = 0) ∧ spI H n i = nI (100 * (k / 6) + 10 * (k % 6)) + ntF (H (k / 6) (k % 6))) ∨ ((∀ j, i ≤ j → j < i + n → H (j / 6) (j % 6) = 0) ∧ spI H n i = -1)
  | 0, i => Or.inr ⟨fun j h1 h2 => by omega, rfl⟩
  | n + 1, i => by
    show (∃ k, i ≤ k ∧ k < i + (n + 1) ∧ ¬ H (k / 6) (k % 6) = 0 ∧ (∀ j, i ≤ j → j < k → H (j / 6) (j % 6) = 0) ∧ (if H (i / 6) (i % 6) = 0 then spI H n (i + 1) else nI (100 * (i / 6) + 10 * (i % 6)) + ntF (H (i / 6) (i % 6))) = _) ∨ (_ ∧ (if H (i / 6) (i % 6) = 0 then spI H n (i + 1) else nI (100 * (i / 6) + 10 * (i % 6)) + ntF (H (i / 6) (i % 6))) = -1)
    by_cases h : H (i / 6) (i % 6) = 0
    · simp only [if_pos h]
      rcases sp_first H n (i + 1) with ⟨k, k1, k2, k3, k4, k5⟩ | ⟨k1, k2⟩
      · refine Or.inl ⟨k, by omega, by omega, k3, fun j j1 j2 => ?_, k5⟩
        by_cases q : j = i
        · rw [q]
          exact h
        · exact k4 j (by omega) j2
      · refine Or.inr ⟨fun j j1 j2 => ?_, k2⟩
        by_cases q : j = i
        · rw [q]
          exact h
        · exact k1 j (by omega) (by omega)
    · simp only [if_neg h]
      exact Or.inl ⟨i, Nat.le_refl _, by omega, h, fun j j1 j2 => by omega, rfl⟩
theorem nt_tab : ∀ m, m < 64 → ¬ m = 0 → ntF (nI m) = nI (lowB m) := by decide +kernel
theorem lo_tab : ∀ m, m < 64 → ¬ m = 0 → lowB m < 6 ∧ m.testBit (lowB m) = true ∧ ∀ j, j < 6 → j < lowB m → m.testBit j = false := by decide +kernel
theorem sum_0 {g : Nat → Nat} : ∀ m, sumN m g = 0 ↔ ∀ k, k < m → g k = 0
  | 0 => ⟨fun _ k h => absurd h (Nat.not_lt_zero k), fun _ => rfl⟩
  | m + 1 => by
    show sumN m g + g m = 0 ↔ _
    constructor
    · intro h k hk
      rcases Nat.lt_succ_iff_lt_or_eq.mp hk with q | q
      · exact (sum_0 m).mp (by omega) k q
      · rw [q]
        omega
    · intro h
      rw [(sum_0 m).mpr (fun k hk => h k (by omega)), h m (by omega)]
theorem S3_pos {sz : Nat} {kd : Nat → Nat} {f : Nat → Nat → Int32} : S3 sz kd f = 0 ↔ ∀ n : Nat → Nat, (∀ J, J < 3 → n J < mX (kqF sz kd J)) → ¬ CN sz kd f (n 0) (n 1) (n 2) = 0 := by
  unfold S3
  rw [sum_0]
  constructor
  · intro h n hn hz
    have h1 := (sum_0 _).mp ((sum_0 _).mp (h (n 0) (hn 0 (by decide))) (n 1) (hn 1 (by decide))) (n 2) (hn 2 (by decide))
    unfold ind at h1
    rw [if_pos hz] at h1
    exact absurd h1 (by decide)
  · intro h i hi
    refine (sum_0 _).mpr (fun j hj => (sum_0 _).mpr (fun l hl => ?_))
    obtain ⟨n, rfl, rfl, rfl⟩ := n3 i j l
    refine if_neg (h n (fun J hJ => ?_))
    rcases (show J = 0 ∨ J = 1 ∨ J = 2 by omega) with rfl | rfl | rfl
    · exact hi
    · exact hj
    · exact hl
-- the reference's colours alone
def CoR (cb : Nat) (ml : Nat → Int32) (mn : Nat → Nat) (w c : Nat → Int32) : Prop := ∀ J, J < cb → ∀ k, k < mn J → c (24 * J + k) = laI (ml J) (w (24 * J + k))
def Sol (cb : Nat) (mn : Nat → Nat) (w ml : Nat → Int32) : Prop := ∃ c, CoR cb ml mn w c ∧ 0 < soN cb mn c (alN cb mn)
theorem so_congr {cb : Nat} {mn : Nat → Nat} {c c' : Nat → Int32} : ∀ n, (∀ k, k < n → cbI cb mn c k = cbI cb mn c' k) → soN cb mn c n = soN cb mn c' n
  | 0, _ => rfl
  | n + 1, h => by
    show soN cb mn c n + (if cbI cb mn c n = 0 then 1 else 0) = soN cb mn c' n + (if cbI cb mn c' n = 0 then 1 else 0)
    rw [so_congr n (fun k hk => h k (by omega)), h n (by omega)]
theorem so_det {cb : Nat} {ml : Nat → Int32} {mn : Nat → Nat} {w c c' : Nat → Int32} (hcb : cb = 2 ∨ cb = 3) (hla : LA mn) (h2 : cb = 2 → mn 2 = 1) (h : CoR cb ml mn w c) (h' : CoR cb ml mn w c') : soN cb mn c (alN cb mn) = soN cb mn c' (alN cb mn) := by
  obtain ⟨⟨a0, b0⟩, ⟨a1, b1⟩, a2, b2⟩ := hla
  refine so_congr _ (fun k hk => ?_)
  rw [al_3 hcb h2] at hk
  obtain ⟨d0, d1, d2⟩ := al_dec (by omega) (by omega) hk
  have e : ∀ J, J < cb → ∀ i, i < mn J → c (24 * J + i) = c' (24 * J + i) := fun J hJ i hi => (h J hJ i hi).trans (h' J hJ i hi).symm
  have e0 := e 0 (by omega) _ d0
  have e1 := e 1 (by omega) _ d1
  rw [show 24 * 0 + k % mn 0 = k % mn 0 by omega] at e0
  rw [show 24 * 1 + k / mn 0 % mn 1 = 24 + k / mn 0 % mn 1 by omega] at e1
  unfold cbI
  rw [e0, e1]
  rcases hcb with rfl | rfl
  · exact mf_2 _ _ _ _
  · have e2 := e 2 (by decide) _ d2
    rw [show 24 * 2 + k / mn 0 / mn 1 = 48 + k / mn 0 / mn 1 by omega] at e2
    rw [e2]
theorem sol_iff {cb : Nat} {ml : Nat → Int32} {mn : Nat → Nat} {w c : Nat → Int32} (hcb : cb = 2 ∨ cb = 3) (hla : LA mn) (h2 : cb = 2 → mn 2 = 1) (h : CoR cb ml mn w c) : Sol cb mn w ml ↔ 0 < soN cb mn c (alN cb mn) :=
  ⟨fun ⟨c', h1, h3⟩ => by rw [so_det hcb hla h2 h h1]; exact h3, fun h3 => ⟨c, h, h3⟩⟩
def HitP (cb : Nat) (mn : Nat → Nat) (w ml : Nat → Int32) (j : Nat) : Prop := ¬ sdI (ml (j / 36)) (nI (j / 6 % 6)) = nI (j % 6) ∧ Sol cb mn w (upd ml (j / 36) (paI (ml (j / 36)) (nI (j / 6 % 6)) (nI (j % 6))))
theorem co_set {cb K : Nat} {ml : Nat → Int32} {mn : Nat → Nat} {w c c' : Nat → Int32} {y : Int32} (hla : ∀ J, J < cb → mn J ≤ 24) (h : CoR cb ml mn w c) (hc : ∀ k, k < mn K → c' (24 * K + k) = laI y (w (24 * K + k))) (hg : ∀ i, (i < 24 * K ∨ 24 * K + 24 ≤ i) → c' i = c i) : CoR cb (upd ml K y) mn w c' := by
  intro J hJ k hk
  by_cases e : J = K
  · subst e
    rw [show upd ml J y J = y from if_pos rfl]
    exact hc k hk
  · have h24 := hla J hJ
    rw [show upd ml K y J = ml J from if_neg e, hg _ (by omega)]
    exact h J hJ k hk
theorem co_back {cb K : Nat} {ml : Nat → Int32} {mn : Nat → Nat} {w c c' : Nat → Int32} {y : Int32} (hla : ∀ J, J < cb → mn J ≤ 24) (h : CoR cb (upd ml K y) mn w c) (hc : ∀ k, k < mn K → c' (24 * K + k) = laI (ml K) (w (24 * K + k))) (hg : ∀ i, (i < 24 * K ∨ 24 * K + 24 ≤ i) → c' i = c i) : CoR cb ml mn w c' := by
  intro J hJ k hk
  by_cases e : J = K
  · subst e
    exact hc k hk
  · have h24 := hla J hJ
    have h1 := h J hJ k hk
    rw [show upd ml K y J = ml J from if_neg e] at h1
    rw [hg _ (by omega)]
    exact h1
-- a solution of a painted tower, both ways told
theorem sol_S3 {cb : Nat} {kd mk : Nat → Nat} {ml ml' : Nat → Int32} {mn : Nat → Nat} {v1 v2 v3 : Nat → Int32} {f : Nat → Nat → Int32} (hcb : cb = 2 ∨ cb = 3) (hkd : ∀ i, kd i < 5) (hk : ∀ j, j < 3 → mk j = kd j) (hF : Fld ml' f) (hO : Okf f) (ha : AllR cb mk ml mn v1 v2 v3) : Sol cb mn v1 ml' ↔ ¬ S3 cb kd f = 0 := by
  constructor
  · rintro ⟨c, h1, h2⟩
    have hA : AllR cb mk ml' mn v1 v2 c := ⟨fun J hJ => ⟨(ha.1 J hJ).1, h1 J hJ⟩, ha.2⟩
    rw [← so_S3 hcb hkd hk hF hO hA]
    omega
  · intro h
    have hc : CoR cb ml' mn v1 (fun n => laI (ml' (n / 24)) (v1 n)) := fun J hJ k hk9 => by
      have hm := mn_w hcb hkd hk ha J (by omega)
      have h24 := (m_ok (cb := cb) hkd J).2
      show laI (ml' ((24 * J + k) / 24)) (v1 (24 * J + k)) = _
      rw [show (24 * J + k) / 24 = J by omega]
    have hA : AllR cb mk ml' mn v1 v2 (fun n => laI (ml' (n / 24)) (v1 n)) := ⟨fun J hJ => ⟨(ha.1 J hJ).1, hc J hJ⟩, ha.2⟩
    refine ⟨_, hc, ?_⟩
    rw [so_S3 hcb hkd hk hF hO hA]
    omega
theorem pf_fld {f : Nat → Nat → Int32} {ml : Nat → Int32} {c s col : Nat} (hF : Fld ml f) (hc : c < 3) (hs : s < 6) (hcol : col < 6) : Fld (upd ml c (paI (ml c) (nI s) (nI col))) (pf f c s (nI col)) := by
  intro j hj t ht
  unfold pf
  by_cases e : j = c
  · rw [show upd ml c (paI (ml c) (nI s) (nI col)) j = paI (ml c) (nI s) (nI col) from if_pos e, show va_up f c (upd (f c) s (nI col)) j = upd (f c) s (nI col) from if_pos e, pa_f _ hs (by omega) ht]
    unfold upd
    by_cases q : t = s
    · rw [if_pos q, if_pos q]
    · rw [if_neg q, if_neg q]
      exact hF c hc t ht
  · rw [show upd ml c (paI (ml c) (nI s) (nI col)) j = ml j from if_neg e, show va_up f c (upd (f c) s (nI col)) j = f j from if_neg e]
    exact hF j hj t ht
theorem pf_same {f : Nat → Nat → Int32} {c s : Nat} : pf f c s (f c s) = f := by
  funext j t
  unfold pf va_up
  by_cases e : j = c
  · rw [if_pos e]
    unfold upd
    by_cases q : t = s
    · rw [if_pos q, q, e]
    · rw [if_neg q, e]
  · rw [if_neg e]
-- the answers
theorem paint_same {z : Nat → Nat} {wf wg wh : Nat → Nat → Int32} {kd mk : Nat → Nat} {f : Nat → Nat → Int32} {q : Nat → Nat} {wv : Nat → Nat → Int32} {so le fe fi : Int32} {ml : Nat → Int32} {cb : Nat} {mn : Nat → Nat} {v1 v2 v3 : Nat → Int32} {H : Nat → Nat → Int32} {rm : Int32} (hw5 : ∀ k, k < 5 → WRel (z k) (wf k) (wg k) (wh k) (RT k)) (hcb : cb = 2 ∨ cb = 3) (hkd : ∀ i, kd i < 5) (hk : ∀ j, j < 3 → mk j = kd j) (hF : Fld ml f) (hO : Okf f) (hs : SvF z wf wg wh cb kd f q wv so le fe fi) (ha : AllR cb mk ml mn v1 v2 v3) (hH : ∀ c, c < 3 → ∀ s, s < 6 → ∃ p, H c s = HCv z wf q wv p c s) (h0 : S3 cb kd f = 0) (hr : (∃ i, i < 36 * cb ∧ HitP cb mn v1 ml i ∧ (∀ j, j < i → ¬ HitP cb mn v1 ml j) ∧ rm = nI (100 * (i / 36) + 10 * (i / 6 % 6) + i % 6)) ∨ ((∀ j, j < 36 * cb → ¬ HitP cb mn v1 ml j) ∧ rm = -1)) : spI H (6 * cb) 0 = rm := by
  have hno := S3_pos.mp h0
  have hit : ∀ j, j < 36 * cb → (HitP cb mn v1 ml j ↔ ∃ n : Nat → Nat, (∀ J, J < 3 → n J < mX (kqF cb kd J)) ∧ CN cb kd (pf f (j / 36) (j / 6 % 6) (nI (j % 6))) (n 0) (n 1) (n 2) = 0) := fun j hj => by
    have hc : j / 36 < 3 := by omega
    have hs6 : j / 6 % 6 < 6 := Nat.mod_lt _ (by decide)
    have hc6 : j % 6 < 6 := Nat.mod_lt _ (by decide)
    have e := sol_S3 (ml := ml) hcb hkd hk (pf_fld hF hc hs6 hc6) (pf_ok (c := j / 36) (s := j / 6 % 6) hO hc6) ha
    have e2 : Sol cb mn v1 (upd ml (j / 36) (paI (ml (j / 36)) (nI (j / 6 % 6)) (nI (j % 6)))) ↔ ∃ n : Nat → Nat, (∀ J, J < 3 → n J < mX (kqF cb kd J)) ∧ CN cb kd (pf f (j / 36) (j / 6 % 6) (nI (j % 6))) (n 0) (n 1) (n 2) = 0 := by
      rw [e, S3_pos]
      constructor
      · intro h
        refine Classical.byContradiction (fun h9 => h (fun n hn hz => h9 ⟨n, hn, hz⟩))
      · rintro ⟨n, hn, hz⟩ h
        exact h n hn hz
    unfold HitP
    rw [e2]
    refine ⟨fun h => h.2, fun h => ⟨fun r => ?_, h⟩⟩
    obtain ⟨n, hn, hz⟩ := h
    rw [hF _ hc _ hs6] at r
    rw [← r, pf_same] at hz
    exact hno n hn hz
  have help : ∀ k, k < 6 * cb → ∃ m : Nat, H (k / 6) (k % 6) = nI m ∧ m < 64 ∧ ∀ col, col < 6 → (m.testBit col = true ↔ HitP cb mn v1 ml (6 * k + col)) := fun k hk9 => by
    have hs6 : k % 6 < 6 := Nat.mod_lt _ (by decide)
    obtain ⟨p, e⟩ := hH (k / 6) (by omega) (k % 6) hs6
    obtain ⟨m, m1, m2, m3⟩ := help_iff hw5 hkd hcb hO hs hno p (c := k / 6) (by omega) hs6
    refine ⟨m, e.trans m1, m2, fun col hcol => ?_⟩
    rw [m3 col hcol, hit (6 * k + col) (by omega), show (6 * k + col) / 36 = k / 6 by omega, show (6 * k + col) / 6 % 6 = k % 6 by omega, show (6 * k + col) % 6 = col by omega]
  rcases sp_first H (6 * cb) 0 with ⟨k, -, k2, k3, k4, k5⟩ | ⟨k1, k2⟩
  · have k2 : k < 6 * cb := by omega
    obtain ⟨m, m1, m2, m3⟩ := help k k2
    have hm : ¬ m = 0 := fun r => k3 (by rw [m1, r]; rfl)
    obtain ⟨l1, l2, l3⟩ := lo_tab m m2 hm
    have hh := (m3 _ l1).mp l2
    have hbelow : ∀ j, j < 6 * k + lowB m → ¬ HitP cb mn v1 ml j := fun j hj h => by
      obtain ⟨m', n1, n2, n3'⟩ := help (j / 6) (by omega)
      have hb := (n3' (j % 6) (Nat.mod_lt _ (by decide))).mpr (by rw [show 6 * (j / 6) + j % 6 = j by omega]; exact h)
      by_cases q9 : j / 6 = k
      · rw [q9] at n1
        have em : m' = m := (nI_eq (by omega) (by omega)).mp (n1.symm.trans m1)
        rw [em, l3 (j % 6) (Nat.mod_lt _ (by decide)) (by omega)] at hb
        exact absurd hb (by decide)
      · have hz := k4 (j / 6) (Nat.zero_le _) (by omega)
        rw [n1] at hz
        rw [nI_z (by omega) hz, Nat.zero_testBit] at hb
        exact absurd hb (by decide)
    rcases hr with ⟨i, i1, i2, i3, i4⟩ | ⟨i1, -⟩
    · have ei : i = 6 * k + lowB m := by
        rcases Nat.lt_trichotomy i (6 * k + lowB m) with r | r | r
        · exact absurd i2 (hbelow i r)
        · exact r
        · exact absurd hh (i3 _ r)
      rw [k5, m1, nt_tab m m2 hm, nIa, i4, ei, show (6 * k + lowB m) / 36 = k / 6 by omega, show (6 * k + lowB m) / 6 % 6 = k % 6 by omega, show (6 * k + lowB m) % 6 = lowB m by omega]
    · exact absurd hh (i1 _ (by omega))
  · have none : ∀ j, j < 36 * cb → ¬ HitP cb mn v1 ml j := fun j hj h => by
      obtain ⟨m', n1, n2, n3'⟩ := help (j / 6) (by omega)
      have hb := (n3' (j % 6) (Nat.mod_lt _ (by decide))).mpr (by rw [show 6 * (j / 6) + j % 6 = j by omega]; exact h)
      have hz := k1 (j / 6) (Nat.zero_le _) (by omega)
      rw [n1] at hz
      rw [nI_z (by omega) hz, Nat.zero_testBit] at hb
      exact absurd hb (by decide)
    rcases hr with ⟨i, i1, i2, -⟩ | ⟨-, i4⟩
    · exact absurd i2 (none i i1)
    · rw [k2, i4]
theorem so_0 {n : Nat} (hn : n < 2 ^ 31) (h : nI n ≤ 0) : n = 0 := by
  rcases Nat.eq_zero_or_pos n with q | q
  · exact q
  · exact absurd h (nI_nle q hn)
theorem hc_pr {z : Nat → Nat} {wf : Nat → Nat → Int32} {q : Nat → Nat} {wv : Nat → Nat → Int32} {p p' : Nat → Int32} {c s n : Nat} (h : ((n, p') : Nat × (Nat → Int32)) = prA (wv (oA c)) (wv (oB c)) (z (q (oB c))) (z (q (oA c))) (0, p)) : hcF (wf (q c)) (wv c) p' n (nI s) (z (q c)) = HCv z wf q wv p c s := by
  unfold HCv
  rw [← h]
theorem sp_0 {H : Nat → Nat → Int32} {n i : Nat} (h : H (i / 6) (i % 6) = 0) : spI H (n + 1) i = spI H n (i + 1) := if_pos h
theorem sp_1 {H : Nat → Nat → Int32} {n i : Nat} (h : ¬ H (i / 6) (i % 6) = 0) : spI H (n + 1) i = nI (100 * (i / 6) + 10 * (i % 6)) + ntF (H (i / 6) (i % 6)) := if_neg h
