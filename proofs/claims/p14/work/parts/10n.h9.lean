-- turning: the fewest turns, and by which first
theorem lay_inv (kd : Nat) (x : Int32) : ∀ n, (layS kd x n).2.length = (layS kd x n).1.length ∧ ∀ i, i < (layS kd x n).1.length → (layS kd x n).2.getD i 0 ≤ i
  | 0 => ⟨rfl, fun i hi => by
    have h : i < 1 := hi
    obtain rfl : i = 0 := by omega
    exact Nat.le_refl _⟩
  | n + 1 => by
    obtain ⟨h1, h2⟩ := lay_inv kd x n
    show (msS kd n (layS kd x n)).2.length = (msS kd n (layS kd x n)).1.length ∧ ∀ i, i < (msS kd n (layS kd x n)).1.length → (msS kd n (layS kd x n)).2.getD i 0 ≤ i
    generalize layS kd x n = S at h1 h2 ⊢
    unfold msS
    by_cases hc : n / 4 < S.1.length ∧ inT kd (n % 4)
    · rw [if_pos hc]
      unfold tkS
      split
      · exact ⟨h1, h2⟩
      · refine ⟨by simp [h1], fun i hi => ?_⟩
        have hi : i < S.1.length + 1 := by simpa using hi
        show (S.2 ++ [S.2.getD (n / 4) 0 + 1]).getD i 0 ≤ i
        rw [gd_app]
        by_cases q : i = S.2.length
        · rw [if_pos q]
          have := h2 (n / 4) hc.1
          omega
        · rw [if_neg q]
          exact h2 i (by omega)
    · rw [if_neg hc]
      exact ⟨h1, h2⟩
def cV1 (mk : Nat → Nat) (st : Nat → Int32) (n : Nat) : Int32 := (layS (mk (n / 24)) (st (n / 24)) 96).1.getD (n % 24) 0
theorem AllS_canon {cb : Nat} {mk : Nat → Nat} {ml st : Nat → Int32} (hl : ∀ J, J < cb → (layS (mk J) (st J) 96).1.length ≤ 24) : AllS cb mk ml st (cMn cb mk st) (cV1 mk st) (cV2 mk st) (cV3 mk ml st) := by
  refine ⟨fun J hJ => ?_, fun h2 => by unfold cMn; rw [if_neg (by omega)]⟩
  have e : cMn cb mk st J = (layS (mk J) (st J) 96).1.length := if_pos hJ
  have h24 := hl J hJ
  obtain ⟨i1, i2⟩ := lay_inv (mk J) (st J) 96
  refine ⟨⟨e.symm, by rw [e]; exact i1, fun i hi => ?_⟩, fun i hi => ?_⟩
  · rw [e] at hi
    unfold cV1 cV2
    rw [show (24 * J + i) / 24 = J by omega, show (24 * J + i) % 24 = i by omega]
    exact ⟨rfl, rfl, i2 i hi⟩
  · rw [e] at hi
    unfold cV1 cV3
    rw [show (24 * J + i) / 24 = J by omega, show (24 * J + i) % 24 = i by omega]
theorem tabT1 : ∀ k, k < 5 → ∀ t, t < 4 → inT k t → (LT k t).1.length = mX k := by decide +kernel
theorem tabT2a : ∀ k, k < 5 → ∀ t, t < 4 → ∀ v, v < 24 → ¬ (inT k t ∧ v < mX k) ∨ (LT k t).1.getD v 0 ∈ GW := by decide +kernel
theorem tabT2b : ∀ k, k < 5 → ∀ t, t < 4 → ∀ v, v < 24 → ¬ (inT k t ∧ v < mX k) ∨ (idx (RT k).1 ((LT k t).1.getD v 0) < mX k ∧ idx (LT k t).1 ((LT k t).1.getD v 0) = v) := by decide +kernel
theorem tabT3 : ∀ k, k < 5 → ∀ t, t < 4 → ∀ v, v < 24 → ¬ (inT k t ∧ v < mX k) ∨ (idx (LT k t).1 (wX k v) < mX k ∧ dX k v ≤ (LT k t).2.getD (idx (LT k t).1 (wX k v)) 0 + 1) := by decide +kernel
theorem tabT4 : ∀ k, k < 5 → ∀ t, t < 4 → ∀ v, v < 24 → ¬ (inT k t ∧ v < mX k) ∨ (((LT k t).2.getD (idx (LT k t).1 (wX k v)) 0 + 1 = dX k v ↔ (bX k v).testBit t = true)) := by decide +kernel
theorem tabT {k t : Nat} (hk : k < 5) (ht : t < 4) (h : inT k t) : (LT k t).1.length = mX k ∧ ∀ v, v < 24 → v < mX k → ((LT k t).1.getD v 0 ∈ GW ∧ idx (RT k).1 ((LT k t).1.getD v 0) < mX k ∧ idx (LT k t).1 ((LT k t).1.getD v 0) = v) ∧ idx (LT k t).1 (wX k v) < mX k ∧ dX k v ≤ (LT k t).2.getD (idx (LT k t).1 (wX k v)) 0 + 1 ∧ ((LT k t).2.getD (idx (LT k t).1 (wX k v)) 0 + 1 = dX k v ↔ (bX k v).testBit t = true) :=
  ⟨tabT1 k hk t ht h, fun v h1 h2 => ⟨⟨(tabT2a k hk t ht v h1).resolve_left (fun q => q ⟨h, h2⟩), (tabT2b k hk t ht v h1).resolve_left (fun q => q ⟨h, h2⟩)⟩, ((tabT3 k hk t ht v h1).resolve_left (fun q => q ⟨h, h2⟩)).1, ((tabT3 k hk t ht v h1).resolve_left (fun q => q ⟨h, h2⟩)).2, (tabT4 k hk t ht v h1).resolve_left (fun q => q ⟨h, h2⟩)⟩⟩
theorem tabB : ∀ k, k < 5 → ∀ w, w < 24 → ∀ t, t < 4 → (bX k w).testBit t = true → inT k t := by decide +kernel
theorem m3_1 : mX 3 = 1 ∧ dX 3 0 = 0 := by decide +kernel
theorem c3_congr {cb : Nat} {f : Nat → Nat → Int32} {x y : Nat → Int32} (hcb : cb = 2 ∨ cb = 3) (h : ∀ J, J < cb → x J = y J) : c3N cb f (x 0) (x 1) (x 2) = c3N cb f (y 0) (y 1) (y 2) := by
  unfold c3N
  rw [h 0 (by omega), h 1 (by omega)]
  rcases hcb with rfl | rfl
  · rw [if_pos rfl, if_pos rfl]
  · rw [h 2 (by decide)]
theorem sum3_c {g h : Nat → Nat} {c : Nat} (hc : c < 3) (he : ∀ J, J < 3 → ¬ J = c → g J = h J) : g 0 + g 1 + g 2 + h c = h 0 + h 1 + h 2 + g c := by
  rcases (show c = 0 ∨ c = 1 ∨ c = 2 by omega) with rfl | rfl | rfl
  · have a := he 1 (by decide) (by decide)
    have b := he 2 (by decide) (by decide)
    omega
  · have a := he 0 (by decide) (by decide)
    have b := he 2 (by decide) (by decide)
    omega
  · have a := he 0 (by decide) (by decide)
    have b := he 1 (by decide) (by decide)
    omega
def eT (cb : Nat) (mk : Nat → Nat) (st : Nat → Int32) (J i : Nat) : Nat := if J < cb then eX mk st J i else 0
theorem eT_lt {cb : Nat} {mk : Nat → Nat} {st : Nat → Int32} (hl : ∀ J, J < cb → (layS (mk J) (st J) 96).1.length ≤ 24) (J i : Nat) : eT cb mk st J i < 25 := by
  unfold eT
  by_cases hJ : J < cb
  · rw [if_pos hJ]
    obtain ⟨i1, i2⟩ := lay_inv (mk J) (st J) 96
    have h24 := hl J hJ
    unfold eX
    rcases Nat.lt_or_ge i (layS (mk J) (st J) 96).1.length with q | q
    · have := i2 i q
      omega
    · rw [gd_far (by omega)]
      decide
  · rw [if_neg hJ]
    decide
-- the least over all of the starts st
theorem fw_min {cb : Nat} {mk : Nat → Nat} {ml st : Nat → Int32} {f : Nat → Nat → Int32} {m : Nat → Nat} (hcb : cb = 2 ∨ cb = 3) (hF : Fld ml f) (hO : Okf f) (hl : ∀ J, J < cb → (layS (mk J) (st J) 96).1.length = m J) (h1 : ∀ J, J < 3 → 1 ≤ m J ∧ m J ≤ 24) (h2 : cb = 2 → m 2 = 1) (hG : ∀ J, J < cb → ∀ i, i < m J → gX mk st J i ∈ GW) : ∃ L : Nat, fwM cb mk ml st = nI L ∧ L ≤ 1048576 ∧ (∀ n : Nat → Nat, (∀ J, J < 3 → n J < m J) → c3N cb f (gX mk st 0 (n 0)) (gX mk st 1 (n 1)) (gX mk st 2 (n 2)) = 0 → L ≤ eT cb mk st 0 (n 0) + eT cb mk st 1 (n 1) + eT cb mk st 2 (n 2)) ∧ (L = 1048576 ∨ ∃ n : Nat → Nat, (∀ J, J < 3 → n J < m J) ∧ c3N cb f (gX mk st 0 (n 0)) (gX mk st 1 (n 1)) (gX mk st 2 (n 2)) = 0 ∧ L = eT cb mk st 0 (n 0) + eT cb mk st 1 (n 1) + eT cb mk st 2 (n 2)) := by
  have hl24 : ∀ J, J < cb → (layS (mk J) (st J) 96).1.length ≤ 24 := fun J hJ => by rw [hl J hJ]; exact (h1 J (by omega)).2
  have hA := AllS_canon (ml := ml) hl24
  have hm : ∀ J, J < 3 → cMn cb mk st J = m J := fun J hJ => by
    unfold cMn
    by_cases hc : J < cb
    · rw [if_pos hc]
      exact hl J hc
    · rw [if_neg hc]
      obtain rfl : cb = 2 := by omega
      obtain rfl : J = 2 := by omega
      exact (h2 rfl).symm
  have m0 := hm 0 (by decide)
  have m1 := hm 1 (by decide)
  have m2 := hm 2 (by decide)
  have a0 := h1 0 (by decide)
  have a1 := h1 1 (by decide)
  have hal : alN cb (cMn cb mk st) = m 0 * m 1 * m 2 := by
    rw [al_3 hcb hA.2, m0, m1, m2]
  have b0 : 0 < cMn cb mk st 0 := by omega
  have b1 : 0 < cMn cb mk st 1 := by omega
  obtain ⟨L, l1, l2, l3, l4⟩ := fe_min (cb := cb) (mn := cMn cb mk st) (w2 := cV2 mk st) (c := cV3 mk ml st) (P := fun k => c3N cb f (gX mk st 0 (k % m 0)) (gX mk st 1 (k / m 0 % m 1)) (gX mk st 2 (k / m 0 / m 1)) = 0) (g := fun k => eT cb mk st 0 (k % m 0) + eT cb mk st 1 (k / m 0 % m 1) + eT cb mk st 2 (k / m 0 / m 1)) (fun k => by
      have e0 := eT_lt hl24 0 (k % m 0)
      have e1 := eT_lt hl24 1 (k / m 0 % m 1)
      have e2 := eT_lt hl24 2 (k / m 0 / m 1)
      show eT cb mk st 0 (k % m 0) + eT cb mk st 1 (k / m 0 % m 1) + eT cb mk st 2 (k / m 0 / m 1) < 1000
      omega) (m 0 * m 1 * m 2) (fun k hk => by
      have hk' : k < cMn cb mk st 0 * cMn cb mk st 1 * cMn cb mk st 2 := by rw [m0, m1, m2]; exact hk
      have c1 := all_cb hcb hF hO (fun J hJ i hi => hG J hJ i (by rw [← hm J (by omega)]; exact hi)) hA b0 b1 hk'
      have c2 := all_fb hcb hA b0 b1 hk'
      rw [m0, m1] at c1 c2
      refine ⟨?_, ?_⟩
      · rw [c1]
        exact ⟨fun r => nI_z (Nat.lt_of_le_of_lt (c3_le _ _ _ _ _) (by decide)) r, fun r => by rw [show c3N cb f (gX mk st 0 (k % m 0)) (gX mk st 1 (k / m 0 % m 1)) (gX mk st 2 (k / m 0 / m 1)) = 0 from r]; rfl⟩
      · rw [c2]
        refine congrArg nI ?_
        show _ = eT cb mk st 0 (k % m 0) + eT cb mk st 1 (k / m 0 % m 1) + eT cb mk st 2 (k / m 0 / m 1)
        unfold eT
        rw [if_pos (show 0 < cb by omega), if_pos (show 1 < cb by omega)]
        rcases hcb with rfl | rfl
        · rw [if_neg (by decide), if_neg (by decide)]
        · rw [if_pos rfl, if_pos (by decide)])
  refine ⟨L, by unfold fwM; rw [hal]; exact l1, l2, fun n hn hc => ?_, ?_⟩
  · obtain ⟨k, hk, e0, e1, e2⟩ := al_enc (hn 0 (by decide)) (hn 1 (by decide)) (hn 2 (by decide))
    have h9 := l3 k hk
    simp only [e0, e1, e2] at h9
    exact h9 hc
  · rcases l4 with l4 | ⟨k, hk, hp, e⟩
    · exact Or.inl l4
    · obtain ⟨d0, d1, d2⟩ := al_dec (by omega) (by omega) hk
      refine Or.inr ⟨fun J => if J = 0 then k % m 0 else if J = 1 then k / m 0 % m 1 else k / m 0 / m 1, fun J hJ => ?_, hp, e⟩
      rcases (show J = 0 ∨ J = 1 ∨ J = 2 by omega) with rfl | rfl | rfl
      · exact d0
      · exact d1
      · exact d2
