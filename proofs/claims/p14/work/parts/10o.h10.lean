theorem n3 (a b d : Nat) : ∃ n : Nat → Nat, n 0 = a ∧ n 1 = b ∧ n 2 = d := ⟨fun J => if J = 0 then a else if J = 1 then b else d, rfl, rfl, rfl⟩
theorem kq_in {cb : Nat} {kd : Nat → Nat} {J : Nat} (h : J < cb) : kqF cb kd J = kd J := if_pos h
theorem kq_2 {kd : Nat → Nat} : kqF 2 kd 2 = 3 := if_neg (by decide)
theorem m_ok {cb : Nat} {kd : Nat → Nat} (hkd : ∀ i, kd i < 5) (J : Nat) : 1 ≤ mX (kqF cb kd J) ∧ mX (kqF cb kd J) ≤ 24 := (tab_ok _ (kq5 hkd J)).1
theorem m_2 {cb : Nat} {kd : Nat → Nat} (h : cb = 2) : mX (kqF cb kd 2) = 1 := by
  subst h
  rw [kq_2]
  exact m3_1.1
theorem d_out {cb : Nat} {kd : Nat → Nat} {J i : Nat} (hcb : cb = 2 ∨ cb = 3) (hJ : J < 3) (hn : ¬ J < cb) (hi : i < mX (kqF cb kd J)) : dX (kqF cb kd J) i = 0 := by
  obtain rfl : cb = 2 := by omega
  obtain rfl : J = 2 := by omega
  rw [kq_2, m3_1.1] at hi
  obtain rfl : i = 0 := by omega
  rw [kq_2]
  exact m3_1.2
theorem eT_0 {cb : Nat} {kd mk : Nat → Nat} {J i : Nat} (hcb : cb = 2 ∨ cb = 3) (hkd : ∀ i, kd i < 5) (hk : ∀ j, j < 3 → mk j = kd j) (hJ : J < 3) (hi : i < mX (kqF cb kd J)) : eT cb mk (fun _ => 181896) J i = dX (kqF cb kd J) i := by
  unfold eT
  by_cases hc : J < cb
  · rw [if_pos hc]
    exact (gX_w hkd hk hJ hc i).2
  · rw [if_neg hc]
    exact (d_out hcb hJ hc hi).symm
theorem fw_0 {cb : Nat} {kd mk : Nat → Nat} {ml : Nat → Int32} {f : Nat → Nat → Int32} (hcb : cb = 2 ∨ cb = 3) (hkd : ∀ i, kd i < 5) (hk : ∀ j, j < 3 → mk j = kd j) (hF : Fld ml f) (hO : Okf f) : ∃ L : Nat, fwM cb mk ml (fun _ => 181896) = nI L ∧ L ≤ 1048576 ∧ (∀ a b d, a < mX (kqF cb kd 0) ∧ b < mX (kqF cb kd 1) ∧ d < mX (kqF cb kd 2) → CN cb kd f a b d = 0 → L ≤ TN cb kd a b d) ∧ (L = 1048576 ∨ ∃ a b d, (a < mX (kqF cb kd 0) ∧ b < mX (kqF cb kd 1) ∧ d < mX (kqF cb kd 2)) ∧ CN cb kd f a b d = 0 ∧ L = TN cb kd a b d) := by
  have gw : ∀ J, J < cb → ∀ i, gX mk (fun _ => 181896) J i = wX (kqF cb kd J) i := fun J hJ i => (gX_w hkd hk (by omega) hJ i).1
  obtain ⟨L, l1, l2, l3, l4⟩ := fw_min (mk := mk) (st := fun _ => 181896) (m := fun J => mX (kqF cb kd J)) hcb hF hO (fun J hJ => by
    rw [hk J (by omega), same_ways _ (hkd J), kq_in hJ]
    rfl) (fun J _ => m_ok hkd J) m_2 (fun J hJ i hi => by
    rw [gw J hJ]
    exact wX_in (kq5 hkd J) hi)
  have hC : ∀ n : Nat → Nat, c3N cb f (gX mk (fun _ => 181896) 0 (n 0)) (gX mk (fun _ => 181896) 1 (n 1)) (gX mk (fun _ => 181896) 2 (n 2)) = CN cb kd f (n 0) (n 1) (n 2) := fun n => c3_congr (x := fun J => gX mk (fun _ => 181896) J (n J)) (y := fun J => wX (kqF cb kd J) (n J)) hcb (fun J hJ => gw J hJ _)
  have hT : ∀ n : Nat → Nat, (∀ J, J < 3 → n J < mX (kqF cb kd J)) → eT cb mk (fun _ => 181896) 0 (n 0) + eT cb mk (fun _ => 181896) 1 (n 1) + eT cb mk (fun _ => 181896) 2 (n 2) = TN cb kd (n 0) (n 1) (n 2) := fun n hn => by
    unfold TN
    rw [eT_0 hcb hkd hk (by decide) (hn 0 (by decide)), eT_0 hcb hkd hk (by decide) (hn 1 (by decide)), eT_0 hcb hkd hk (by decide) (hn 2 (by decide))]
  refine ⟨L, l1, l2, fun a b d hr hc => ?_, ?_⟩
  · obtain ⟨n, rfl, rfl, rfl⟩ := n3 a b d
    have hn : ∀ J, J < 3 → n J < mX (kqF cb kd J) := fun J hJ => by
      rcases (show J = 0 ∨ J = 1 ∨ J = 2 by omega) with rfl | rfl | rfl
      · exact hr.1
      · exact hr.2.1
      · exact hr.2.2
    have h9 := l3 n hn ((hC n).trans hc)
    rw [hT n hn] at h9
    exact h9
  · rcases l4 with l4 | ⟨n, hn, hc, e⟩
    · exact Or.inl l4
    · exact Or.inr ⟨n 0, n 1, n 2, ⟨hn 0 (by decide), hn 1 (by decide), hn 2 (by decide)⟩, (hC n).symm.trans hc, e.trans (hT n hn)⟩
theorem tt_main {cb : Nat} {kd mk : Nat → Nat} {ml : Nat → Int32} {f : Nat → Nat → Int32} {c t E : Nat} (hcb : cb = 2 ∨ cb = 3) (hkd : ∀ i, kd i < 5) (hk : ∀ j, j < 3 → mk j = kd j) (hF : Fld ml f) (hO : Okf f) (hc : c < cb) (ht : t < 4) (hin : inT (kd c) t) (hE : 1 ≤ E) (hE9 : E < 1000) (hmin : ∀ n : Nat → Nat, (∀ J, J < 3 → n J < mX (kqF cb kd J)) → CN cb kd f (n 0) (n 1) (n 2) = 0 → E ≤ TN cb kd (n 0) (n 1) (n 2)) : (fwM cb mk ml (upd (fun _ => 181896) c (tuI (nI (mk c)) 181896 t)) = nI E - 1) ↔ ∃ n : Nat → Nat, (∀ J, J < 3 → n J < mX (kqF cb kd J)) ∧ CN cb kd f (n 0) (n 1) (n 2) = 0 ∧ TN cb kd (n 0) (n 1) (n 2) = E ∧ (bX (kd c) (n c)).testBit t = true := by
  have hc3 : c < 3 := by omega
  obtain ⟨st, hst⟩ : ∃ st : Nat → Int32, st = upd (fun _ => 181896) c (tuI (nI (mk c)) 181896 t) := ⟨_, rfl⟩
  rw [← hst]
  have sc : st c = tuI (nI (kd c)) 181896 t := by
    rw [hst, hk c hc3]
    exact if_pos rfl
  have so : ∀ J, ¬ J = c → st J = 181896 := fun J h => by
    rw [hst]
    exact if_neg h
  obtain ⟨tl, tv⟩ := tabT (hkd c) ht hin
  have Lc : layS (mk c) (st c) 96 = LT (kd c) t := by
    rw [hk c hc3, sc]
    exact lt_eq (kd c) (hkd c) t ht hin
  have Lo : ∀ J, J < 3 → ¬ J = c → layS (mk J) (st J) 96 = ((RT (kd J)).1, (RT (kd J)).2.1) := fun J hJ h => by
    rw [hk J hJ, so J h]
    exact same_ways (kd J) (hkd J)
  have go : ∀ J, J < cb → ¬ J = c → ∀ i, gX mk st J i = wX (kqF cb kd J) i ∧ eX mk st J i = dX (kqF cb kd J) i := fun J hJ h i => by
    unfold gX eX
    rw [Lo J (by omega) h, kq_in hJ]
    exact ⟨rfl, rfl⟩
  have gc : ∀ i, gX mk st c i = (LT (kd c) t).1.getD i 0 ∧ eX mk st c i = (LT (kd c) t).2.getD i 0 := fun i => by
    unfold gX eX
    rw [Lc]
    exact ⟨rfl, rfl⟩
  have kc : kqF cb kd c = kd c := kq_in hc
  have mc24 := (m_ok (cb := cb) hkd c).2
  rw [kc] at mc24
  have ec : ∀ i, eT cb mk st c i = (LT (kd c) t).2.getD i 0 := fun i => (if_pos hc).trans (gc i).2
  have eo : ∀ J, J < 3 → ¬ J = c → ∀ i, i < mX (kqF cb kd J) → eT cb mk st J i = dX (kqF cb kd J) i := fun J hJ h i hi => by
    unfold eT
    by_cases q : J < cb
    · rw [if_pos q]
      exact (go J q h i).2
    · rw [if_neg q]
      exact (d_out hcb hJ q hi).symm
  obtain ⟨L, l1, l2, l3, l4⟩ := fw_min (mk := mk) (ml := ml) (st := st) (f := f) (m := fun J => mX (kqF cb kd J)) hcb hF hO (fun J hJ => by
    by_cases q : J = c
    · subst q
      rw [Lc, kc]
      exact tl
    · rw [Lo J (by omega) q, kq_in hJ]
      rfl) (fun J _ => m_ok hkd J) m_2 (fun J hJ i hi => by
    by_cases q : J = c
    · subst q
      rw [(gc i).1]
      rw [kc] at hi
      exact (tv i (by omega) hi).1.1
    · rw [(go J hJ q i).1]
      exact wX_in (kq5 hkd J) hi)
  -- from the starts st to the base and back
  have fwd : ∀ n : Nat → Nat, (∀ J, J < 3 → n J < mX (kqF cb kd J)) → ∃ p : Nat → Nat, (∀ J, J < 3 → p J < mX (kqF cb kd J)) ∧ CN cb kd f (p 0) (p 1) (p 2) = c3N cb f (gX mk st 0 (n 0)) (gX mk st 1 (n 1)) (gX mk st 2 (n 2)) ∧ TN cb kd (p 0) (p 1) (p 2) ≤ eT cb mk st 0 (n 0) + eT cb mk st 1 (n 1) + eT cb mk st 2 (n 2) + 1 ∧ (TN cb kd (p 0) (p 1) (p 2) = eT cb mk st 0 (n 0) + eT cb mk st 1 (n 1) + eT cb mk st 2 (n 2) + 1 → (bX (kd c) (p c)).testBit t = true) := fun n hn => by
    have hnc : n c < mX (kd c) := by rw [← kc]; exact hn c hc3
    obtain ⟨⟨v1, v2, v3⟩, -⟩ := tv (n c) (by omega) hnc
    obtain ⟨w, hw⟩ : ∃ w, w = idx (RT (kd c)).1 ((LT (kd c) t).1.getD (n c) 0) := ⟨_, rfl⟩
    rw [← hw] at v2
    have ew : wX (kd c) w = (LT (kd c) t).1.getD (n c) 0 := by
      unfold wX
      rw [hw]
      exact idx_eq _ _ (by rw [← hw]; exact v2)
    obtain ⟨-, u1, u2, u3⟩ := tv w (by omega) v2
    rw [ew, v3] at u2 u3
    have pc : va_up n c w c = w := if_pos rfl
    have po : ∀ J, ¬ J = c → va_up n c w J = n J := fun J h => if_neg h
    have hs := sum3_c (g := fun J => dX (kqF cb kd J) (va_up n c w J)) (h := fun J => eT cb mk st J (n J)) hc3 (fun J hJ h => by
      show dX (kqF cb kd J) (va_up n c w J) = eT cb mk st J (n J)
      rw [po J h, eo J hJ h (n J) (hn J hJ)])
    have hs : TN cb kd (va_up n c w 0) (va_up n c w 1) (va_up n c w 2) + eT cb mk st c (n c) = eT cb mk st 0 (n 0) + eT cb mk st 1 (n 1) + eT cb mk st 2 (n 2) + dX (kqF cb kd c) (va_up n c w c) := hs
    rw [pc, kc, ec] at hs
    refine ⟨va_up n c w, fun J hJ => ?_, ?_, by omega, fun h => ?_⟩
    · by_cases q : J = c
      · subst q
        rw [pc, kc]
        exact v2
      · rw [po J q]
        exact hn J hJ
    · refine c3_congr (x := fun J => wX (kqF cb kd J) (va_up n c w J)) (y := fun J => gX mk st J (n J)) hcb (fun J hJ => ?_)
      show wX (kqF cb kd J) (va_up n c w J) = gX mk st J (n J)
      by_cases q : J = c
      · subst q
        rw [pc, kc, (gc _).1]
        exact ew
      · rw [po J q, (go J hJ q _).1]
    · rw [pc]
      exact u3.mp (by omega)
  have bwd : ∀ n : Nat → Nat, (∀ J, J < 3 → n J < mX (kqF cb kd J)) → (bX (kd c) (n c)).testBit t = true → ∃ p : Nat → Nat, (∀ J, J < 3 → p J < mX (kqF cb kd J)) ∧ c3N cb f (gX mk st 0 (p 0)) (gX mk st 1 (p 1)) (gX mk st 2 (p 2)) = CN cb kd f (n 0) (n 1) (n 2) ∧ eT cb mk st 0 (p 0) + eT cb mk st 1 (p 1) + eT cb mk st 2 (p 2) + 1 = TN cb kd (n 0) (n 1) (n 2) := fun n hn hbit => by
    have hnc : n c < mX (kd c) := by rw [← kc]; exact hn c hc3
    obtain ⟨-, u1, u2, u3⟩ := tv (n c) (by omega) hnc
    obtain ⟨w, hw⟩ : ∃ w, w = idx (LT (kd c) t).1 (wX (kd c) (n c)) := ⟨_, rfl⟩
    rw [← hw] at u1 u2 u3
    have ew : (LT (kd c) t).1.getD w 0 = wX (kd c) (n c) := by
      rw [hw]
      exact idx_eq _ _ (by rw [← hw, tl]; exact u1)
    have e3 := u3.mpr hbit
    have pc : va_up n c w c = w := if_pos rfl
    have po : ∀ J, ¬ J = c → va_up n c w J = n J := fun J h => if_neg h
    have hs := sum3_c (g := fun J => eT cb mk st J (va_up n c w J)) (h := fun J => dX (kqF cb kd J) (n J)) hc3 (fun J hJ h => by
      show eT cb mk st J (va_up n c w J) = dX (kqF cb kd J) (n J)
      rw [po J h, eo J hJ h (n J) (hn J hJ)])
    have hs : eT cb mk st 0 (va_up n c w 0) + eT cb mk st 1 (va_up n c w 1) + eT cb mk st 2 (va_up n c w 2) + dX (kqF cb kd c) (n c) = TN cb kd (n 0) (n 1) (n 2) + eT cb mk st c (va_up n c w c) := hs
    rw [pc, kc, ec] at hs
    refine ⟨va_up n c w, fun J hJ => ?_, ?_, by omega⟩
    · by_cases q : J = c
      · subst q
        rw [pc, kc]
        exact u1
      · rw [po J q]
        exact hn J hJ
    · refine c3_congr (x := fun J => gX mk st J (va_up n c w J)) (y := fun J => wX (kqF cb kd J) (n J)) hcb (fun J hJ => ?_)
      show gX mk st J (va_up n c w J) = wX (kqF cb kd J) (n J)
      by_cases q : J = c
      · subst q
        rw [pc, kc, (gc _).1]
        exact ew
      · rw [po J q, (go J hJ q _).1]
  have low : E - 1 ≤ L := by
    rcases l4 with l4 | ⟨n, hn, hz, e⟩
    · omega
    · obtain ⟨p, p1, p2, p3, -⟩ := fwd n hn
      have := hmin p p1 (p2.trans hz)
      omega
  have hsub : nI E - 1 = nI (E - 1) := by
    rw [show nI E = nI (E - 1) + 1 by rw [nI_ad1]; exact congrArg nI (by omega), Int32.add_sub_cancel]
  rw [l1, hsub]
  constructor
  · intro h
    have hL : L = E - 1 := (nI_eq (by omega) (by omega)).mp h
    rcases l4 with l4 | ⟨n, hn, hz, e⟩
    · omega
    · obtain ⟨p, p1, p2, p3, p4⟩ := fwd n hn
      have h9 := hmin p p1 (p2.trans hz)
      exact ⟨p, p1, p2.trans hz, by omega, p4 (by omega)⟩
  · rintro ⟨n, hn, hz, hT, hb⟩
    obtain ⟨p, p1, p2, p3⟩ := bwd n hn hb
    have h9 := l3 p p1 (p2.trans hz)
    exact congrArg nI (by omega)
-- bits of the first turns
theorem FN_bit {cb : Nat} {kd : Nat → Nat} (hkd : ∀ i, kd i < 5) {c t : Nat} (hc : c < 3) (ht : t < 4) (n : Nat → Nat) : (FN cb kd (n 0) (n 1) (n 2)).testBit (4 * c + t) = (bX (kqF cb kd c) (n c)).testBit t := by
  have h16 : ∀ k i, k < 5 → ∀ b, 4 ≤ b → (bX k i).testBit b = false := fun k i hk b hb => Nat.testBit_lt_two_pow (Nat.lt_of_lt_of_le (bX_lt hk i) (Nat.pow_le_pow_right (n := 2) (by decide) hb))
  have k0 := kq5 (sz := cb) hkd 0
  have k1 := kq5 (sz := cb) hkd 1
  have k2 := kq5 (sz := cb) hkd 2
  unfold FN
  rw [Nat.testBit_or, Nat.testBit_or, Nat.testBit_shiftLeft, Nat.testBit_shiftLeft]
  rcases (show c = 0 ∨ c = 1 ∨ c = 2 by omega) with rfl | rfl | rfl
  · rw [show 4 * 0 + t = t by omega, decide_eq_false (show ¬ t ≥ 4 by omega), decide_eq_false (show ¬ t ≥ 8 by omega)]
    simp
  · rw [h16 _ (n 0) k0 (4 * 1 + t) (by omega), decide_eq_true (show 4 * 1 + t ≥ 4 by omega), decide_eq_false (show ¬ 4 * 1 + t ≥ 8 by omega), show 4 * 1 + t - 4 = t by omega]
    simp
  · rw [h16 _ (n 0) k0 (4 * 2 + t) (by omega), h16 _ (n 1) k1 (4 * 2 + t - 4) (by omega), decide_eq_true (show 4 * 2 + t ≥ 8 by omega), show 4 * 2 + t - 8 = t by omega]
    simp
def lowB (B : Nat) : Nat := if B.testBit 0 then 0 else if B.testBit 1 then 1 else if B.testBit 2 then 2 else if B.testBit 3 then 3 else if B.testBit 4 then 4 else if B.testBit 5 then 5 else if B.testBit 6 then 6 else if B.testBit 7 then 7 else if B.testBit 8 then 8 else if B.testBit 9 then 9 else if B.testBit 10 then 10 else 11
theorem ft_tab0 : ∀ h, h < 64 → ∀ l, l < 64 → ¬ 64 * h + l = 0 → ftF (nI (64 * h + l)) = nI (10 * (lowB (64 * h + l) / 4) + lowB (64 * h + l) % 4) := by decide +kernel
theorem low_tab0 : ∀ h, h < 64 → ∀ l, l < 64 → ¬ 64 * h + l = 0 → lowB (64 * h + l) < 12 ∧ (64 * h + l).testBit (lowB (64 * h + l)) = true ∧ ∀ j, j < 12 → j < lowB (64 * h + l) → (64 * h + l).testBit j = false := by decide +kernel
theorem ft_tab {B : Nat} (hB : B < 4096) (h0 : ¬ B = 0) : ftF (nI B) = nI (10 * (lowB B / 4) + lowB B % 4) := by
  have h := ft_tab0 (B / 64) (by omega) (B % 64) (by omega)
  rw [show 64 * (B / 64) + B % 64 = B by omega] at h
  exact h h0
theorem low_tab {B : Nat} (hB : B < 4096) (h0 : ¬ B = 0) : lowB B < 12 ∧ B.testBit (lowB B) = true ∧ ∀ j, j < 12 → j < lowB B → B.testBit j = false := by
  have h := low_tab0 (B / 64) (by omega) (B % 64) (by omega)
  rw [show 64 * (B / 64) + B % 64 = B by omega] at h
  exact h h0
theorem tab00 : ∀ k, k < 5 → ∀ w, w < 24 → ¬ (w < mX k ∧ dX k w = 0) ∨ bX k w = 0 := by decide +kernel
theorem tab0 : (∀ k, k < 5 → ∀ w, w < 24 → w < mX k → dX k w = 0 → bX k w = 0) ∧ bX 3 0 = 0 := ⟨fun k hk w hw h1 h2 => (tab00 k hk w hw).resolve_left (fun q => q ⟨h1, h2⟩), by decide +kernel⟩
theorem hit_bit {cb : Nat} {kd mk : Nat → Nat} {ml : Nat → Int32} {f : Nat → Nat → Int32} {E B i : Nat} (hcb : cb = 2 ∨ cb = 3) (hkd : ∀ i, kd i < 5) (hk : ∀ j, j < 3 → mk j = kd j) (hF : Fld ml f) (hO : Okf f) (hE : 1 ≤ E) (hE9 : E < 1000) (e4 : ∀ a b c, a < mX (kqF cb kd 0) ∧ b < mX (kqF cb kd 1) ∧ c < mX (kqF cb kd 2) → CN cb kd f a b c = 0 → E ≤ TN cb kd a b c) (e6 : ∀ k, k < 12 → (B.testBit k = true ↔ ∃ a b c, (a < mX (kqF cb kd 0) ∧ b < mX (kqF cb kd 1) ∧ c < mX (kqF cb kd 2)) ∧ CN cb kd f a b c = 0 ∧ TN cb kd a b c = E ∧ (FN cb kd a b c).testBit k = true)) (hi : i < 4 * cb) : HitM cb mk ml (nI E) i ↔ B.testBit i = true := by
  have hc : i / 4 < cb := by omega
  have hc3 : i / 4 < 3 := by omega
  have ht : i % 4 < 4 := Nat.mod_lt _ (by decide)
  have hi4 : 4 * (i / 4) + i % 4 = i := by omega
  have key : inT (kd (i / 4)) (i % 4) → ((fwM cb mk ml (upd (fun _ => 181896) (i / 4) (tuI (nI (mk (i / 4))) 181896 (i % 4))) = nI E - 1) ↔ B.testBit i = true) := fun hin => by
    rw [tt_main hcb hkd hk hF hO hc ht hin hE hE9 (fun n hn hz => e4 _ _ _ ⟨hn 0 (by decide), hn 1 (by decide), hn 2 (by decide)⟩ hz), e6 i (by omega)]
    constructor
    · rintro ⟨n, hn, hz, hT, hb⟩
      refine ⟨n 0, n 1, n 2, ⟨hn 0 (by decide), hn 1 (by decide), hn 2 (by decide)⟩, hz, hT, ?_⟩
      rw [← hi4, FN_bit hkd hc3 ht, kq_in hc]
      exact hb
    · rintro ⟨a, b, d, ⟨ha, hb, hd⟩, hz, hT, hbit⟩
      obtain ⟨n, rfl, rfl, rfl⟩ := n3 a b d
      refine ⟨n, fun J hJ => ?_, hz, hT, ?_⟩
      · rcases (show J = 0 ∨ J = 1 ∨ J = 2 by omega) with rfl | rfl | rfl
        · exact ha
        · exact hb
        · exact hd
      · rw [← hi4, FN_bit hkd hc3 ht, kq_in hc] at hbit
        exact hbit
  constructor
  · rintro ⟨h1, h2⟩
    rw [hk _ hc3] at h1
    exact (key h1).mp h2
  · intro h
    have hin : inT (kd (i / 4)) (i % 4) := by
      obtain ⟨a, b, d, ⟨ha, hb, hd⟩, hz, hT, hbit⟩ := (e6 i (by omega)).mp h
      obtain ⟨n, rfl, rfl, rfl⟩ := n3 a b d
      have hb2 : (FN cb kd (n 0) (n 1) (n 2)).testBit (4 * (i / 4) + i % 4) = true := by rw [hi4]; exact hbit
      rw [FN_bit hkd hc3 ht, kq_in hc] at hb2
      have hn : n (i / 4) < 24 := by
        have := (m_ok (cb := cb) hkd 0).2
        have := (m_ok (cb := cb) hkd 1).2
        have := (m_ok (cb := cb) hkd 2).2
        rcases (show i / 4 = 0 ∨ i / 4 = 1 ∨ i / 4 = 2 by omega) with q | q | q <;> rw [q] <;> omega
      exact tabB _ (hkd _) _ hn _ ht hb2
    exact ⟨by rw [hk _ hc3]; exact hin, (key hin).mpr h⟩
theorem B_zero {cb : Nat} {kd : Nat → Nat} {f : Nat → Nat → Int32} {E B : Nat} (hcb : cb = 2 ∨ cb = 3) (hkd : ∀ i, kd i < 5) (hB : B < 4096) (e6 : ∀ k, k < 12 → (B.testBit k = true ↔ ∃ a b c, (a < mX (kqF cb kd 0) ∧ b < mX (kqF cb kd 1) ∧ c < mX (kqF cb kd 2)) ∧ CN cb kd f a b c = 0 ∧ TN cb kd a b c = E ∧ (FN cb kd a b c).testBit k = true)) (h : E = 0 ∨ ∀ j, j < 4 * cb → ¬ B.testBit j = true) : B = 0 := by
  rcases Nat.eq_zero_or_pos B with q | q
  · exact q
  · exfalso
    obtain ⟨l1, l2, -⟩ := low_tab hB (by omega)
    obtain ⟨a, b, d, ⟨ha, hb, hd⟩, hz, hT, hbit⟩ := (e6 _ l1).mp l2
    obtain ⟨n, rfl, rfl, rfl⟩ := n3 a b d
    have hc3 : lowB B / 4 < 3 := by omega
    have ht : lowB B % 4 < 4 := Nat.mod_lt _ (by decide)
    have hi4 : 4 * (lowB B / 4) + lowB B % 4 = lowB B := by omega
    have hb2 : (FN cb kd (n 0) (n 1) (n 2)).testBit (4 * (lowB B / 4) + lowB B % 4) = true := by rw [hi4]; exact hbit
    rw [FN_bit hkd hc3 ht] at hb2
    have hn : n (lowB B / 4) < mX (kqF cb kd (lowB B / 4)) := by
      rcases (show lowB B / 4 = 0 ∨ lowB B / 4 = 1 ∨ lowB B / 4 = 2 by omega) with r | r | r <;> rw [r]
      · exact ha
      · exact hb
      · exact hd
    have hz0 : bX (kqF cb kd (lowB B / 4)) (n (lowB B / 4)) = 0 := by
      rcases h with h | h
      · refine tab0.1 _ (kq5 hkd _) _ (Nat.lt_of_lt_of_le hn (m_ok hkd _).2) hn ?_
        have hs : TN cb kd (n 0) (n 1) (n 2) = dX (kqF cb kd 0) (n 0) + dX (kqF cb kd 1) (n 1) + dX (kqF cb kd 2) (n 2) := rfl
        rcases (show lowB B / 4 = 0 ∨ lowB B / 4 = 1 ∨ lowB B / 4 = 2 by omega) with r | r | r <;> rw [r] <;> omega
      · have hge : 4 * cb ≤ lowB B := by
          rcases Nat.lt_or_ge (lowB B) (4 * cb) with r | r
          · exact absurd l2 (h _ r)
          · exact r
        obtain rfl : cb = 2 := by omega
        have r : lowB B / 4 = 2 := by omega
        rw [r, kq_2, m3_1.1] at hn
        rw [r, kq_2, show n 2 = 0 by omega]
        exact tab0.2
    rw [hz0, Nat.zero_testBit] at hb2
    exact absurd hb2 (by decide)
theorem turning_0 {z : Nat → Nat} {wf wg wh : Nat → Nat → Int32} {kd mk : Nat → Nat} {f : Nat → Nat → Int32} {q : Nat → Nat} {wv : Nat → Nat → Int32} {so le fe fi : Int32} {ml : Nat → Int32} {cb : Nat} (hw5 : ∀ k, k < 5 → WRel (z k) (wf k) (wg k) (wh k) (RT k)) (hcb : cb = 2 ∨ cb = 3) (hkd : ∀ i, kd i < 5) (hk : ∀ j, j < 3 → mk j = kd j) (hF : Fld ml f) (hO : Okf f) (hs : SvF z wf wg wh cb kd f q wv so le fe fi) : (so = 0 ∧ fwM cb mk ml (fun _ => 181896) = 1048576) ∨ (¬ so = 0 ∧ ∃ E B : Nat, E < 1000 ∧ fe = nI E ∧ fwM cb mk ml (fun _ => 181896) = nI E ∧ fi = nI B ∧ B < 4096 ∧ (E = 0 → B = 0) ∧ (1 ≤ E → (∀ i, i < 4 * cb → (HitM cb mk ml (nI E) i ↔ B.testBit i = true)) ∧ ((∀ j, j < 4 * cb → ¬ B.testBit j = true) → B = 0))) := by
  obtain ⟨⟨q1, q2⟩, -, q3⟩ := sv_QI hw5 hkd hcb hO hs
  obtain ⟨L, l1, l2, l3, l4⟩ := fw_0 hcb hkd hk hF hO
  have hS := S3_lt (sz := cb) hkd f
  have q1 : so = nI (S3 cb kd f) := q1
  by_cases h0 : S3 cb kd f = 0
  · refine Or.inl ⟨by rw [q1, h0]; rfl, ?_⟩
    rcases l4 with l4 | ⟨a, b, d, hr, hz, e⟩
    · rw [l1, l4]
      rfl
    · exact absurd hz (q2.mp h0 a b d hr)
  · have hso : ¬ so = 0 := fun r => h0 (nI_z (by omega) (by rw [← q1]; exact r))
    rcases q3 with q3 | ⟨E, B, e1, e2, e3, e4, e5, e6⟩
    · exact absurd q3 h0
    · obtain ⟨a, b, d, hr, hz, hT⟩ := e5
      have hT9 := TN_lt (sz := cb) hkd a b d
      have hLE : L ≤ E := by
        have := l3 a b d hr hz
        omega
      have hEL : L = E := by
        rcases l4 with l4 | ⟨a', b', d', hr', hz', e⟩
        · omega
        · have := e4 a' b' d' hr' hz'
          omega
      refine Or.inr ⟨hso, E, B, by omega, e1, by rw [l1, hEL], e2, e3, fun h => B_zero hcb hkd e3 e6 (Or.inl h), fun h1 => ⟨fun i hi => hit_bit hcb hkd hk hF hO h1 (by omega) e4 e6 hi, fun h => B_zero hcb hkd e3 e6 (Or.inr h)⟩⟩
