theorem lw_more {i L : Nat} (hL : L ≤ 2048) (hi : i ≤ L) (h : ¬ nI L - 4 < nI i) : i + 4 ≤ L := by
  rw [Int32.lt_iff_toInt_lt, Int32.toInt_sub, nI_toInt (n := L) (by omega), nI_toInt (n := i) (by omega), show (4 : Int32).toInt = 4 by decide, Int.bmod_def] at h
  omega
theorem up5 {k : Nat → Nat} (h : ∀ i, k i < 5) (j : Nat) {n : Nat} (hn : n < 5) : ∀ i, va_up k j n i < 5 := by
  intro i
  unfold va_up
  split
  · exact hn
  · exact h i
theorem fam_5 {α : Type} {P : α → Prop} {a0 a1 a2 a3 a4 : α} (h0 : P a0) (h1 : P a1) (h2 : P a2) (h3 : P a3) (h4 : P a4) : ∀ k : Nat, P (if k = 0 then a0 else if k = 1 then a1 else if k = 2 then a2 else if k = 3 then a3 else a4) := by
  intro k
  split
  · exact h0
  · split
    · exact h1
    · split
      · exact h2
      · split
        · exact h3
        · exact h4
theorem fits0 (p : Nat) : ¬ fitsI 0 p = 1 := by
  have h1 : kxI (nI 0) < 0 := by decide
  unfold fitsI
  rw [if_pos h1, if_neg (show ¬ (0 : Nat) = 44 by decide), if_neg (show ¬ (97 ≤ 0 ∧ 0 < 103) by decide)]
  split
  · split
    · decide
    · split <;> decide
  · decide
theorem am_lt {lt j : Nat} {pn : Nat → Nat} (h : j < lt) : amF lt pn j = pn j := by
  unfold amF
  rw [if_pos h]
theorem am_ge {lt j : Nat} {pn : Nat → Nat} (h : ¬ j < lt) : amF lt pn j = 0 := by
  unfold amF
  rw [if_neg h]
theorem cls_FM {lt k : Nat} {pn : Nat → Nat} (hk : k ≤ lt) (h1 : ∀ j, j < k → fitsI (pn j) j = 1) (h2 : k < lt → ¬ fitsI (pn k) k = 1) : FM (amF lt pn) k := by
  refine ⟨fun j hj => ?_, ?_⟩
  · rw [am_lt (by omega)]
    exact h1 j hj
  · by_cases h : k < lt
    · rw [am_lt h]
      exact h2 h
    · rw [am_ge h]
      exact fits0 k
theorem FM_ok {lt : Nat} {pn : Nat → Nat} (h : FM (amF lt pn) lt) : okP pn lt := fun j hj => by
  have h1 := h.1 j hj
  rw [am_lt hj] at h1
  exact h1
theorem let_same {cu rx rm : Int32} {lt l1 l2 : Nat} {pn m2 : Nat → Nat} {f1 : Nat → Int32} (hlt : lt ≤ 26) (hpn : ∀ j, pn j < 128) (h1 : (((cu < 32 ∨ ¬ cu ≤ 126) ∧ rx = -102 ∧ l1 = lt ∧ f1 = (fun j => nI (pn j))) ∨ (¬ (cu < 32 ∨ ¬ cu ≤ 126) ∧ lt = 26 ∧ rx = -104 ∧ l1 = lt ∧ f1 = (fun j => nI (pn j))) ∨ (¬ (cu < 32 ∨ ¬ cu ≤ 126) ∧ lt < 26 ∧ rx = nI (lt + 1) ∧ l1 = lt + 1 ∧ f1 = upd (fun j => nI (pn j)) lt cu))) (h2 : (((cu < 32 ∨ ¬ cu ≤ 126) ∧ rm = -102 ∧ l2 = lt ∧ m2 = pn) ∨ (¬ (cu < 32 ∨ ¬ cu ≤ 126) ∧ lt = 26 ∧ rm = -104 ∧ l2 = lt ∧ m2 = pn) ∨ (∃ n : Nat, n < 127 ∧ 32 ≤ n ∧ cu = nI n ∧ lt < 26 ∧ rm = nI (lt + 1) ∧ l2 = lt + 1 ∧ m2 = va_up pn lt n))) : rx = rm ∧ l1 = l2 ∧ f1 = (fun j => nI (m2 j)) ∧ l1 ≤ 26 ∧ ∀ j, m2 j < 128 := by
  have key : ∀ n : Nat, n < 127 → 32 ≤ n → cu = nI n → ¬ (cu < 32 ∨ ¬ cu ≤ 126) := fun n hn hg e => by
    rw [e]
    rintro (q | q)
    · exact absurd (show nI n < nI 32 from q) (nI_nlt hg (by omega))
    · exact q (show nI n ≤ nI 126 from nI_le (by omega) (by decide))
  rcases h1 with ⟨a1, a2, a3, a4⟩ | ⟨a1, a5, a2, a3, a4⟩ | ⟨a1, a5, a2, a3, a4⟩
  · rcases h2 with ⟨b1, b2, b3, b4⟩ | ⟨b1, b5, b2, b3, b4⟩ | ⟨n, n1, n2, n3, b5, b2, b3, b4⟩
    · exact ⟨a2.trans b2.symm, a3.trans b3.symm, by rw [a4, b4], by omega, by rw [b4]; exact hpn⟩
    · exact absurd a1 b1
    · exact absurd a1 (key n n1 n2 n3)
  · rcases h2 with ⟨b1, b2, b3, b4⟩ | ⟨b1, b5, b2, b3, b4⟩ | ⟨n, n1, n2, n3, b5, b2, b3, b4⟩
    · exact absurd b1 a1
    · exact ⟨a2.trans b2.symm, a3.trans b3.symm, by rw [a4, b4], by omega, by rw [b4]; exact hpn⟩
    · exact absurd a5 (by omega)
  · rcases h2 with ⟨b1, b2, b3, b4⟩ | ⟨b1, b5, b2, b3, b4⟩ | ⟨n, n1, n2, n3, b5, b2, b3, b4⟩
    · exact absurd b1 a1
    · exact absurd b5 (by omega)
    · refine ⟨a2.trans b2.symm, a3.trans b3.symm, ?_, by omega, ?_⟩
      · rw [a4, b4, n3]
        funext j
        unfold upd va_up
        split <;> rfl
      · rw [b4]
        intro j
        unfold va_up
        split
        · omega
        · exact hpn j
theorem tower_same {rx rm : Int32} {lt lx tr trx sz0 sz9 tn0 tn9 sn0 sn9 ks sz1 : Nat} {sd sdx : Int32} {so0 ox : Nat → Int32} {kd0 kx : Nat → Nat} {f0 fx : Nat → Nat → Int32} {pn : Nat → Nat} {cb cbx tu tux tw twx se sex plx : Nat} {mk mkx : Nat → Nat} {ml mlx : Nat → Int32} (h1 : ((¬ ((lt = 15 ∨ lt = 23) ∧ okP pn lt) ∧ rx = -103 ∧ lx = lt ∧ trx = tr ∧ sdx = sd ∧ sz9 = sz0 ∧ tn9 = tn0 ∧ sn9 = sn0 ∧ ox = so0 ∧ kx = kd0 ∧ fx = f0 ∧ ks = sz1) ∨ (okP pn lt ∧ ∃ z : Nat, (z = 2 ∨ z = 3) ∧ lt + 1 = 8 * z ∧ rx = nI z ∧ lx = 0 ∧ trx = tr + 1 ∧ sdx = 0 ∧ sz9 = z ∧ tn9 = 0 ∧ sn9 = 0 ∧ ox = (fun _ => 31) ∧ ks = 0 ∧ (∀ j, j < z → kx j = kn (pn (8 * j))) ∧ (∀ j, z ≤ j → kx j = kd0 j) ∧ (∀ j, j < z → ∀ i, i < 6 → fx j i = nI (pn (8 * j + 1 + i) - 97)) ∧ (∀ j, z ≤ j → fx j = f0 j)))) (h2 : ((rm = -103 ∧ cbx = cb ∧ tux = tu ∧ twx = tw ∧ sex = se ∧ plx = lt ∧ mkx = mk ∧ mlx = ml ∧ ∃ e : Nat, FM (amF lt pn) e ∧ ¬ ((e = 15 ∨ e = 23) ∧ e = lt)) ∨ (∃ z : Nat, (z = 2 ∨ z = 3) ∧ lt + 1 = 8 * z ∧ FM (amF lt pn) lt ∧ rm = nI z ∧ cbx = z ∧ tux = 0 ∧ twx = tw + 1 ∧ sex = 0 ∧ plx = 0 ∧ ∀ j, mkx j = mk j ∨ mkx j < 5))) : rx = rm ∧ lx = plx := by
  rcases h1 with ⟨n1, a1, a2, -⟩ | ⟨o1, z, hz, hl, a1, a2, -⟩
  · rcases h2 with ⟨b1, -, -, -, -, b2, -⟩ | ⟨z, hz, hl, hF, -⟩
    · exact ⟨a1.trans b1.symm, a2.trans b2.symm⟩
    · exact absurd ⟨by omega, FM_ok hF⟩ n1
  · have hF := cls_FM (Nat.le_refl lt) o1 (fun h => absurd h (Nat.lt_irrefl lt))
    rcases h2 with ⟨-, -, -, -, -, -, -, -, e, h3, h4⟩ | ⟨y, hy, hm, -, b1, -, -, -, -, b2, -⟩
    · have he := FM_one h3 hF
      exact absurd ⟨by omega, he⟩ h4
    · have hzy : z = y := by omega
      exact ⟨by rw [a1, b1, hzy], a2.trans b2.symm⟩
theorem tower_inv {rx rm : Int32} {lt lx tr trx sz0 sz9 tn0 tn9 sn0 sn9 ks sz1 : Nat} {sd sdx : Int32} {so0 ox : Nat → Int32} {kd0 kx : Nat → Nat} {f0 fx : Nat → Nat → Int32} {pn : Nat → Nat} (hlt : lt ≤ 26) (hsz0 : sz0 = 0 ∨ sz0 = 2 ∨ sz0 = 3) (hsz1 : sz1 = 0 ∨ sz1 = 2 ∨ sz1 = 3) (hkd0 : ∀ i, kd0 i < 5) (htn0 : tn0 ≤ 999) (hsn0 : sn0 ≤ 6) (h1 : ((¬ ((lt = 15 ∨ lt = 23) ∧ okP pn lt) ∧ rx = -103 ∧ lx = lt ∧ trx = tr ∧ sdx = sd ∧ sz9 = sz0 ∧ tn9 = tn0 ∧ sn9 = sn0 ∧ ox = so0 ∧ kx = kd0 ∧ fx = f0 ∧ ks = sz1) ∨ (okP pn lt ∧ ∃ z : Nat, (z = 2 ∨ z = 3) ∧ lt + 1 = 8 * z ∧ rx = nI z ∧ lx = 0 ∧ trx = tr + 1 ∧ sdx = 0 ∧ sz9 = z ∧ tn9 = 0 ∧ sn9 = 0 ∧ ox = (fun _ => 31) ∧ ks = 0 ∧ (∀ j, j < z → kx j = kn (pn (8 * j))) ∧ (∀ j, z ≤ j → kx j = kd0 j) ∧ (∀ j, j < z → ∀ i, i < 6 → fx j i = nI (pn (8 * j + 1 + i) - 97)) ∧ (∀ j, z ≤ j → fx j = f0 j)))) : lx ≤ 26 ∧ (sz9 = 0 ∨ sz9 = 2 ∨ sz9 = 3) ∧ (ks = 0 ∨ ks = 2 ∨ ks = 3) ∧ (∀ i, kx i < 5) ∧ tn9 ≤ 999 ∧ sn9 ≤ 6 := by
  rcases h1 with ⟨-, -, a2, -, -, a3, a4, a5, -, a6, -, a7⟩ | ⟨-, z, hz, -, -, a2, -, -, a3, a4, a5, -, a7, a8, a9, -⟩
  · exact ⟨by omega, by omega, by omega, by rw [a6]; exact hkd0, by omega, by omega⟩
  · refine ⟨by omega, by omega, by omega, fun i => ?_, by omega, by omega⟩
    by_cases hi : i < z
    · rw [a8 i hi]
      exact kn5 _
    · rw [a9 i (by omega)]
      exact hkd0 i
theorem tower_inm {rm : Int32} {lt : Nat} {pn : Nat → Nat} {cb cbx tu tux tw twx se sex plx : Nat} {mk mkx : Nat → Nat} {ml mlx : Nat → Int32} (hcb : cb = 0 ∨ cb = 2 ∨ cb = 3) (hmk : ∀ j, mk j < 5) (htu : tu ≤ 999) (hse : se ≤ 6) (h2 : ((rm = -103 ∧ cbx = cb ∧ tux = tu ∧ twx = tw ∧ sex = se ∧ plx = lt ∧ mkx = mk ∧ mlx = ml ∧ ∃ e : Nat, FM (amF lt pn) e ∧ ¬ ((e = 15 ∨ e = 23) ∧ e = lt)) ∨ (∃ z : Nat, (z = 2 ∨ z = 3) ∧ lt + 1 = 8 * z ∧ FM (amF lt pn) lt ∧ rm = nI z ∧ cbx = z ∧ tux = 0 ∧ twx = tw + 1 ∧ sex = 0 ∧ plx = 0 ∧ ∀ j, mkx j = mk j ∨ mkx j < 5))) : (cbx = 0 ∨ cbx = 2 ∨ cbx = 3) ∧ (∀ j, mkx j < 5) ∧ tux ≤ 999 ∧ sex ≤ 6 := by
  rcases h2 with ⟨-, a1, a2, -, a3, -, a4, -⟩ | ⟨z, hz, -, -, -, a1, a2, -, a3, -, a4⟩
  · exact ⟨by omega, by rw [a4]; exact hmk, by omega, by omega⟩
  · refine ⟨by omega, fun j => ?_, by omega, by omega⟩
    rcases a4 j with q | q
    · rw [q]
      exact hmk j
    · exact q
theorem cs22 {x : Int32} (h : ¬ (x.toInt < 0 ∨ 21 < x.toInt)) : x = 0 ∨ x = 1 ∨ x = 2 ∨ x = 3 ∨ x = 4 ∨ x = 5 ∨ x = 6 ∨ x = 7 ∨ x = 8 ∨ x = 9 ∨ x = 10 ∨ x = 11 ∨ x = 12 ∨ x = 13 ∨ x = 14 ∨ x = 15 ∨ x = 16 ∨ x = 17 ∨ x = 18 ∨ x = 19 ∨ x = 20 ∨ x = 21 := by
  have h1 : x.toInt = 0 ∨ x.toInt = 1 ∨ x.toInt = 2 ∨ x.toInt = 3 ∨ x.toInt = 4 ∨ x.toInt = 5 ∨ x.toInt = 6 ∨ x.toInt = 7 ∨ x.toInt = 8 ∨ x.toInt = 9 ∨ x.toInt = 10 ∨ x.toInt = 11 ∨ x.toInt = 12 ∨ x.toInt = 13 ∨ x.toInt = 14 ∨ x.toInt = 15 ∨ x.toInt = 16 ∨ x.toInt = 17 ∨ x.toInt = 18 ∨ x.toInt = 19 ∨ x.toInt = 20 ∨ x.toInt = 21 := by omega
  have k : ∀ y : Int32, x.toInt = y.toInt → x = y := fun y q => Int32.toInt_inj.mp q
  rcases h1 with q | q | q | q | q | q | q | q | q | q | q | q | q | q | q | q | q | q | q | q | q | q
  · exact Or.inl (k 0 q)
  · exact Or.inr (Or.inl (k 1 q))
  · exact Or.inr (Or.inr (Or.inl (k 2 q)))
  · exact Or.inr (Or.inr (Or.inr (Or.inl (k 3 q))))
  · exact Or.inr (Or.inr (Or.inr (Or.inr (Or.inl (k 4 q)))))
  · exact Or.inr (Or.inr (Or.inr (Or.inr (Or.inr (Or.inl (k 5 q))))))
  · exact Or.inr (Or.inr (Or.inr (Or.inr (Or.inr (Or.inr (Or.inl (k 6 q)))))))
  · exact Or.inr (Or.inr (Or.inr (Or.inr (Or.inr (Or.inr (Or.inr (Or.inl (k 7 q))))))))
  · exact Or.inr (Or.inr (Or.inr (Or.inr (Or.inr (Or.inr (Or.inr (Or.inr (Or.inl (k 8 q)))))))))
  · exact Or.inr (Or.inr (Or.inr (Or.inr (Or.inr (Or.inr (Or.inr (Or.inr (Or.inr (Or.inl (k 9 q))))))))))
  · exact Or.inr (Or.inr (Or.inr (Or.inr (Or.inr (Or.inr (Or.inr (Or.inr (Or.inr (Or.inr (Or.inl (k 10 q)))))))))))
  · exact Or.inr (Or.inr (Or.inr (Or.inr (Or.inr (Or.inr (Or.inr (Or.inr (Or.inr (Or.inr (Or.inr (Or.inl (k 11 q))))))))))))
  · exact Or.inr (Or.inr (Or.inr (Or.inr (Or.inr (Or.inr (Or.inr (Or.inr (Or.inr (Or.inr (Or.inr (Or.inr (Or.inl (k 12 q)))))))))))))
  · exact Or.inr (Or.inr (Or.inr (Or.inr (Or.inr (Or.inr (Or.inr (Or.inr (Or.inr (Or.inr (Or.inr (Or.inr (Or.inr (Or.inl (k 13 q))))))))))))))
  · exact Or.inr (Or.inr (Or.inr (Or.inr (Or.inr (Or.inr (Or.inr (Or.inr (Or.inr (Or.inr (Or.inr (Or.inr (Or.inr (Or.inr (Or.inl (k 14 q)))))))))))))))
  · exact Or.inr (Or.inr (Or.inr (Or.inr (Or.inr (Or.inr (Or.inr (Or.inr (Or.inr (Or.inr (Or.inr (Or.inr (Or.inr (Or.inr (Or.inr (Or.inl (k 15 q))))))))))))))))
  · exact Or.inr (Or.inr (Or.inr (Or.inr (Or.inr (Or.inr (Or.inr (Or.inr (Or.inr (Or.inr (Or.inr (Or.inr (Or.inr (Or.inr (Or.inr (Or.inr (Or.inl (k 16 q)))))))))))))))))
  · exact Or.inr (Or.inr (Or.inr (Or.inr (Or.inr (Or.inr (Or.inr (Or.inr (Or.inr (Or.inr (Or.inr (Or.inr (Or.inr (Or.inr (Or.inr (Or.inr (Or.inr (Or.inl (k 17 q))))))))))))))))))
  · exact Or.inr (Or.inr (Or.inr (Or.inr (Or.inr (Or.inr (Or.inr (Or.inr (Or.inr (Or.inr (Or.inr (Or.inr (Or.inr (Or.inr (Or.inr (Or.inr (Or.inr (Or.inr (Or.inl (k 18 q)))))))))))))))))))
  · exact Or.inr (Or.inr (Or.inr (Or.inr (Or.inr (Or.inr (Or.inr (Or.inr (Or.inr (Or.inr (Or.inr (Or.inr (Or.inr (Or.inr (Or.inr (Or.inr (Or.inr (Or.inr (Or.inr (Or.inl (k 19 q))))))))))))))))))))
  · exact Or.inr (Or.inr (Or.inr (Or.inr (Or.inr (Or.inr (Or.inr (Or.inr (Or.inr (Or.inr (Or.inr (Or.inr (Or.inr (Or.inr (Or.inr (Or.inr (Or.inr (Or.inr (Or.inr (Or.inr (Or.inl (k 20 q)))))))))))))))))))))
  · exact Or.inr (Or.inr (Or.inr (Or.inr (Or.inr (Or.inr (Or.inr (Or.inr (Or.inr (Or.inr (Or.inr (Or.inr (Or.inr (Or.inr (Or.inr (Or.inr (Or.inr (Or.inr (Or.inr (Or.inr (Or.inr (k 21 q)))))))))))))))))))))
