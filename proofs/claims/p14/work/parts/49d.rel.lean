def Rel (i sz0 tn0 sn0 rp tr cb tu se ak tw : Nat) (kd0 mk : Nat → Nat) (f0 : Nat → Nat → Int32) (ml : Nat → Int32) (sz1 tn1 sn1 : Nat) (ik : Int32) (kt ku ks : Nat) (kd1 kk : Nat → Nat) (f1 : Nat → Nat → Int32) (kl : Nat → Int32) : Prop := cb = sz0 ∧ tu = tn0 ∧ se = sn0 ∧ ak = rp ∧ tw = tr ∧ kt ≤ tr ∧ tr ≤ i ∧ (∀ j, j < 3 → mk j = kd0 j) ∧ Fld ml f0 ∧ Okf f0 ∧ ((sz1 = 0 ∧ (ik = 0 ∨ kt < tr)) ∨ (sz1 = sz0 ∧ ¬ sz1 = 0 ∧ ¬ ik = 0 ∧ kt = tr ∧ ku = tn1 ∧ ks = sn1 ∧ (∀ j, j < 3 → kk j = kd1 j) ∧ Fld kl f1 ∧ Okf f1))
theorem rngL {x : Int32} {N : Nat} (hN : N < 2 ^ 31) : (x < 0 ∨ ¬ x < nI N) ↔ ¬ ∃ n : Nat, n < N ∧ x = nI n := by
  constructor
  · rintro (q | q) ⟨n, hn, rfl⟩
    · exact nI_pos (by omega) q
    · exact q (nI_lt hn hN)
  · intro h
    by_cases q : x < 0
    · exact Or.inl q
    · exact Or.inr (fun q2 => h (i32n hN q q2))
theorem rngE {x : Int32} {N : Nat} (hN : N + 1 < 2 ^ 31) : (x < 0 ∨ ¬ x ≤ nI N) ↔ ¬ ∃ n : Nat, n < N + 1 ∧ x = nI n := by
  constructor
  · rintro (q | q) ⟨n, hn, rfl⟩
    · exact nI_pos (by omega) q
    · exact q (nI_le (by omega) (by omega))
  · intro h
    by_cases q : x < 0
    · exact Or.inl q
    · exact Or.inr (fun q2 => h (i32n hN q (Int32.lt_of_le_of_lt q2 (nI_lt (by omega) hN))))
theorem rngX {x : Int32} {N : Nat} (hN : N + 1 < 2 ^ 31) : (x < 0 ∨ ¬ x < nI (N + 1)) ↔ (x < 0 ∨ ¬ x ≤ nI N) := (rngL hN).trans (rngE hN).symm
theorem nI_i {a b : Nat} (ha : a < 2 ^ 31) (hb : b < 2 ^ 31) (h : nI a = nI b) : a = b := (nI_eq ha hb).mp h
theorem up_k {mk kd : Nat → Nat} {a x y : Nat} (hk : ∀ j, j < 3 → mk j = kd j) (e : x = y) : ∀ j, j < 3 → va_up mk a x j = va_up kd a y j := by
  intro j hj
  by_cases h : j = a
  · rw [show va_up mk a x j = x from if_pos h, show va_up kd a y j = y from if_pos h, e]
  · rw [show va_up mk a x j = mk j from if_neg h, show va_up kd a y j = kd j from if_neg h, hk j hj]
theorem Fld_up {ml : Nat → Int32} {f : Nat → Nat → Int32} {a : Nat} {l : Int32} {g : Nat → Int32} (hF : Fld ml f) (h : ∀ s, s < 6 → sdI l (nI s) = g s) : Fld (upd ml a l) (va_up f a g) := by
  intro j hj s hs
  by_cases e : j = a
  · rw [show upd ml a l j = l from if_pos e, show va_up f a g j = g from if_pos e]
    exact h s hs
  · rw [show upd ml a l j = ml j from if_neg e, show va_up f a g j = f j from if_neg e]
    exact hF j hj s hs
theorem Okf_up {f : Nat → Nat → Int32} {a : Nat} {g : Nat → Int32} (hO : Okf f) (h : ∀ s, s < 6 → okv (g s)) : Okf (va_up f a g) := by
  intro j hj s hs
  by_cases e : j = a
  · rw [show va_up f a g j = g from if_pos e]
    exact h s hs
  · rw [show va_up f a g j = f j from if_neg e]
    exact hO j hj s hs
theorem okv_nI {n : Nat} (h : n < 6) : okv (nI n) := ⟨nI_pos (by omega), show nI n < nI 6 from nI_lt h (by decide)⟩
theorem can_in : ∀ k, k < 5 → ∀ n, n < 4 → (canT k n ↔ inT k n) := by decide +kernel
theorem rel_mono {i : Nat} {sz0 : Nat} {tn0 : Nat} {sn0 : Nat} {rp : Nat} {tr : Nat} {cb : Nat} {tu : Nat} {se : Nat} {ak : Nat} {tw : Nat} {kd0 : Nat → Nat} {mk : Nat → Nat} {f0 : Nat → Nat → Int32} {ml : Nat → Int32} {sz1 : Nat} {tn1 : Nat} {sn1 : Nat} {ik : Int32} {kt : Nat} {ku : Nat} {ks : Nat} {kd1 : Nat → Nat} {kk : Nat → Nat} {f1 : Nat → Nat → Int32} {kl : Nat → Int32} (hR : Rel i sz0 tn0 sn0 rp tr cb tu se ak tw kd0 mk f0 ml sz1 tn1 sn1 ik kt ku ks kd1 kk f1 kl) : Rel (i + 4) sz0 tn0 sn0 rp tr cb tu se ak tw kd0 mk f0 ml sz1 tn1 sn1 ik kt ku ks kd1 kk f1 kl := by
  obtain ⟨rfl, rfl, rfl, rfl, rfl, hkt, htr, hk, hF, hO, hK⟩ := hR
  exact ⟨rfl, rfl, rfl, rfl, rfl, hkt, by omega, hk, hF, hO, hK⟩
theorem as_tab : ∀ a, a < 5 → ∀ n, n < 5 → ((fKK a >>> (nI n &&& 31)) &&& 1 = 1 ↔ (nI n = 0 ∨ nI a = nI n ∨ (nI n = 1 ∧ nI a = 4))) := by decide +kernel
theorem as_same {i : Nat} {sz0 : Nat} {tn0 : Nat} {sn0 : Nat} {rp : Nat} {tr : Nat} {cb : Nat} {tu : Nat} {se : Nat} {ak : Nat} {tw : Nat} {kd0 : Nat → Nat} {mk : Nat → Nat} {f0 : Nat → Nat → Int32} {ml : Nat → Int32} {sz1 : Nat} {tn1 : Nat} {sn1 : Nat} {ik : Int32} {kt : Nat} {ku : Nat} {ks : Nat} {kd1 : Nat → Nat} {kk : Nat → Nat} {f1 : Nat → Nat → Int32} {kl : Nat → Int32} {cu k rx rm : Int32} (hR : Rel i sz0 tn0 sn0 rp tr cb tu se ak tw kd0 mk f0 ml sz1 tn1 sn1 ik kt ku ks kd1 kk f1 kl) (hkd0 : ∀ i, kd0 i < 5) (h1 : rx = r_as sz0 kd0 cu k) (h2 : rm = m_as cb mk cu k) : rx = rm := by
  obtain ⟨rfl, rfl, rfl, rfl, rfl, hkt, htr, hk, hF, hO, hK⟩ := hR
  rw [h1, h2]
  unfold r_as m_as
  by_cases hc : hasC cb cu
  · rw [if_pos hc, if_pos hc]
    obtain ⟨j, hj, rfl⟩ := hs_n hc
    have X : (k < 0 ∨ ¬ k < 5) ↔ (k < 0 ∨ ¬ k ≤ 4) := rngX (N := 4) (by decide)
    by_cases hr : k < 0 ∨ ¬ k < 5
    · rw [if_pos hr, if_pos (X.mp hr)]
    · rw [if_neg hr, if_neg (show ¬ (k < 0 ∨ ¬ k ≤ 4) from fun q => hr (X.mpr q)), nI_clamp (n := j) (by omega), hk j hj]
      have hr2 : ¬ ¬ ∃ n : Nat, n < 5 ∧ k = nI n := fun q => hr ((rngL (N := 5) (by decide)).mpr q)
      obtain ⟨n, hn, rfl⟩ := Classical.not_not.mp hr2
      exact ifc (as_tab (kd0 j) (hkd0 j) n hn) (nI j) (-1)
  · rw [if_neg hc, if_neg hc]
theorem wall_same {i : Nat} {sz0 : Nat} {tn0 : Nat} {sn0 : Nat} {rp : Nat} {tr : Nat} {cb : Nat} {tu : Nat} {se : Nat} {ak : Nat} {tw : Nat} {kd0 : Nat → Nat} {mk : Nat → Nat} {f0 : Nat → Nat → Int32} {ml : Nat → Int32} {sz1 : Nat} {tn1 : Nat} {sn1 : Nat} {ik : Int32} {kt : Nat} {ku : Nat} {ks : Nat} {kd1 : Nat → Nat} {kk : Nat → Nat} {f1 : Nat → Nat → Int32} {kl : Nat → Int32} {w v rx rm : Int32} (hcb : cb = 0 ∨ cb = 2 ∨ cb = 3) (hR : Rel i sz0 tn0 sn0 rp tr cb tu se ak tw kd0 mk f0 ml sz1 tn1 sn1 ik kt ku ks kd1 kk f1 kl) (h1 : rx = r_wall sz0 f0 w v) (h2 : rm = m_wall cb ml w v) : rx = rm := by
  obtain ⟨rfl, rfl, rfl, rfl, rfl, hkt, htr, hk, hF, hO, hK⟩ := hR
  rw [h1, h2]
  unfold r_wall m_wall
  by_cases hz : cb = 0
  · rw [if_pos (Or.inr (Or.inr hz)), if_pos (Or.inl hz)]
  · have X : (w < 0 ∨ ¬ w < 4) ↔ (w < 0 ∨ ¬ w ≤ 3) := rngX (N := 3) (by decide)
    by_cases hw : w < 0 ∨ ¬ w < 4
    · rw [if_pos (show w < 0 ∨ ¬ w < 4 ∨ cb = 0 from hw.elim (fun q => Or.inl q) (fun q => Or.inr (Or.inl q))), if_pos (show cb = 0 ∨ (w < 0 ∨ ¬ w ≤ 3) from Or.inr (X.mp hw))]
    · rw [if_neg (show ¬ (w < 0 ∨ ¬ w < 4 ∨ cb = 0) from fun q => q.elim (fun q => hw (Or.inl q)) (fun q => q.elim (fun q => hw (Or.inr q)) hz)), if_neg (show ¬ (cb = 0 ∨ (w < 0 ∨ ¬ w ≤ 3)) from fun q => q.elim hz (fun q => hw (X.mpr q)))]
      have hr2 : ¬ ¬ ∃ n : Nat, n < 4 ∧ w = nI n := fun q => hw ((rngL (N := 4) (by decide)).mpr q)
      obtain ⟨n, hn, rfl⟩ := Classical.not_not.mp hr2
      rw [nI_clamp (n := n) (by omega), wn_0 (show cb = 2 ∨ cb = 3 by omega) hF hn v]
theorem count_same {i : Nat} {sz0 : Nat} {tn0 : Nat} {sn0 : Nat} {rp : Nat} {tr : Nat} {cb : Nat} {tu : Nat} {se : Nat} {ak : Nat} {tw : Nat} {kd0 : Nat → Nat} {mk : Nat → Nat} {f0 : Nat → Nat → Int32} {ml : Nat → Int32} {sz1 : Nat} {tn1 : Nat} {sn1 : Nat} {ik : Int32} {kt : Nat} {ku : Nat} {ks : Nat} {kd1 : Nat → Nat} {kk : Nat → Nat} {f1 : Nat → Nat → Int32} {kl : Nat → Int32} {lt : Nat} {w rx rm : Int32} (hcb : cb = 0 ∨ cb = 2 ∨ cb = 3) (hR : Rel i sz0 tn0 sn0 rp tr cb tu se ak tw kd0 mk f0 ml sz1 tn1 sn1 ik kt ku ks kd1 kk f1 kl) (h0 : (w.toInt < 0 ∨ 8 < w.toInt → rx = -102)) (h1 : (w = 0 → rx = nI sz0)) (h2 : (w = 1 → rx = nI (clAll sz0 (f0 0) (f0 1) (f0 2)))) (h3 : (w = 2 → rx = nI (gwAll sz0 (f0 0) (f0 1) (f0 2)))) (h4 : (w = 3 → rx = bcF (usAll sz0 (f0 0) (f0 1) (f0 2)))) (h5 : (w = 4 → rx = nI tn0)) (h6 : (w = 5 → rx = nI sn0)) (h7 : (w = 6 → rx = nI lt)) (h8 : (w = 7 → rx = nI tr)) (h9 : (w = 8 → rx = nI rp)) (m0 : (w.toInt < 0 ∨ 8 < w.toInt → rm = -102)) (m1 : (w = 0 → rm = nI cb)) (m2 : (w = 1 → rm = mcI cb ml)) (m3 : (w = 2 → rm = gwI cb ml)) (m4 : (w = 3 → rm = szI (muI cb ml))) (m5 : (w = 4 → rm = nI tu)) (m6 : (w = 5 → rm = nI se)) (m7 : (w = 6 → rm = nI lt)) (m8 : (w = 7 → rm = nI tw)) (m9 : (w = 8 → rm = nI ak)) : rx = rm := by
  obtain ⟨rfl, rfl, rfl, rfl, rfl, hkt, htr, hk, hF, hO, hK⟩ := hR
  by_cases ho : w.toInt < 0 ∨ 8 < w.toInt
  · rw [h0 ho, m0 ho]
  · rcases cs9 ho with e | e | e | e | e | e | e | e | e
    · rw [h1 e, m1 e]
    · rw [h2 e, m2 e, mc_cl hcb hF]
    · rw [h3 e, m3 e, gw_cl hcb hF]
    · rw [h4 e, m4 e, co_cl hcb hF hO]
    · rw [h5 e, m5 e]
    · rw [h6 e, m6 e]
    · rw [h7 e, m7 e]
    · rw [h8 e, m8 e]
    · rw [h9 e, m9 e]
theorem rel_turn {i : Nat} {sz0 : Nat} {tn0 : Nat} {sn0 : Nat} {rp : Nat} {tr : Nat} {cb : Nat} {tu : Nat} {se : Nat} {ak : Nat} {tw : Nat} {kd0 : Nat → Nat} {mk : Nat → Nat} {f0 : Nat → Nat → Int32} {ml : Nat → Int32} {sz1 : Nat} {tn1 : Nat} {sn1 : Nat} {ik : Int32} {kt : Nat} {ku : Nat} {ks : Nat} {kd1 : Nat → Nat} {kk : Nat → Nat} {f1 : Nat → Nat → Int32} {kl : Nat → Int32} {cu tI sd sx_ rx rm : Int32} {tx mtx : Nat} {fx : Nat → Nat → Int32} {mlx : Nat → Int32} (hcb : cb = 0 ∨ cb = 2 ∨ cb = 3) (hkd0 : ∀ i, kd0 i < 5) (hR : Rel i sz0 tn0 sn0 rp tr cb tu se ak tw kd0 mk f0 ml sz1 tn1 sn1 ik kt ku ks kd1 kk f1 kl) (h1 : ((¬ hasC sz0 cu ∧ rx = -101 ∧ tx = tn0 ∧ fx = f0 ∧ sx_ = sd) ∨ (hasC sz0 cu ∧ (tI < 0 ∨ ¬ tI < 4) ∧ rx = -102 ∧ tx = tn0 ∧ fx = f0 ∧ sx_ = sd) ∨ (∃ j n : Nat, cu = nI j ∧ j < 3 ∧ hasC sz0 cu ∧ tI = nI n ∧ n < 4 ∧ ((¬ canT (kd0 j) n ∧ rx = -103 ∧ tx = tn0 ∧ fx = f0 ∧ sx_ = sd) ∨ (canT (kd0 j) n ∧ 999 ≤ tn0 ∧ rx = -104 ∧ tx = tn0 ∧ fx = f0 ∧ sx_ = sd) ∨ (canT (kd0 j) n ∧ tn0 < 999 ∧ rx = nI (clAll sz0 (fx 0) (fx 1) (fx 2)) ∧ tx = tn0 + 1 ∧ fx = va_up f0 j (tr_f (nI (kd0 j)) n 0 (f0 j)) ∧ sx_ = 0))))) (h2 : ((¬ hasC cb cu ∧ rm = -101 ∧ mtx = tu ∧ mlx = ml) ∨ (hasC cb cu ∧ (tI < 0 ∨ ¬ tI ≤ 3) ∧ rm = -102 ∧ mtx = tu ∧ mlx = ml) ∨ (∃ j n : Nat, cu = nI j ∧ j < 3 ∧ hasC cb cu ∧ tI = nI n ∧ n < 4 ∧ ((¬ inT (mk j) n ∧ rm = -103 ∧ mtx = tu ∧ mlx = ml) ∨ (inT (mk j) n ∧ 999 ≤ tu ∧ rm = -104 ∧ mtx = tu ∧ mlx = ml) ∨ (inT (mk j) n ∧ tu < 999 ∧ rm = mcI cb mlx ∧ mtx = tu + 1 ∧ mlx = upd ml j (tuI (nI (mk j)) (ml j) n)))))) : rx = rm ∧ Rel (i + 4) sz0 tx sn0 rp tr cb mtx se ak tw kd0 mk fx mlx sz1 tn1 sn1 ik kt ku ks kd1 kk f1 kl := by
  obtain ⟨rfl, rfl, rfl, rfl, rfl, hkt, htr, hk, hF, hO, hK⟩ := hR
  rcases h1 with ⟨a1, a2, a3, a4, -⟩ | ⟨a1, a0, a2, a3, a4, -⟩ | ⟨j, n, ej, hj, a1, en, hn, h1⟩
  · rcases h2 with ⟨b1, b2, b3, b4⟩ | ⟨b1, b0, b2, b3, b4⟩ | ⟨j', n', ej', hj', b1, en', hn', h2⟩
    · rw [a3, a4, b3, b4]
      exact ⟨a2.trans b2.symm, rfl, rfl, rfl, rfl, rfl, hkt, by omega, hk, hF, hO, hK⟩
    · exact absurd b1 a1
    · exact absurd b1 a1
  · rcases h2 with ⟨b1, b2, b3, b4⟩ | ⟨b1, b0, b2, b3, b4⟩ | ⟨j', n', ej', hj', b1, en', hn', h2⟩
    · exact absurd a1 b1
    · rw [a3, a4, b3, b4]
      exact ⟨a2.trans b2.symm, rfl, rfl, rfl, rfl, rfl, hkt, by omega, hk, hF, hO, hK⟩
    · exact absurd ⟨n', hn', en'⟩ ((rngL (N := 4) (by decide)).mp a0)
  · rcases h2 with ⟨b1, b2, b3, b4⟩ | ⟨b1, b0, b2, b3, b4⟩ | ⟨j', n', ej', hj', b1, en', hn', h2⟩
    · exact absurd a1 b1
    · exact absurd ⟨n, hn, en⟩ ((rngE (N := 3) (by decide)).mp b0)
    · have e1 : j = j' := nI_i (by omega) (by omega) (ej.symm.trans ej')
      subst e1
      have e2 : n = n' := nI_i (by omega) (by omega) (en.symm.trans en')
      subst e2
      have hcan : canT (kd0 j) n ↔ inT (mk j) n := by
        rw [hk j hj]
        exact can_in _ (hkd0 j) n hn
      rcases h1 with ⟨c1, c2, c3, c4, -⟩ | ⟨c1, c0, c2, c3, c4, -⟩ | ⟨c1, c0, c2, c3, c4, -⟩
      · rcases h2 with ⟨d1, d2, d3, d4⟩ | ⟨d1, d0, d2, d3, d4⟩ | ⟨d1, d0, d2, d3, d4⟩
        · rw [c3, c4, d3, d4]
          exact ⟨c2.trans d2.symm, rfl, rfl, rfl, rfl, rfl, hkt, by omega, hk, hF, hO, hK⟩
        · exact absurd (hcan.mpr d1) c1
        · exact absurd (hcan.mpr d1) c1
      · rcases h2 with ⟨d1, d2, d3, d4⟩ | ⟨d1, d0, d2, d3, d4⟩ | ⟨d1, d0, d2, d3, d4⟩
        · exact absurd (hcan.mp c1) d1
        · rw [c3, c4, d3, d4]
          exact ⟨c2.trans d2.symm, rfl, rfl, rfl, rfl, rfl, hkt, by omega, hk, hF, hO, hK⟩
        · exact absurd c0 (by omega)
      · rcases h2 with ⟨d1, d2, d3, d4⟩ | ⟨d1, d0, d2, d3, d4⟩ | ⟨d1, d0, d2, d3, d4⟩
        · exact absurd (hcan.mp c1) d1
        · exact absurd d0 (by omega)
        · have hF2 : Fld mlx fx := by
            rw [c4, d4]
            refine Fld_up hF (fun s hs => ?_)
            rw [hk j hj, tu_f _ (hkd0 j) hn hs, tr_c _ (hkd0 j) hn hs]
            exact hF j hj _ (ts_eq _ (hkd0 j) n hn s hs).2
          have hO2 : Okf fx := by
            rw [c4]
            refine Okf_up hO (fun s hs => ?_)
            rw [tr_c _ (hkd0 j) hn hs]
            exact hO j hj _ (ts_eq _ (hkd0 j) n hn s hs).2
          refine ⟨?_, rfl, d3.trans c3.symm, rfl, rfl, rfl, hkt, by omega, hk, hF2, hO2, hK⟩
          rw [c2, d2, mc_cl hcb hF2]
theorem rel_paint {i : Nat} {sz0 : Nat} {tn0 : Nat} {sn0 : Nat} {rp : Nat} {tr : Nat} {cb : Nat} {tu : Nat} {se : Nat} {ak : Nat} {tw : Nat} {kd0 : Nat → Nat} {mk : Nat → Nat} {f0 : Nat → Nat → Int32} {ml : Nat → Int32} {sz1 : Nat} {tn1 : Nat} {sn1 : Nat} {ik : Int32} {kt : Nat} {ku : Nat} {ks : Nat} {kd1 : Nat → Nat} {kk : Nat → Nat} {f1 : Nat → Nat → Int32} {kl : Nat → Int32} {cu sI k sd sx_ rx rm : Int32} {fx : Nat → Nat → Int32} {mlx : Nat → Int32} (hR : Rel i sz0 tn0 sn0 rp tr cb tu se ak tw kd0 mk f0 ml sz1 tn1 sn1 ik kt ku ks kd1 kk f1 kl) (h1 : (((¬ hasC sz0 cu ∨ sI < 0 ∨ ¬ sI < 6) ∧ rx = -101 ∧ fx = f0 ∧ sx_ = sd) ∨ (¬ (¬ hasC sz0 cu ∨ sI < 0 ∨ ¬ sI < 6) ∧ (k < 0 ∨ ¬ k < 6) ∧ rx = -102 ∧ fx = f0 ∧ sx_ = sd) ∨ (∃ j i n : Nat, cu = nI j ∧ j < 3 ∧ hasC sz0 cu ∧ sI = nI i ∧ i < 6 ∧ k = nI n ∧ n < 6 ∧ rx = f0 j i ∧ fx = va_up f0 j (upd (f0 j) i (nI n)) ∧ sx_ = 0))) (h2 : (((¬ hasC cb cu ∨ sI < 0 ∨ ¬ sI ≤ 5) ∧ rm = -101 ∧ mlx = ml) ∨ (hasC cb cu ∧ ¬ (sI < 0 ∨ ¬ sI ≤ 5) ∧ (k < 0 ∨ ¬ k ≤ 5) ∧ rm = -102 ∧ mlx = ml) ∨ (∃ j i n : Nat, cu = nI j ∧ j < 3 ∧ hasC cb cu ∧ sI = nI i ∧ i < 6 ∧ k = nI n ∧ n < 6 ∧ rm = sdI (ml j) (nI i) ∧ mlx = upd ml j (paI (ml j) (nI i) (nI n))))) : rx = rm ∧ Rel (i + 4) sz0 tn0 sn0 rp tr cb tu se ak tw kd0 mk fx mlx sz1 tn1 sn1 ik kt ku ks kd1 kk f1 kl := by
  obtain ⟨rfl, rfl, rfl, rfl, rfl, hkt, htr, hk, hF, hO, hK⟩ := hR
  have X : ∀ x : Int32, (x < 0 ∨ ¬ x < 6) ↔ (x < 0 ∨ ¬ x ≤ 5) := fun x => rngX (N := 5) (by decide)
  have E : (¬ hasC cb cu ∨ sI < 0 ∨ ¬ sI < 6) ↔ (¬ hasC cb cu ∨ sI < 0 ∨ ¬ sI ≤ 5) := or_congr Iff.rfl (X sI)
  rcases h1 with ⟨a1, a2, a4, -⟩ | ⟨a1, a0, a2, a4, -⟩ | ⟨j, t, n, ej, hj, a1, et, ht, en, hn, a2, a4, -⟩
  · rcases h2 with ⟨b1, b2, b4⟩ | ⟨b1, b3, b0, b2, b4⟩ | ⟨j', t', n', ej', hj', b1, et', ht', en', hn', b2, b4⟩
    · rw [a4, b4]
      exact ⟨a2.trans b2.symm, rfl, rfl, rfl, rfl, rfl, hkt, by omega, hk, hF, hO, hK⟩
    · exact (E.mp a1).elim (fun q => absurd b1 q) (fun q => absurd q b3)
    · exact (E.mp a1).elim (fun q => absurd b1 q) (fun q => absurd ⟨t', ht', et'⟩ ((rngE (N := 5) (by decide)).mp q))
  · rcases h2 with ⟨b1, b2, b4⟩ | ⟨b1, b3, b0, b2, b4⟩ | ⟨j', t', n', ej', hj', b1, et', ht', en', hn', b2, b4⟩
    · exact absurd (E.mpr b1) a1
    · rw [a4, b4]
      exact ⟨a2.trans b2.symm, rfl, rfl, rfl, rfl, rfl, hkt, by omega, hk, hF, hO, hK⟩
    · exact absurd ⟨n', hn', en'⟩ ((rngL (N := 6) (by decide)).mp a0)
  · rcases h2 with ⟨b1, b2, b4⟩ | ⟨b1, b3, b0, b2, b4⟩ | ⟨j', t', n', ej', hj', b1, et', ht', en', hn', b2, b4⟩
    · exact b1.elim (fun q => absurd a1 q) (fun q => absurd ⟨t, ht, et⟩ ((rngE (N := 5) (by decide)).mp q))
    · exact absurd ⟨n, hn, en⟩ ((rngE (N := 5) (by decide)).mp b0)
    · have e1 : j = j' := nI_i (by omega) (by omega) (ej.symm.trans ej')
      subst e1
      have e2 : t = t' := nI_i (by omega) (by omega) (et.symm.trans et')
      subst e2
      have e3 : n = n' := nI_i (by omega) (by omega) (en.symm.trans en')
      subst e3
      have hF2 : Fld mlx fx := by
        rw [a4, b4]
        refine Fld_up hF (fun s hs => ?_)
        rw [pa_f _ ht (by omega) hs]
        by_cases q : s = t
        · rw [if_pos q, show upd (f0 j) t (nI n) s = nI n from if_pos q]
        · rw [if_neg q, show upd (f0 j) t (nI n) s = f0 j s from if_neg q]
          exact hF j hj s hs
      have hO2 : Okf fx := by
        rw [a4]
        refine Okf_up hO (fun s hs => ?_)
        by_cases q : s = t
        · rw [show upd (f0 j) t (nI n) s = nI n from if_pos q]
          exact okv_nI hn
        · rw [show upd (f0 j) t (nI n) s = f0 j s from if_neg q]
          exact hO j hj s hs
      exact ⟨by rw [a2, b2, hF j hj t ht], rfl, rfl, rfl, rfl, rfl, hkt, by omega, hk, hF2, hO2, hK⟩
theorem rel_swap {i : Nat} {sz0 : Nat} {tn0 : Nat} {sn0 : Nat} {rp : Nat} {tr : Nat} {cb : Nat} {tu : Nat} {se : Nat} {ak : Nat} {tw : Nat} {kd0 : Nat → Nat} {mk : Nat → Nat} {f0 : Nat → Nat → Int32} {ml : Nat → Int32} {sz1 : Nat} {tn1 : Nat} {sn1 : Nat} {ik : Int32} {kt : Nat} {ku : Nat} {ks : Nat} {kd1 : Nat → Nat} {kk : Nat → Nat} {f1 : Nat → Nat → Int32} {kl : Nat → Int32} {cu cv sd sx_ rx rm : Int32} {kx mkx : Nat → Nat} {so0 ox mlx : Nat → Int32} {fx : Nat → Nat → Int32} (hcb : cb = 0 ∨ cb = 2 ∨ cb = 3) (hR : Rel i sz0 tn0 sn0 rp tr cb tu se ak tw kd0 mk f0 ml sz1 tn1 sn1 ik kt ku ks kd1 kk f1 kl) (h1 : (((¬ hasC sz0 cu ∨ ¬ hasC sz0 cv ∨ cu = cv) ∧ rx = -101 ∧ kx = kd0 ∧ ox = so0 ∧ fx = f0 ∧ sx_ = sd) ∨ (¬ (¬ hasC sz0 cu ∨ ¬ hasC sz0 cv ∨ cu = cv) ∧ ∃ a b : Nat, cu = nI a ∧ a < 3 ∧ cv = nI b ∧ b < 3 ∧ rx = nI (clAll sz0 (fx 0) (fx 1) (fx 2)) ∧ kx = va_up (va_up kd0 a (kd0 b)) b (kd0 a) ∧ ox = va_up (va_up so0 a (so0 b)) b (so0 a) ∧ fx = va_up (va_up f0 a (f0 b)) b (f0 a) ∧ sx_ = 0))) (h2 : (((¬ hasC cb cu ∨ ¬ hasC cb cv ∨ cu = cv) ∧ rm = -101 ∧ mkx = mk ∧ mlx = ml) ∨ (∃ a b : Nat, cu = nI a ∧ a < 3 ∧ hasC cb cu ∧ cv = nI b ∧ b < 3 ∧ hasC cb cv ∧ ¬ cu = cv ∧ rm = mcI cb mlx ∧ mkx = va_up (va_up mk a (mk b)) b (mk a) ∧ mlx = upd (upd ml a (ml b)) b (ml a)))) : rx = rm ∧ Rel (i + 4) sz0 tn0 sn0 rp tr cb tu se ak tw kx mkx fx mlx sz1 tn1 sn1 ik kt ku ks kd1 kk f1 kl := by
  obtain ⟨rfl, rfl, rfl, rfl, rfl, hkt, htr, hk, hF, hO, hK⟩ := hR
  rcases h1 with ⟨a1, a2, a3, -, a4, -⟩ | ⟨a1, x, y, ex, hx, ey, hy, a2, a3, -, a4, -⟩
  · rcases h2 with ⟨b1, b2, b3, b4⟩ | ⟨x', y', ex', hx', b1, ey', hy', b0, b9, b2, b3, b4⟩
    · rw [a3, a4, b3, b4]
      exact ⟨a2.trans b2.symm, rfl, rfl, rfl, rfl, rfl, hkt, by omega, hk, hF, hO, hK⟩
    · exact a1.elim (fun q => absurd b1 q) (fun q => q.elim (fun q => absurd b0 q) (fun q => absurd q b9))
  · rcases h2 with ⟨b1, b2, b3, b4⟩ | ⟨x', y', ex', hx', b1, ey', hy', b0, b9, b2, b3, b4⟩
    · exact absurd b1 a1
    · have e1 : x = x' := nI_i (by omega) (by omega) (ex.symm.trans ex')
      subst e1
      have e2 : y = y' := nI_i (by omega) (by omega) (ey.symm.trans ey')
      subst e2
      have hF2 : Fld mlx fx := by
        rw [a4, b4]
        exact Fld_up (Fld_up hF (hF y hy)) (hF x hx)
      have hO2 : Okf fx := by
        rw [a4]
        exact Okf_up (Okf_up hO (hO y hy)) (hO x hx)
      have hk2 : ∀ j, j < 3 → mkx j = kx j := by
        rw [a3, b3]
        exact up_k (up_k hk (hk y hy)) (hk x hx)
      refine ⟨?_, rfl, rfl, rfl, rfl, rfl, hkt, by omega, hk2, hF2, hO2, hK⟩
      rw [a2, b2, mc_cl hcb hF2]
theorem rel_be {i : Nat} {sz0 : Nat} {tn0 : Nat} {sn0 : Nat} {rp : Nat} {tr : Nat} {cb : Nat} {tu : Nat} {se : Nat} {ak : Nat} {tw : Nat} {kd0 : Nat → Nat} {mk : Nat → Nat} {f0 : Nat → Nat → Int32} {ml : Nat → Int32} {sz1 : Nat} {tn1 : Nat} {sn1 : Nat} {ik : Int32} {kt : Nat} {ku : Nat} {ks : Nat} {kd1 : Nat → Nat} {kk : Nat → Nat} {f1 : Nat → Nat → Int32} {kl : Nat → Int32} {cu k sd sx_ rx rm : Int32} {kx mkx : Nat → Nat} (hR : Rel i sz0 tn0 sn0 rp tr cb tu se ak tw kd0 mk f0 ml sz1 tn1 sn1 ik kt ku ks kd1 kk f1 kl) (h1 : ((¬ hasC sz0 cu ∧ rx = -101 ∧ kx = kd0 ∧ sx_ = sd) ∨ (hasC sz0 cu ∧ (k < 0 ∨ ¬ k < 5) ∧ rx = -102 ∧ kx = kd0 ∧ sx_ = sd) ∨ (hasC sz0 cu ∧ ∃ j n : Nat, cu = nI j ∧ j < 3 ∧ k = nI n ∧ n < 5 ∧ rx = nI (kd0 j) ∧ kx = va_up kd0 j n ∧ sx_ = 0))) (h2 : ((¬ hasC cb cu ∧ rm = -101 ∧ mkx = mk) ∨ (hasC cb cu ∧ (k < 0 ∨ ¬ k ≤ 4) ∧ rm = -102 ∧ mkx = mk) ∨ (∃ j n : Nat, cu = nI j ∧ j < 3 ∧ hasC cb cu ∧ k = nI n ∧ n < 5 ∧ rm = nI (mk j) ∧ mkx = va_up mk j n))) : rx = rm ∧ Rel (i + 4) sz0 tn0 sn0 rp tr cb tu se ak tw kx mkx f0 ml sz1 tn1 sn1 ik kt ku ks kd1 kk f1 kl := by
  obtain ⟨rfl, rfl, rfl, rfl, rfl, hkt, htr, hk, hF, hO, hK⟩ := hR
  rcases h1 with ⟨a1, a2, a3, -⟩ | ⟨a1, a0, a2, a3, -⟩ | ⟨a1, j, n, ej, hj, en, hn, a2, a3, -⟩
  · rcases h2 with ⟨b1, b2, b3⟩ | ⟨b1, b0, b2, b3⟩ | ⟨j', n', ej', hj', b1, en', hn', b2, b3⟩
    · rw [a3, b3]
      exact ⟨a2.trans b2.symm, rfl, rfl, rfl, rfl, rfl, hkt, by omega, hk, hF, hO, hK⟩
    · exact absurd b1 a1
    · exact absurd b1 a1
  · rcases h2 with ⟨b1, b2, b3⟩ | ⟨b1, b0, b2, b3⟩ | ⟨j', n', ej', hj', b1, en', hn', b2, b3⟩
    · exact absurd a1 b1
    · rw [a3, b3]
      exact ⟨a2.trans b2.symm, rfl, rfl, rfl, rfl, rfl, hkt, by omega, hk, hF, hO, hK⟩
    · exact absurd ⟨n', hn', en'⟩ ((rngL (N := 5) (by decide)).mp a0)
  · rcases h2 with ⟨b1, b2, b3⟩ | ⟨b1, b0, b2, b3⟩ | ⟨j', n', ej', hj', b1, en', hn', b2, b3⟩
    · exact absurd a1 b1
    · exact absurd ⟨n, hn, en⟩ ((rngE (N := 4) (by decide)).mp b0)
    · have e1 : j = j' := nI_i (by omega) (by omega) (ej.symm.trans ej')
      subst e1
      have e2 : n = n' := nI_i (by omega) (by omega) (en.symm.trans en')
      subst e2
      have hk2 : ∀ j, j < 3 → mkx j = kx j := by
        rw [a3, b3]
        exact up_k hk rfl
      exact ⟨by rw [a2, b2, hk j hj], rfl, rfl, rfl, rfl, rfl, hkt, by omega, hk2, hF, hO, hK⟩
theorem rel_see {i : Nat} {sz0 : Nat} {tn0 : Nat} {sn0 : Nat} {rp : Nat} {tr : Nat} {cb : Nat} {tu : Nat} {se : Nat} {ak : Nat} {tw : Nat} {kd0 : Nat → Nat} {mk : Nat → Nat} {f0 : Nat → Nat → Int32} {ml : Nat → Int32} {sz1 : Nat} {tn1 : Nat} {sn1 : Nat} {ik : Int32} {kt : Nat} {ku : Nat} {ks : Nat} {kd1 : Nat → Nat} {kk : Nat → Nat} {f1 : Nat → Nat → Int32} {kl : Nat → Int32} {cu wI rx rm : Int32} {nx s2 : Nat} {so0 ox : Nat → Int32} (hR : Rel i sz0 tn0 sn0 rp tr cb tu se ak tw kd0 mk f0 ml sz1 tn1 sn1 ik kt ku ks kd1 kk f1 kl) (h1 : ((¬ hasC sz0 cu ∧ rx = -101 ∧ nx = sn0 ∧ ox = so0) ∨ (hasC sz0 cu ∧ (wI < 0 ∨ ¬ wI < 3) ∧ rx = -102 ∧ nx = sn0 ∧ ox = so0) ∨ (hasC sz0 cu ∧ ¬ (wI < 0 ∨ ¬ wI < 3) ∧ 6 ≤ sn0 ∧ rx = -104 ∧ nx = sn0 ∧ ox = so0) ∨ (hasC sz0 cu ∧ ¬ (wI < 0 ∨ ¬ wI < 3) ∧ sn0 < 6 ∧ rx = nI (sn0 + 1) ∧ nx = sn0 + 1))) (h2 : ((¬ hasC cb cu ∧ rm = -101 ∧ s2 = se) ∨ (hasC cb cu ∧ (wI < 0 ∨ ¬ wI ≤ 2) ∧ rm = -102 ∧ s2 = se) ∨ (hasC cb cu ∧ ¬ (wI < 0 ∨ ¬ wI ≤ 2) ∧ 6 ≤ se ∧ rm = -104 ∧ s2 = se) ∨ (hasC cb cu ∧ ¬ (wI < 0 ∨ ¬ wI ≤ 2) ∧ se < 6 ∧ rm = nI (se + 1) ∧ s2 = se + 1))) : rx = rm ∧ Rel (i + 4) sz0 tn0 nx rp tr cb tu s2 ak tw kd0 mk f0 ml sz1 tn1 sn1 ik kt ku ks kd1 kk f1 kl := by
  obtain ⟨rfl, rfl, rfl, rfl, rfl, hkt, htr, hk, hF, hO, hK⟩ := hR
  have X : (wI < 0 ∨ ¬ wI < 3) ↔ (wI < 0 ∨ ¬ wI ≤ 2) := rngX (N := 2) (by decide)
  rcases h1 with ⟨a1, a2, a3, -⟩ | ⟨a1, a0, a2, a3, -⟩ | ⟨a1, a0, a9, a2, a3, -⟩ | ⟨a1, a0, a9, a2, a3⟩
  · rcases h2 with ⟨b1, b2, b3⟩ | ⟨b1, b0, b2, b3⟩ | ⟨b1, b0, b9, b2, b3⟩ | ⟨b1, b0, b9, b2, b3⟩
    · exact ⟨a2.trans b2.symm, rfl, rfl, b3.trans a3.symm, rfl, rfl, hkt, by omega, hk, hF, hO, hK⟩
    · exact absurd b1 a1
    · exact absurd b1 a1
    · exact absurd b1 a1
  · rcases h2 with ⟨b1, b2, b3⟩ | ⟨b1, b0, b2, b3⟩ | ⟨b1, b0, b9, b2, b3⟩ | ⟨b1, b0, b9, b2, b3⟩
    · exact absurd a1 b1
    · exact ⟨a2.trans b2.symm, rfl, rfl, b3.trans a3.symm, rfl, rfl, hkt, by omega, hk, hF, hO, hK⟩
    · exact absurd (X.mp a0) b0
    · exact absurd (X.mp a0) b0
  · rcases h2 with ⟨b1, b2, b3⟩ | ⟨b1, b0, b2, b3⟩ | ⟨b1, b0, b9, b2, b3⟩ | ⟨b1, b0, b9, b2, b3⟩
    · exact absurd a1 b1
    · exact absurd (X.mpr b0) a0
    · exact ⟨a2.trans b2.symm, rfl, rfl, b3.trans a3.symm, rfl, rfl, hkt, by omega, hk, hF, hO, hK⟩
    · exact absurd a9 (by omega)
  · rcases h2 with ⟨b1, b2, b3⟩ | ⟨b1, b0, b2, b3⟩ | ⟨b1, b0, b9, b2, b3⟩ | ⟨b1, b0, b9, b2, b3⟩
    · exact absurd a1 b1
    · exact absurd (X.mpr b0) a0
    · exact absurd b9 (by omega)
    · exact ⟨a2.trans b2.symm, rfl, rfl, b3.trans a3.symm, rfl, rfl, hkt, by omega, hk, hF, hO, hK⟩
theorem rel_forget {i : Nat} {sz0 : Nat} {tn0 : Nat} {sn0 : Nat} {rp : Nat} {tr : Nat} {cb : Nat} {tu : Nat} {se : Nat} {ak : Nat} {tw : Nat} {kd0 : Nat → Nat} {mk : Nat → Nat} {f0 : Nat → Nat → Int32} {ml : Nat → Int32} {sz1 : Nat} {tn1 : Nat} {sn1 : Nat} {ik : Int32} {kt : Nat} {ku : Nat} {ks : Nat} {kd1 : Nat → Nat} {kk : Nat → Nat} {f1 : Nat → Nat → Int32} {kl : Nat → Int32} {rx rm : Int32} (hR : Rel i sz0 tn0 sn0 rp tr cb tu se ak tw kd0 mk f0 ml sz1 tn1 sn1 ik kt ku ks kd1 kk f1 kl) (h1 : rx = nI sn0) (h2 : rm = nI se) : rx = rm ∧ Rel (i + 4) sz0 tn0 0 rp tr cb tu 0 ak tw kd0 mk f0 ml sz1 tn1 sn1 ik kt ku ks kd1 kk f1 kl := by
  obtain ⟨rfl, rfl, rfl, rfl, rfl, hkt, htr, hk, hF, hO, hK⟩ := hR
  exact ⟨h1.trans h2.symm, rfl, rfl, rfl, rfl, rfl, hkt, by omega, hk, hF, hO, hK⟩
theorem rel_repaint {i : Nat} {sz0 : Nat} {tn0 : Nat} {sn0 : Nat} {rp : Nat} {tr : Nat} {cb : Nat} {tu : Nat} {se : Nat} {ak : Nat} {tw : Nat} {kd0 : Nat → Nat} {mk : Nat → Nat} {f0 : Nat → Nat → Int32} {ml : Nat → Int32} {sz1 : Nat} {tn1 : Nat} {sn1 : Nat} {ik : Int32} {kt : Nat} {ku : Nat} {ks : Nat} {kd1 : Nat → Nat} {kk : Nat → Nat} {f1 : Nat → Nat → Int32} {kl : Nat → Int32} {rx rm : Int32} {rp2 akx : Nat} (hrp : rp ≤ 10) (hR : Rel i sz0 tn0 sn0 rp tr cb tu se ak tw kd0 mk f0 ml sz1 tn1 sn1 ik kt ku ks kd1 kk f1 kl) (h1 : ((sz0 = 0 ∨ 10 ≤ rp) ∧ rx = -103 ∧ rp2 = rp ∨ ¬ sz0 = 0 ∧ rp < 10 ∧ rp2 = rp + 1)) (h2 : ((akx = ak ∧ rm = -103 ∧ (cb = 0 ∨ ak = 10)) ∨ (akx = ak + 1 ∧ ¬ cb = 0 ∧ ak < 10))) : Rel (i + 4) sz0 tn0 sn0 rp2 tr cb tu se akx tw kd0 mk f0 ml sz1 tn1 sn1 ik kt ku ks kd1 kk f1 kl := by
  obtain ⟨rfl, rfl, rfl, rfl, rfl, hkt, htr, hk, hF, hO, hK⟩ := hR
  have e : akx = rp2 := by
    rcases h1 with ⟨a1, -, a2⟩ | ⟨a0, a1, a2⟩ <;> rcases h2 with ⟨b1, -, b2⟩ | ⟨b1, b0, b2⟩ <;> omega
  exact ⟨rfl, rfl, rfl, e, rfl, hkt, by omega, hk, hF, hO, hK⟩
theorem rel_image {i : Nat} {sz0 : Nat} {tn0 : Nat} {sn0 : Nat} {rp : Nat} {tr : Nat} {cb : Nat} {tu : Nat} {se : Nat} {ak : Nat} {tw : Nat} {kd0 : Nat → Nat} {mk : Nat → Nat} {f0 : Nat → Nat → Int32} {ml : Nat → Int32} {sz1 : Nat} {tn1 : Nat} {sn1 : Nat} {ik : Int32} {kt : Nat} {ku : Nat} {ks : Nat} {kd1 : Nat → Nat} {kk : Nat → Nat} {f1 : Nat → Nat → Int32} {kl : Nat → Int32} {ix rx rm : Int32} {sz9 tn9 sn9 tx ux vx : Nat} {kx mkx : Nat → Nat} {so0 so1 ox mlx : Nat → Int32} {fx : Nat → Nat → Int32} (hR : Rel i sz0 tn0 sn0 rp tr cb tu se ak tw kd0 mk f0 ml sz1 tn1 sn1 ik kt ku ks kd1 kk f1 kl) (h1 : ((sz0 = 0 ∧ rx = -103 ∧ sz9 = sz1 ∧ tn9 = tn1 ∧ sn9 = sn1 ∧ kx = kd1 ∧ ox = so1 ∧ fx = f1) ∨ (¬ sz0 = 0 ∧ rx = nI tn0 ∧ sz9 = sz0 ∧ tn9 = tn0 ∧ sn9 = sn0 ∧ kx = kd0 ∧ ox = so0 ∧ ∀ k, k < 3 → ∀ j, j < 6 → fx k j = f0 k j))) (h2 : ((cb = 0 ∧ rm = -103 ∧ ix = ik ∧ tx = kt ∧ ux = ku ∧ vx = ks ∧ mkx = kk ∧ mlx = kl) ∨ (¬ cb = 0 ∧ rm = nI tu ∧ ix = 1 ∧ tx = tw ∧ ux = tu ∧ vx = se ∧ mkx = va_up (va_up (va_up kk 0 (mk 0)) 1 (mk 1)) 2 (mk 2) ∧ mlx = upd (upd (upd kl 0 (ml 0)) 1 (ml 1)) 2 (ml 2)))) : rx = rm ∧ Rel (i + 4) sz0 tn0 sn0 rp tr cb tu se ak tw kd0 mk f0 ml sz9 tn9 sn9 ix tx ux vx kx mkx fx mlx := by
  obtain ⟨rfl, rfl, rfl, rfl, rfl, hkt, htr, hk, hF, hO, hK⟩ := hR
  rcases h1 with ⟨a1, a2, a3, a4, a5, a6, -, a7⟩ | ⟨a1, a2, a3, a4, a5, a6, -, a7⟩
  · rcases h2 with ⟨b1, b2, b3, b4, b5, b6, b7, b8⟩ | ⟨b1, b2, b3, b4, b5, b6, b7, b8⟩
    · rw [a3, a4, a5, a6, a7, b3, b4, b5, b6, b7, b8]
      exact ⟨a2.trans b2.symm, rfl, rfl, rfl, rfl, rfl, hkt, by omega, hk, hF, hO, hK⟩
    · exact absurd a1 b1
  · rcases h2 with ⟨b1, b2, b3, b4, b5, b6, b7, b8⟩ | ⟨b1, b2, b3, b4, b5, b6, b7, b8⟩
    · exact absurd b1 a1
    · have hF2 : Fld mlx fx := by
        intro j hj s hs
        rw [a7 j hj s hs, b8, ← hF j hj s hs]
        rcases j3 hj with rfl | rfl | rfl <;> rfl
      have hO2 : Okf fx := by
        intro j hj s hs
        rw [a7 j hj s hs]
        exact hO j hj s hs
      have hk2 : ∀ j, j < 3 → mkx j = kx j := by
        intro j hj
        rw [a6, b7, ← hk j hj]
        rcases j3 hj with rfl | rfl | rfl <;> rfl
      exact ⟨a2.trans b2.symm, rfl, rfl, rfl, rfl, rfl, by omega, by omega, hk, hF, hO, Or.inr ⟨a3, by omega, by rw [b3]; decide, b4, b5.trans a4.symm, b6.trans a5.symm, hk2, hF2, hO2⟩⟩
theorem rel_restore {i : Nat} {sz0 : Nat} {tn0 : Nat} {sn0 : Nat} {rp : Nat} {tr : Nat} {cb : Nat} {tu : Nat} {se : Nat} {ak : Nat} {tw : Nat} {kd0 : Nat → Nat} {mk : Nat → Nat} {f0 : Nat → Nat → Int32} {ml : Nat → Int32} {sz1 : Nat} {tn1 : Nat} {sn1 : Nat} {ik : Int32} {kt : Nat} {ku : Nat} {ks : Nat} {kd1 : Nat → Nat} {kk : Nat → Nat} {f1 : Nat → Nat → Int32} {kl : Nat → Int32} {sd sdx rx rm : Int32} {sz9 tn9 sn9 ux vx : Nat} {kx mkx : Nat → Nat} {so0 so1 ox mlx : Nat → Int32} {fx : Nat → Nat → Int32} (hi : i ≤ 2048) (hR : Rel i sz0 tn0 sn0 rp tr cb tu se ak tw kd0 mk f0 ml sz1 tn1 sn1 ik kt ku ks kd1 kk f1 kl) (h1 : ((sz1 = 0 ∧ rx = -103 ∧ sdx = sd ∧ sz9 = sz0 ∧ tn9 = tn0 ∧ sn9 = sn0 ∧ kx = kd0 ∧ ox = so0 ∧ fx = f0) ∨ (¬ sz1 = 0 ∧ rx = nI tn1 ∧ sdx = 0 ∧ sz9 = sz1 ∧ tn9 = tn1 ∧ sn9 = sn1 ∧ kx = kd1 ∧ ox = so1 ∧ ∀ k, k < 3 → ∀ j, j < 6 → fx k j = f1 k j))) (h2 : (((ik = 0 ∨ ¬ nI kt = nI tw) ∧ rm = -103 ∧ ux = tu ∧ vx = se ∧ mkx = mk ∧ mlx = ml) ∨ (¬ ik = 0 ∧ nI kt = nI tw ∧ rm = nI ku ∧ ux = ku ∧ vx = ks ∧ mkx = va_up (va_up (va_up mk 0 (kk 0)) 1 (kk 1)) 2 (kk 2) ∧ mlx = upd (upd (upd ml 0 (kl 0)) 1 (kl 1)) 2 (kl 2)))) : rx = rm ∧ Rel (i + 4) sz9 tn9 sn9 rp tr cb ux vx ak tw kx mkx fx mlx sz1 tn1 sn1 ik kt ku ks kd1 kk f1 kl := by
  obtain ⟨rfl, rfl, rfl, rfl, rfl, hkt, htr, hk, hF, hO, hK⟩ := hR
  have hn : nI kt = nI tw ↔ kt = tw := nI_eq (by omega) (by omega)
  rcases h1 with ⟨a1, a2, -, a3, a4, a5, a6, -, a7⟩ | ⟨a1, a2, -, a3, a4, a5, a6, -, a7⟩
  · rcases h2 with ⟨b1, b2, b3, b4, b5, b6⟩ | ⟨b1, b9, b2, b3, b4, b5, b6⟩
    · rw [a3, a4, a5, a6, a7, b3, b4, b5, b6]
      exact ⟨a2.trans b2.symm, rfl, rfl, rfl, rfl, rfl, hkt, by omega, hk, hF, hO, hK⟩
    · have h9 := hn.mp b9
      rcases hK with ⟨-, q | q⟩ | ⟨-, q, -⟩
      · exact absurd q b1
      · exact absurd q (by omega)
      · exact absurd a1 q
  · rcases hK with ⟨q, -⟩ | ⟨k1, k2, k3, k4, k5, k6, k7, k8, k9⟩
    · exact absurd q a1
    · rcases h2 with ⟨b1, b2, b3, b4, b5, b6⟩ | ⟨b1, b9, b2, b3, b4, b5, b6⟩
      · exact b1.elim (fun q => absurd q k3) (fun q => absurd (hn.mpr k4) q)
      · have hF2 : Fld mlx fx := by
          intro j hj s hs
          rw [a7 j hj s hs, b6, ← k8 j hj s hs]
          rcases j3 hj with rfl | rfl | rfl <;> rfl
        have hO2 : Okf fx := by
          intro j hj s hs
          rw [a7 j hj s hs]
          exact k9 j hj s hs
        have hk2 : ∀ j, j < 3 → mkx j = kx j := by
          intro j hj
          rw [a6, b5, ← k7 j hj]
          rcases j3 hj with rfl | rfl | rfl <;> rfl
        exact ⟨by rw [a2, b2, k5], by omega, by omega, by omega, rfl, rfl, hkt, by omega, hk2, hF2, hO2, Or.inr ⟨by omega, k2, k3, k4, k5, k6, k7, k8, k9⟩⟩
theorem rel_tower {i : Nat} {sz0 : Nat} {tn0 : Nat} {sn0 : Nat} {rp : Nat} {tr : Nat} {cb : Nat} {tu : Nat} {se : Nat} {ak : Nat} {tw : Nat} {kd0 : Nat → Nat} {mk : Nat → Nat} {f0 : Nat → Nat → Int32} {ml : Nat → Int32} {sz1 : Nat} {tn1 : Nat} {sn1 : Nat} {ik : Int32} {kt : Nat} {ku : Nat} {ks : Nat} {kd1 : Nat → Nat} {kk : Nat → Nat} {f1 : Nat → Nat → Int32} {kl : Nat → Int32} {rx rm sd sdx : Int32} {lt lx trx sz9 tn9 sn9 sk9 : Nat} {so0 ox : Nat → Int32} {kx : Nat → Nat} {fx : Nat → Nat → Int32} {pn : Nat → Nat} {cbx tux twx sex plx : Nat} {mkx : Nat → Nat} {mlx : Nat → Int32} (hR : Rel i sz0 tn0 sn0 rp tr cb tu se ak tw kd0 mk f0 ml sz1 tn1 sn1 ik kt ku ks kd1 kk f1 kl) (h1 : ((¬ ((lt = 15 ∨ lt = 23) ∧ okP pn lt) ∧ rx = -103 ∧ lx = lt ∧ trx = tr ∧ sdx = sd ∧ sz9 = sz0 ∧ tn9 = tn0 ∧ sn9 = sn0 ∧ ox = so0 ∧ kx = kd0 ∧ fx = f0 ∧ sk9 = sz1) ∨ (okP pn lt ∧ ∃ z : Nat, (z = 2 ∨ z = 3) ∧ lt + 1 = 8 * z ∧ rx = nI z ∧ lx = 0 ∧ trx = tr + 1 ∧ sdx = 0 ∧ sz9 = z ∧ tn9 = 0 ∧ sn9 = 0 ∧ ox = (fun _ => 31) ∧ sk9 = 0 ∧ (∀ j, j < z → kx j = kn (pn (8 * j))) ∧ (∀ j, z ≤ j → kx j = kd0 j) ∧ (∀ j, j < z → ∀ i, i < 6 → fx j i = nI (pn (8 * j + 1 + i) - 97)) ∧ (∀ j, z ≤ j → fx j = f0 j)))) (h2 : ((rm = -103 ∧ cbx = cb ∧ tux = tu ∧ twx = tw ∧ sex = se ∧ plx = lt ∧ mkx = mk ∧ mlx = ml ∧ ∃ e : Nat, FM (amF lt pn) e ∧ ¬ ((e = 15 ∨ e = 23) ∧ e = lt)) ∨ (∃ z : Nat, (z = 2 ∨ z = 3) ∧ lt + 1 = 8 * z ∧ FM (amF lt pn) lt ∧ rm = nI z ∧ cbx = z ∧ tux = 0 ∧ twx = tw + 1 ∧ sex = 0 ∧ plx = 0 ∧ ∀ j, mkx j = mk j ∨ mkx j < 5))) (h3 : (∀ z : Nat, rm = nI z → (z = 2 ∨ z = 3) → mkx = kT mk pn z ∧ mlx = lT ml pn z)) : Rel (i + 4) sz9 tn9 sn9 rp trx cbx tux sex ak twx kx mkx fx mlx sk9 tn1 sn1 ik kt ku ks kd1 kk f1 kl := by
  obtain ⟨rfl, rfl, rfl, rfl, rfl, hkt, htr, hk, hF, hO, hK⟩ := hR
  rcases h1 with ⟨n1, a1, -, a3, -, a4, a5, a6, -, a7, a8, a9⟩ | ⟨o1, z, hz, hl, a1, -, a3, -, a4, a5, a6, -, a9, q1, q2, q3, q4⟩
  · rcases h2 with ⟨b1, b2, b3, b4, b5, -, b6, b7, -⟩ | ⟨z, hz, hl, hF9, -⟩
    · rw [a3, a4, a5, a6, a7, a8, a9, b2, b3, b4, b5, b6, b7]
      exact ⟨rfl, rfl, rfl, rfl, rfl, hkt, by omega, hk, hF, hO, hK⟩
    · exact absurd ⟨by omega, FM_ok hF9⟩ n1
  · have hF9 := cls_FM (Nat.le_refl lt) o1 (fun h => absurd h (Nat.lt_irrefl lt))
    rcases h2 with ⟨-, -, -, -, -, -, -, -, e, h4, h5⟩ | ⟨y, hy, hm, -, b1, b2, b3, b4, b5, -⟩
    · have he := FM_one h4 hF9
      exact absurd ⟨by omega, he⟩ h5
    · have hzy : z = y := by omega
      subst hzy
      obtain ⟨b6, b7⟩ := h3 z b1 hz
      have rg : ∀ j, j < z → ∀ s, s < 6 → 97 ≤ pn (8 * j + 1 + s) ∧ pn (8 * j + 1 + s) < 103 := fun j hj s hs => fits_c (o1 (8 * j + 1 + s) (by omega)) (by omega) (by omega)
      have hk2 : ∀ j, j < 3 → mkx j = kx j := by
        intro j hj
        by_cases hjz : j < z
        · rw [q1 j hjz, b6]
          rcases hz with rfl | rfl
          · rcases (show j = 0 ∨ j = 1 by omega) with rfl | rfl <;> rfl
          · rcases j3 hj with rfl | rfl | rfl <;> rfl
        · rw [q2 j (by omega), b6, ← hk j hj]
          rcases hz with rfl | rfl
          · obtain rfl : j = 2 := by omega
            rfl
          · omega
      have hF2 : Fld mlx fx := by
        intro j hj s hs
        by_cases hjz : j < z
        · rw [q3 j hjz s hs, ← pk6_f pn j (rg j hjz) hs, b7]
          rcases hz with rfl | rfl
          · rcases (show j = 0 ∨ j = 1 by omega) with rfl | rfl <;> rfl
          · rcases j3 hj with rfl | rfl | rfl <;> rfl
        · rw [q4 j (by omega), ← hF j hj s hs, b7]
          rcases hz with rfl | rfl
          · obtain rfl : j = 2 := by omega
            rfl
          · omega
      have hO2 : Okf fx := by
        intro j hj s hs
        by_cases hjz : j < z
        · rw [q3 j hjz s hs]
          have h9 := rg j hjz s hs
          exact okv_nI (by omega)
        · rw [q4 j (by omega)]
          exact hO j hj s hs
      exact ⟨by omega, by omega, by omega, rfl, by omega, by omega, by omega, hk2, hF2, hO2, Or.inl ⟨a9, Or.inr (by omega)⟩⟩
