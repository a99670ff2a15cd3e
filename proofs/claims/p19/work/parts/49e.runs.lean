theorem upB_at (y : Nat → Nat → Int32) (c : Nat) (x : Nat → Int32) {J : Nat} (hJ : J < 3) : upB y c x J = if J = c then x else y J := by
  rcases j3 hJ with rfl | rfl | rfl
  · show (if c = 0 then x else y 0) = _
    by_cases h : c = 0
    · rw [if_pos h, if_pos h.symm]
    · rw [if_neg h, if_neg (fun q => h q.symm)]
  · show (if c = 1 then x else y 1) = _
    by_cases h : c = 1
    · rw [if_pos h, if_pos h.symm]
    · rw [if_neg h, if_neg (fun q => h q.symm)]
  · show (if c = 2 then x else y 2) = _
    by_cases h : c = 2
    · rw [if_pos h, if_pos h.symm]
    · rw [if_neg h, if_neg (fun q => h q.symm)]
theorem mf_cl {cb : Nat} {ml : Nat → Int32} {f : Nat → Nat → Int32} (hcb : cb = 2 ∨ cb = 3) (hF : Fld ml f) : mfI cb (ml 0) (ml 1) (ml 2) = nI (clAll cb (f 0) (f 1) (f 2)) := by
  have h := mc_cl (cb := cb) (by omega) hF
  rw [show mcI cb ml = mfI cb (ml 0) (ml 1) (ml 2) from if_neg (by omega)] at h
  exact h
theorem run_rel {cb S : Nat} {kd mk : Nat → Nat} {ml : Nat → Int32} {p : Nat → Nat → Int32} (hcb : cb = 2 ∨ cb = 3) (hkd : ∀ i, kd i < 5) (hk : ∀ j, j < 3 → mk j = kd j) (hF : Fld ml p) : ∀ k, (runC cb kd k (S, p, 0)).1 = (runM cb mk k (S, ml, 0)).1 ∧ (runC cb kd k (S, p, 0)).2.2 = (runM cb mk k (S, ml, 0)).2.2 ∧ Fld (runM cb mk k (S, ml, 0)).2.1 (runC cb kd k (S, p, 0)).2.1
  | 0 => ⟨rfl, rfl, hF⟩
  | k + 1 => by
    obtain ⟨h1, h2, h3⟩ := run_rel hcb hkd hk hF k
    show (rcC cb kd (runC cb kd k (S, p, 0))).1 = (rcM cb mk (runM cb mk k (S, ml, 0))).1 ∧ (rcC cb kd (runC cb kd k (S, p, 0))).2.2 = (rcM cb mk (runM cb mk k (S, ml, 0))).2.2 ∧ Fld (rcM cb mk (runM cb mk k (S, ml, 0))).2.1 (rcC cb kd (runC cb kd k (S, p, 0))).2.1
    generalize runC cb kd k (S, p, 0) = a at h1 h2 h3 ⊢
    generalize runM cb mk k (S, ml, 0) = b at h1 h2 h3 ⊢
    have hc : rSd b.1 / 65536 % cb < 3 := Nat.lt_of_lt_of_le (Nat.mod_lt _ (by omega)) (by omega)
    have ht : rSd (rSd b.1) / 65536 % 4 < 4 := Nat.mod_lt _ (by decide)
    have hF2 : Fld (rt1 cb mk b) (ry1 cb kd a) := by
      unfold rt1 ry1
      rw [h1]
      unfold rtM ryC
      rw [hk _ hc]
      by_cases q : canT (kd (rSd b.1 / 65536 % cb)) (rSd (rSd b.1) / 65536 % 4)
      · rw [if_pos q, if_pos ((can_in _ (hkd _) _ ht).mp q)]
        intro j hj s hs
        rw [upB_at _ _ _ hj]
        by_cases e : j = rSd b.1 / 65536 % cb
        · rw [if_pos e, show upd b.2.1 (rSd b.1 / 65536 % cb) (tuI (nI (kd (rSd b.1 / 65536 % cb))) (b.2.1 (rSd b.1 / 65536 % cb)) (rSd (rSd b.1) / 65536 % 4)) j = tuI (nI (kd (rSd b.1 / 65536 % cb))) (b.2.1 (rSd b.1 / 65536 % cb)) (rSd (rSd b.1) / 65536 % 4) from if_pos e, tu_f _ (hkd _) ht hs, tr_c _ (hkd _) ht hs]
          exact h3 _ hc _ (ts_eq _ (hkd _) _ ht s hs).2
        · rw [if_neg e, show upd b.2.1 (rSd b.1 / 65536 % cb) (tuI (nI (kd (rSd b.1 / 65536 % cb))) (b.2.1 (rSd b.1 / 65536 % cb)) (rSd (rSd b.1) / 65536 % 4)) j = b.2.1 j from if_neg e]
          exact h3 j hj s hs
      · rw [if_neg q, if_neg (fun r => q ((can_in _ (hkd _) _ ht).mpr r))]
        exact h3
    refine ⟨?_, ?_, hF2⟩
    · show rSd (rSd a.1) = rSd (rSd b.1)
      rw [h1]
    · show a.2.2 + (if clAll cb (ry1 cb kd a 0) (ry1 cb kd a 1) (ry1 cb kd a 2) = 0 then 1 else 0) = b.2.2 + (if mfI cb (rt1 cb mk b 0) (rt1 cb mk b 1) (rt1 cb mk b 2) = 0 then 1 else 0)
      rw [h2, mf_cl hcb hF2]
      by_cases q : clAll cb (ry1 cb kd a 0) (ry1 cb kd a 1) (ry1 cb kd a 2) = 0
      · rw [if_pos q, if_pos (by rw [q]; rfl)]
      · rw [if_neg q, if_neg (fun r => q (nI_z (Nat.lt_of_le_of_lt (clAll_le _ _ _ _) (by decide)) r))]
theorem runs_same {i : Nat} {sz0 : Nat} {tn0 : Nat} {sn0 : Nat} {rp : Nat} {tr : Nat} {cb : Nat} {tu : Nat} {se : Nat} {ak : Nat} {tw : Nat} {kd0 : Nat → Nat} {mk : Nat → Nat} {f0 : Nat → Nat → Int32} {ml : Nat → Int32} {sz1 : Nat} {tn1 : Nat} {sn1 : Nat} {ik : Int32} {kt : Nat} {ku : Nat} {ks : Nat} {kd1 : Nat → Nat} {kk : Nat → Nat} {f1 : Nat → Nat → Int32} {kl : Nat → Int32} {tI sI w rx rm : Int32} {t1 : Nat → Int32} (hcb : cb = 0 ∨ cb = 2 ∨ cb = 3) (hkd0 : ∀ i, kd0 i < 5) (hR : Rel i sz0 tn0 sn0 rp tr cb tu se ak tw kd0 mk f0 ml sz1 tn1 sn1 ik kt ku ks kd1 kk f1 kl) (h1 : (((tI < 1 ∨ 99 < tI ∨ sI < 0 ∨ w < 0 ∨ ¬ w ≤ 2) ∧ rx = -102) ∨ (¬ (tI < 1 ∨ 99 < tI ∨ sI < 0 ∨ w < 0 ∨ ¬ w ≤ 2) ∧ sz0 = 0 ∧ rx = -103) ∨ (¬ (tI < 1 ∨ 99 < tI ∨ sI < 0 ∨ w < 0 ∨ ¬ w ≤ 2) ∧ ¬ sz0 = 0 ∧ ∃ (T S : Nat) (p : Nat → Nat → Int32), tI = nI T ∧ T < 100 ∧ sI = nI S ∧ S < 2147483648 ∧ (∀ k, k < 3 → ∀ j, j < 6 → p k j = f0 k j) ∧ rx = resC sz0 (runC sz0 kd0 T (S, p, 0)) w))) (h2 : ((((tI < 1 ∨ ¬ tI ≤ 99) ∨ sI < 0 ∨ (w < 0 ∨ ¬ w ≤ 2)) ∧ rm = -102) ∨ (¬ ((tI < 1 ∨ ¬ tI ≤ 99) ∨ sI < 0 ∨ (w < 0 ∨ ¬ w ≤ 2)) ∧ cb = 0 ∧ rm = -103) ∨ (¬ ((tI < 1 ∨ ¬ tI ≤ 99) ∨ sI < 0 ∨ (w < 0 ∨ ¬ w ≤ 2)) ∧ ¬ cb = 0 ∧ ∃ (T S : Nat), tI = nI T ∧ T < 100 ∧ sI = nI S ∧ S < 2147483648 ∧ rm = resM cb (runM cb mk T (S, (upd (upd (upd t1 0 (ml 0)) 1 (ml 1)) 2 (ml 2)), 0)) w))) : rx = rm := by
  obtain ⟨rfl, rfl, rfl, rfl, rfl, hkt, htr, hk, hF, hO, hK⟩ := hR
  have X : (tI < 1 ∨ 99 < tI ∨ sI < 0 ∨ w < 0 ∨ ¬ w ≤ 2) ↔ ((tI < 1 ∨ ¬ tI ≤ 99) ∨ sI < 0 ∨ (w < 0 ∨ ¬ w ≤ 2)) := by
    rw [show (¬ tI ≤ 99) ↔ 99 < tI from Int32.not_le, or_assoc]
  rcases h1 with ⟨a1, a2⟩ | ⟨a1, a0, a2⟩ | ⟨a1, a0, T, S, p, t1', t2, s1, s2, hp, a2⟩
  · rcases h2 with ⟨b1, b2⟩ | ⟨b1, b0, b2⟩ | ⟨b1, b0, -⟩
    · exact a2.trans b2.symm
    · exact absurd (X.mp a1) b1
    · exact absurd (X.mp a1) b1
  · rcases h2 with ⟨b1, b2⟩ | ⟨b1, b0, b2⟩ | ⟨b1, b0, -⟩
    · exact absurd (X.mpr b1) a1
    · exact a2.trans b2.symm
    · exact absurd a0 b0
  · rcases h2 with ⟨b1, b2⟩ | ⟨b1, b0, b2⟩ | ⟨b1, b0, T', S', t3, t4, s3, s4, b2⟩
    · exact absurd (X.mpr b1) a1
    · exact absurd b0 a0
    · have e1 : T = T' := nI_i (by omega) (by omega) (t1'.symm.trans t3)
      subst e1
      have e2 : S = S' := nI_i (by omega) (by omega) (s1.symm.trans s3)
      subst e2
      have hc2 : cb = 2 ∨ cb = 3 := by omega
      have hF0 : Fld (upd (upd (upd t1 0 (ml 0)) 1 (ml 1)) 2 (ml 2)) p := by
        intro j hj s hs
        rw [hp j hj s hs, ← hF j hj s hs]
        rcases j3 hj with rfl | rfl | rfl <;> rfl
      obtain ⟨r1, r2, r3⟩ := run_rel (S := S) hc2 hkd0 hk hF0 T
      rw [a2, b2]
      unfold resC resM
      rw [r1, r2, mf_cl hc2 r3]
