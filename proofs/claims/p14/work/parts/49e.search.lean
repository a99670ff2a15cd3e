theorem sv_keep {z : Nat → Nat} {wf wg wh : Nat → Nat → Int32} {sz sz' : Nat} {kd kd' : Nat → Nat} {f f' : Nat → Nat → Int32} {q : Nat → Nat} {wv : Nat → Nat → Int32} {sd sd' so le fe fi : Int32} (h : sd' = 0 ∨ (sd' = sd ∧ sz' = sz ∧ kd' = kd ∧ f' = f)) (hs : sd = 0 ∨ SvF z wf wg wh sz kd f q wv so le fe fi) : sd' = 0 ∨ SvF z wf wg wh sz' kd' f' q wv so le fe fi := by
  rcases h with h | ⟨h0, h1, h2, h3⟩
  · exact Or.inl h
  · rw [h0, h1, h2, h3]
    exact hs
theorem ways_same {i : Nat} {sz0 : Nat} {tn0 : Nat} {sn0 : Nat} {rp : Nat} {tr : Nat} {cb : Nat} {tu : Nat} {se : Nat} {ak : Nat} {tw : Nat} {kd0 : Nat → Nat} {mk : Nat → Nat} {f0 : Nat → Nat → Int32} {ml : Nat → Int32} {sz1 : Nat} {tn1 : Nat} {sn1 : Nat} {ik : Int32} {kt : Nat} {ku : Nat} {ks : Nat} {kd1 : Nat → Nat} {kk : Nat → Nat} {f1 : Nat → Nat → Int32} {kl : Nat → Int32} {z : Nat → Nat} {wf wg wh : Nat → Nat → Int32} {q2 : Nat → Nat} {wx : Nat → Nat → Int32} {s2 l2 e2 i2 : Int32} {mn : Nat → Nat} {u1 u2 u3 : Nat → Int32} {w rx rm : Int32} (hw5 : ∀ k, k < 5 → WRel (z k) (wf k) (wg k) (wh k) (RT k)) (hcb : cb = 0 ∨ cb = 2 ∨ cb = 3) (hkd0 : ∀ i, kd0 i < 5) (hR : Rel i sz0 tn0 sn0 rp tr cb tu se ak tw kd0 mk f0 ml sz1 tn1 sn1 ik kt ku ks kd1 kk f1 kl) (h1 : (((w < 0 ∨ ¬ w ≤ 1) ∧ rx = -102) ∨ (¬ (w < 0 ∨ ¬ w ≤ 1) ∧ sz0 = 0 ∧ rx = -103) ∨ (¬ (w < 0 ∨ ¬ w ≤ 1) ∧ ¬ sz0 = 0 ∧ SvF z wf wg wh sz0 kd0 f0 q2 wx s2 l2 e2 i2 ∧ ((w = 0 ∧ rx = s2) ∨ (¬ w = 0 ∧ rx = l2))))) (h2 : (((w < 0 ∨ ¬ w ≤ 1) ∧ rm = -102) ∨ (¬ (w < 0 ∨ ¬ w ≤ 1) ∧ cb = 0 ∧ rm = -103) ∨ (¬ (w < 0 ∨ ¬ w ≤ 1) ∧ ¬ cb = 0 ∧ (LA mn ∧ AllR cb mk ml mn u1 u2 u3) ∧ ((w = 0 ∧ rm = nI (soN cb mn u3 (alN cb mn))) ∨ (¬ w = 0 ∧ rm = leM cb mn u3 (alN cb mn)))))) : rx = rm := by
  obtain ⟨rfl, rfl, rfl, rfl, rfl, hkt, htr, hk, hF, hO, hK⟩ := hR
  rcases h1 with ⟨a1, a2⟩ | ⟨a1, a0, a2⟩ | ⟨a1, a0, hs, h1⟩
  · rcases h2 with ⟨b1, b2⟩ | ⟨b1, b0, b2⟩ | ⟨b1, b0, ⟨hl, ha⟩, h2⟩
    · exact a2.trans b2.symm
    · exact absurd a1 b1
    · exact absurd a1 b1
  · rcases h2 with ⟨b1, b2⟩ | ⟨b1, b0, b2⟩ | ⟨b1, b0, ⟨hl, ha⟩, h2⟩
    · exact absurd b1 a1
    · exact a2.trans b2.symm
    · exact absurd a0 b0
  · rcases h2 with ⟨b1, b2⟩ | ⟨b1, b0, b2⟩ | ⟨b1, b0, ⟨hl, ha⟩, h2⟩
    · exact absurd b1 a1
    · exact absurd b0 a0
    · have hc2 : cb = 2 ∨ cb = 3 := by omega
      rcases h1 with ⟨w0, e⟩ | ⟨w0, e⟩
      · rcases h2 with ⟨x0, g⟩ | ⟨x0, g⟩
        · rw [e, g]
          exact ways_sol hw5 hc2 hkd0 hk hF hO hs ha
        · exact absurd w0 x0
      · rcases h2 with ⟨x0, g⟩ | ⟨x0, g⟩
        · exact absurd x0 w0
        · rw [e, g]
          exact ways_le hw5 hc2 hkd0 hk hF hO hs ha
theorem odds_same {i : Nat} {sz0 : Nat} {tn0 : Nat} {sn0 : Nat} {rp : Nat} {tr : Nat} {cb : Nat} {tu : Nat} {se : Nat} {ak : Nat} {tw : Nat} {kd0 : Nat → Nat} {mk : Nat → Nat} {f0 : Nat → Nat → Int32} {ml : Nat → Int32} {sz1 : Nat} {tn1 : Nat} {sn1 : Nat} {ik : Int32} {kt : Nat} {ku : Nat} {ks : Nat} {kd1 : Nat → Nat} {kk : Nat → Nat} {f1 : Nat → Nat → Int32} {kl : Nat → Int32} {z : Nat → Nat} {wf wg wh : Nat → Nat → Int32} {q2 : Nat → Nat} {wx : Nat → Nat → Int32} {s2 l2 e2 i2 : Int32} {mn : Nat → Nat} {u1 u2 u3 : Nat → Int32} {w rx rm : Int32} (hw5 : ∀ k, k < 5 → WRel (z k) (wf k) (wg k) (wh k) (RT k)) (hcb : cb = 0 ∨ cb = 2 ∨ cb = 3) (hkd0 : ∀ i, kd0 i < 5) (hR : Rel i sz0 tn0 sn0 rp tr cb tu se ak tw kd0 mk f0 ml sz1 tn1 sn1 ik kt ku ks kd1 kk f1 kl) (h1 : (((w < 0 ∨ ¬ w ≤ 1) ∧ rx = -102) ∨ (¬ (w < 0 ∨ ¬ w ≤ 1) ∧ sz0 = 0 ∧ rx = -103) ∨ (¬ (w < 0 ∨ ¬ w ≤ 1) ∧ ¬ sz0 = 0 ∧ SvF z wf wg wh sz0 kd0 f0 q2 wx s2 l2 e2 i2 ∧ (∃ S9 : Nat, s2 = nI S9 ∧ S9 < 16384 ∧ rx = nI ((if w = 0 then S9 else z (q2 0) * z (q2 1) * z (q2 2)) / Nat.gcd (z (q2 0) * z (q2 1) * z (q2 2)) S9))))) (h2 : (((w < 0 ∨ ¬ w ≤ 1) ∧ rm = -102) ∨ (¬ (w < 0 ∨ ¬ w ≤ 1) ∧ cb = 0 ∧ rm = -103) ∨ (¬ (w < 0 ∨ ¬ w ≤ 1) ∧ ¬ cb = 0 ∧ (LA mn ∧ AllR cb mk ml mn u1 u2 u3) ∧ rm = nI ((if w = 0 then soN cb mn u3 (alN cb mn) else alN cb mn) / Nat.gcd (soN cb mn u3 (alN cb mn)) (alN cb mn))))) : rx = rm := by
  obtain ⟨rfl, rfl, rfl, rfl, rfl, hkt, htr, hk, hF, hO, hK⟩ := hR
  rcases h1 with ⟨a1, a2⟩ | ⟨a1, a0, a2⟩ | ⟨a1, a0, hs, h1⟩
  · rcases h2 with ⟨b1, b2⟩ | ⟨b1, b0, b2⟩ | ⟨b1, b0, ⟨hl, ha⟩, h2⟩
    · exact a2.trans b2.symm
    · exact absurd a1 b1
    · exact absurd a1 b1
  · rcases h2 with ⟨b1, b2⟩ | ⟨b1, b0, b2⟩ | ⟨b1, b0, ⟨hl, ha⟩, h2⟩
    · exact absurd b1 a1
    · exact a2.trans b2.symm
    · exact absurd a0 b0
  · rcases h2 with ⟨b1, b2⟩ | ⟨b1, b0, b2⟩ | ⟨b1, b0, ⟨hl, ha⟩, h2⟩
    · exact absurd b1 a1
    · exact absurd b0 a0
    · have hc2 : cb = 2 ∨ cb = 3 := by omega
      obtain ⟨S, e1, e2, e3⟩ := h1
      have g1 := ways_sol hw5 hc2 hkd0 hk hF hO hs ha
      have g2 := soN_le cb mn u3 (alN cb mn)
      have g3 := al_lt (cb := cb) hl
      have g4 : S = soN cb mn u3 (alN cb mn) := (nI_eq (by omega) (by omega)).mp (e1.symm.trans g1)
      have hm := mn_w hc2 hkd0 hk ha
      have hz : ∀ J, J < 3 → z (q2 J) = mn J := fun J hJ => by
        rw [hm J hJ, hs.1 J hJ]
        exact z_mX hw5 (kq5 hkd0 J)
      have g5 : z (q2 0) * z (q2 1) * z (q2 2) = alN cb mn := by
        rw [hz 0 (by decide), hz 1 (by decide), hz 2 (by decide), al_3 hc2 ha.2]
      rw [e3, h2, g4, g5, Nat.gcd_comm]
theorem turning_same {i : Nat} {sz0 : Nat} {tn0 : Nat} {sn0 : Nat} {rp : Nat} {tr : Nat} {cb : Nat} {tu : Nat} {se : Nat} {ak : Nat} {tw : Nat} {kd0 : Nat → Nat} {mk : Nat → Nat} {f0 : Nat → Nat → Int32} {ml : Nat → Int32} {sz1 : Nat} {tn1 : Nat} {sn1 : Nat} {ik : Int32} {kt : Nat} {ku : Nat} {ks : Nat} {kd1 : Nat → Nat} {kk : Nat → Nat} {f1 : Nat → Nat → Int32} {kl : Nat → Int32} {z : Nat → Nat} {wf wg wh : Nat → Nat → Int32} {q2 : Nat → Nat} {wx : Nat → Nat → Int32} {s2 l2 e2 i2 : Int32} {mn : Nat → Nat} {u1 u2 u3 : Nat → Int32} {w rx rm : Int32} (hw5 : ∀ k, k < 5 → WRel (z k) (wf k) (wg k) (wh k) (RT k)) (hcb : cb = 0 ∨ cb = 2 ∨ cb = 3) (hkd0 : ∀ i, kd0 i < 5) (hR : Rel i sz0 tn0 sn0 rp tr cb tu se ak tw kd0 mk f0 ml sz1 tn1 sn1 ik kt ku ks kd1 kk f1 kl) (h1 : (((w < 0 ∨ ¬ w ≤ 1) ∧ rx = -102) ∨ (¬ (w < 0 ∨ ¬ w ≤ 1) ∧ sz0 = 0 ∧ rx = -103) ∨ (¬ (w < 0 ∨ ¬ w ≤ 1) ∧ ¬ sz0 = 0 ∧ SvF z wf wg wh sz0 kd0 f0 q2 wx s2 l2 e2 i2 ∧ ((s2 = 0 ∧ rx = -1) ∨ (¬ s2 = 0 ∧ w = 0 ∧ rx = e2) ∨ (¬ s2 = 0 ∧ ¬ w = 0 ∧ rx = ftF i2))))) (h2 : (((w < 0 ∨ ¬ w ≤ 1) ∧ rm = -102) ∨ (¬ (w < 0 ∨ ¬ w ≤ 1) ∧ cb = 0 ∧ rm = -103) ∨ (¬ (w < 0 ∨ ¬ w ≤ 1) ∧ ¬ cb = 0 ∧ (LA mn ∧ AllR cb mk ml mn u1 u2 u3) ∧ ((fwM cb mk ml (fun _ => 181896) = 1048576 ∧ rm = -1) ∨ (¬ fwM cb mk ml (fun _ => 181896) = 1048576 ∧ w = 0 ∧ rm = fwM cb mk ml (fun _ => 181896)) ∨ (¬ fwM cb mk ml (fun _ => 181896) = 1048576 ∧ ¬ w = 0 ∧ fwM cb mk ml (fun _ => 181896) = 0 ∧ rm = -1) ∨ (¬ fwM cb mk ml (fun _ => 181896) = 1048576 ∧ ¬ w = 0 ∧ ¬ fwM cb mk ml (fun _ => 181896) = 0 ∧ ((∃ i : Nat, i < 4 * cb ∧ HitM cb mk ml (fwM cb mk ml (fun _ => 181896)) i ∧ (∀ j, j < i → ¬ HitM cb mk ml (fwM cb mk ml (fun _ => 181896)) j) ∧ rm = nI (10 * (i / 4) + i % 4)) ∨ ((∀ j, j < 4 * cb → ¬ HitM cb mk ml (fwM cb mk ml (fun _ => 181896)) j) ∧ rm = -1))))))) : rx = rm := by
  obtain ⟨rfl, rfl, rfl, rfl, rfl, hkt, htr, hk, hF, hO, hK⟩ := hR
  rcases h1 with ⟨a1, a2⟩ | ⟨a1, a0, a2⟩ | ⟨a1, a0, hs, h1⟩
  · rcases h2 with ⟨b1, b2⟩ | ⟨b1, b0, b2⟩ | ⟨b1, b0, ⟨hl, ha⟩, h2⟩
    · exact a2.trans b2.symm
    · exact absurd a1 b1
    · exact absurd a1 b1
  · rcases h2 with ⟨b1, b2⟩ | ⟨b1, b0, b2⟩ | ⟨b1, b0, ⟨hl, ha⟩, h2⟩
    · exact absurd b1 a1
    · exact a2.trans b2.symm
    · exact absurd a0 b0
  · rcases h2 with ⟨b1, b2⟩ | ⟨b1, b0, b2⟩ | ⟨b1, b0, ⟨hl, ha⟩, h2⟩
    · exact absurd b1 a1
    · exact absurd b0 a0
    · have hc2 : cb = 2 ∨ cb = 3 := by omega
      rcases turning_0 hw5 hc2 hkd0 hk hF hO hs with ⟨t0, t1⟩ | ⟨t0, E, B, t9, t1, t2, t3, t4, t5, t6⟩
      · rcases h1 with ⟨x0, x1⟩ | ⟨x0, -⟩ | ⟨x0, -⟩
        · rcases h2 with ⟨y0, y1⟩ | ⟨y0, -⟩ | ⟨y0, -⟩ | ⟨y0, -⟩
          · exact x1.trans y1.symm
          · exact absurd t1 y0
          · exact absurd t1 y0
          · exact absurd t1 y0
        · exact absurd t0 x0
        · exact absurd t0 x0
      · have hne : ¬ fwM cb mk ml (fun _ => 181896) = 1048576 := fun r => by
          rw [t2] at r
          have := (nI_eq (a := E) (b := 1048576) (by omega) (by decide)).mp r
          omega
        rcases h1 with ⟨x0, x1⟩ | ⟨x0, w0, x1⟩ | ⟨x0, w0, x1⟩
        · exact absurd x0 t0
        · rcases h2 with ⟨y0, -⟩ | ⟨y0, z0, y1⟩ | ⟨y0, z0, -⟩ | ⟨y0, z0, -⟩
          · exact absurd y0 hne
          · rw [x1, y1, t1, t2]
          · exact absurd w0 z0
          · exact absurd w0 z0
        · rcases h2 with ⟨y0, -⟩ | ⟨y0, z0, -⟩ | ⟨y0, z0, y2, y1⟩ | ⟨y0, z0, y2, y1⟩
          · exact absurd y0 hne
          · exact absurd z0 w0
          · have hE0 : E = 0 := nI_z (by omega) (by rw [← t2]; exact y2)
            rw [x1, y1, t3, t5 hE0]
            rfl
          · have hE1 : 1 ≤ E := Nat.pos_of_ne_zero (fun r => y2 (by rw [t2, r]; rfl))
            obtain ⟨u1, u2⟩ := t6 hE1
            rw [t2] at y1
            rcases y1 with ⟨i, i1, i2, i3, i4⟩ | ⟨i1, i4⟩
            · have hb := (u1 i i1).mp i2
              have hB : ¬ B = 0 := fun r => by
                rw [r, Nat.zero_testBit] at hb
                exact absurd hb (by decide)
              obtain ⟨v1, v2, v3⟩ := low_tab t4 hB
              have hle : lowB B ≤ i := by
                rcases Nat.lt_or_ge i (lowB B) with r | r
                · have := v3 i (by omega) r
                  rw [this] at hb
                  exact absurd hb (by decide)
                · exact r
              have hil : lowB B = i := by
                rcases Nat.lt_or_ge (lowB B) i with r | r
                · exact absurd ((u1 _ (by omega)).mpr v2) (i3 _ r)
                · omega
              rw [x1, t3, ft_tab t4 hB, hil, i4]
            · have hB := u2 (fun j hj r => i1 j hj ((u1 j hj).mpr r))
              rw [x1, i4, t3, hB]
              rfl
