-- what look comes to: how many solutions, the fewest clashes, the fewest turns, by which first
abbrev Q4 : Type := Int32 × Int32 × Int32 × Int32
def mnI (x y : Int32) : Int32 := if y < x then y else x
def asF (tu fb : Int32) (Q : Q4) : Q4 := if Q.1 = 0 ∨ tu < Q.2.2.1 then (Q.1 + 1, Q.2.1, tu, 0 ||| fb) else if tu = Q.2.2.1 then (Q.1 + 1, Q.2.1, Q.2.2.1, Q.2.2.2 ||| fb) else (Q.1 + 1, Q.2.1, Q.2.2.1, Q.2.2.2)
def stT (c tu fb : Int32) (Q : Q4) : Q4 := if c = 0 then asF tu fb (Q.1, mnI Q.2.1 c, Q.2.2.1, Q.2.2.2) else (Q.1, mnI Q.2.1 c, Q.2.2.1, Q.2.2.2)
def ttF (c tu fb : Nat → Int32) : Nat → Q4 → Q4
  | 0, Q => Q
  | n + 1, Q => stT (c n) (tu n) (fb n) (ttF c tu fb n Q)
def l2F (c2 : Nat → Int32) (tt : Nat → Q4 → Q4) : Nat → Q4 → Q4
  | 0, Q => Q
  | j + 1, Q => if c2 j = 0 ∨ c2 j < (l2F c2 tt j Q).2.1 then tt j (l2F c2 tt j Q) else l2F c2 tt j Q
def l1F (l2 : Nat → Q4 → Q4) : Nat → Q4 → Q4
  | 0, Q => Q
  | i + 1, Q => l2 i (l1F l2 i Q)
def QI (C T F : Nat → Nat → Nat → Nat) (n : Nat) (D : Nat → Nat → Nat → Prop) (Q : Q4) : Prop :=
  (Q.1 = nI n ∧ (n = 0 ↔ ∀ a b c, D a b c → ¬ C a b c = 0)) ∧
  (∃ L : Nat, Q.2.1 = nI L ∧ L < 2147483648 ∧ (∀ a b c, D a b c → L ≤ C a b c) ∧ (L = 2147483647 ∨ ∃ a b c, D a b c ∧ L = C a b c)) ∧
  (n = 0 ∨ ∃ E B : Nat, Q.2.2.1 = nI E ∧ Q.2.2.2 = nI B ∧ B < 4096 ∧ (∀ a b c, D a b c → C a b c = 0 → E ≤ T a b c) ∧ (∃ a b c, D a b c ∧ C a b c = 0 ∧ T a b c = E) ∧ ∀ k, k < 12 → (B.testBit k = true ↔ ∃ a b c, D a b c ∧ C a b c = 0 ∧ T a b c = E ∧ (F a b c).testBit k = true))
theorem QI_congr {C T F : Nat → Nat → Nat → Nat} {n : Nat} {D D' : Nat → Nat → Nat → Prop} {Q : Q4} (h : ∀ a b c, D a b c ↔ D' a b c) (q : QI C T F n D Q) : QI C T F n D' Q := by
  have e : D = D' := by
    funext a b c
    exact propext (h a b c)
  rw [← e]
  exact q
theorem or4096 {a b : Nat} (ha : a < 4096) (hb : b < 4096) : nI a ||| nI b = nI (a ||| b) ∧ a ||| b < 4096 := by
  refine ⟨?_, Nat.or_lt_two_pow (n := 12) ha hb⟩
  apply Int32.toBitVec_inj.mp
  apply BitVec.eq_of_toNat_eq
  have hc : a ||| b < 4096 := Nat.or_lt_two_pow (n := 12) ha hb
  rw [Int32.toBitVec_or, BitVec.toNat_or]
  show (BitVec.ofNat 32 a).toNat ||| (BitVec.ofNat 32 b).toNat = (BitVec.ofNat 32 (a ||| b)).toNat
  rw [BitVec.toNat_ofNat, BitVec.toNat_ofNat, BitVec.toNat_ofNat, Nat.mod_eq_of_lt (by omega), Nat.mod_eq_of_lt (by omega), Nat.mod_eq_of_lt (by omega)]
theorem nI_lt_iff {a b : Nat} (ha : a < 2 ^ 31) (hb : b < 2 ^ 31) : nI a < nI b ↔ a < b := ⟨fun h => by
  rcases Nat.lt_or_ge a b with q | q
  · exact q
  · exact absurd h (nI_nlt q ha), fun h => nI_lt h hb⟩
theorem mn_N {L c : Nat} (hL : L < 2147483648) (hc : c < 2147483648) : mnI (nI L) (nI c) = nI (if c < L then c else L) := by
  unfold mnI
  by_cases h : c < L
  · rw [if_pos (nI_lt h (by omega)), if_pos h]
  · rw [if_neg (fun q => h ((nI_lt_iff (by omega) (by omega)).mp q)), if_neg h]
-- one more that is looked at
theorem QI_step {C T F : Nat → Nat → Nat → Nat} {n : Nat} {D : Nat → Nat → Nat → Prop} {Q : Q4} {i j l : Nat} (hn : n < 20000) (hC : C i j l < 1000) (hT : ∀ a b c, T a b c < 1000) (hF : ∀ a b c, F a b c < 4096) (q : QI C T F n D Q) : QI C T F (n + if C i j l = 0 then 1 else 0) (fun a b c => D a b c ∨ (a = i ∧ b = j ∧ c = l)) (stT (nI (C i j l)) (nI (T i j l)) (nI (F i j l)) Q) := by
  obtain ⟨⟨q1, q2⟩, ⟨L, hL1, hL2, hL3, hL4⟩, q3⟩ := q
  have hmin : ∃ L' : Nat, mnI Q.2.1 (nI (C i j l)) = nI L' ∧ L' < 2147483648 ∧ (∀ a b c, (D a b c ∨ (a = i ∧ b = j ∧ c = l)) → L' ≤ C a b c) ∧ (L' = 2147483647 ∨ ∃ a b c, (D a b c ∨ (a = i ∧ b = j ∧ c = l)) ∧ L' = C a b c) := by
    rw [hL1, mn_N hL2 (by omega)]
    by_cases h : C i j l < L
    · rw [if_pos h]
      refine ⟨_, rfl, by omega, fun a b c hd => ?_, Or.inr ⟨i, j, l, Or.inr ⟨rfl, rfl, rfl⟩, rfl⟩⟩
      rcases hd with hd | ⟨rfl, rfl, rfl⟩
      · have := hL3 a b c hd
        omega
      · exact Nat.le_refl _
    · rw [if_neg h]
      refine ⟨_, rfl, hL2, fun a b c hd => ?_, ?_⟩
      · rcases hd with hd | ⟨rfl, rfl, rfl⟩
        · exact hL3 a b c hd
        · omega
      · rcases hL4 with hL4 | ⟨a, b, c, h1, h2⟩
        · exact Or.inl hL4
        · exact Or.inr ⟨a, b, c, Or.inl h1, h2⟩
  by_cases h0 : C i j l = 0
  · have hz : nI (C i j l) = 0 := by rw [h0]; rfl
    unfold stT
    rw [if_pos hz, if_pos h0]
    have hn1 : ∀ x : Int32, x = nI n → x + 1 = nI (n + 1) := fun x e => by rw [e]; exact nIa n 1
    have hcnt : n + 1 = 0 ↔ ∀ a b c, (D a b c ∨ (a = i ∧ b = j ∧ c = l)) → ¬ C a b c = 0 := ⟨fun h => absurd h (by omega), fun h => absurd h0 (h i j l (Or.inr ⟨rfl, rfl, rfl⟩))⟩
    have hT9 := hT i j l
    have hF9 := hF i j l
    unfold asF
    by_cases hA : Q.1 = 0 ∨ nI (T i j l) < Q.2.2.1
    · rw [if_pos hA]
      refine ⟨⟨hn1 _ q1, hcnt⟩, hmin, Or.inr ⟨T i j l, F i j l, rfl, Int32.zero_or, hF9, fun a b c hd hc => ?_, ⟨i, j, l, Or.inr ⟨rfl, rfl, rfl⟩, h0, rfl⟩, fun k hk => ⟨fun h => ⟨i, j, l, Or.inr ⟨rfl, rfl, rfl⟩, h0, rfl, h⟩, ?_⟩⟩⟩
      · rcases hd with hd | ⟨rfl, rfl, rfl⟩
        · rcases q3 with q3 | ⟨E, B, e1, e2, e3, e4, e5, e6⟩
          · exact absurd hc (q2.mp q3 a b c hd)
          · have hE := e4 a b c hd hc
            rcases hA with hA | hA
            · rw [q1] at hA
              exact absurd hc (q2.mp (nI_z (by omega) hA) a b c hd)
            · rw [e1] at hA
              obtain ⟨a', b', c', g1, g2, g3⟩ := e5
              have := hT a' b' c'
              have := (nI_lt_iff (by omega) (by omega)).mp hA
              omega
        · exact Nat.le_refl _
      · rintro ⟨a, b, c, hd, hc, ht, hf⟩
        rcases hd with hd | ⟨rfl, rfl, rfl⟩
        · rcases q3 with q3 | ⟨E, B, e1, e2, e3, e4, e5, e6⟩
          · exact absurd hc (q2.mp q3 a b c hd)
          · have hE := e4 a b c hd hc
            rcases hA with hA | hA
            · rw [q1] at hA
              exact absurd hc (q2.mp (nI_z (by omega) hA) a b c hd)
            · rw [e1] at hA
              obtain ⟨a', b', c', g1, g2, g3⟩ := e5
              have := hT a' b' c'
              have := (nI_lt_iff (by omega) (by omega)).mp hA
              omega
        · exact hf
    · rw [if_neg hA]
      have hne : ¬ n = 0 := fun h => hA (Or.inl (by rw [q1, h]; rfl))
      rcases q3 with q3 | ⟨E, B, e1, e2, e3, e4, e5, e6⟩
      · exact absurd q3 hne
      · have hE : E < 1000 := by
          obtain ⟨a', b', c', g1, g2, g3⟩ := e5
          have := hT a' b' c'
          omega
        have hge : E ≤ T i j l := by
          rcases Nat.lt_or_ge (T i j l) E with h | h
          · exact absurd (Or.inr (by rw [e1]; exact nI_lt h (by omega))) hA
          · exact h
        by_cases hB : nI (T i j l) = Q.2.2.1
        · rw [if_pos hB]
          have hTE : T i j l = E := by
            rw [e1] at hB
            exact (nI_eq (by omega) (by omega)).mp hB
          have ho := or4096 e3 hF9
          refine ⟨⟨hn1 _ q1, hcnt⟩, hmin, Or.inr ⟨E, B ||| F i j l, e1, by show Q.2.2.2 ||| nI (F i j l) = _; rw [e2]; exact ho.1, ho.2, fun a b c hd hc => ?_, ?_, fun k hk => ?_⟩⟩
          · rcases hd with hd | ⟨rfl, rfl, rfl⟩
            · exact e4 a b c hd hc
            · exact hge
          · obtain ⟨a', b', c', g1, g2, g3⟩ := e5
            exact ⟨a', b', c', Or.inl g1, g2, g3⟩
          · rw [Nat.testBit_or, Bool.or_eq_true, e6 k hk]
            constructor
            · rintro (⟨a, b, c, g1, g2, g3, g4⟩ | h)
              · exact ⟨a, b, c, Or.inl g1, g2, g3, g4⟩
              · exact ⟨i, j, l, Or.inr ⟨rfl, rfl, rfl⟩, h0, hTE, h⟩
            · rintro ⟨a, b, c, g1, g2, g3, g4⟩
              rcases g1 with g1 | ⟨rfl, rfl, rfl⟩
              · exact Or.inl ⟨a, b, c, g1, g2, g3, g4⟩
              · exact Or.inr g4
        · rw [if_neg hB]
          have hTE : ¬ T i j l = E := fun h => hB (by rw [h, e1])
          refine ⟨⟨hn1 _ q1, hcnt⟩, hmin, Or.inr ⟨E, B, e1, e2, e3, fun a b c hd hc => ?_, ?_, fun k hk => ?_⟩⟩
          · rcases hd with hd | ⟨rfl, rfl, rfl⟩
            · exact e4 a b c hd hc
            · exact hge
          · obtain ⟨a', b', c', g1, g2, g3⟩ := e5
            exact ⟨a', b', c', Or.inl g1, g2, g3⟩
          · rw [e6 k hk]
            constructor
            · rintro ⟨a, b, c, g1, g2, g3, g4⟩
              exact ⟨a, b, c, Or.inl g1, g2, g3, g4⟩
            · rintro ⟨a, b, c, g1, g2, g3, g4⟩
              rcases g1 with g1 | ⟨rfl, rfl, rfl⟩
              · exact ⟨a, b, c, g1, g2, g3, g4⟩
              · exact absurd g3 hTE
  · have hz : ¬ nI (C i j l) = 0 := fun h => h0 (nI_z (by omega) h)
    unfold stT
    rw [if_neg hz, if_neg h0, Nat.add_zero]
    refine ⟨⟨q1, q2.trans ⟨fun h a b c hd => ?_, fun h a b c hd => h a b c (Or.inl hd)⟩⟩, hmin, ?_⟩
    · rcases hd with hd | ⟨rfl, rfl, rfl⟩
      · exact h a b c hd
      · exact h0
    · rcases q3 with q3 | ⟨E, B, e1, e2, e3, e4, e5, e6⟩
      · exact Or.inl q3
      · refine Or.inr ⟨E, B, e1, e2, e3, fun a b c hd hc => ?_, ?_, fun k hk => ?_⟩
        · rcases hd with hd | ⟨rfl, rfl, rfl⟩
          · exact e4 a b c hd hc
          · exact absurd hc h0
        · obtain ⟨a', b', c', g1, g2, g3⟩ := e5
          exact ⟨a', b', c', Or.inl g1, g2, g3⟩
        · rw [e6 k hk]
          constructor
          · rintro ⟨a, b, c, g1, g2, g3, g4⟩
            exact ⟨a, b, c, Or.inl g1, g2, g3, g4⟩
          · rintro ⟨a, b, c, g1, g2, g3, g4⟩
            rcases g1 with g1 | ⟨rfl, rfl, rfl⟩
            · exact ⟨a, b, c, g1, g2, g3, g4⟩
            · exact absurd g2 h0
-- some that are passed over
theorem QI_skip {C T F : Nat → Nat → Nat → Nat} {n : Nat} {D P : Nat → Nat → Nat → Prop} {Q : Q4} {x : Nat} (hx : x < 2147483648) (h0 : ¬ nI x < Q.2.1) (hP : ∀ a b c, P a b c → ¬ C a b c = 0 ∧ x ≤ C a b c) (q : QI C T F n D Q) : QI C T F n (fun a b c => D a b c ∨ P a b c) Q := by
  obtain ⟨⟨q1, q2⟩, ⟨L, hL1, hL2, hL3, hL4⟩, q3⟩ := q
  have hLx : L ≤ x := by
    rcases Nat.lt_or_ge x L with h | h
    · exact absurd (by rw [hL1]; exact nI_lt h (by omega)) h0
    · exact h
  refine ⟨⟨q1, q2.trans ⟨fun h a b c hd => ?_, fun h a b c hd => h a b c (Or.inl hd)⟩⟩, ⟨L, hL1, hL2, fun a b c hd => ?_, ?_⟩, ?_⟩
  · rcases hd with hd | hd
    · exact h a b c hd
    · exact (hP a b c hd).1
  · rcases hd with hd | hd
    · exact hL3 a b c hd
    · exact Nat.le_trans hLx (hP a b c hd).2
  · rcases hL4 with hL4 | ⟨a, b, c, g1, g2⟩
    · exact Or.inl hL4
    · exact Or.inr ⟨a, b, c, Or.inl g1, g2⟩
  · rcases q3 with q3 | ⟨E, B, e1, e2, e3, e4, e5, e6⟩
    · exact Or.inl q3
    · refine Or.inr ⟨E, B, e1, e2, e3, fun a b c hd hc => ?_, ?_, fun k hk => ?_⟩
      · rcases hd with hd | hd
        · exact e4 a b c hd hc
        · exact absurd hc (hP a b c hd).1
      · obtain ⟨a', b', c', g1, g2, g3⟩ := e5
        exact ⟨a', b', c', Or.inl g1, g2, g3⟩
      · rw [e6 k hk]
        constructor
        · rintro ⟨a, b, c, g1, g2, g3, g4⟩
          exact ⟨a, b, c, Or.inl g1, g2, g3, g4⟩
        · rintro ⟨a, b, c, g1, g2, g3, g4⟩
          rcases g1 with g1 | g1
          · exact ⟨a, b, c, g1, g2, g3, g4⟩
          · exact absurd g2 (hP a b c g1).1
