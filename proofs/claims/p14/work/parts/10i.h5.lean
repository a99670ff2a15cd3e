def sumN : Nat → (Nat → Nat) → Nat
  | 0, _ => 0
  | n + 1, g => sumN n g + g n
theorem sum_le {g : Nat → Nat} {b : Nat} (h : ∀ k, g k ≤ b) : ∀ m, sumN m g ≤ m * b
  | 0 => Nat.zero_le _
  | m + 1 => by
    have h1 := sum_le h m
    have h2 := h m
    show sumN m g + g m ≤ (m + 1) * b
    rw [Nat.succ_mul]
    omega
theorem sum_congr {g g' : Nat → Nat} : ∀ m, (∀ k, k < m → g k = g' k) → sumN m g = sumN m g'
  | 0, _ => rfl
  | m + 1, h => by
    show sumN m g + g m = sumN m g' + g' m
    rw [sum_congr m (fun k hk => h k (by omega)), h m (by omega)]
theorem sum_zero {g : Nat → Nat} (m : Nat) (h : ∀ k, k < m → g k = 0) : sumN m g = 0 := by
  rw [sum_congr (g' := fun _ => 0) m h]
  clear h
  induction m with
  | zero => rfl
  | succ m ih => show sumN m (fun _ => 0) + 0 = 0; rw [ih]
theorem sum_add (g g' : Nat → Nat) : ∀ m, sumN m (fun k => g k + g' k) = sumN m g + sumN m g'
  | 0 => rfl
  | m + 1 => by
    show sumN m (fun k => g k + g' k) + (g m + g' m) = (sumN m g + g m) + (sumN m g' + g' m)
    rw [sum_add g g' m]
    omega
theorem sum_swap (g : Nat → Nat → Nat) (b : Nat) : ∀ a, sumN a (fun i => sumN b (fun j => g i j)) = sumN b (fun j => sumN a (fun i => g i j))
  | 0 => (sum_zero b (fun _ _ => rfl)).symm
  | a + 1 => by
    show sumN a (fun i => sumN b (fun j => g i j)) + sumN b (fun j => g a j) = sumN b (fun j => sumN a (fun i => g i j) + g a j)
    rw [sum_swap g b a, sum_add]
theorem sum_split (g : Nat → Nat) (a : Nat) : ∀ b, sumN (a + b) g = sumN a g + sumN b (fun j => g (a + j))
  | 0 => rfl
  | b + 1 => by
    show sumN (a + b) g + g (a + b) = sumN a g + (sumN b (fun j => g (a + j)) + g (a + b))
    rw [sum_split g a b]
    omega
theorem sum_flat (g : Nat → Nat) (b : Nat) : ∀ a, sumN (a * b) g = sumN a (fun i => sumN b (fun j => g (i * b + j)))
  | 0 => by rw [Nat.zero_mul]; rfl
  | a + 1 => by
    rw [Nat.succ_mul, sum_split, sum_flat g b a]
    rfl
def ind (C : Nat → Nat → Nat → Nat) (i j l : Nat) : Nat := if C i j l = 0 then 1 else 0
theorem ind_le (C : Nat → Nat → Nat → Nat) (i j l : Nat) : ind C i j l ≤ 1 := by
  unfold ind
  split <;> omega
theorem tt_QI {C T F : Nat → Nat → Nat → Nat} {D : Nat → Nat → Nat → Prop} {Q : Q4} {n i j : Nat} {c tu fb : Nat → Int32} (hC : ∀ a b c, C a b c < 1000) (hT : ∀ a b c, T a b c < 1000) (hF : ∀ a b c, F a b c < 4096) (q : QI C T F n D Q) : ∀ m, n + m < 20000 → (∀ l, l < m → c l = nI (C i j l) ∧ tu l = nI (T i j l) ∧ fb l = nI (F i j l)) → QI C T F (n + sumN m (ind C i j)) (fun a b c => D a b c ∨ (a = i ∧ b = j ∧ c < m)) (ttF c tu fb m Q)
  | 0, _, _ => by
    refine QI_congr (fun a b c => ⟨Or.inl, fun h => h.elim id (fun h => absurd h.2.2 (Nat.not_lt_zero _))⟩) ?_
    exact q
  | m + 1, hn, hl => by
    have ih := tt_QI hC hT hF q m (by omega) (fun l h => hl l (by omega))
    have hs : sumN m (ind C i j) ≤ m * 1 := sum_le (ind_le C i j) m
    obtain ⟨e1, e2, e3⟩ := hl m (by omega)
    have st := QI_step (i := i) (j := j) (l := m) (by omega) (hC i j m) hT hF ih
    show QI C T F (n + (sumN m (ind C i j) + ind C i j m)) _ (stT (c m) (tu m) (fb m) (ttF c tu fb m Q))
    rw [e1, e2, e3, ← Nat.add_assoc]
    refine QI_congr (fun a b c => ?_) st
    constructor
    · rintro ((h | ⟨h1, h2, h3⟩) | ⟨h1, h2, h3⟩)
      · exact Or.inl h
      · exact Or.inr ⟨h1, h2, by omega⟩
      · exact Or.inr ⟨h1, h2, by omega⟩
    · rintro (h | ⟨h1, h2, h3⟩)
      · exact Or.inl (Or.inl h)
      · rcases Nat.lt_or_ge c m with q9 | q9
        · exact Or.inl (Or.inr ⟨h1, h2, q9⟩)
        · exact Or.inr ⟨h1, h2, by omega⟩
theorem l2_QI {C T F : Nat → Nat → Nat → Nat} {C2 : Nat → Nat → Nat} {D : Nat → Nat → Nat → Prop} {Q : Q4} {n i m2 : Nat} {c2 : Nat → Int32} {c tu fb : Nat → Nat → Int32} (hC : ∀ a b c, C a b c < 1000) (hT : ∀ a b c, T a b c < 1000) (hF : ∀ a b c, F a b c < 4096) (hm2 : m2 ≤ 24) (hC2 : ∀ j l, C2 i j ≤ C i j l) (q : QI C T F n D Q) : ∀ m1, n + m1 * 24 < 20000 → (∀ j, j < m1 → c2 j = nI (C2 i j)) → (∀ j, j < m1 → ∀ l, l < m2 → c j l = nI (C i j l) ∧ tu j l = nI (T i j l) ∧ fb j l = nI (F i j l)) → QI C T F (n + sumN m1 (fun j => sumN m2 (ind C i j))) (fun a b c => D a b c ∨ (a = i ∧ b < m1 ∧ c < m2)) (l2F c2 (fun j => ttF (c j) (tu j) (fb j) m2) m1 Q)
  | 0, _, _, _ => by
    refine QI_congr (fun a b c => ⟨Or.inl, fun h => h.elim id (fun h => absurd h.2.1 (Nat.not_lt_zero _))⟩) ?_
    exact q
  | m1 + 1, hn, h2, hl => by
    have ih := l2_QI hC hT hF hm2 hC2 q m1 (by omega) (fun j h => h2 j (by omega)) (fun j h => hl j (by omega))
    have hs : sumN m1 (fun j => sumN m2 (ind C i j)) ≤ m1 * 24 := sum_le (fun k => Nat.le_trans (sum_le (ind_le C i k) m2) (by omega)) m1
    have e2 := h2 m1 (by omega)
    have hx : C2 i m1 < 1000 := Nat.lt_of_le_of_lt (hC2 m1 0) (hC i m1 0)
    show QI C T F (n + (sumN m1 (fun j => sumN m2 (ind C i j)) + sumN m2 (ind C i m1))) _ (if c2 m1 = 0 ∨ c2 m1 < (l2F c2 (fun j => ttF (c j) (tu j) (fb j) m2) m1 Q).2.1 then ttF (c m1) (tu m1) (fb m1) m2 (l2F c2 (fun j => ttF (c j) (tu j) (fb j) m2) m1 Q) else l2F c2 (fun j => ttF (c j) (tu j) (fb j) m2) m1 Q)
    have hset : ∀ a b c9 : Nat, ((D a b c9 ∨ (a = i ∧ b < m1 ∧ c9 < m2)) ∨ (a = i ∧ b = m1 ∧ c9 < m2)) ↔ (D a b c9 ∨ (a = i ∧ b < m1 + 1 ∧ c9 < m2)) := fun a b c9 => by
      constructor
      · rintro ((h | ⟨h1, h2, h3⟩) | ⟨h1, h2, h3⟩)
        · exact Or.inl h
        · exact Or.inr ⟨h1, by omega, h3⟩
        · exact Or.inr ⟨h1, by omega, h3⟩
      · rintro (h | ⟨h1, h2, h3⟩)
        · exact Or.inl (Or.inl h)
        · rcases Nat.lt_or_ge b m1 with q9 | q9
          · exact Or.inl (Or.inr ⟨h1, q9, h3⟩)
          · exact Or.inr ⟨h1, by omega, h3⟩
    generalize l2F c2 (fun j => ttF (c j) (tu j) (fb j) m2) m1 Q = Q1 at ih ⊢
    by_cases hg : c2 m1 = 0 ∨ c2 m1 < Q1.2.1
    · rw [if_pos hg, ← Nat.add_assoc]
      exact QI_congr hset (tt_QI hC hT hF ih m2 (by omega) (hl m1 (by omega)))
    · rw [if_neg hg]
      have hne : ¬ C2 i m1 = 0 := fun h => hg (Or.inl (by rw [e2, h]; rfl))
      have hz : sumN m2 (ind C i m1) = 0 := sum_zero m2 (fun l _ => if_neg (by have := hC2 m1 l; omega))
      rw [hz, Nat.add_zero]
      refine QI_congr hset (QI_skip (x := C2 i m1) (by omega) (fun h => hg (Or.inr (by rw [e2]; exact h))) (fun a b c9 h => ?_) ih)
      obtain ⟨rfl, rfl, h3⟩ := h
      have := hC2 b c9
      exact ⟨by omega, this⟩
theorem l1_QI {C T F : Nat → Nat → Nat → Nat} {C2 : Nat → Nat → Nat} {m1 m2 : Nat} {c2 : Nat → Nat → Int32} {c tu fb : Nat → Nat → Nat → Int32} (hC : ∀ a b c, C a b c < 1000) (hT : ∀ a b c, T a b c < 1000) (hF : ∀ a b c, F a b c < 4096) (hm1 : m1 ≤ 24) (hm2 : m2 ≤ 24) (hC2 : ∀ i j l, C2 i j ≤ C i j l) : ∀ m0, m0 ≤ 24 → (∀ i, i < m0 → ∀ j, j < m1 → c2 i j = nI (C2 i j)) → (∀ i, i < m0 → ∀ j, j < m1 → ∀ l, l < m2 → c i j l = nI (C i j l) ∧ tu i j l = nI (T i j l) ∧ fb i j l = nI (F i j l)) → QI C T F (sumN m0 (fun i => sumN m1 (fun j => sumN m2 (ind C i j)))) (fun a b c => a < m0 ∧ b < m1 ∧ c < m2) (l1F (fun i => l2F (c2 i) (fun j => ttF (c i j) (tu i j) (fb i j) m2) m1) m0 (0, 2147483647, 0, 0))
  | 0, _, _, _ => ⟨⟨rfl, fun _ a b c h => absurd h.1 (Nat.not_lt_zero _), fun _ => rfl⟩, ⟨2147483647, rfl, by decide, fun a b c h => absurd h.1 (Nat.not_lt_zero _), Or.inl rfl⟩, Or.inl rfl⟩
  | m0 + 1, hm0, h2, hl => by
    have ih := l1_QI hC hT hF hm1 hm2 hC2 m0 (by omega) (fun i h => h2 i (by omega)) (fun i h => hl i (by omega))
    have hs : sumN m0 (fun i => sumN m1 (fun j => sumN m2 (ind C i j))) ≤ m0 * 576 := sum_le (fun i => Nat.le_trans (sum_le (b := 24) (fun k => Nat.le_trans (sum_le (ind_le C i k) m2) (by omega)) m1) (by omega)) m0
    show QI C T F (sumN m0 (fun i => sumN m1 (fun j => sumN m2 (ind C i j))) + sumN m1 (fun j => sumN m2 (ind C m0 j))) _ (l2F (c2 m0) (fun j => ttF (c m0 j) (tu m0 j) (fb m0 j) m2) m1 (l1F (fun i => l2F (c2 i) (fun j => ttF (c i j) (tu i j) (fb i j) m2) m1) m0 (0, 2147483647, 0, 0)))
    refine QI_congr (fun a b c9 => ?_) (l2_QI hC hT hF hm2 (hC2 m0) ih m1 (by omega) (h2 m0 (by omega)) (hl m0 (by omega)))
    constructor
    · rintro (⟨h1, h2, h3⟩ | ⟨h1, h2, h3⟩)
      · exact ⟨by omega, h2, h3⟩
      · exact ⟨by omega, h2, h3⟩
    · rintro ⟨h1, h2, h3⟩
      rcases Nat.lt_or_ge a m0 with q9 | q9
      · exact Or.inl ⟨q9, h2, h3⟩
      · exact Or.inr ⟨by omega, h2, h3⟩
-- the reference's order of the same
theorem dec3 {m0 m1 i j l : Nat} (hi : i < m0) (hj : j < m1) : (l * (m1 * m0) + (j * m0 + i)) % m0 = i ∧ (l * (m1 * m0) + (j * m0 + i)) / m0 % m1 = j ∧ (l * (m1 * m0) + (j * m0 + i)) / m0 / m1 = l := by
  have e : l * (m1 * m0) + (j * m0 + i) = i + m0 * (l * m1 + j) := by
    rw [Nat.mul_add, Nat.mul_comm m0 (l * m1), Nat.mul_assoc, Nat.mul_comm m0 j]
    omega
  have h0 : 0 < m0 := by omega
  have h1 : 0 < m1 := by omega
  have d : (i + m0 * (l * m1 + j)) / m0 = l * m1 + j := by
    rw [Nat.add_mul_div_left _ _ h0, Nat.div_eq_of_lt hi, Nat.zero_add]
  rw [e]
  refine ⟨?_, ?_, ?_⟩
  · rw [Nat.add_mul_mod_self_left]
    exact Nat.mod_eq_of_lt hi
  · rw [d, Nat.add_comm, Nat.add_mul_mod_self_right]
    exact Nat.mod_eq_of_lt hj
  · rw [d, Nat.add_comm, Nat.add_mul_div_right _ _ h1, Nat.div_eq_of_lt hj, Nat.zero_add]
theorem sum_ref {m0 m1 m2 : Nat} (g : Nat → Nat → Nat → Nat) : sumN (m0 * m1 * m2) (fun k => g (k % m0) (k / m0 % m1) (k / m0 / m1)) = sumN m0 (fun i => sumN m1 (fun j => sumN m2 (fun l => g i j l))) := by
  have e : m0 * m1 * m2 = m2 * (m1 * m0) := by
    rw [Nat.mul_comm, Nat.mul_comm m0 m1]
  rw [e, sum_flat]
  rw [sum_congr m2 (g' := fun l => sumN m1 (fun j => sumN m0 (fun i => g i j l))) (fun l hl => ?_)]
  · rw [sum_swap]
    rw [sum_congr m1 (g' := fun j => sumN m0 (fun i => sumN m2 (fun l => g i j l))) (fun j hj => sum_swap _ _ _)]
    exact sum_swap _ _ _
  · rw [sum_flat]
    refine sum_congr m1 (fun j hj => sum_congr m0 (fun i hi => ?_))
    obtain ⟨d1, d2, d3⟩ := dec3 (l := l) hi hj
    show g _ _ _ = g i j l
    rw [d1, d2, d3]
