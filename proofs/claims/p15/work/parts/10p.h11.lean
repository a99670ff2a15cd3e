-- painting a side: walls with or without colours, and what is free beside a pair
def wlO (a b c d : Nat) : Int32 := ((eO 0 a ||| eO 1 b) ||| eO 2 c) ||| eO 3 d
def q7 (c d : Nat) : Nat := if c = d ∧ c < 6 then c else 6
theorem q7_lt (c d : Nat) : q7 c d < 7 := by
  unfold q7
  split <;> omega
theorem q7_6 {c d : Nat} : q7 c d = 6 ↔ ¬ (c = d ∧ c < 6) := by
  unfold q7
  by_cases h : c = d ∧ c < 6
  · rw [if_pos h]
    exact ⟨fun q => by omega, fun q => absurd h q⟩
  · rw [if_neg h]
    exact ⟨fun _ => h, fun _ => rfl⟩
theorem wlN_O {a b c d : Nat} (ha : a < 6) (hb : b < 6) (hc : c < 6) (hd : d < 6) : wlN a b c d = wlO a b c d := by
  unfold wlN wlO eO
  rw [if_pos ha, if_pos hb, if_pos hc, if_pos hd, Int32.zero_or]
theorem eO_and : ∀ s, s < 4 → ∀ t, t < 4 → ∀ c, c < 7 → ∀ d, d < 7 → eO s c &&& eO t d = if s = t then eO s (q7 c d) else 0 := by decide +kernel
theorem or_0 {x y : Int32} : x ||| y = 0 ↔ x = 0 ∧ y = 0 := by
  constructor
  · intro h
    have hb : ∀ i, i < 32 → x.toBitVec.getLsbD i = false ∧ y.toBitVec.getLsbD i = false := fun i hi => by
      have h1 := congrArg (fun z : Int32 => z.toBitVec.getLsbD i) h
      simp only [Int32.toBitVec_or, BitVec.getLsbD_or] at h1
      have h2 : (0 : Int32).toBitVec.getLsbD i = false := by
        show (BitVec.ofNat 32 0).getLsbD i = false
        simp
      rw [h2] at h1
      cases hx : x.toBitVec.getLsbD i <;> cases hy : y.toBitVec.getLsbD i <;> rw [hx, hy] at h1 <;> first | exact ⟨rfl, rfl⟩ | exact absurd h1 (by decide)
    have z : ∀ i, (0 : Int32).toBitVec.getLsbD i = false := fun i => by
      show (BitVec.ofNat 32 0).getLsbD i = false
      simp
    refine ⟨Int32.toBitVec_inj.mp (BitVec.eq_of_getLsbD_eq (fun i hi => ?_)), Int32.toBitVec_inj.mp (BitVec.eq_of_getLsbD_eq (fun i hi => ?_))⟩
    · rw [(hb i hi).1, z]
    · rw [(hb i hi).2, z]
  · rintro ⟨rfl, rfl⟩
    rw [Int32.or_zero]
theorem eO_z : ∀ s, s < 4 → ∀ c, c < 7 → (eO s c = 0 ↔ c = 6) := by decide +kernel
theorem wlO_0 : ∀ a, a < 7 → ∀ b, b < 7 → ∀ c, c < 7 → ∀ d, d < 7 → (wlO a b c d = 0 ↔ a = 6 ∧ b = 6 ∧ c = 6 ∧ d = 6) := fun a ha b hb c hc d hd => by
  unfold wlO
  rw [or_0, or_0, or_0, eO_z 0 (by decide) a ha, eO_z 1 (by decide) b hb, eO_z 2 (by decide) c hc, eO_z 3 (by decide) d hd, and_assoc, and_assoc]
theorem rowO {s x a b c d : Nat} (hs : s < 4) (hx : x < 7) (ha : a < 7) (hb : b < 7) (hc : c < 7) (hd : d < 7) : eO s x &&& wlO a b c d = eO s (q7 x (if s = 0 then a else if s = 1 then b else if s = 2 then c else d)) := by
  unfold wlO
  rw [and_or_d, and_or_d, and_or_d, eO_and s hs 0 (by decide) x hx a ha, eO_and s hs 1 (by decide) x hx b hb, eO_and s hs 2 (by decide) x hx c hc, eO_and s hs 3 (by decide) x hx d hd]
  rcases (show s = 0 ∨ s = 1 ∨ s = 2 ∨ s = 3 by omega) with rfl | rfl | rfl | rfl
  · rw [if_pos rfl, if_neg (by decide), if_neg (by decide), if_neg (by decide), Int32.or_zero, Int32.or_zero, Int32.or_zero]
    rfl
  · rw [if_neg (by decide), if_pos rfl, if_neg (by decide), if_neg (by decide), Int32.zero_or, Int32.or_zero, Int32.or_zero]
    rfl
  · rw [if_neg (by decide), if_neg (by decide), if_pos rfl, if_neg (by decide), Int32.zero_or, Int32.zero_or, Int32.or_zero]
    rfl
  · rw [if_neg (by decide), if_neg (by decide), if_neg (by decide), if_pos rfl, Int32.zero_or, Int32.zero_or, Int32.zero_or]
    rfl
-- four colours as a function of the wall, 6 for none
def wO (u : Nat → Nat) : Int32 := wlO (u 0) (u 1) (u 2) (u 3)
def u7 (u : Nat → Nat) : Prop := ∀ t, t < 4 → u t < 7
theorem wO_and {u v : Nat → Nat} (hu : u7 u) (hv : u7 v) : wO u &&& wO v = wO (fun t => q7 (u t) (v t)) := by
  have a0 := hu 0 (by decide)
  have a1 := hu 1 (by decide)
  have a2 := hu 2 (by decide)
  have a3 := hu 3 (by decide)
  have b0 := hv 0 (by decide)
  have b1 := hv 1 (by decide)
  have b2 := hv 2 (by decide)
  have b3 := hv 3 (by decide)
  rw [show wO u = ((eO 0 (u 0) ||| eO 1 (u 1)) ||| eO 2 (u 2)) ||| eO 3 (u 3) from rfl, show wO v = wlO (v 0) (v 1) (v 2) (v 3) from rfl, or_and_d, or_and_d, or_and_d, rowO (by decide) a0 b0 b1 b2 b3, rowO (by decide) a1 b0 b1 b2 b3, rowO (by decide) a2 b0 b1 b2 b3, rowO (by decide) a3 b0 b1 b2 b3]
  rfl
theorem wO_0 {u : Nat → Nat} (hu : u7 u) : wO u = 0 ↔ ∀ t, t < 4 → u t = 6 := by
  unfold wO
  rw [wlO_0 _ (hu 0 (by decide)) _ (hu 1 (by decide)) _ (hu 2 (by decide)) _ (hu 3 (by decide))]
  constructor
  · rintro ⟨h0, h1, h2, h3⟩ t ht
    rcases (show t = 0 ∨ t = 1 ∨ t = 2 ∨ t = 3 by omega) with rfl | rfl | rfl | rfl
    · exact h0
    · exact h1
    · exact h2
    · exact h3
  · exact fun h => ⟨h 0 (by decide), h 1 (by decide), h 2 (by decide), h 3 (by decide)⟩
theorem wO_dis {u v : Nat → Nat} (hu : u7 u) (hv : u7 v) : wO u &&& wO v = 0 ↔ ∀ t, t < 4 → ¬ (u t = v t ∧ u t < 6) := by
  rw [wO_and hu hv, wO_0 (fun t _ => q7_lt _ _)]
  exact ⟨fun h t ht => q7_6.mp (h t ht), fun h t ht => q7_6.mpr (h t ht)⟩
theorem pair_dis {u v o : Nat → Nat} (hu : u7 u) (hv : u7 v) (ho : u7 o) : (wO u ||| wO v) &&& wO o = 0 ↔ ∀ t, t < 4 → ¬ (u t = o t ∧ u t < 6) ∧ ¬ (v t = o t ∧ v t < 6) := by
  rw [or_and_d, or_0, wO_dis hu ho, wO_dis hv ho]
  exact ⟨fun h t ht => ⟨h.1 t ht, h.2 t ht⟩, fun h => ⟨fun t ht => (h t ht).1, fun t ht => (h t ht).2⟩⟩
-- the other walls of a way
theorem eO_no : ∀ s, s < 4 → ∀ t, t < 4 → ∀ c, c < 7 → eO t c &&& (((63 : Int32) <<< (nI (s * 6) &&& 31)) ^^^ -1) = if t = s then 0 else eO t c := by decide +kernel
theorem ow_x {u : Nat → Nat} (hu : u7 u) {s : Nat} (hs : s < 4) : wO u &&& (((63 : Int32) <<< (nI (s * 6) &&& 31)) ^^^ -1) = wO (fun t => if t = s then 6 else u t) := by
  have e6 : ∀ t, eO t 6 = 0 := fun t => if_neg (by decide)
  have k : ∀ t, t < 4 → eO t (u t) &&& (((63 : Int32) <<< (nI (s * 6) &&& 31)) ^^^ -1) = eO t (if t = s then 6 else u t) := fun t ht => by
    rw [eO_no s hs t ht _ (hu t ht)]
    by_cases h : t = s
    · rw [if_pos h, if_pos h, e6]
    · rw [if_neg h, if_neg h]
  rw [show wO u = ((eO 0 (u 0) ||| eO 1 (u 1)) ||| eO 2 (u 2)) ||| eO 3 (u 3) from rfl, or_and_d, or_and_d, or_and_d, k 0 (by decide), k 1 (by decide), k 2 (by decide), k 3 (by decide)]
  rfl
-- the colours free on a wall beside two
theorem not_63 (x : Int32) : (x ^^^ -1) &&& 63 = ((x &&& 63) ^^^ -1) &&& 63 := by
  apply Int32.toBitVec_inj.1
  apply BitVec.eq_of_getLsbD_eq
  intro i hi
  simp only [Int32.toBitVec_and, Int32.toBitVec_xor, BitVec.getLsbD_and, BitVec.getLsbD_xor]
  cases x.toBitVec.getLsbD i <;> cases (63 : Int32).toBitVec.getLsbD i <;> cases (-1 : Int32).toBitVec.getLsbD i <;> rfl
theorem eO_sh : ∀ s, s < 4 → ∀ t, t < 4 → ∀ c, c < 7 → (eO t c >>> (nI (s * 6) &&& 31)) &&& 63 = if t = s then eO 0 c else 0 := by decide +kernel
theorem wO_sh {u : Nat → Nat} (hu : u7 u) {s : Nat} (hs : s < 4) : (wO u >>> (nI (s * 6) &&& 31)) &&& 63 = eO 0 (u s) := by
  rw [show wO u = ((eO 0 (u 0) ||| eO 1 (u 1)) ||| eO 2 (u 2)) ||| eO 3 (u 3) from rfl, Int32.shiftRight_or, Int32.shiftRight_or, Int32.shiftRight_or, or_and_d, or_and_d, or_and_d, eO_sh s hs 0 (by decide) _ (hu 0 (by decide)), eO_sh s hs 1 (by decide) _ (hu 1 (by decide)), eO_sh s hs 2 (by decide) _ (hu 2 (by decide)), eO_sh s hs 3 (by decide) _ (hu 3 (by decide))]
  rcases (show s = 0 ∨ s = 1 ∨ s = 2 ∨ s = 3 by omega) with rfl | rfl | rfl | rfl <;> simp
def fm (c d : Nat) : Nat := (List.range 6).foldl (fun m k => if k = c ∨ k = d then m else m + 2 ^ k) 0
theorem fm_tab : ∀ c, c < 7 → ∀ d, d < 7 → ((eO 0 c ||| eO 0 d) ^^^ -1) &&& 63 = nI (fm c d) ∧ fm c d < 64 := by decide +kernel
theorem fm_bit : ∀ c, c < 7 → ∀ d, d < 7 → ∀ k, k < 6 → ((fm c d).testBit k = true ↔ ¬ k = c ∧ ¬ k = d) := by decide +kernel
theorem fr_x {u v : Nat → Nat} (hu : u7 u) (hv : u7 v) {s : Nat} (hs : s < 4) : (((wO u ||| wO v) >>> (nI (s * 6) &&& 31)) ^^^ -1) &&& 63 = nI (fm (u s) (v s)) ∧ fm (u s) (v s) < 64 := by
  rw [not_63, Int32.shiftRight_or, or_and_d, wO_sh hu hs, wO_sh hv hs]
  exact fm_tab _ (hu s hs) _ (hv s hs)
-- folds
def plF (g : Nat → Int32) (w : Nat) (s : Int32) : Nat := if g (w * 6 + 0) = s then 0 else if g (w * 6 + 1) = s then 1 else if g (w * 6 + 2) = s then 2 else if g (w * 6 + 3) = s then 3 else if g (w * 6 + 4) = s then 4 else 5
def cfF (pp : Nat → Int32) (ow sh : Int32) : Nat → Int32
  | 0 => 0
  | n + 1 => if pp n &&& ow = 0 then cfF pp ow sh n ||| (((pp n >>> (sh &&& 31)) ^^^ -1) &&& 63) else cfF pp ow sh n
def cfr (pp : Nat → Int32) (pn : Nat) (b sh : Int32) : Int32 := cfF pp (b &&& (((63 : Int32) <<< (sh &&& 31)) ^^^ -1)) sh pn
def hcF (g v pp : Nat → Int32) (pn : Nat) (s : Int32) : Nat → Int32
  | 0 => 0
  | k + 1 => if nI (plF g k s) - 2 < 0 then hcF g v pp pn s k else hcF g v pp pn s k ||| cfr pp pn (v k) ((nI (plF g k s) - 2) * 6)
def pr1 (x y : Int32) (S : Nat × (Nat → Int32)) : Nat × (Nat → Int32) := if x &&& y = 0 then (S.1 + 1, upd S.2 S.1 (x ||| y)) else S
def prB (x : Int32) (v : Nat → Int32) : Nat → Nat × (Nat → Int32) → Nat × (Nat → Int32)
  | 0, S => S
  | b + 1, S => pr1 x (v b) (prB x v b S)
def prA (v1 v2 : Nat → Int32) (m : Nat) : Nat → Nat × (Nat → Int32) → Nat × (Nat → Int32)
  | 0, S => S
  | a + 1, S => prB (v1 a) v2 m (prA v1 v2 m a S)
theorem pr1_le (x y : Int32) (S : Nat × (Nat → Int32)) : (pr1 x y S).1 ≤ S.1 + 1 := by
  unfold pr1
  split
  · exact Nat.le_refl _
  · exact Nat.le_succ _
theorem prB_le (x : Int32) (v : Nat → Int32) (S : Nat × (Nat → Int32)) : ∀ b, (prB x v b S).1 ≤ S.1 + b
  | 0 => Nat.le_refl _
  | b + 1 => by
    have h1 := prB_le x v S b
    have h2 := pr1_le x (v b) (prB x v b S)
    show (pr1 x (v b) (prB x v b S)).1 ≤ S.1 + (b + 1)
    omega
theorem prA_le (v1 v2 : Nat → Int32) {m : Nat} (hm : m ≤ 24) (p : Nat → Int32) : ∀ a, (prA v1 v2 m a (0, p)).1 ≤ a * 24
  | 0 => Nat.zero_le _
  | a + 1 => by
    have h1 := prA_le v1 v2 hm p a
    have h2 := prB_le (v1 a) v2 (prA v1 v2 m a (0, p)) m
    show (prB (v1 a) v2 m (prA v1 v2 m a (0, p))).1 ≤ (a + 1) * 24
    omega
-- the pairs, as a set
def PS (S : Nat × (Nat → Int32)) (P : Int32 → Prop) : Prop := ∀ x, (∃ k, k < S.1 ∧ S.2 k = x) ↔ P x
theorem PS_1 {x y : Int32} {S : Nat × (Nat → Int32)} {P : Int32 → Prop} (h : PS S P) : PS (pr1 x y S) (fun z => P z ∨ (x &&& y = 0 ∧ z = x ||| y)) := by
  intro z
  unfold pr1
  by_cases c : x &&& y = 0
  · rw [if_pos c]
    constructor
    · rintro ⟨k, hk, e⟩
      have hk : k < S.1 + 1 := hk
      have e : upd S.2 S.1 (x ||| y) k = z := e
      by_cases q : k = S.1
      · rw [show upd S.2 S.1 (x ||| y) k = x ||| y from if_pos q] at e
        exact Or.inr ⟨c, e.symm⟩
      · rw [show upd S.2 S.1 (x ||| y) k = S.2 k from if_neg q] at e
        exact Or.inl ((h z).mp ⟨k, by omega, e⟩)
    · rintro (q | ⟨-, q⟩)
      · obtain ⟨k, hk, e⟩ := (h z).mpr q
        exact ⟨k, show k < S.1 + 1 by omega, (show upd S.2 S.1 (x ||| y) k = S.2 k from if_neg (by omega)).trans e⟩
      · exact ⟨S.1, Nat.lt_succ_self _, (show upd S.2 S.1 (x ||| y) S.1 = x ||| y from if_pos rfl).trans q.symm⟩
  · rw [if_neg c]
    exact (h z).trans ⟨Or.inl, fun q => q.elim id (fun r => absurd r.1 c)⟩
theorem PS_B {x : Int32} {v : Nat → Int32} {S : Nat × (Nat → Int32)} {P : Int32 → Prop} (h : PS S P) : ∀ m, PS (prB x v m S) (fun z => P z ∨ ∃ b, b < m ∧ x &&& v b = 0 ∧ z = x ||| v b)
  | 0 => fun z => (h z).trans ⟨Or.inl, fun q => q.elim id (fun ⟨b, hb, _⟩ => absurd hb (Nat.not_lt_zero b))⟩
  | m + 1 => fun z => by
    refine (PS_1 (PS_B h m) z).trans ?_
    constructor
    · rintro ((q | ⟨b, hb, r⟩) | r)
      · exact Or.inl q
      · exact Or.inr ⟨b, by omega, r⟩
      · exact Or.inr ⟨m, Nat.lt_succ_self _, r⟩
    · rintro (q | ⟨b, hb, r⟩)
      · exact Or.inl (Or.inl q)
      · rcases Nat.lt_succ_iff_lt_or_eq.mp hb with e | e
        · exact Or.inl (Or.inr ⟨b, e, r⟩)
        · rw [e] at r
          exact Or.inr r
theorem PS_A {v1 v2 p : Nat → Int32} {m : Nat} : ∀ a, PS (prA v1 v2 m a (0, p)) (fun z => ∃ i, i < a ∧ ∃ b, b < m ∧ v1 i &&& v2 b = 0 ∧ z = v1 i ||| v2 b)
  | 0 => fun z => ⟨fun ⟨k, hk, _⟩ => absurd hk (Nat.not_lt_zero k), fun ⟨i, hi, _⟩ => absurd hi (Nat.not_lt_zero i)⟩
  | a + 1 => fun z => by
    refine (PS_B (PS_A a) m z).trans ?_
    constructor
    · rintro (⟨i, hi, r⟩ | r)
      · exact ⟨i, by omega, r⟩
      · exact ⟨a, Nat.lt_succ_self _, r⟩
    · rintro ⟨i, hi, r⟩
      rcases Nat.lt_succ_iff_lt_or_eq.mp hi with e | e
      · exact Or.inl ⟨i, e, r⟩
      · rw [e] at r
        exact Or.inr r
theorem or64 {a b : Nat} (ha : a < 64) (hb : b < 64) : nI a ||| nI b = nI (a ||| b) ∧ a ||| b < 64 := by
  have h := (or4096 (a := a) (b := b) (by omega) (by omega)).1
  exact ⟨h, Nat.or_lt_two_pow (n := 6) ha hb⟩
-- bits of what is free, over pairs that are of walls
theorem cf_bits {pp : Nat → Int32} {ow : Int32} {s : Nat} (hs : s < 4) : ∀ n, (∀ k, k < n → ∃ u v, u7 u ∧ u7 v ∧ pp k = wO u ||| wO v) → ∃ m : Nat, cfF pp ow (nI (s * 6)) n = nI m ∧ m < 64 ∧ ∀ c, c < 6 → (m.testBit c = true ↔ ∃ k, k < n ∧ pp k &&& ow = 0 ∧ ∀ u v, u7 u → u7 v → pp k = wO u ||| wO v → ¬ c = u s ∧ ¬ c = v s)
  | 0, _ => ⟨0, rfl, by decide, fun c _ => by
    rw [Nat.zero_testBit]
    exact ⟨fun h => absurd h (by decide), fun ⟨k, hk, _⟩ => absurd hk (Nat.not_lt_zero k)⟩⟩
  | n + 1, h => by
    obtain ⟨m, h1, h2, h3⟩ := cf_bits (ow := ow) hs n (fun k hk => h k (by omega))
    obtain ⟨u, v, hu, hv, e⟩ := h n (by omega)
    have hf := fr_x hu hv hs
    have uniq : ∀ u' v', u7 u' → u7 v' → pp n = wO u' ||| wO v' → ∀ c, c < 6 → ((¬ c = u s ∧ ¬ c = v s) ↔ (¬ c = u' s ∧ ¬ c = v' s)) := fun u' v' hu' hv' e' c hc => by
      have hf' := fr_x hu' hv' hs
      rw [← e'] at hf'
      rw [← e] at hf
      have hm : fm (u s) (v s) = fm (u' s) (v' s) := (nI_eq (by have := hf.2; omega) (by have := hf'.2; omega)).mp (hf.1.symm.trans hf'.1)
      rw [← fm_bit _ (hu s hs) _ (hv s hs) c hc, ← fm_bit _ (hu' s hs) _ (hv' s hs) c hc, hm]
    show ∃ m : Nat, (if pp n &&& ow = 0 then cfF pp ow (nI (s * 6)) n ||| (((pp n >>> (nI (s * 6) &&& 31)) ^^^ -1) &&& 63) else cfF pp ow (nI (s * 6)) n) = nI m ∧ _
    by_cases c0 : pp n &&& ow = 0
    · rw [if_pos c0, h1, e, hf.1]
      have ho := or64 h2 hf.2
      refine ⟨m ||| fm (u s) (v s), ho.1, ho.2, fun c hc => ?_⟩
      rw [Nat.testBit_or, Bool.or_eq_true, h3 c hc, fm_bit _ (hu s hs) _ (hv s hs) c hc]
      constructor
      · rintro (⟨k, hk, r⟩ | r)
        · exact ⟨k, by omega, r⟩
        · exact ⟨n, Nat.lt_succ_self _, c0, fun u' v' hu' hv' e' => (uniq u' v' hu' hv' e' c hc).mp r⟩
      · rintro ⟨k, hk, r1, r2⟩
        rcases Nat.lt_succ_iff_lt_or_eq.mp hk with q | q
        · exact Or.inl ⟨k, q, r1, r2⟩
        · rw [q] at r2
          exact Or.inr (r2 u v hu hv e)
    · rw [if_neg c0]
      refine ⟨m, h1, h2, fun c hc => ?_⟩
      rw [h3 c hc]
      constructor
      · rintro ⟨k, hk, r⟩
        exact ⟨k, by omega, r⟩
      · rintro ⟨k, hk, r1, r2⟩
        rcases Nat.lt_succ_iff_lt_or_eq.mp hk with q | q
        · exact ⟨k, q, r1, r2⟩
        · rw [q] at r1
          exact absurd r1 c0
