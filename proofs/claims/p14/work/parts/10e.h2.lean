-- the reference's ways
abbrev MSt : Type := List Int32 × List Nat
def tkS (x : Int32) (d : Nat) (S : MSt) : MSt := if x ∈ S.1 then S else (S.1 ++ [x], S.2 ++ [d])
def msS (kd i : Nat) (S : MSt) : MSt := if i / 4 < S.1.length ∧ inT kd (i % 4) then tkS (tuI (nI kd) (S.1.getD (i / 4) 0) (i % 4)) (S.2.getD (i / 4) 0 + 1) S else S
def layS (kd : Nat) (x : Int32) : Nat → MSt
  | 0 => ([x], [0])
  | i + 1 => msS kd i (layS kd x i)
def LRel (J : Nat) (mn : Nat → Nat) (a1 a2 : Nat → Int32) (S : MSt) : Prop := S.1.length = mn J ∧ S.2.length = mn J ∧ ∀ i, i < mn J → a1 (24 * J + i) = S.1.getD i 0 ∧ a2 (24 * J + i) = nI (S.2.getD i 0) ∧ S.2.getD i 0 ≤ i
theorem mem_gd {l : List Int32} {x : Int32} : x ∈ l ↔ ∃ i, i < l.length ∧ l.getD i 0 = x := by
  constructor
  · intro h
    obtain ⟨i, hi, e⟩ := List.getElem_of_mem h
    exact ⟨i, hi, by rw [List.getD_eq_getElem?_getD, List.getElem?_eq_getElem hi]; exact e⟩
  · rintro ⟨i, hi, e⟩
    rw [List.getD_eq_getElem?_getD, List.getElem?_eq_getElem hi] at e
    rw [← e]
    exact List.getElem_mem hi
-- what take does, as its contract tells it
def TkF (J : Nat) (mn : Nat → Nat) (a1 a2 : Nat → Int32) (x d : Int32) (m2 : Nat → Nat) (v1 v2 : Nat → Int32) : Prop := ((∃ i, i < mn J ∧ a1 (24 * J + i) = x) ∧ m2 = mn ∧ v1 = a1 ∧ v2 = a2) ∨ ((∀ i, i < mn J → ¬ a1 (24 * J + i) = x) ∧ mn J < 24 ∧ m2 = va_up mn J (mn J + 1) ∧ v1 = upd a1 (24 * J + mn J) x ∧ v2 = upd a2 (24 * J + mn J) d)
theorem take_rel {J : Nat} {mn m2 : Nat → Nat} {a1 a2 v1 v2 : Nat → Int32} {x : Int32} {d : Nat} {S : MSt} (hd : d ≤ mn J) (hL : LRel J mn a1 a2 S) (h : TkF J mn a1 a2 x (nI d) m2 v1 v2) : LRel J m2 v1 v2 (tkS x d S) := by
  obtain ⟨l1, l2, l3⟩ := hL
  unfold tkS
  rcases h with ⟨⟨i, hi, e⟩, q1, q2, q3⟩ | ⟨hn, h24, q1, q2, q3⟩
  · rw [if_pos (mem_gd.mpr ⟨i, by omega, by rw [← (l3 i hi).1]; exact e⟩), q1, q2, q3]
    exact ⟨l1, l2, l3⟩
  · have hx : ¬ x ∈ S.1 := fun q => by
      obtain ⟨i, hi, e⟩ := mem_gd.mp q
      exact hn i (by omega) (by rw [(l3 i (by omega)).1]; exact e)
    have e1 : m2 J = mn J + 1 := by rw [q1]; exact if_pos rfl
    rw [if_neg hx]
    refine ⟨by rw [e1]; simp [l1], by rw [e1]; simp [l2], fun i hi => ?_⟩
    show v1 (24 * J + i) = (S.1 ++ [x]).getD i 0 ∧ v2 (24 * J + i) = nI ((S.2 ++ [d]).getD i 0) ∧ (S.2 ++ [d]).getD i 0 ≤ i
    rw [gd_app, gd_app, q2, q3]
    by_cases q : i = mn J
    · rw [if_pos (by omega), if_pos (by omega), q, show upd a1 (24 * J + mn J) x (24 * J + mn J) = x from if_pos rfl, show upd a2 (24 * J + mn J) (nI d) (24 * J + mn J) = nI d from if_pos rfl]
      exact ⟨rfl, rfl, hd⟩
    · rw [if_neg (by omega), if_neg (by omega), show upd a1 (24 * J + mn J) x (24 * J + i) = a1 (24 * J + i) from if_neg (by omega), show upd a2 (24 * J + mn J) (nI d) (24 * J + i) = a2 (24 * J + i) from if_neg (by omega)]
      exact l3 i (by omega)
theorem lay_stop {kd k : Nat} {x : Int32} (h : (layS kd x (4 * k)).1.length ≤ k) : ∀ j, layS kd x (4 * k + j) = layS kd x (4 * k)
  | 0 => rfl
  | j + 1 => by
    show msS kd (4 * k + j) (layS kd x (4 * k + j)) = _
    rw [lay_stop h j]
    unfold msS
    rw [if_neg (fun q => by have h9 := q.1; omega)]
theorem lay_end {kd k : Nat} {x : Int32} (hk : k ≤ 24) (h : (layS kd x (4 * k)).1.length ≤ k) : layS kd x 96 = layS kd x (4 * k) := by
  have e : 96 = 4 * k + (96 - 4 * k) := by omega
  rw [e]
  exact lay_stop h _
theorem tk_fr {J : Nat} {mn m2 : Nat → Nat} {a1 a2 v1 v2 : Nat → Int32} {x d : Int32} (h : TkF J mn a1 a2 x d m2 v1 v2) : ∀ i, (i < 24 * J ∨ 24 * J + 24 ≤ i) → v1 i = a1 i ∧ v2 i = a2 i := by
  intro i hi
  rcases h with ⟨-, -, q2, q3⟩ | ⟨-, h24, -, q2, q3⟩
  · rw [q2, q3]
    exact ⟨rfl, rfl⟩
  · rw [q2, q3]
    exact ⟨if_neg (by omega), if_neg (by omega)⟩
theorem lay_0 {J kd : Nat} {mn m2 : Nat → Nat} {a1 a2 v1 v2 : Nat → Int32} {x : Int32} (h0 : mn J = 0) (h : TkF J mn a1 a2 x 0 m2 v1 v2) : LRel J m2 v1 v2 (layS kd x (4 * 0)) := by
  have hL : LRel J mn a1 a2 (([], []) : MSt) := ⟨by rw [h0]; rfl, by rw [h0]; rfl, fun i hi => absurd hi (by omega)⟩
  have h1 := take_rel (d := 0) (Nat.zero_le _) hL h
  have e : tkS x 0 (([], []) : MSt) = layS kd x (4 * 0) := by
    unfold tkS
    rw [if_neg (by simp)]
    rfl
  rw [← e]
  exact h1
theorem lay_y {J kd k t : Nat} {mn m2 : Nat → Nat} {a1 a2 v1 v2 : Nat → Int32} {x rt : Int32} (hk : k < mn J) (ht : t < 4) (hc : inT kd t) (hL : LRel J mn a1 a2 (layS kd x (4 * k + t))) (hr : rt = tuI (nI kd) (a1 (24 * J + k)) t) (h : TkF J mn a1 a2 rt (nI ((layS kd x (4 * k + t)).2.getD k 0 + 1)) m2 v1 v2) : LRel J m2 v1 v2 (layS kd x (4 * k + (t + 1))) := by
  have l3 := hL.2.2 k hk
  have h1 := take_rel (by have h9 := l3.2.2; omega) hL h
  have e : layS kd x (4 * k + (t + 1)) = tkS rt ((layS kd x (4 * k + t)).2.getD k 0 + 1) (layS kd x (4 * k + t)) := by
    show msS kd (4 * k + t) (layS kd x (4 * k + t)) = _
    unfold msS
    rw [show (4 * k + t) / 4 = k by omega, show (4 * k + t) % 4 = t by omega, if_pos ⟨by have h9 := hL.1; omega, hc⟩, hr, l3.1]
  rw [e]
  exact h1
theorem lay_n {J kd k t : Nat} {mn : Nat → Nat} {a1 a2 : Nat → Int32} {x : Int32} (ht : t < 4) (hc : ¬ inT kd t) (hL : LRel J mn a1 a2 (layS kd x (4 * k + t))) : LRel J mn a1 a2 (layS kd x (4 * k + (t + 1))) := by
  have e : layS kd x (4 * k + (t + 1)) = layS kd x (4 * k + t) := by
    show msS kd (4 * k + t) (layS kd x (4 * k + t)) = _
    unfold msS
    rw [show (4 * k + t) % 4 = t by omega, if_neg (fun q => hc q.2)]
  rw [e]
  exact hL
theorem cl_put {J k : Nat} {c9 t : Nat → Int32} {x : Int32} (h : ∀ i, i < k → c9 (24 * J + i) = t i) (hx : x = t k) : ∀ i, i < k + 1 → upd c9 (24 * J + k) x (24 * J + i) = t i := by
  intro i hi
  unfold upd
  by_cases q : i = k
  · rw [if_pos (by omega), q]
    exact hx
  · rw [if_neg (by omega)]
    exact h i (by omega)
theorem LRel_fr {J K : Nat} {mn m2 : Nat → Nat} {a1 a2 v1 v2 : Nat → Int32} {S : MSt} (hne : ¬ J = K) (ho : ∀ j, ¬ j = K → m2 j = mn j) (hf : ∀ i, (i < 24 * K ∨ 24 * K + 24 ≤ i) → v1 i = a1 i ∧ v2 i = a2 i) (hl : mn J ≤ 24) (h : LRel J mn a1 a2 S) : LRel J m2 v1 v2 S := by
  obtain ⟨l1, l2, l3⟩ := h
  refine ⟨by rw [ho J hne]; exact l1, by rw [ho J hne]; exact l2, fun i hi => ?_⟩
  rw [ho J hne] at hi
  have e := hf (24 * J + i) (by omega)
  rw [e.1, e.2]
  exact l3 i hi
def AllS (cb : Nat) (mk : Nat → Nat) (ml st : Nat → Int32) (mn : Nat → Nat) (v1 v2 v3 : Nat → Int32) : Prop := (∀ J, J < cb → LRel J mn v1 v2 (layS (mk J) (st J) 96) ∧ ∀ k, k < mn J → v3 (24 * J + k) = laI (ml J) (v1 (24 * J + k))) ∧ (cb = 2 → mn 2 = 1)
abbrev AllR (cb : Nat) (mk : Nat → Nat) (ml : Nat → Int32) (mn : Nat → Nat) (v1 v2 v3 : Nat → Int32) : Prop := AllS cb mk ml (fun _ => 181896) mn v1 v2 v3
-- one cube laid anew
theorem AllS_set {cb K : Nat} {mk : Nat → Nat} {ml st : Nat → Int32} {mn m2 : Nat → Nat} {a1 a2 a3 v1 v2 v3 : Nat → Int32} {x : Int32} (hK : K < cb) (hla : ∀ J, J < cb → mn J ≤ 24) (h : AllS cb mk ml st mn a1 a2 a3) (ho : ∀ j, ¬ j = K → m2 j = mn j) (hL : LRel K m2 v1 v2 (layS (mk K) x 96)) (hf : ∀ i, (i < 24 * K ∨ 24 * K + 24 ≤ i) → v1 i = a1 i ∧ v2 i = a2 i) (hc : ∀ k, k < m2 K → v3 (24 * K + k) = laI (ml K) (v1 (24 * K + k))) (hg : ∀ i, (i < 24 * K ∨ 24 * K + 24 ≤ i) → v3 i = a3 i) : AllS cb mk ml (upd st K x) m2 v1 v2 v3 := by
  refine ⟨fun J hJ => ?_, fun h2 => ?_⟩
  · by_cases e : J = K
    · subst e
      rw [show upd st J x J = x from if_pos rfl]
      exact ⟨hL, hc⟩
    · rw [show upd st K x J = st J from if_neg e]
      obtain ⟨h1, h2⟩ := h.1 J hJ
      refine ⟨LRel_fr e ho hf (hla J hJ) h1, fun k hk => ?_⟩
      rw [ho J e] at hk
      have h24 := hla J hJ
      rw [hg _ (by omega), (hf _ (by omega)).1]
      exact h2 k hk
  · rw [ho 2 (by omega)]
    exact h.2 h2
theorem AllR2 {mk : Nat → Nat} {ml : Nat → Int32} {m0 m1 : Nat → Nat} {a1 a2 c0 b1 b2 c1 : Nat → Int32} (h2 : m0 2 = 1) (q0 : m0 0 ≤ 24) (l0 : LRel 0 m0 a1 a2 (layS (mk 0) 181896 96)) (k0 : ∀ k, k < m0 0 → c0 (24 * 0 + k) = laI (ml 0) (a1 (24 * 0 + k))) (o1 : ∀ j, ¬ j = 1 → m1 j = m0 j) (l1 : LRel 1 m1 b1 b2 (layS (mk 1) 181896 96)) (r1 : ∀ i, (i < 24 * 1 ∨ 24 * 1 + 24 ≤ i) → b1 i = a1 i ∧ b2 i = a2 i) (k1 : ∀ k, k < m1 1 → c1 (24 * 1 + k) = laI (ml 1) (b1 (24 * 1 + k))) (x1 : ∀ i, (i < 24 * 1 ∨ 24 * 1 + 24 ≤ i) → c1 i = c0 i) : AllR 2 mk ml m1 b1 b2 c1 := by
  refine ⟨fun J hJ => ?_, fun _ => (o1 2 (by decide)).trans h2⟩
  rcases (show J = 0 ∨ J = 1 by omega) with rfl | rfl
  · refine ⟨LRel_fr (by decide) o1 r1 q0 l0, fun k hk => ?_⟩
    rw [o1 0 (by decide)] at hk
    rw [x1 _ (by omega), (r1 _ (by omega)).1]
    exact k0 k hk
  · exact ⟨l1, k1⟩
theorem AllR3 {mk : Nat → Nat} {ml : Nat → Int32} {m0 m1 m2 : Nat → Nat} {a1 a2 c0 b1 b2 c1 d1 d2 c2 : Nat → Int32} (q0 : m0 0 ≤ 24) (q1 : m1 1 ≤ 24) (l0 : LRel 0 m0 a1 a2 (layS (mk 0) 181896 96)) (k0 : ∀ k, k < m0 0 → c0 (24 * 0 + k) = laI (ml 0) (a1 (24 * 0 + k))) (o1 : ∀ j, ¬ j = 1 → m1 j = m0 j) (l1 : LRel 1 m1 b1 b2 (layS (mk 1) 181896 96)) (r1 : ∀ i, (i < 24 * 1 ∨ 24 * 1 + 24 ≤ i) → b1 i = a1 i ∧ b2 i = a2 i) (k1 : ∀ k, k < m1 1 → c1 (24 * 1 + k) = laI (ml 1) (b1 (24 * 1 + k))) (x1 : ∀ i, (i < 24 * 1 ∨ 24 * 1 + 24 ≤ i) → c1 i = c0 i) (o2 : ∀ j, ¬ j = 2 → m2 j = m1 j) (l2 : LRel 2 m2 d1 d2 (layS (mk 2) 181896 96)) (r2 : ∀ i, (i < 24 * 2 ∨ 24 * 2 + 24 ≤ i) → d1 i = b1 i ∧ d2 i = b2 i) (k2 : ∀ k, k < m2 2 → c2 (24 * 2 + k) = laI (ml 2) (d1 (24 * 2 + k))) (x2 : ∀ i, (i < 24 * 2 ∨ 24 * 2 + 24 ≤ i) → c2 i = c1 i) : AllR 3 mk ml m2 d1 d2 c2 := by
  have e10 := o1 0 (by decide)
  refine ⟨fun J hJ => ?_, fun h => absurd h (by decide)⟩
  rcases (show J = 0 ∨ J = 1 ∨ J = 2 by omega) with rfl | rfl | rfl
  · refine ⟨LRel_fr (by decide) o2 r2 (by omega) (LRel_fr (by decide) o1 r1 q0 l0), fun k hk => ?_⟩
    rw [o2 0 (by decide), e10] at hk
    rw [x2 _ (by omega), x1 _ (by omega), (r2 _ (by omega)).1, (r1 _ (by omega)).1]
    exact k0 k hk
  · refine ⟨LRel_fr (by decide) o2 r2 q1 l1, fun k hk => ?_⟩
    rw [o2 1 (by decide)] at hk
    rw [x2 _ (by omega), (r2 _ (by omega)).1]
    exact k1 k hk
  · exact ⟨l2, k2⟩
