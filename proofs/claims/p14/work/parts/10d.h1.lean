-- the ways of a kind: codes, by how many turns, by which first; as the class makes them and as the reference does
theorem gw_dig : ∀ x ∈ GW, ∀ s, s < 6 → ∃ d : Nat, d < 6 ∧ sdI x (nI s) = nI d := by
  have h : ∀ x ∈ GW, ∀ s, s < 6 → (sdI x (nI s)).toNatClampNeg < 6 ∧ sdI x (nI s) = nI (sdI x (nI s)).toNatClampNeg := by decide +kernel
  exact fun x hx s hs => ⟨_, (h x hx s hs).1, (h x hx s hs).2⟩
theorem gw_inj : ∀ x ∈ GW, ∀ y ∈ GW, (∀ s, s < 6 → sdI x (nI s) = sdI y (nI s)) → x = y := by decide +kernel
def idx : List Int32 → Int32 → Nat
  | [], _ => 0
  | y :: r, x => if y = x then 0 else idx r x + 1
theorem idx_le : ∀ (l : List Int32) (x : Int32), idx l x ≤ l.length
  | [], _ => Nat.le_refl _
  | y :: r, x => by
    have h := idx_le r x
    show (if y = x then 0 else idx r x + 1) ≤ r.length + 1
    split <;> omega
theorem idx_ne : ∀ (l : List Int32) (x : Int32) (v : Nat), v < idx l x → ¬ l.getD v 0 = x
  | [], _, v, h => absurd h (Nat.not_lt_zero v)
  | y :: r, x, v, h => by
    have h1 : v < (if y = x then 0 else idx r x + 1) := h
    by_cases q : y = x
    · rw [if_pos q] at h1
      exact absurd h1 (Nat.not_lt_zero v)
    · rw [if_neg q] at h1
      match v, h1 with
      | 0, _ => exact q
      | v + 1, h1 => exact idx_ne r x v (by omega)
theorem idx_eq : ∀ (l : List Int32) (x : Int32), idx l x < l.length → l.getD (idx l x) 0 = x
  | [], _, h => absurd h (Nat.not_lt_zero _)
  | y :: r, x, h => by
    have h1 : (if y = x then 0 else idx r x + 1) < r.length + 1 := h
    show (y :: r).getD (if y = x then 0 else idx r x + 1) 0 = x
    by_cases q : y = x
    · rw [if_pos q]
      exact q
    · rw [if_neg q] at h1 ⊢
      exact idx_eq r x (by omega)
theorem idx_at {l : List Int32} {x : Int32} {w : Nat} (hw : w ≤ l.length) (h1 : ∀ v, v < w → ¬ l.getD v 0 = x) (h2 : w < l.length → l.getD w 0 = x) : idx l x = w := by
  rcases Nat.lt_trichotomy (idx l x) w with q | q | q
  · exact absurd (idx_eq l x (by omega)) (h1 _ q)
  · exact q
  · have h3 := idx_le l x
    exact absurd (h2 (by omega)) (idx_ne l x w q)
theorem gd_app {α : Type} (l : List α) (x d : α) (i : Nat) : (l ++ [x]).getD i d = if i = l.length then x else l.getD i d := by
  rw [List.getD_eq_getElem?_getD, List.getD_eq_getElem?_getD]
  by_cases h : i < l.length
  · rw [List.getElem?_append_left h, if_neg (by omega)]
  · rw [List.getElem?_append_right (by omega)]
    by_cases q : i = l.length
    · rw [if_pos q, q, Nat.sub_self]
      rfl
    · rw [if_neg q, List.getElem?_eq_none (by simp only [List.length_cons, List.length_nil]; omega), List.getElem?_eq_none (by omega)]
theorem gd_set {α : Type} (l : List α) (x d : α) (w i : Nat) (hw : w < l.length) : (l.set w x).getD i d = if i = w then x else l.getD i d := by
  rw [List.getD_eq_getElem?_getD, List.getD_eq_getElem?_getD, List.getElem?_set]
  by_cases q : w = i
  · rw [if_pos q, if_pos hw, if_pos q.symm]
    rfl
  · rw [if_neg q, if_neg (fun z => q z.symm)]
abbrev WSt : Type := List Int32 × List Nat × List Nat
def nwX (kd fr t : Nat) (S : WSt) : Int32 := tuI (nI kd) (S.1.getD fr 0) t
def rc1 (kd fr t : Nat) (S : WSt) : WSt := if idx S.1 (nwX kd fr t S) = S.1.length ∧ S.1.length < 24 then (S.1 ++ [nwX kd fr t S], S.2.1 ++ [S.2.1.getD fr 0 + 1], S.2.2 ++ [0]) else S
def rc2 (w fr t : Nat) (S : WSt) : WSt := if w < S.1.length ∧ S.2.1.getD w 0 = S.2.1.getD fr 0 + 1 then (S.1, S.2.1, S.2.2.set w (S.2.2.getD w 0 ||| (if fr = 0 then 1 <<< t else S.2.2.getD fr 0))) else S
def rcS (kd fr t : Nat) (S : WSt) : WSt := rc2 (idx S.1 (nwX kd fr t S)) fr t (rc1 kd fr t S)
def stS (kd i : Nat) (S : WSt) : WSt := if i / 4 < S.1.length ∧ canT kd (i % 4) then rcS kd (i / 4) (i % 4) S else S
def runS (kd : Nat) : Nat → WSt
  | 0 => ([181896], [0], [0])
  | i + 1 => stS kd i (runS kd i)
def WRel (z : Nat) (f g h : Nat → Int32) (S : WSt) : Prop := S.1.length = z ∧ S.2.1.length = z ∧ S.2.2.length = z ∧ (∀ w, w < z → S.1.getD w 0 ∈ GW) ∧ (∀ w, w < z → ∀ s, s < 6 → f (w * 6 + s) = sdI (S.1.getD w 0) (nI s)) ∧ (∀ w, w < z → g w = nI (S.2.1.getD w 0) ∧ S.2.1.getD w 0 ≤ w) ∧ (∀ w, w < z → h w = nI (S.2.2.getD w 0) ∧ S.2.2.getD w 0 < 16) ∧ (∀ w, z ≤ w → w < 24 → h w = 0)
theorem or16 : ∀ a, a < 16 → ∀ b, b < 16 → nI a ||| nI b = nI (a ||| b) ∧ a ||| b < 16 := by decide +kernel
theorem sh16 : ∀ t, t < 4 → (1 : Int32) <<< (nI t &&& 31) = nI (1 <<< t) ∧ 1 <<< t < 16 := by decide +kernel
-- a turned row, wherever it begins
theorem rotA_s (f : Nat → Int32) (st : Nat) {s : Nat} (hs : s < 6) : rotA st f (st + s) = f (st + qs 0 s) := by
  rcases s6 hs with rfl | rfl | rfl | rfl | rfl | rfl <;> simp [rotA, upd, qs]
theorem rotB_s (f : Nat → Int32) (st : Nat) {s : Nat} (hs : s < 6) : rotB st f (st + s) = f (st + qs 2 s) := by
  rcases s6 hs with rfl | rfl | rfl | rfl | rfl | rfl <;> simp [rotB, upd, qs]
theorem rotA_o (f : Nat → Int32) (st : Nat) {j : Nat} (hj : j < st ∨ st + 6 ≤ j) : rotA st f j = f j := by
  unfold rotA upd
  rw [if_neg (by omega), if_neg (by omega), if_neg (by omega), if_neg (by omega)]
theorem rotB_o (f : Nat → Int32) (st : Nat) {j : Nat} (hj : j < st ∨ st + 6 ≤ j) : rotB st f j = f j := by
  unfold rotB upd
  rw [if_neg (by omega), if_neg (by omega), if_neg (by omega), if_neg (by omega)]
theorem rotR_s (f : Nat → Int32) (st : Nat) {t s : Nat} (hs : s < 6) : rotR (tr_r t) st f (st + s) = f (st + qs (if t < 2 then 0 else 2) s) := by
  unfold rotR tr_r
  by_cases h : t < 2
  · rw [if_pos (if_pos h), if_pos h]
    exact rotA_s f st hs
  · rw [if_neg (by rw [if_neg h]; decide), if_neg h]
    exact rotB_s f st hs
theorem rotR_o (f : Nat → Int32) (st : Nat) {rg : Int32} {j : Nat} (hj : j < st ∨ st + 6 ≤ j) : rotR rg st f j = f j := by
  unfold rotR
  split
  · exact rotA_o f st hj
  · exact rotB_o f st hj
theorem itN_o (st : Nat) {rg : Int32} {j : Nat} (hj : j < st ∨ st + 6 ≤ j) (f : Nat → Int32) : ∀ n, itN (rotR rg st) n f j = f j
  | 0 => rfl
  | n + 1 => (rotR_o _ st hj).trans (itN_o st hj f n)
theorem tr_o (f : Nat → Int32) {kd : Int32} {t st j : Nat} (hj : j < st ∨ st + 6 ≤ j) : tr_f kd t st f j = f j := itN_o st hj f _
theorem tr_s (f : Nat → Int32) (st : Nat) {k t s : Nat} (hk : k < 5) (ht : t < 4) (hs : s < 6) : tr_f (nI k) t st f (st + s) = f (st + tsM k t s) := by
  have h6 : ∀ s, s < 6 → qs (if t < 2 then 0 else 2) s < 6 := fun s hs => by
    split
    · exact qs6 0 (by decide) s hs
    · exact qs6 2 (by decide) s hs
  have e1 : ∀ (g : Nat → Int32) (s : Nat), s < 6 → rotR (tr_r t) st g (st + s) = g (st + qs (if t < 2 then 0 else 2) s) := fun g s hs => rotR_s g st hs
  rw [← (ts_eq k hk t ht s hs).1]
  unfold tr_f tr_n tsC
  by_cases h4 : k = 4
  · rw [if_pos (show nI k = 4 by rw [h4]; rfl), if_pos h4]
    show rotR (tr_r t) st (rotR (tr_r t) st f) (st + s) = _
    rw [e1 _ s hs, e1 _ _ (h6 s hs)]
  · rw [if_neg (show ¬ nI k = 4 from fun q => h4 ((nI_eq (a := k) (b := 4) (by omega) (by decide)).mp q)), if_neg h4]
    by_cases h2 : t % 2 = 0
    · rw [if_pos h2, if_pos h2]
      exact e1 f s hs
    · rw [if_neg h2, if_neg h2]
      show rotR (tr_r t) st (rotR (tr_r t) st (rotR (tr_r t) st f)) (st + s) = _
      rw [e1 _ s hs, e1 _ _ (h6 s hs), e1 _ _ (h6 _ (h6 s hs))]
theorem cpy_i {f g : Nat → Int32} {a b n j : Nat} (h : j < n) : va_cpy f g a b n (b + j) = f (a + j) := by
  show (if b ≤ b + j ∧ b + j < b + n then f (a + (b + j - b)) else g (b + j)) = f (a + j)
  rw [if_pos ⟨by omega, by omega⟩, Nat.add_sub_cancel_left]
theorem cpy_o {f g : Nat → Int32} {a b n j : Nat} (h : j < b ∨ b + n ≤ j) : va_cpy f g a b n j = g j := by
  show (if b ≤ j ∧ j < b + n then f (a + (j - b)) else g j) = g j
  rw [if_neg (by omega)]
-- what reach does, as its contract tells it
def ReF (f g h : Nat → Int32) (z fr kd t z2 : Nat) (f2 g2 h2 : Nat → Int32) : Prop := f2 = tr_f (nI kd) t (z * 6) (va_cpy f f (fr * 6) (z * 6) 6) ∧ ∃ w : Nat, w ≤ z ∧ (∀ v, v < w → ¬ sameR f2 v z) ∧ (w < z → sameR f2 w z) ∧ ((w = z ∧ z < 24 ∧ z2 = z + 1 ∧ g2 = upd g z (g fr + 1)) ∨ (¬ (w = z ∧ z < 24) ∧ z2 = z ∧ g2 = g)) ∧ ((w < z2 ∧ g2 w = g2 fr + 1 ∧ h2 = upd h w (h w ||| (if fr = 0 then (1 : Int32) <<< (nI t &&& 31) else h fr))) ∨ (¬ (w < z2 ∧ g2 w = g2 fr + 1) ∧ h2 = h))
theorem nI_ad1 (a : Nat) : nI a + 1 = nI (a + 1) := nIa a 1
theorem reach_rel {f g h f2 g2 h2 : Nat → Int32} {z fr kd t z2 : Nat} {S : WSt} (hz : z ≤ 24) (hfr : fr < z) (hkd : kd < 5) (ht : t < 4) (hW : WRel z f g h S) (hR : ReF f g h z fr kd t z2 f2 g2 h2) : WRel z2 f2 g2 h2 (rcS kd fr t S) := by
  obtain ⟨w1, w2, w3, w4, w5, w6, w7, w8⟩ := hW
  obtain ⟨hf, w, hwz, hv, hsm, hg, hh⟩ := hR
  have hx := gw_turn kd hkd t ht _ (w4 fr hfr)
  have hold : ∀ v, v < z → ∀ s, s < 6 → f2 (v * 6 + s) = sdI (S.1.getD v 0) (nI s) := fun v hv s hs => by
    rw [hf, tr_o _ (by omega), cpy_o (by omega)]
    exact w5 v hv s hs
  have hnew : ∀ s, s < 6 → f2 (z * 6 + s) = sdI (nwX kd fr t S) (nI s) := fun s hs => by
    have h6 := (ts_eq kd hkd t ht s hs).2
    rw [hf, tr_s _ _ hkd ht hs, cpy_i h6, w5 fr hfr _ h6]
    exact (tu_f _ hkd ht hs).symm
  have hsame : ∀ v, v < z → (sameR f2 v z ↔ S.1.getD v 0 = nwX kd fr t S) := fun v hv => by
    constructor
    · intro q
      refine gw_inj _ (w4 v hv) _ hx (fun s hs => ?_)
      rw [← hold v hv s hs, ← hnew s hs]
      exact q s hs
    · intro q s hs
      rw [hold v hv s hs, hnew s hs, q]
  have hidx : idx S.1 (nwX kd fr t S) = w := by
    refine idx_at (by omega) (fun v hv9 q => ?_) (fun hl => ?_)
    · exact hv v hv9 ((hsame v (by omega)).mpr q)
    · exact (hsame w (by omega)).mp (hsm (by omega))
  have h1 : WRel z2 f2 g2 h (rc1 kd fr t S) := by
    unfold rc1
    rw [hidx]
    rcases hg with ⟨q1, q2, q3, q4⟩ | ⟨q1, q3, q4⟩
    · rw [if_pos ⟨by omega, by omega⟩, q3, q4]
      refine ⟨by simp [w1], by simp [w2], by simp [w3], fun v hv => ?_, fun v hv s hs => ?_, fun v hv => ?_, fun v hv => ?_, fun v hv h24 => w8 v (by omega) h24⟩
      · show (S.1 ++ [nwX kd fr t S]).getD v 0 ∈ GW
        rw [gd_app]
        split
        · exact hx
        · exact w4 v (by omega)
      · show f2 (v * 6 + s) = sdI ((S.1 ++ [nwX kd fr t S]).getD v 0) (nI s)
        rw [gd_app]
        by_cases q : v = S.1.length
        · rw [if_pos q, q, w1]
          exact hnew s hs
        · rw [if_neg q]
          exact hold v (by omega) s hs
      · show upd g z (g fr + 1) v = nI ((S.2.1 ++ [S.2.1.getD fr 0 + 1]).getD v 0) ∧ (S.2.1 ++ [S.2.1.getD fr 0 + 1]).getD v 0 ≤ v
        rw [gd_app]
        have hb := (w6 fr hfr).2
        by_cases q : v = S.2.1.length
        · rw [if_pos q, show upd g z (g fr + 1) v = g fr + 1 from if_pos (by omega), (w6 fr hfr).1, nI_ad1]
          exact ⟨rfl, by omega⟩
        · rw [if_neg q, show upd g z (g fr + 1) v = g v from if_neg (by omega)]
          exact w6 v (by omega)
      · show h v = nI ((S.2.2 ++ [0]).getD v 0) ∧ (S.2.2 ++ [0]).getD v 0 < 16
        rw [gd_app]
        by_cases q : v = S.2.2.length
        · rw [if_pos q, w8 v (by omega) (by omega)]
          exact ⟨rfl, by decide⟩
        · rw [if_neg q]
          exact w7 v (by omega)
    · rw [if_neg (by omega), q3, q4]
      exact ⟨w1, w2, w3, w4, hold, w6, w7, w8⟩
  unfold rcS
  rw [hidx]
  generalize rc1 kd fr t S = S1 at h1 ⊢
  obtain ⟨x1, x2, x3, x4, x5, x6, x7, x8⟩ := h1
  have hfr2 : fr < z2 := by omega
  have hz24 : z2 ≤ 24 := by omega
  have hcond : ∀ hw2 : w < z2, (g2 w = g2 fr + 1 ↔ S1.2.1.getD w 0 = S1.2.1.getD fr 0 + 1) := fun hw2 => by
    have a1 := x6 w hw2
    have a2 := x6 fr hfr2
    rw [a1.1, a2.1, nI_ad1]
    exact nI_eq (by omega) (by omega)
  unfold rc2
  rcases hh with ⟨q1, q2, q3⟩ | ⟨q1, q3⟩
  · rw [if_pos ⟨by omega, (hcond q1).mp q2⟩, q3]
    have hb : (if fr = 0 then 1 <<< t else S1.2.2.getD fr 0) < 16 ∧ (if fr = 0 then (1 : Int32) <<< (nI t &&& 31) else h fr) = nI (if fr = 0 then 1 <<< t else S1.2.2.getD fr 0) := by
      split
      · exact ⟨(sh16 t ht).2, (sh16 t ht).1⟩
      · exact ⟨(x7 fr hfr2).2, (x7 fr hfr2).1⟩
    have ho := or16 _ (x7 w q1).2 _ hb.1
    refine ⟨x1, x2, by rw [List.length_set]; exact x3, x4, x5, x6, fun v hv => ?_, fun v hv h24 => ?_⟩
    · rw [gd_set _ _ _ _ _ (by omega)]
      by_cases q : v = w
      · rw [if_pos q, show upd h w (h w ||| (if fr = 0 then (1 : Int32) <<< (nI t &&& 31) else h fr)) v = h w ||| (if fr = 0 then (1 : Int32) <<< (nI t &&& 31) else h fr) from if_pos q, hb.2, (x7 w q1).1]
        exact ⟨ho.1, ho.2⟩
      · rw [if_neg q, show upd h w (h w ||| (if fr = 0 then (1 : Int32) <<< (nI t &&& 31) else h fr)) v = h v from if_neg q]
        exact x7 v hv
    · rw [show upd h w (h w ||| (if fr = 0 then (1 : Int32) <<< (nI t &&& 31) else h fr)) v = h v from if_neg (by omega)]
      exact x8 v hv h24
  · rw [if_neg (fun q => q1 ⟨by omega, (hcond (by omega)).mpr q.2⟩), q3]
    exact ⟨x1, x2, x3, x4, x5, x6, x7, x8⟩
theorem run_stop {kd fr : Nat} (h : (runS kd (4 * fr)).1.length ≤ fr) : ∀ j, runS kd (4 * fr + j) = runS kd (4 * fr)
  | 0 => rfl
  | j + 1 => by
    show stS kd (4 * fr + j) (runS kd (4 * fr + j)) = _
    rw [run_stop h j]
    unfold stS
    rw [if_neg (fun q => by have h9 := q.1; omega)]
theorem run_end {kd fr : Nat} (hf : fr ≤ 24) (h : (runS kd (4 * fr)).1.length ≤ fr) : runS kd 96 = runS kd (4 * fr) := by
  have e : 96 = 4 * fr + (96 - 4 * fr) := by omega
  rw [e]
  exact run_stop h _
theorem WRel0 : WRel 1 (upd (upd (upd (upd (upd (upd (fun _ => 0) 0 0) 1 1) 2 2) 3 3) 4 4) 5 5) (fun _ => 0) (fun _ => 0) ([181896], [0], [0]) := by
  refine ⟨rfl, rfl, rfl, fun w hw => ?_, fun w hw s hs => ?_, fun w hw => ?_, fun w hw => ?_, fun w hw h => rfl⟩
  · obtain rfl : w = 0 := by omega
    exact gw_as
  · obtain rfl : w = 0 := by omega
    rcases s6 hs with rfl | rfl | rfl | rfl | rfl | rfl <;> decide +kernel
  · obtain rfl : w = 0 := by omega
    exact ⟨rfl, Nat.le_refl _⟩
  · obtain rfl : w = 0 := by omega
    exact ⟨rfl, by decide⟩
theorem WRel0k {kd : Nat} : WRel 1 (upd (upd (upd (upd (upd (upd (fun _ => 0) 0 0) 1 1) 2 2) 3 3) 4 4) 5 5) (fun _ => 0) (fun _ => 0) (runS kd (4 * 0)) := WRel0
theorem run_y {kd fr t z z2 : Nat} {f g h f2 g2 h2 : Nat → Int32} (hfr : fr < z) (ht : t < 4) (hc : canT kd t) (hW : WRel z f g h (runS kd (4 * fr + t))) (hR : WRel z2 f2 g2 h2 (rcS kd fr t (runS kd (4 * fr + t)))) : WRel z2 f2 g2 h2 (runS kd (4 * fr + (t + 1))) := by
  have e : runS kd (4 * fr + (t + 1)) = rcS kd fr t (runS kd (4 * fr + t)) := by
    show stS kd (4 * fr + t) (runS kd (4 * fr + t)) = _
    unfold stS
    rw [show (4 * fr + t) / 4 = fr by omega, show (4 * fr + t) % 4 = t by omega, if_pos ⟨by have h9 := hW.1; omega, hc⟩]
  rw [e]
  exact hR
theorem run_n {kd fr t z : Nat} {f g h : Nat → Int32} (ht : t < 4) (hc : ¬ canT kd t) (hW : WRel z f g h (runS kd (4 * fr + t))) : WRel z f g h (runS kd (4 * fr + (t + 1))) := by
  have e : runS kd (4 * fr + (t + 1)) = runS kd (4 * fr + t) := by
    show stS kd (4 * fr + t) (runS kd (4 * fr + t)) = _
    unfold stS
    rw [show (4 * fr + t) % 4 = t by omega, if_neg (fun q => hc q.2)]
  rw [e]
  exact hW
