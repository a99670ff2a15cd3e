-- the survey of a tower, told by the ways of its cubes
def kqF (sz : Nat) (kd : Nat → Nat) (J : Nat) : Nat := if J < sz then kd J else 3
def wX (k w : Nat) : Int32 := (RT k).1.getD w 0
def dX (k w : Nat) : Nat := (RT k).2.1.getD w 0
def bX (k w : Nat) : Nat := (RT k).2.2.getD w 0
def mX (k : Nat) : Nat := (RT k).1.length
def CN (sz : Nat) (kd : Nat → Nat) (f : Nat → Nat → Int32) (i j l : Nat) : Nat := c3N sz f (wX (kqF sz kd 0) i) (wX (kqF sz kd 1) j) (wX (kqF sz kd 2) l)
def TN (sz : Nat) (kd : Nat → Nat) (i j l : Nat) : Nat := dX (kqF sz kd 0) i + dX (kqF sz kd 1) j + dX (kqF sz kd 2) l
def FN (sz : Nat) (kd : Nat → Nat) (i j l : Nat) : Nat := (bX (kqF sz kd 0) i ||| (bX (kqF sz kd 1) j <<< 4)) ||| (bX (kqF sz kd 2) l <<< 8)
def S3 (sz : Nat) (kd : Nat → Nat) (f : Nat → Nat → Int32) : Nat := sumN (mX (kqF sz kd 0)) (fun i => sumN (mX (kqF sz kd 1)) (fun j => sumN (mX (kqF sz kd 2)) (ind (CN sz kd f) i j)))
theorem tab_ok : ∀ k, k < 5 → (1 ≤ mX k ∧ mX k ≤ 24) ∧ (RT k).2.1.length = mX k ∧ (RT k).2.2.length = mX k ∧ ∀ w, w < 24 → dX k w < 24 ∧ bX k w < 16 ∧ (w < mX k → wX k w ∈ GW) := by decide +kernel
theorem gd_far {α : Type} {l : List α} {d : α} {w : Nat} (h : l.length ≤ w) : l.getD w d = d := by
  rw [List.getD_eq_getElem?_getD, List.getElem?_eq_none h]
  rfl
theorem kq5 {sz : Nat} {kd : Nat → Nat} (h : ∀ i, kd i < 5) (J : Nat) : kqF sz kd J < 5 := by
  unfold kqF
  split
  · exact h J
  · decide
theorem dX_lt {k : Nat} (hk : k < 5) (w : Nat) : dX k w < 24 := by
  obtain ⟨⟨h1, h2⟩, h3, h4, h5⟩ := tab_ok k hk
  rcases Nat.lt_or_ge w 24 with q | q
  · exact (h5 w q).1
  · unfold dX
    rw [gd_far (by omega)]
    decide
theorem bX_lt {k : Nat} (hk : k < 5) (w : Nat) : bX k w < 16 := by
  obtain ⟨⟨h1, h2⟩, h3, h4, h5⟩ := tab_ok k hk
  rcases Nat.lt_or_ge w 24 with q | q
  · exact (h5 w q).2.1
  · unfold bX
    rw [gd_far (by omega)]
    decide
theorem wX_in {k : Nat} (hk : k < 5) {w : Nat} (hw : w < mX k) : wX k w ∈ GW := by
  obtain ⟨⟨h1, h2⟩, h3, h4, h5⟩ := tab_ok k hk
  exact (h5 w (by omega)).2.2 hw
theorem c3_le (cb : Nat) (f : Nat → Nat → Int32) (x y w : Int32) : c3N cb f x y w ≤ 12 := by
  have h1 := c2_le (f 0) (f 1) x y
  have h2 := c2_le (f 2) (f 0) w x
  have h3 := c2_le (f 2) (f 1) w y
  unfold c3N
  split <;> omega
theorem or3 : ∀ a, a < 16 → ∀ b, b < 16 → ∀ c, c < 16 → ((nI a ||| (nI b <<< ((4 : Int32) &&& 31))) ||| (nI c <<< ((8 : Int32) &&& 31)) = nI ((a ||| (b <<< 4)) ||| (c <<< 8))) ∧ (a ||| (b <<< 4)) ||| (c <<< 8) < 4096 := by decide +kernel
theorem FN_lt {sz : Nat} {kd : Nat → Nat} (h : ∀ i, kd i < 5) (i j l : Nat) : FN sz kd i j l < 4096 := (or3 _ (bX_lt (kq5 h 0) i) _ (bX_lt (kq5 h 1) j) _ (bX_lt (kq5 h 2) l)).2
theorem TN_lt {sz : Nat} {kd : Nat → Nat} (h : ∀ i, kd i < 5) (i j l : Nat) : TN sz kd i j l < 1000 := by
  have h1 := dX_lt (kq5 (sz := sz) h 0) i
  have h2 := dX_lt (kq5 (sz := sz) h 1) j
  have h3 := dX_lt (kq5 (sz := sz) h 2) l
  unfold TN
  omega
theorem S3_lt {sz : Nat} {kd : Nat → Nat} (h : ∀ i, kd i < 5) (f : Nat → Nat → Int32) : S3 sz kd f < 16384 := by
  have h0 := (tab_ok _ (kq5 (sz := sz) h 0)).1
  have h1 := (tab_ok _ (kq5 (sz := sz) h 1)).1
  have h2 := (tab_ok _ (kq5 (sz := sz) h 2)).1
  have k2 : ∀ i j, sumN (mX (kqF sz kd 2)) (ind (CN sz kd f) i j) ≤ 24 := fun i j => Nat.le_trans (sum_le (ind_le _ i j) _) (by omega)
  have k1 : ∀ i, sumN (mX (kqF sz kd 1)) (fun j => sumN (mX (kqF sz kd 2)) (ind (CN sz kd f) i j)) ≤ 576 := fun i => Nat.le_trans (sum_le (k2 i) _) (by omega)
  have k0 := sum_le k1 (mX (kqF sz kd 0))
  unfold S3
  omega
theorem all_lt {a b c : Nat} (ha : 1 ≤ a ∧ a ≤ 24) (hb : 1 ≤ b ∧ b ≤ 24) (hc : 1 ≤ c ∧ c ≤ 24) : a * b * c < 16384 := by
  have h1 : a * b ≤ 24 * 24 := Nat.mul_le_mul ha.2 hb.2
  have h2 : a * b * c ≤ 24 * 24 * 24 := Nat.mul_le_mul h1 hc.2
  omega
theorem z_mX {z : Nat → Nat} {wf wg wh : Nat → Nat → Int32} (hw5 : ∀ k, k < 5 → WRel (z k) (wf k) (wg k) (wh k) (RT k)) {k : Nat} (hk : k < 5) : z k = mX k := (hw5 k hk).1.symm
theorem wl_at {z : Nat → Nat} {wf wg wh : Nat → Nat → Int32} {sz : Nat} {kd : Nat → Nat} {f : Nat → Nat → Int32} {J w : Nat} (hw5 : ∀ k, k < 5 → WRel (z k) (wf k) (wg k) (wh k) (RT k)) (hkd : ∀ i, kd i < 5) (hok : Okf f) (hJ3 : J < 3) (hJ : J < sz) (hw : w < mX (kqF sz kd J)) : wlT sz kd f wf J w = wlX (f J) (wX (kqF sz kd J) w) ∧ wX (kqF sz kd J) w ∈ GW := by
  have e : kqF sz kd J = kd J := if_pos hJ
  rw [e] at hw ⊢
  obtain ⟨r1, r2, r3, r4, r5, r6, r7, r8⟩ := hw5 _ (hkd J)
  have hw' : w < z (kd J) := by rw [z_mX hw5 (hkd J)]; exact hw
  rw [wlT_in hJ]
  exact ⟨walls_x (hok J hJ3) (r4 w hw') (r5 w hw'), r4 w hw'⟩
theorem bc_0 : ∀ x : Int32, bcF ((0 : Int32) &&& x) = 0 := fun x => by
  rw [Int32.zero_and]
  decide
theorem sv_QI {z : Nat → Nat} {wf wg wh : Nat → Nat → Int32} {sz : Nat} {kd : Nat → Nat} {f : Nat → Nat → Int32} {q : Nat → Nat} {wv : Nat → Nat → Int32} {so le fe fi : Int32} (hw5 : ∀ k, k < 5 → WRel (z k) (wf k) (wg k) (wh k) (RT k)) (hkd : ∀ i, kd i < 5) (hsz : sz = 2 ∨ sz = 3) (hok : Okf f) (h : SvF z wf wg wh sz kd f q wv so le fe fi) : QI (CN sz kd f) (TN sz kd) (FN sz kd) (S3 sz kd f) (fun a b c => a < mX (kqF sz kd 0) ∧ b < mX (kqF sz kd 1) ∧ c < mX (kqF sz kd 2)) (so, le, fe, fi) := by
  obtain ⟨hq, hv, hk⟩ := h
  have e0 : q 0 = kqF sz kd 0 := hq 0 (by decide)
  have e1 : q 1 = kqF sz kd 1 := hq 1 (by decide)
  have e2 : q 2 = kqF sz kd 2 := hq 2 (by decide)
  have k0 := kq5 (sz := sz) hkd 0
  have k1 := kq5 (sz := sz) hkd 1
  have k2 := kq5 (sz := sz) hkd 2
  have z0 := z_mX hw5 k0
  have z1 := z_mX hw5 k1
  have z2 := z_mX hw5 k2
  have v0 : ∀ i, i < mX (kqF sz kd 0) → wv 0 i = wlX (f 0) (wX (kqF sz kd 0) i) ∧ wX (kqF sz kd 0) i ∈ GW := fun i hi => by
    have a := wl_at (w := i) hw5 hkd hok (by decide) (by omega) hi
    exact ⟨(hv 0 (by decide) i (by rw [e0, z0]; exact hi)).trans a.1, a.2⟩
  have v1 : ∀ j, j < mX (kqF sz kd 1) → wv 1 j = wlX (f 1) (wX (kqF sz kd 1) j) ∧ wX (kqF sz kd 1) j ∈ GW := fun j hj => by
    have a := wl_at (w := j) hw5 hkd hok (by decide) (by omega) hj
    exact ⟨(hv 1 (by decide) j (by rw [e1, z1]; exact hj)).trans a.1, a.2⟩
  have hg : ∀ k w, k < 5 → w < mX k → wg k w = nI (dX k w) := fun k w hk hw => ((hw5 k hk).2.2.2.2.2.1 w (by rw [z_mX hw5 hk]; exact hw)).1
  have hh : ∀ k w, k < 5 → w < mX k → wh k w = nI (bX k w) := fun k w hk hw => ((hw5 k hk).2.2.2.2.2.2.1 w (by rw [z_mX hw5 hk]; exact hw)).1
  have c2 : ∀ i, i < mX (kqF sz kd 0) → ∀ j, j < mX (kqF sz kd 1) → c2f wv i j = nI (c2N (f 0) (f 1) (wX (kqF sz kd 0) i) (wX (kqF sz kd 1) j)) := fun i hi j hj => by
    unfold c2f
    rw [(v0 i hi).1, (v1 j hj).1]
    exact wlX_bc (hok 0 (by decide)) (hok 1 (by decide)) (v0 i hi).2 (v1 j hj).2
  have c3 : ∀ i, i < mX (kqF sz kd 0) → ∀ j, j < mX (kqF sz kd 1) → ∀ l, l < mX (kqF sz kd 2) → cTf wv i j (c2f wv i j) l = nI (CN sz kd f i j l) := fun i hi j hj l hl => by
    have hl2 := hv 2 (by decide) l (by rw [e2, z2]; exact hl)
    unfold cTf CN c3N
    rw [c2 i hi j hj]
    rcases hsz with rfl | rfl
    · rw [hl2, wlT_out (by decide), bc_0, bc_0, if_pos rfl, Int32.add_zero, Int32.add_zero]
    · have a := wl_at (w := l) hw5 hkd hok (by decide) (by decide) hl
      rw [hl2, a.1, (v0 i hi).1, (v1 j hj).1, wlX_bc (hok 2 (by decide)) (hok 0 (by decide)) a.2 (v0 i hi).2, wlX_bc (hok 2 (by decide)) (hok 1 (by decide)) a.2 (v1 j hj).2, if_neg (by decide), nIa, nIa]
  rw [hk]
  unfold lkF l1K l2K ttK
  rw [e0, e1, e2, z0, z1, z2]
  refine l1_QI (C2 := fun i j => c2N (f 0) (f 1) (wX (kqF sz kd 0) i) (wX (kqF sz kd 1) j)) (fun a b c => Nat.lt_of_le_of_lt (c3_le _ _ _ _ _) (by decide)) (TN_lt hkd) (FN_lt hkd) (tab_ok _ k1).1.2 (tab_ok _ k2).1.2 (fun i j l => ?_) _ (tab_ok _ k0).1.2 c2 (fun i hi j hj l hl => ⟨c3 i hi j hj l hl, ?_, ?_⟩)
  · show c2N (f 0) (f 1) _ _ ≤ c3N sz f _ _ _
    unfold c3N
    split <;> omega
  · unfold tTf TN
    rw [e0, e1, e2, hg _ _ k0 hi, hg _ _ k1 hj, hg _ _ k2 hl, nIa, nIa]
  · unfold fTf FN
    rw [e0, e1, e2, hh _ _ k0 hi, hh _ _ k1 hj, hh _ _ k2 hl]
    exact (or3 _ (bX_lt k0 i) _ (bX_lt k1 j) _ (bX_lt k2 l)).1
theorem sol_N {z : Nat → Nat} {wf wg wh : Nat → Nat → Int32} {sz : Nat} {kd : Nat → Nat} {f : Nat → Nat → Int32} {q : Nat → Nat} {wv : Nat → Nat → Int32} {so le fe fi : Int32} (hw5 : ∀ k, k < 5 → WRel (z k) (wf k) (wg k) (wh k) (RT k)) (hkd : ∀ i, kd i < 5) (hsz : sz = 2 ∨ sz = 3) (hok : Okf f) (h : SvF z wf wg wh sz kd f q wv so le fe fi) : ∃ S : Nat, so = nI S ∧ S < 16384 := ⟨_, (sv_QI hw5 hkd hsz hok h).1.1, S3_lt hkd f⟩
-- the greatest common divisor within 64 steps
theorem cd_step {k a b : Nat} (ha : a < 16384) (hb : b < 16384) (h0 : 0 < b) (h : k = 0 ∨ (b < a ∧ a * b * 2 ^ (k - 1) < 268435456)) : a % b < b ∧ b * (a % b) * 2 ^ (k + 1 - 1) < 268435456 := by
  have hm := Nat.mod_lt a h0
  refine ⟨hm, ?_⟩
  rw [Nat.add_sub_cancel]
  rcases h with rfl | ⟨h1, h2⟩
  · rw [Nat.pow_zero, Nat.mul_one]
    have : b * (a % b) ≤ 16383 * 16383 := Nat.mul_le_mul (by omega) (by omega)
    omega
  · rcases k with _ | k
    · rw [Nat.pow_zero, Nat.mul_one]
      have : b * (a % b) ≤ 16383 * 16383 := Nat.mul_le_mul (by omega) (by omega)
      omega
    · rw [Nat.add_sub_cancel] at h2
      have hr : 2 * (a % b) ≤ a := by
        have h3 := Nat.div_add_mod a b
        have h4 : 1 ≤ a / b := Nat.div_pos (by omega) h0
        have h5 : b * 1 ≤ b * (a / b) := Nat.mul_le_mul (Nat.le_refl _) h4
        omega
      have h6 : b * (a % b) * 2 ≤ a * b := by
        rw [Nat.mul_assoc, Nat.mul_comm (a % b) 2, Nat.mul_comm a b]
        exact Nat.mul_le_mul (Nat.le_refl _) hr
      rw [Nat.pow_succ, Nat.mul_comm (2 ^ k) 2, ← Nat.mul_assoc]
      exact Nat.lt_of_le_of_lt (Nat.mul_le_mul h6 (Nat.le_refl _)) h2
theorem cd_end {k a b : Nat} (hk : k = 64) (h : k = 0 ∨ (b < a ∧ a * b * 2 ^ (k - 1) < 268435456)) : b = 0 := by
  subst hk
  rcases h with h | ⟨h1, h2⟩
  · exact absurd h (by decide)
  · rcases Nat.eq_zero_or_pos b with q | q
    · exact q
    · have h3 : 1 * 1 ≤ a * b := Nat.mul_le_mul (by omega) q
      have h4 : 1 * 2 ^ 63 ≤ a * b * 2 ^ 63 := Nat.mul_le_mul (by omega) (Nat.le_refl _)
      have h5 : (2 : Nat) ^ 63 = 9223372036854775808 := by decide
      have h6 : a * b * 2 ^ 63 < 268435456 := h2
      rw [h5] at h4 h6
      omega
