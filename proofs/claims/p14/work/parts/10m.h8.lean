-- the fewest turns from given starts, whatever else the arrays hold
def cMn (cb : Nat) (mk : Nat → Nat) (st : Nat → Int32) (J : Nat) : Nat := if J < cb then (layS (mk J) (st J) 96).1.length else 1
def cV2 (mk : Nat → Nat) (st : Nat → Int32) (n : Nat) : Int32 := nI ((layS (mk (n / 24)) (st (n / 24)) 96).2.getD (n % 24) 0)
def cV3 (mk : Nat → Nat) (ml st : Nat → Int32) (n : Nat) : Int32 := laI (ml (n / 24)) ((layS (mk (n / 24)) (st (n / 24)) 96).1.getD (n % 24) 0)
def fwM (cb : Nat) (mk : Nat → Nat) (ml st : Nat → Int32) : Int32 := feM cb (cMn cb mk st) (cV2 mk st) (cV3 mk ml st) (alN cb (cMn cb mk st))
def HitM (cb : Nat) (mk : Nat → Nat) (ml : Nat → Int32) (w : Int32) (i : Nat) : Prop := inT (mk (i / 4)) (i % 4) ∧ fwM cb mk ml (upd (fun _ => 181896) (i / 4) (tuI (nI (mk (i / 4))) 181896 (i % 4))) = w - 1
theorem feM_congr {cb : Nat} {mn mn' : Nat → Nat} {w w' c c' : Nat → Int32} : ∀ n, (∀ k, k < n → cbI cb mn c k = cbI cb mn' c' k ∧ fbI cb mn w k = fbI cb mn' w' k) → feM cb mn w c n = feM cb mn' w' c' n
  | 0, _ => rfl
  | n + 1, h => by
    obtain ⟨e1, e2⟩ := h n (by omega)
    show (if cbI cb mn c n = 0 ∧ fbI cb mn w n < feM cb mn w c n then fbI cb mn w n else feM cb mn w c n) = (if cbI cb mn' c' n = 0 ∧ fbI cb mn' w' n < feM cb mn' w' c' n then fbI cb mn' w' n else feM cb mn' w' c' n)
    rw [feM_congr n (fun k hk => h k (by omega)), e1, e2]
theorem all_v {cb : Nat} {mk : Nat → Nat} {ml st : Nat → Int32} {mn : Nat → Nat} {v1 v2 v3 : Nat → Int32} (h : AllS cb mk ml st mn v1 v2 v3) {J i : Nat} (hJ : J < cb) (hl : mn J ≤ 24) (hi : i < mn J) : v3 (24 * J + i) = cV3 mk ml st (24 * J + i) ∧ v2 (24 * J + i) = cV2 mk st (24 * J + i) := by
  obtain ⟨hL, hc⟩ := h.1 J hJ
  unfold cV3 cV2
  rw [show (24 * J + i) / 24 = J by omega, show (24 * J + i) % 24 = i by omega, hc i hi, (hL.2.2 i hi).1, (hL.2.2 i hi).2.1]
  exact ⟨rfl, rfl⟩
theorem mo_2 (s a b c : Int32) : moI 2 s a b c = smI a b s := if_pos rfl
theorem mf_2 (a b c c' : Int32) : mfI 2 a b c = mfI 2 a b c' := by
  unfold mfI
  simp only [mo_2]
theorem fw_canon {cb : Nat} {mk : Nat → Nat} {ml st : Nat → Int32} {mn : Nat → Nat} {v1 v2 v3 : Nat → Int32} (hcb : cb = 2 ∨ cb = 3) (hla : LA mn) (h : AllS cb mk ml st mn v1 v2 v3) : feM cb mn v2 v3 (alN cb mn) = fwM cb mk ml st := by
  have hm : ∀ J, J < cb → cMn cb mk st J = mn J := fun J hJ => by
    unfold cMn
    rw [if_pos hJ]
    exact (h.1 J hJ).1.1
  obtain ⟨⟨a0, b0⟩, ⟨a1, b1⟩, a2, b2⟩ := hla
  have ha : alN cb (cMn cb mk st) = alN cb mn := by
    unfold alN
    rcases hcb with rfl | rfl
    · rw [if_pos rfl, if_pos rfl, hm 0 (by decide), hm 1 (by decide)]
    · rw [if_neg (by decide), if_neg (by decide), hm 0 (by decide), hm 1 (by decide), hm 2 (by decide)]
  unfold fwM
  rw [ha]
  refine feM_congr _ (fun k hk => ?_)
  rw [al_3 hcb h.2] at hk
  obtain ⟨d0, d1, d2⟩ := al_dec (by omega) (by omega) hk
  have e0 := all_v h (J := 0) (by omega) b0 d0
  have e1 := all_v h (J := 1) (by omega) b1 d1
  rw [show 24 * 0 + k % mn 0 = k % mn 0 by omega] at e0
  rw [show 24 * 1 + k / mn 0 % mn 1 = 24 + k / mn 0 % mn 1 by omega] at e1
  unfold cbI fbI
  rw [hm 0 (by omega), hm 1 (by omega), e0.1, e0.2, e1.1, e1.2]
  rcases hcb with rfl | rfl
  · exact ⟨mf_2 _ _ _ _, by rw [if_neg (by decide), if_neg (by decide)]⟩
  · have e2 := all_v h (J := 2) (by decide) b2 d2
    rw [show 24 * 2 + k / mn 0 / mn 1 = 48 + k / mn 0 / mn 1 by omega] at e2
    rw [e2.1, e2.2]
    exact ⟨rfl, rfl⟩
theorem st_back {cb K : Nat} {mk : Nat → Nat} {ml : Nat → Int32} {mn : Nat → Nat} {v1 v2 v3 : Nat → Int32} {x : Int32} (h : AllS cb mk ml (upd (upd (fun _ => 181896) K x) K 181896) mn v1 v2 v3) : AllR cb mk ml mn v1 v2 v3 := by
  have e : upd (upd (fun _ => (181896 : Int32)) K x) K 181896 = fun _ => 181896 := by
    funext j
    unfold upd
    split
    · rfl
    · rfl
  rw [e] at h
  exact h
