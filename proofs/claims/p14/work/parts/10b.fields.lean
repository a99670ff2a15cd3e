theorem s6 {s : Nat} (h : s < 6) : s = 0 ∨ s = 1 ∨ s = 2 ∨ s = 3 ∨ s = 4 ∨ s = 5 := by omega
theorem j3 {j : Nat} (h : j < 3) : j = 0 ∨ j = 1 ∨ j = 2 := by omega
theorem or_and_d (x y z : Int32) : (x ||| y) &&& z = (x &&& z) ||| (y &&& z) := by
  apply Int32.toBitVec_inj.1
  apply BitVec.eq_of_getLsbD_eq
  intro i hi
  simp only [Int32.toBitVec_and, Int32.toBitVec_or, BitVec.getLsbD_and, BitVec.getLsbD_or]
  cases x.toBitVec.getLsbD i <;> cases y.toBitVec.getLsbD i <;> cases z.toBitVec.getLsbD i <;> rfl
theorem and_and_d (x y z : Int32) : (x &&& y) &&& z = (x &&& z) &&& (y &&& z) := by
  apply Int32.toBitVec_inj.1
  apply BitVec.eq_of_getLsbD_eq
  intro i hi
  simp only [Int32.toBitVec_and, BitVec.getLsbD_and]
  cases x.toBitVec.getLsbD i <;> cases y.toBitVec.getLsbD i <;> cases z.toBitVec.getLsbD i <;> rfl
theorem sd_or (x y s : Int32) : sdI (x ||| y) s = sdI x s ||| sdI y s := by
  unfold sdI
  rw [Int32.shiftRight_or, or_and_d]
theorem sd_and (x y s : Int32) : sdI (x &&& y) s = sdI x s &&& sdI y s := by
  unfold sdI
  rw [Int32.shiftRight_and, and_and_d]
theorem and7 (x : Int32) : ∃ v : Nat, v < 8 ∧ x &&& 7 = nI v := by
  refine ⟨x.toBitVec.toNat % 8, Nat.mod_lt _ (by decide), ?_⟩
  apply Int32.toBitVec_inj.mp
  apply BitVec.eq_of_toNat_eq
  have e : (7 : Int32).toBitVec.toNat = 2 ^ 3 - 1 := by decide
  have e2 : (nI (x.toBitVec.toNat % 8)).toBitVec = BitVec.ofNat 32 (x.toBitVec.toNat % 8) := rfl
  rw [e2, BitVec.toNat_ofNat, Int32.toBitVec_and, BitVec.toNat_and, e, Nat.and_two_pow_sub_one_eq_mod]
  omega
theorem sd_v (x s : Int32) : ∃ v : Nat, v < 8 ∧ sdI x s = nI v := and7 _
theorem sd_7 (x s : Int32) : sdI x s &&& 7 = sdI x s := by
  unfold sdI
  rw [Int32.and_assoc, Int32.and_self]
theorem sh_sd : ∀ v, v < 8 → ∀ b, b < 6 → ∀ s, s < 6 → sdI (shI (nI v) (nI b)) (nI s) = if s = b then nI v else 0 := by decide +kernel
theorem sh_f (l x : Int32) {b s : Nat} (hb : b < 6) (hs : s < 6) : sdI (shI (sdI l x) (nI b)) (nI s) = if s = b then sdI l x else 0 := by
  obtain ⟨v, hv, e⟩ := sd_v l x
  rw [e]
  exact sh_sd v hv b hb s hs
theorem rg_f (l : Int32) {a b c d s : Nat} (ha : a < 6) (hb : b < 6) (hc : c < 6) (hd : d < 6) (hs : s < 6) : sdI (rgI l (nI a) (nI b) (nI c) (nI d)) (nI s) = ((((sdI l (nI s) &&& sdI ((((m7 (nI a) ||| m7 (nI b)) ||| m7 (nI c)) ||| m7 (nI d)) ^^^ -1) (nI s)) ||| (if s = b then sdI l (nI a) else 0)) ||| (if s = c then sdI l (nI b) else 0)) ||| (if s = d then sdI l (nI c) else 0)) ||| (if s = a then sdI l (nI d) else 0) := by
  unfold rgI
  rw [sd_or, sd_or, sd_or, sd_or, sd_and, sh_f l _ hb hs, sh_f l _ hc hs, sh_f l _ hd hs, sh_f l _ ha hs]
def qs (t s : Nat) : Nat := if t = 0 then (if s = 4 then 2 else if s = 3 then 4 else if s = 5 then 3 else if s = 2 then 5 else s) else if t = 1 then (if s = 3 then 5 else if s = 4 then 3 else if s = 2 then 4 else if s = 5 then 2 else s) else if t = 2 then (if s = 2 then 0 else if s = 1 then 2 else if s = 3 then 1 else if s = 0 then 3 else s) else (if s = 1 then 3 else if s = 2 then 1 else if s = 0 then 2 else if s = 3 then 0 else s)
theorem qs6 : ∀ t, t < 4 → ∀ s, s < 6 → qs t s < 6 := by decide +kernel
theorem qu_f (l : Int32) {t s : Nat} (ht : t < 4) (hs : s < 6) : sdI (quI l t) (nI s) = sdI l (nI (qs t s)) := by
  rcases t4 ht with rfl | rfl | rfl | rfl
  · have hm : ∀ s, s < 6 → sdI ((((m7 (nI 2) ||| m7 (nI 4)) ||| m7 (nI 3)) ||| m7 (nI 5)) ^^^ -1) (nI s) = if s = 2 ∨ s = 4 ∨ s = 3 ∨ s = 5 then 0 else 7 := by decide +kernel
    rw [show quI l 0 = rgI l (nI 2) (nI 4) (nI 3) (nI 5) from rfl, rg_f l (by decide) (by decide) (by decide) (by decide) hs, hm s hs]
    rcases s6 hs with rfl | rfl | rfl | rfl | rfl | rfl <;> simp [qs, sd_7]
  · have hm : ∀ s, s < 6 → sdI ((((m7 (nI 5) ||| m7 (nI 3)) ||| m7 (nI 4)) ||| m7 (nI 2)) ^^^ -1) (nI s) = if s = 5 ∨ s = 3 ∨ s = 4 ∨ s = 2 then 0 else 7 := by decide +kernel
    rw [show quI l 1 = rgI l (nI 5) (nI 3) (nI 4) (nI 2) from rfl, rg_f l (by decide) (by decide) (by decide) (by decide) hs, hm s hs]
    rcases s6 hs with rfl | rfl | rfl | rfl | rfl | rfl <;> simp [qs, sd_7]
  · have hm : ∀ s, s < 6 → sdI ((((m7 (nI 0) ||| m7 (nI 2)) ||| m7 (nI 1)) ||| m7 (nI 3)) ^^^ -1) (nI s) = if s = 0 ∨ s = 2 ∨ s = 1 ∨ s = 3 then 0 else 7 := by decide +kernel
    rw [show quI l 2 = rgI l (nI 0) (nI 2) (nI 1) (nI 3) from rfl, rg_f l (by decide) (by decide) (by decide) (by decide) hs, hm s hs]
    rcases s6 hs with rfl | rfl | rfl | rfl | rfl | rfl <;> simp [qs, sd_7]
  · have hm : ∀ s, s < 6 → sdI ((((m7 (nI 3) ||| m7 (nI 1)) ||| m7 (nI 2)) ||| m7 (nI 0)) ^^^ -1) (nI s) = if s = 3 ∨ s = 1 ∨ s = 2 ∨ s = 0 then 0 else 7 := by decide +kernel
    rw [show quI l 3 = rgI l (nI 3) (nI 1) (nI 2) (nI 0) from rfl, rg_f l (by decide) (by decide) (by decide) (by decide) hs, hm s hs]
    rcases s6 hs with rfl | rfl | rfl | rfl | rfl | rfl <;> simp [qs, sd_7]
def tsM (k t s : Nat) : Nat := if k = 4 then qs t (qs t s) else qs t s
def tsC (k t s : Nat) : Nat := if k = 4 then qs (if t < 2 then 0 else 2) (qs (if t < 2 then 0 else 2) s) else if t % 2 = 0 then qs (if t < 2 then 0 else 2) s else qs (if t < 2 then 0 else 2) (qs (if t < 2 then 0 else 2) (qs (if t < 2 then 0 else 2) s))
theorem ts_eq : ∀ k, k < 5 → ∀ t, t < 4 → ∀ s, s < 6 → tsC k t s = tsM k t s ∧ tsM k t s < 6 := by decide +kernel
theorem tu_f (l : Int32) {k t s : Nat} (hk : k < 5) (ht : t < 4) (hs : s < 6) : sdI (tuI (nI k) l t) (nI s) = sdI l (nI (tsM k t s)) := by
  unfold tuI tsM
  by_cases h : k = 4
  · rw [if_pos (show nI k = 4 by rw [h]; rfl), if_pos h, qu_f _ ht hs, qu_f _ ht (qs6 t ht s hs)]
  · rw [if_neg (show ¬ nI k = 4 from fun q => h ((nI_eq (a := k) (b := 4) (by omega) (by decide)).mp q)), if_neg h, qu_f _ ht hs]
theorem tr_c (f : Nat → Int32) {k t s : Nat} (hk : k < 5) (ht : t < 4) (hs : s < 6) : tr_f (nI k) t 0 f s = f (tsM k t s) := by
  rw [← (ts_eq k hk t ht s hs).1]
  rcases k5 hk with rfl | rfl | rfl | rfl | rfl <;> rcases t4 ht with rfl | rfl | rfl | rfl <;> rcases s6 hs with rfl | rfl | rfl | rfl | rfl | rfl <;> rfl
theorem pm_s : ∀ i, i < 6 → ∀ s, s < 6 → sdI (m7 (nI i) ^^^ -1) (nI s) = if s = i then 0 else 7 := by decide +kernel
theorem pa_f (l : Int32) {i n s : Nat} (hi : i < 6) (hn : n < 8) (hs : s < 6) : sdI (paI l (nI i) (nI n)) (nI s) = if s = i then nI n else sdI l (nI s) := by
  unfold paI
  rw [sd_or, sd_and, sh_sd n hn i hi s hs, pm_s i hi s hs]
  by_cases h : s = i
  · simp only [if_pos h]
    rw [Int32.and_zero, Int32.zero_or]
  · simp only [if_neg h]
    rw [sd_7, Int32.or_zero]
theorem n97 : ∀ n, n < 103 → 97 ≤ n → nI n - 97 = nI (n - 97) := by decide +kernel
theorem pk_f (u : Int32) {n k s : Nat} (h1 : 97 ≤ n) (h2 : n < 103) (hk : k < 6) (hs : s < 6) : sdI (pk1 u n (nI k)) (nI s) = sdI u (nI s) ||| (if s = k then nI (n - 97) else 0) := by
  rw [show pk1 u n (nI k) = u ||| shI (nI n - 97) (nI k) from rfl, n97 n h2 h1, sd_or, sh_sd (n - 97) (by omega) k hk s hs]
theorem sd0 : ∀ s, s < 6 → sdI 0 (nI s) = 0 := by decide +kernel
theorem pk6_f (mp : Nat → Nat) (c : Nat) (h : ∀ s, s < 6 → 97 ≤ mp (8 * c + 1 + s) ∧ mp (8 * c + 1 + s) < 103) {s : Nat} (hs : s < 6) : sdI (pk6 mp c) (nI s) = nI (mp (8 * c + 1 + s) - 97) := by
  rw [show pk6 mp c = pk1 (pk1 (pk1 (pk1 (pk1 (pk1 0 (mp (8 * c + 1 + 0)) (nI 0)) (mp (8 * c + 1 + 1)) (nI 1)) (mp (8 * c + 1 + 2)) (nI 2)) (mp (8 * c + 1 + 3)) (nI 3)) (mp (8 * c + 1 + 4)) (nI 4)) (mp (8 * c + 1 + 5)) (nI 5) from rfl,
    pk_f _ (h 5 (by decide)).1 (h 5 (by decide)).2 (by decide) hs, pk_f _ (h 4 (by decide)).1 (h 4 (by decide)).2 (by decide) hs, pk_f _ (h 3 (by decide)).1 (h 3 (by decide)).2 (by decide) hs, pk_f _ (h 2 (by decide)).1 (h 2 (by decide)).2 (by decide) hs, pk_f _ (h 1 (by decide)).1 (h 1 (by decide)).2 (by decide) hs, pk_f _ (h 0 (by decide)).1 (h 0 (by decide)).2 (by decide) hs, sd0 s hs]
  rcases s6 hs with rfl | rfl | rfl | rfl | rfl | rfl <;> simp
def Fld (ml : Nat → Int32) (f : Nat → Nat → Int32) : Prop := ∀ j, j < 3 → ∀ s, s < 6 → sdI (ml j) (nI s) = f j s
def Okf (f : Nat → Nat → Int32) : Prop := ∀ j, j < 3 → ∀ s, s < 6 → okv (f j s)
theorem sm_q {a b x u v : Int32} (ha : sdI a x = u) (hb : sdI b x = v) : smI a b x = nI (eqn v u) := by
  unfold smI eqn
  rw [ha, hb]
  by_cases h : u = v
  · rw [if_pos h, if_pos h.symm]
    rfl
  · rw [if_neg h, if_neg (fun q => h q.symm)]
    rfl
theorem mo_cl {cb s : Nat} {ml : Nat → Int32} {f : Nat → Nat → Int32} (hcb : cb = 2 ∨ cb = 3) (hF : Fld ml f) (hs : s < 6) : moI cb (nI s) (ml 0) (ml 1) (ml 2) = nI (clOn cb (f 0) (f 1) (f 2) s) := by
  have a0 := hF 0 (by decide) s hs
  have a1 := hF 1 (by decide) s hs
  have a2 := hF 2 (by decide) s hs
  rcases hcb with rfl | rfl
  · show smI (ml 0) (ml 1) (nI s) = nI (eqn (f 1 s) (f 0 s))
    exact sm_q a0 a1
  · show smI (ml 0) (ml 1) (nI s) + smI (ml 0) (ml 2) (nI s) + smI (ml 1) (ml 2) (nI s) = nI (eqn (f 1 s) (f 0 s) + eqn (f 2 s) (f 0 s) + eqn (f 2 s) (f 1 s))
    rw [sm_q a0 a1, sm_q a0 a2, sm_q a1 a2, nIa, nIa]
theorem cl_le (cb : Nat) (f0 f1 f2 : Nat → Int32) (s : Nat) : clOn cb f0 f1 f2 s ≤ 3 := by
  have h : ∀ a b, eqn a b ≤ 1 := fun a b => by
    unfold eqn
    split <;> omega
  have h1 := h (f1 s) (f0 s)
  have h2 := h (f2 s) (f0 s)
  have h3 := h (f2 s) (f1 s)
  unfold clOn
  split
  · omega
  · split <;> omega
theorem mc_cl {cb : Nat} {ml : Nat → Int32} {f : Nat → Nat → Int32} (hcb : cb = 0 ∨ cb = 2 ∨ cb = 3) (hF : Fld ml f) : mcI cb ml = nI (clAll cb (f 0) (f 1) (f 2)) := by
  rcases hcb with rfl | h
  · rfl
  · have h0 : ¬ cb = 0 := by omega
    have e : mcI cb ml = mfI cb (ml 0) (ml 1) (ml 2) := if_neg h0
    rw [e, show mfI cb (ml 0) (ml 1) (ml 2) = moI cb (nI 2) (ml 0) (ml 1) (ml 2) + moI cb (nI 3) (ml 0) (ml 1) (ml 2) + moI cb (nI 4) (ml 0) (ml 1) (ml 2) + moI cb (nI 5) (ml 0) (ml 1) (ml 2) from rfl, mo_cl h hF (by decide), mo_cl h hF (by decide), mo_cl h hF (by decide), mo_cl h hF (by decide), nIa, nIa, nIa]
    rfl
theorem nz_cl {cb s : Nat} {f0 f1 f2 : Nat → Int32} : nI (clOn cb f0 f1 f2 s) = 0 ↔ clOn cb f0 f1 f2 s = 0 :=
  ⟨fun h => nI_z (Nat.lt_of_le_of_lt (cl_le _ _ _ _ _) (by decide)) h, fun h => by rw [h]; rfl⟩
theorem wn_0 {cb n : Nat} {ml : Nat → Int32} {f : Nat → Nat → Int32} (hcb : cb = 2 ∨ cb = 3) (hF : Fld ml f) (hn : n < 4) (v : Int32) : wnI cb ml (nI n) v = if v = 1 then nI (clOn cb (f 0) (f 1) (f 2) (2 + n)) else if clOn cb (f 0) (f 1) (f 2) (2 + n) = 0 then 1 else 0 := by
  unfold wnI
  rw [show nI n + 2 = nI (2 + n) by rw [Nat.add_comm 2 n]; exact nIa n 2, mo_cl hcb hF (by omega)]
  split
  · rfl
  · exact ifc nz_cl 1 0
theorem gw_cl {cb : Nat} {ml : Nat → Int32} {f : Nat → Nat → Int32} (hcb : cb = 0 ∨ cb = 2 ∨ cb = 3) (hF : Fld ml f) : gwI cb ml = nI (gwAll cb (f 0) (f 1) (f 2)) := by
  rcases hcb with rfl | h
  · rfl
  · have h0 : ¬ cb = 0 := by omega
    have k : ∀ n, n < 4 → wnI cb ml (nI n) 0 = nI (g0 cb (clOn cb (f 0) (f 1) (f 2) (2 + n))) := fun n hn => by
      rw [wn_0 h hF hn, if_neg (by decide)]
      unfold g0
      rw [if_neg h0]
      split <;> rfl
    have e : gwI cb ml = ((wnI cb ml (nI 0) 0 + wnI cb ml (nI 1) 0) + wnI cb ml (nI 2) 0) + wnI cb ml (nI 3) 0 := if_neg h0
    rw [e, k 0 (by decide), k 1 (by decide), k 2 (by decide), k 3 (by decide), nIa, nIa, nIa]
    rfl
theorem us_m (u l : Int32) (g : Nat → Int32) (h : ∀ s, s < 6 → sdI l (nI s) = g s) : us6 u g = mu6 u l := by
  rw [show us6 u g = us1 (us1 (us1 (us1 (us1 (us1 u g 0) g 1) g 2) g 3) g 4) g 5 from rfl, show mu6 u l = mu1 (mu1 (mu1 (mu1 (mu1 (mu1 u l (nI 0)) l (nI 1)) l (nI 2)) l (nI 3)) l (nI 4)) l (nI 5) from rfl]
  unfold us1 mu1
  rw [h 0 (by decide), h 1 (by decide), h 2 (by decide), h 3 (by decide), h 4 (by decide), h 5 (by decide)]
theorem bit_or : ∀ m, m < 64 → ∀ c, c < 6 → nI m ||| ((1 : Int32) <<< (nI c &&& 31)) = nI (m ||| (1 <<< c)) ∧ m ||| (1 <<< c) < 64 := by decide +kernel
theorem okv_n {x : Int32} (h : okv x) : ∃ c : Nat, c < 6 ∧ x = nI c := i32n (n := 6) (by decide) h.1 h.2
def s64 (x : Int32) : Prop := ∃ m : Nat, m < 64 ∧ x = nI m
theorem us1_64 {u : Int32} {g : Nat → Int32} {s : Nat} (hu : s64 u) (hg : okv (g s)) : s64 (us1 u g s) := by
  obtain ⟨m, hm, rfl⟩ := hu
  obtain ⟨c, hc, e⟩ := okv_n hg
  unfold us1
  rw [e]
  exact ⟨_, (bit_or m hm c hc).2, (bit_or m hm c hc).1⟩
theorem us6_64 {u : Int32} {g : Nat → Int32} (hu : s64 u) (hg : ∀ s, s < 6 → okv (g s)) : s64 (us6 u g) :=
  us1_64 (us1_64 (us1_64 (us1_64 (us1_64 (us1_64 hu (hg 0 (by decide))) (hg 1 (by decide))) (hg 2 (by decide))) (hg 3 (by decide))) (hg 4 (by decide))) (hg 5 (by decide))
theorem bc_sz : ∀ m, m < 64 → bcF (nI m) = szI (nI m) := by decide +kernel
theorem co_cl {cb : Nat} {ml : Nat → Int32} {f : Nat → Nat → Int32} (hcb : cb = 0 ∨ cb = 2 ∨ cb = 3) (hF : Fld ml f) (hO : Okf f) : bcF (usAll cb (f 0) (f 1) (f 2)) = szI (muI cb ml) := by
  have z : s64 0 := ⟨0, by decide, rfl⟩
  have a0 := us6_64 z (hO 0 (by decide))
  have a1 := us6_64 a0 (hO 1 (by decide))
  have a2 := us6_64 a1 (hO 2 (by decide))
  have e0 := us_m 0 (ml 0) (f 0) (hF 0 (by decide))
  have e1 := us_m (mu6 0 (ml 0)) (ml 1) (f 1) (hF 1 (by decide))
  have e2 := us_m (mu6 (mu6 0 (ml 0)) (ml 1)) (ml 2) (f 2) (hF 2 (by decide))
  have fin : ∀ x y, s64 x → x = y → bcF x = szI y := fun x y hx e => by
    subst e
    obtain ⟨m, hm, rfl⟩ := hx
    exact bc_sz m hm
  rcases hcb with rfl | rfl | rfl
  · exact fin 0 0 z rfl
  · refine fin (us6 (us6 0 (f 0)) (f 1)) (mu6 (mu6 0 (ml 0)) (ml 1)) a1 ?_
    rw [e0, e1]
  · refine fin (us6 (us6 (us6 0 (f 0)) (f 1)) (f 2)) (mu6 (mu6 (mu6 0 (ml 0)) (ml 1)) (ml 2)) a2 ?_
    rw [e0, e1, e2]
