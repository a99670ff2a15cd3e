-- the walls of a way as bits; clashes of two are the bits in common
def eN (s c : Nat) : Int32 := (1 : Int32) <<< ((nI (s * 6) + nI c) &&& 31)
def eO (s c : Nat) : Int32 := if c < 6 then eN s c else 0
def wlN (a b c d : Nat) : Int32 := (((0 ||| eN 0 a) ||| eN 1 b) ||| eN 2 c) ||| eN 3 d
theorem eN_and : ∀ s, s < 4 → ∀ t, t < 4 → ∀ c, c < 6 → ∀ d, d < 6 → eN s c &&& eN t d = if s = t ∧ c = d then eN s c else 0 := by decide +kernel
theorem eO_bc : ∀ a, a < 7 → ∀ b, b < 7 → ∀ c, c < 7 → ∀ d, d < 7 → bcF (((eO 0 a ||| eO 1 b) ||| eO 2 c) ||| eO 3 d) = nI ((if a < 6 then 1 else 0) + (if b < 6 then 1 else 0) + (if c < 6 then 1 else 0) + (if d < 6 then 1 else 0)) := by decide +kernel
theorem and_or_d (x y z : Int32) : x &&& (y ||| z) = (x &&& y) ||| (x &&& z) := by
  rw [Int32.and_comm, or_and_d, Int32.and_comm y, Int32.and_comm z]
def q6 (c d : Nat) : Nat := if c = d then c else 6
theorem q6_lt {c d : Nat} (h : c < 6) : q6 c d < 7 := by
  unfold q6
  split <;> omega
theorem eN_q {s c d : Nat} (hs : s < 4) (hc : c < 6) (hd : d < 6) : eN s c &&& eN s d = eO s (q6 c d) := by
  rw [eN_and s hs s hs c hc d hd]
  unfold eO q6
  by_cases h : c = d
  · rw [if_pos ⟨rfl, h⟩, if_pos h, if_pos hc]
  · rw [if_neg (fun q => h q.2), if_neg h, if_neg (by decide)]
theorem eN_x {s t c d : Nat} (hs : s < 4) (ht : t < 4) (hc : c < 6) (hd : d < 6) (h : ¬ s = t) : eN s c &&& eN t d = 0 := by
  rw [eN_and s hs t ht c hc d hd, if_neg (fun q => h q.1)]
theorem row_and {s x a b c d : Nat} (hs : s < 4) (hx : x < 6) (ha : a < 6) (hb : b < 6) (hc : c < 6) (hd : d < 6) : eN s x &&& wlN a b c d = eO s (q6 x (if s = 0 then a else if s = 1 then b else if s = 2 then c else d)) := by
  unfold wlN
  rw [and_or_d, and_or_d, and_or_d, and_or_d, Int32.and_zero, Int32.zero_or]
  rcases (show s = 0 ∨ s = 1 ∨ s = 2 ∨ s = 3 by omega) with rfl | rfl | rfl | rfl
  · rw [eN_q (by decide) hx ha, eN_x (by decide) (by decide) hx hb (by decide), eN_x (by decide) (by decide) hx hc (by decide), eN_x (by decide) (by decide) hx hd (by decide), Int32.or_zero, Int32.or_zero, Int32.or_zero]
    rfl
  · rw [eN_q (by decide) hx hb, eN_x (by decide) (by decide) hx ha (by decide), eN_x (by decide) (by decide) hx hc (by decide), eN_x (by decide) (by decide) hx hd (by decide), Int32.zero_or, Int32.or_zero, Int32.or_zero]
    rfl
  · rw [eN_q (by decide) hx hc, eN_x (by decide) (by decide) hx ha (by decide), eN_x (by decide) (by decide) hx hb (by decide), eN_x (by decide) (by decide) hx hd (by decide), Int32.zero_or, Int32.zero_or, Int32.or_zero]
    rfl
  · rw [eN_q (by decide) hx hd, eN_x (by decide) (by decide) hx ha (by decide), eN_x (by decide) (by decide) hx hb (by decide), eN_x (by decide) (by decide) hx hc (by decide), Int32.zero_or, Int32.zero_or, Int32.zero_or]
    rfl
theorem wl_and {a b c d x y z w : Nat} (ha : a < 6) (hb : b < 6) (hc : c < 6) (hd : d < 6) (hx : x < 6) (hy : y < 6) (hz : z < 6) (hw : w < 6) : wlN a b c d &&& wlN x y z w = ((eO 0 (q6 a x) ||| eO 1 (q6 b y)) ||| eO 2 (q6 c z)) ||| eO 3 (q6 d w) := by
  rw [show wlN a b c d = (((0 ||| eN 0 a) ||| eN 1 b) ||| eN 2 c) ||| eN 3 d from rfl, or_and_d, or_and_d, or_and_d, or_and_d, Int32.zero_and, Int32.zero_or, row_and (by decide) ha hx hy hz hw, row_and (by decide) hb hx hy hz hw, row_and (by decide) hc hx hy hz hw, row_and (by decide) hd hx hy hz hw]
  rfl
def e1 (c d : Nat) : Nat := if c = d then 1 else 0
theorem q6_1 {c d : Nat} (h : c < 6) : (if q6 c d < 6 then 1 else 0) = e1 c d := by
  unfold q6 e1
  by_cases q : c = d
  · rw [if_pos q, if_pos q, if_pos h]
  · rw [if_neg q, if_neg q]
    rfl
theorem wl_bc {a b c d x y z w : Nat} (ha : a < 6) (hb : b < 6) (hc : c < 6) (hd : d < 6) (hx : x < 6) (hy : y < 6) (hz : z < 6) (hw : w < 6) : bcF (wlN a b c d &&& wlN x y z w) = nI (e1 a x + e1 b y + e1 c z + e1 d w) := by
  rw [wl_and ha hb hc hd hx hy hz hw, eO_bc _ (q6_lt ha) _ (q6_lt hb) _ (q6_lt hc) _ (q6_lt hd), q6_1 ha, q6_1 hb, q6_1 hc, q6_1 hd]
-- colours as numbers
def cn (v : Int32) : Nat := v.toNatClampNeg
theorem cn_ok {v : Int32} (h : okv v) : cn v < 6 ∧ v = nI (cn v) := by
  obtain ⟨c, hc, rfl⟩ := okv_n h
  have e : cn (nI c) = c := nI_clamp (by omega)
  rw [e]
  exact ⟨hc, rfl⟩
-- the colour of place s of a cube with colours f in the way x
def cw (f : Nat → Int32) (x : Int32) (s : Nat) : Nat := cn (f (cn (sdI x (nI s))))
def wlX (f : Nat → Int32) (x : Int32) : Int32 := wlN (cw f x 2) (cw f x 3) (cw f x 4) (cw f x 5)
theorem gw_cn {x : Int32} (hx : x ∈ GW) {s : Nat} (hs : s < 6) : cn (sdI x (nI s)) < 6 ∧ sdI x (nI s) = nI (cn (sdI x (nI s))) := by
  obtain ⟨d, hd, e⟩ := gw_dig x hx s hs
  rw [e]
  have e2 : cn (nI d) = d := nI_clamp (by omega)
  rw [e2]
  exact ⟨hd, rfl⟩
theorem cw_lt {f : Nat → Int32} {x : Int32} (hf : ∀ s, s < 6 → okv (f s)) (hx : x ∈ GW) {s : Nat} (hs : s < 6) : cw f x s < 6 := (cn_ok (hf _ (gw_cn hx hs).1)).1
theorem cw_eq {f : Nat → Int32} {x : Int32} (hf : ∀ s, s < 6 → okv (f s)) (hx : x ∈ GW) {s : Nat} (hs : s < 6) : f (cn (sdI x (nI s))) = nI (cw f x s) := (cn_ok (hf _ (gw_cn hx hs).1)).2
-- clashes of two ways
def c2N (f g : Nat → Int32) (x y : Int32) : Nat := e1 (cw f x 2) (cw g y 2) + e1 (cw f x 3) (cw g y 3) + e1 (cw f x 4) (cw g y 4) + e1 (cw f x 5) (cw g y 5)
theorem wlX_bc {f g : Nat → Int32} {x y : Int32} (hf : ∀ s, s < 6 → okv (f s)) (hg : ∀ s, s < 6 → okv (g s)) (hx : x ∈ GW) (hy : y ∈ GW) : bcF (wlX f x &&& wlX g y) = nI (c2N f g x y) :=
  wl_bc (cw_lt hf hx (by decide)) (cw_lt hf hx (by decide)) (cw_lt hf hx (by decide)) (cw_lt hf hx (by decide)) (cw_lt hg hy (by decide)) (cw_lt hg hy (by decide)) (cw_lt hg hy (by decide)) (cw_lt hg hy (by decide))
theorem e1_le (c d : Nat) : e1 c d ≤ 1 := by
  unfold e1
  split <;> omega
theorem c2_le (f g : Nat → Int32) (x y : Int32) : c2N f g x y ≤ 4 := by
  have h1 := e1_le (cw f x 2) (cw g y 2)
  have h2 := e1_le (cw f x 3) (cw g y 3)
  have h3 := e1_le (cw f x 4) (cw g y 4)
  have h4 := e1_le (cw f x 5) (cw g y 5)
  unfold c2N
  omega
-- what wallsOf makes, by its row
theorem walls_x {f wr : Nat → Int32} {w : Nat} {x : Int32} (hf : ∀ s, s < 6 → okv (f s)) (hx : x ∈ GW) (hr : ∀ s, s < 6 → wr (w * 6 + s) = sdI x (nI s)) : wallsI f wr w = wlX f x := by
  have k : ∀ (u : Int32) (s : Nat), s < 4 → wb1 u f wr w s = u ||| eN s (cw f x (2 + s)) := fun u s hs => by
    unfold wb1 eN
    rw [show w * 6 + 2 + s = w * 6 + (2 + s) by omega, hr (2 + s) (by omega), show f (sdI x (nI (2 + s))).toNatClampNeg = nI (cw f x (2 + s)) from cw_eq hf hx (by omega)]
  unfold wallsI
  rw [k _ 0 (by decide), k _ 1 (by decide), k _ 2 (by decide), k _ 3 (by decide)]
  rfl
-- the reference: a cube laid by a way
theorem la1_f (u l w : Int32) {k s : Nat} (hk : k < 6) (hs : s < 6) : sdI (la1 u l w (nI k)) (nI s) = sdI u (nI s) ||| (if s = k then sdI l (sdI w (nI k)) else 0) := by
  unfold la1
  rw [sd_or, sh_f l _ hk hs]
theorem la_f (l w : Int32) {s : Nat} (hs : s < 6) : sdI (laI l w) (nI s) = sdI l (sdI w (nI s)) := by
  rw [show laI l w = la1 (la1 (la1 (la1 (la1 (la1 0 l w (nI 0)) l w (nI 1)) l w (nI 2)) l w (nI 3)) l w (nI 4)) l w (nI 5) from rfl, la1_f _ _ _ (by decide) hs, la1_f _ _ _ (by decide) hs, la1_f _ _ _ (by decide) hs, la1_f _ _ _ (by decide) hs, la1_f _ _ _ (by decide) hs, la1_f _ _ _ (by decide) hs, sd0 s hs]
  rcases s6 hs with rfl | rfl | rfl | rfl | rfl | rfl <;> simp
theorem la_cw {f : Nat → Int32} {l x : Int32} (hF : ∀ s, s < 6 → sdI l (nI s) = f s) (hf : ∀ s, s < 6 → okv (f s)) (hx : x ∈ GW) {s : Nat} (hs : s < 6) : sdI (laI l x) (nI s) = nI (cw f x s) := by
  have h := gw_cn hx hs
  rw [la_f l x hs, h.2, hF _ h.1]
  exact cw_eq hf hx hs
theorem sm_e {a b : Int32} {s c d : Nat} (hc : c < 6) (hd : d < 6) (ha : sdI a (nI s) = nI c) (hb : sdI b (nI s) = nI d) : smI a b (nI s) = nI (e1 c d) := by
  unfold smI e1
  rw [ha, hb]
  by_cases h : c = d
  · rw [if_pos h, if_pos (congrArg nI h)]
    rfl
  · rw [if_neg h, if_neg (fun q => h ((nI_eq (by omega) (by omega)).mp q))]
    rfl
def c3N (cb : Nat) (f : Nat → Nat → Int32) (x y w : Int32) : Nat := if cb = 2 then c2N (f 0) (f 1) x y else c2N (f 0) (f 1) x y + c2N (f 2) (f 0) w x + c2N (f 2) (f 1) w y
theorem e1_c (c d : Nat) : e1 c d = e1 d c := by
  unfold e1
  by_cases h : c = d
  · rw [if_pos h, if_pos h.symm]
  · rw [if_neg h, if_neg (fun q => h q.symm)]
theorem mf_c3 {cb : Nat} {ml : Nat → Int32} {f : Nat → Nat → Int32} {x y w l2 : Int32} (hF : Fld ml f) (hO : Okf f) (hx : x ∈ GW) (hy : y ∈ GW) (hw : ¬ cb = 2 → w ∈ GW ∧ l2 = laI (ml 2) w) : mfI cb (laI (ml 0) x) (laI (ml 1) y) l2 = nI (c3N cb f x y w) := by
  have a : ∀ s, s < 6 → sdI (laI (ml 0) x) (nI s) = nI (cw (f 0) x s) := fun s hs => la_cw (hF 0 (by decide)) (hO 0 (by decide)) hx hs
  have b : ∀ s, s < 6 → sdI (laI (ml 1) y) (nI s) = nI (cw (f 1) y s) := fun s hs => la_cw (hF 1 (by decide)) (hO 1 (by decide)) hy hs
  have la : ∀ s, s < 6 → cw (f 0) x s < 6 := fun s hs => cw_lt (hO 0 (by decide)) hx hs
  have lb : ∀ s, s < 6 → cw (f 1) y s < 6 := fun s hs => cw_lt (hO 1 (by decide)) hy hs
  have ab : ∀ s, s < 6 → smI (laI (ml 0) x) (laI (ml 1) y) (nI s) = nI (e1 (cw (f 0) x s) (cw (f 1) y s)) := fun s hs => sm_e (la s hs) (lb s hs) (a s hs) (b s hs)
  by_cases h2 : cb = 2
  · have m : ∀ s, s < 6 → moI cb (nI s) (laI (ml 0) x) (laI (ml 1) y) l2 = nI (e1 (cw (f 0) x s) (cw (f 1) y s)) := fun s hs => by
      unfold moI
      rw [if_pos h2]
      exact ab s hs
    rw [show mfI cb (laI (ml 0) x) (laI (ml 1) y) l2 = moI cb (nI 2) (laI (ml 0) x) (laI (ml 1) y) l2 + moI cb (nI 3) (laI (ml 0) x) (laI (ml 1) y) l2 + moI cb (nI 4) (laI (ml 0) x) (laI (ml 1) y) l2 + moI cb (nI 5) (laI (ml 0) x) (laI (ml 1) y) l2 from rfl, m 2 (by decide), m 3 (by decide), m 4 (by decide), m 5 (by decide), nIa, nIa, nIa]
    unfold c3N
    rw [if_pos h2]
    rfl
  · obtain ⟨hw1, hw2⟩ := hw h2
    subst hw2
    have c : ∀ s, s < 6 → sdI (laI (ml 2) w) (nI s) = nI (cw (f 2) w s) := fun s hs => la_cw (hF 2 (by decide)) (hO 2 (by decide)) hw1 hs
    have lc : ∀ s, s < 6 → cw (f 2) w s < 6 := fun s hs => cw_lt (hO 2 (by decide)) hw1 hs
    have m : ∀ s, s < 6 → moI cb (nI s) (laI (ml 0) x) (laI (ml 1) y) (laI (ml 2) w) = nI (e1 (cw (f 0) x s) (cw (f 1) y s) + e1 (cw (f 2) w s) (cw (f 0) x s) + e1 (cw (f 2) w s) (cw (f 1) y s)) := fun s hs => by
      unfold moI
      rw [if_neg h2, ab s hs, sm_e (la s hs) (lc s hs) (a s hs) (c s hs), sm_e (lb s hs) (lc s hs) (b s hs) (c s hs), nIa, nIa, e1_c (cw (f 0) x s) (cw (f 2) w s), e1_c (cw (f 1) y s) (cw (f 2) w s)]
    rw [show mfI cb (laI (ml 0) x) (laI (ml 1) y) (laI (ml 2) w) = moI cb (nI 2) (laI (ml 0) x) (laI (ml 1) y) (laI (ml 2) w) + moI cb (nI 3) (laI (ml 0) x) (laI (ml 1) y) (laI (ml 2) w) + moI cb (nI 4) (laI (ml 0) x) (laI (ml 1) y) (laI (ml 2) w) + moI cb (nI 5) (laI (ml 0) x) (laI (ml 1) y) (laI (ml 2) w) from rfl, m 2 (by decide), m 3 (by decide), m 4 (by decide), m 5 (by decide), nIa, nIa, nIa]
    unfold c3N c2N
    rw [if_neg h2]
    refine congrArg nI ?_
    omega
