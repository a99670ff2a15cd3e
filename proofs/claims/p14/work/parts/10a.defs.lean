-- one step of a ring, and how often it is done
def rotA (st : Nat) (f : Nat → Int32) : Nat → Int32 := upd (upd (upd (upd f (st + 5) (f (st + 3))) (st + 3) (upd f (st + 5) (f (st + 3)) (st + 4))) (st + 4) (upd (upd f (st + 5) (f (st + 3))) (st + 3) (upd f (st + 5) (f (st + 3)) (st + 4)) (st + 2))) (st + 2) (f (st + 5))
def rotB (st : Nat) (f : Nat → Int32) : Nat → Int32 := upd (upd (upd (upd f (st + 3) (f (st + 1))) (st + 1) (upd f (st + 3) (f (st + 1)) (st + 2))) (st + 2) (upd (upd f (st + 3) (f (st + 1))) (st + 1) (upd f (st + 3) (f (st + 1)) (st + 2)) (st + 0))) (st + 0) (f (st + 3))
def rotR (rg : Int32) (st : Nat) (f : Nat → Int32) : Nat → Int32 := if rg = 0 then rotA st f else rotB st f
def itN (g : (Nat → Int32) → (Nat → Int32)) : Nat → (Nat → Int32) → (Nat → Int32)
  | 0, f => f
  | n + 1, f => g (itN g n f)
def tr_n (kd : Int32) (t : Nat) : Nat := if kd = 4 then 2 else if t % 2 = 0 then 1 else 3
def tr_r (t : Nat) : Int32 := if t < 2 then 0 else 4
def tr_f (kd : Int32) (t st : Nat) (f : Nat → Int32) : Nat → Int32 := itN (rotR (tr_r t) st) (tr_n kd t) f
theorem t4 {t : Nat} (h : t < 4) : t = 0 ∨ t = 1 ∨ t = 2 ∨ t = 3 := by omega
theorem nIst (st k : Nat) {v : Int32} (h : nI k = v) : nI st + v = nI (st + k) := by rw [← h]; exact nIa st k
def sameR (f : Nat → Int32) (a b : Nat) : Prop := ∀ j, j < 6 → f (a * 6 + j) = f (b * 6 + j)
theorem nI6 (a k : Nat) : nI (a * 6) + nI k = nI (a * 6 + k) := nIa _ _
theorem nIx6 (a : Nat) : nI a * 6 = nI (a * 6) := nIm a 6
theorem upd_P {P : Int32 → Prop} {f : Nat → Int32} {k : Nat} {x : Int32} (h : ∀ j, P (f j)) (hx : P x) : ∀ j, P (upd f k x j) := by
  intro j
  unfold upd
  split
  · exact hx
  · exact h j
theorem cpy_P {P : Int32 → Prop} {f g : Nat → Int32} {a b n : Nat} (h : ∀ j, P (f j)) (hg : ∀ j, P (g j)) : ∀ j, P (va_cpy f g a b n j) := by
  intro j
  unfold va_cpy
  split
  · exact h _
  · exact hg j
theorem rotA_P {P : Int32 → Prop} {f : Nat → Int32} {st : Nat} (h : ∀ j, P (f j)) : ∀ j, P (rotA st f j) := upd_P (upd_P (upd_P (upd_P h (h _)) (upd_P h (h _) _)) (upd_P (upd_P h (h _)) (upd_P h (h _) _) _)) (h _)
theorem rotB_P {P : Int32 → Prop} {f : Nat → Int32} {st : Nat} (h : ∀ j, P (f j)) : ∀ j, P (rotB st f j) := upd_P (upd_P (upd_P (upd_P h (h _)) (upd_P h (h _) _)) (upd_P (upd_P h (h _)) (upd_P h (h _) _) _)) (h _)
theorem rotR_P {P : Int32 → Prop} {f : Nat → Int32} {rg : Int32} {st : Nat} (h : ∀ j, P (f j)) : ∀ j, P (rotR rg st f j) := by
  unfold rotR
  split
  · exact rotA_P h
  · exact rotB_P h
theorem itN_P {P : Int32 → Prop} {rg : Int32} {st : Nat} {f : Nat → Int32} (h : ∀ j, P (f j)) : ∀ n j, P (itN (rotR rg st) n f j)
  | 0, j => h j
  | n + 1, j => rotR_P (itN_P h n) j
theorem tr_P {P : Int32 → Prop} {kd : Int32} {t st : Nat} {f : Nat → Int32} (h : ∀ j, P (f j)) : ∀ j, P (tr_f kd t st f j) := itN_P h _
def okv (x : Int32) : Prop := ¬ x < 0 ∧ x < 6
theorem okv0 : ∀ j, okv (upd (upd (upd (upd (upd (upd (fun _ => 0) 0 0) 1 1) 2 2) 3 3) 4 4) 5 5 j) := upd_P (upd_P (upd_P (upd_P (upd_P (upd_P (fun _ => ⟨by decide, by decide⟩) ⟨by decide, by decide⟩) ⟨by decide, by decide⟩) ⟨by decide, by decide⟩) ⟨by decide, by decide⟩) ⟨by decide, by decide⟩) ⟨by decide, by decide⟩
theorem cs9 {x : Int32} (h : ¬ (x.toInt < 0 ∨ 8 < x.toInt)) : x = 0 ∨ x = 1 ∨ x = 2 ∨ x = 3 ∨ x = 4 ∨ x = 5 ∨ x = 6 ∨ x = 7 ∨ x = 8 := by
  have h1 : x.toInt = 0 ∨ x.toInt = 1 ∨ x.toInt = 2 ∨ x.toInt = 3 ∨ x.toInt = 4 ∨ x.toInt = 5 ∨ x.toInt = 6 ∨ x.toInt = 7 ∨ x.toInt = 8 := by omega
  have k : ∀ y : Int32, x.toInt = y.toInt → x = y := fun y q => Int32.toInt_inj.mp q
  rcases h1 with q | q | q | q | q | q | q | q | q
  · exact Or.inl (k 0 q)
  · exact Or.inr (Or.inl (k 1 q))
  · exact Or.inr (Or.inr (Or.inl (k 2 q)))
  · exact Or.inr (Or.inr (Or.inr (Or.inl (k 3 q))))
  · exact Or.inr (Or.inr (Or.inr (Or.inr (Or.inl (k 4 q)))))
  · exact Or.inr (Or.inr (Or.inr (Or.inr (Or.inr (Or.inl (k 5 q))))))
  · exact Or.inr (Or.inr (Or.inr (Or.inr (Or.inr (Or.inr (Or.inl (k 6 q)))))))
  · exact Or.inr (Or.inr (Or.inr (Or.inr (Or.inr (Or.inr (Or.inr (Or.inl (k 7 q))))))))
  · exact Or.inr (Or.inr (Or.inr (Or.inr (Or.inr (Or.inr (Or.inr (Or.inr (k 8 q))))))))
def eqn (a b : Int32) : Nat := if a = b then 1 else 0
def clOn (sz : Nat) (f0 f1 f2 : Nat → Int32) (s : Nat) : Nat := if sz = 0 then 0 else if sz = 2 then eqn (f1 s) (f0 s) else eqn (f1 s) (f0 s) + eqn (f2 s) (f0 s) + eqn (f2 s) (f1 s)
def clAll (sz : Nat) (f0 f1 f2 : Nat → Int32) : Nat := clOn sz f0 f1 f2 2 + clOn sz f0 f1 f2 3 + clOn sz f0 f1 f2 4 + clOn sz f0 f1 f2 5
def g0 (sz n : Nat) : Nat := if sz = 0 then 0 else if n = 0 then 1 else 0
def gwAll (sz : Nat) (f0 f1 f2 : Nat → Int32) : Nat := g0 sz (clOn sz f0 f1 f2 2) + g0 sz (clOn sz f0 f1 f2 3) + g0 sz (clOn sz f0 f1 f2 4) + g0 sz (clOn sz f0 f1 f2 5)
theorem eqn1 {a b : Int32} (h : a = b) : eqn a b = 1 := if_pos h
theorem eqn0 {a b : Int32} (h : ¬ a = b) : eqn a b = 0 := if_neg h
theorem eqn_le (a b : Int32) : eqn a b ≤ 1 := by unfold eqn; split <;> decide
theorem clOn_le (sz : Nat) (f0 f1 f2 : Nat → Int32) (s : Nat) : clOn sz f0 f1 f2 s ≤ 3 := by
  have h1 := eqn_le (f1 s) (f0 s)
  have h2 := eqn_le (f2 s) (f0 s)
  have h3 := eqn_le (f2 s) (f1 s)
  unfold clOn
  split
  · omega
  · split <;> omega
theorem cpy06 {f g : Nat → Int32} {j : Nat} (h : j < 6) : va_cpy f g (0 : Int32).toNatClampNeg (0 : Int32).toNatClampNeg (6 : Int32).toNatClampNeg j = f j := by
  show (if 0 ≤ j ∧ j < 0 + 6 then f (0 + (j - 0)) else g j) = f j
  rw [if_pos ⟨Nat.zero_le _, by omega⟩, Nat.zero_add, Nat.sub_zero]
theorem nI_z {n : Nat} (h : n < 2 ^ 31) : nI n = 0 → n = 0 := fun q => (nI_eq (a := n) (b := 0) h (by decide)).mp q
theorem va_aldr {p : Program} {l : Launch} {e : Env} {R : Room} {s : State} {m : MethodId} {args : Array Value} {below : List Frame} {meth : Method} {c : Code} {H : Heap} {locs : List Loc} {cells slots : Nat} {Q : State → Prop} {cc : ByteArray} {pc : Nat} {ls : Array Slot} {rest : List Value} {D : va_G} {cl : List vw_C} {a : Nat} {tys : List (ClassId × FieldType)} {ws : va_W} (hexec : p.tables.exec = Jvm.exec) (hb : c.code = cc) (hK : va_K D cl tys s) (hP : va_P D cl ws H) (q0 t0 : Nat) {cA : ClassId} {t : FieldType} {n : Nat} {f : Nat → Option Nat} (ha : ws[q0]? = some (a, .inl (cA, n, .inr (.inr (.inr (.inr f)))))) (ht : tys[t0]? = some (cA, .array t)) {i : Int32} (hin : vp_in i n) (hdg : decode cc pc = .ok (.aaload, 1))
    (kk : W p l e R s m args below meth c H locs cells slots Q (F0 m (pc + 1) ls (va_rf (f i.toNatClampNeg) :: rest))) : W p l e R s m args below meth c H locs cells slots Q (F0 m pc ls (.int i :: .ref a :: rest)) := by
  have hlt : i.toNatClampNeg < n := Nat.not_le.mp fun q => hin (Or.inr q)
  exact W.aald (v := va_rf (f i.toNatClampNeg)) (ty := .array t) hexec hb (hP q0 _ ha) ((hK.2 t0 _ ht).1 n (fun j => va_rf (f j))) rfl (fun q => by cases q) (by show ¬ (i < 0 ∨ (arrV _ _ _).slots.size ≤ _); rw [arrV_size]; exact hin) (by show (arrV _ _ _).slots[_]? = _; rw [arrV_read _ _ hlt]) rfl rfl hdg kk
theorem g01 {sz n : Nat} (hs : ¬ sz = 0) (hn : n ≤ 3) (h : nI n = 0) : g0 sz n = 1 := by
  unfold g0
  rw [if_neg hs, if_pos (nI_z (by omega) h)]
theorem g00 {sz n : Nat} (h : ¬ nI n = 0) : g0 sz n = 0 := by
  unfold g0
  split
  · rfl
  · rw [if_neg (fun q => h (by rw [q]; rfl))]
def bc1 (x : Int32) : Int32 := x - ((x.toUInt32 >>> ((1 : Int32).toUInt32 &&& Int32.toUInt32 31)).toInt32 &&& 1431655765)
def bc2 (x : Int32) : Int32 := (x &&& 858993459) + ((x.toUInt32 >>> ((2 : Int32).toUInt32 &&& Int32.toUInt32 31)).toInt32 &&& 858993459)
def bc3 (x : Int32) : Int32 := (x + (x.toUInt32 >>> ((4 : Int32).toUInt32 &&& Int32.toUInt32 31)).toInt32) &&& 252645135
def bc4 (x : Int32) : Int32 := x + (x.toUInt32 >>> ((8 : Int32).toUInt32 &&& Int32.toUInt32 31)).toInt32
def bc5 (x : Int32) : Int32 := x + (x.toUInt32 >>> ((16 : Int32).toUInt32 &&& Int32.toUInt32 31)).toInt32
def bcF (x : Int32) : Int32 := bc5 (bc4 (bc3 (bc2 (bc1 x)))) &&& 63
def us1 (u : Int32) (f : Nat → Int32) (j : Nat) : Int32 := u ||| ((1 : Int32) <<< (f j &&& 31))
def us6 (u : Int32) (f : Nat → Int32) : Int32 := us1 (us1 (us1 (us1 (us1 (us1 u f 0) f 1) f 2) f 3) f 4) f 5
def usAll (sz : Nat) (f0 f1 f2 : Nat → Int32) : Int32 := if sz = 0 then 0 else if sz = 2 then us6 (us6 0 f0) f1 else us6 (us6 (us6 0 f0) f1) f2
abbrev hasC (sz : Nat) (c : Int32) : Prop := ¬ c < 0 ∧ ¬ nI sz ≤ c ∧ ¬ 3 ≤ c
theorem hs1 {P : Prop} (i : Decidable P) {r : Int32} (h : r = (@ite Int32 P i 1 0)) (h0 : ¬ r = 0) : P := by
  by_cases q : P
  · exact q
  · rw [if_neg q] at h
    exact absurd h h0
theorem hs0 {P : Prop} (i : Decidable P) {r : Int32} (h : r = (@ite Int32 P i 1 0)) (h0 : r = 0) : ¬ P := by
  intro q
  rw [if_pos q] at h
  rw [h] at h0
  exact absurd h0 (by decide)
theorem i32n {x : Int32} {n : Nat} (hn : n < 2 ^ 31) (h0 : ¬ x < 0) (h1 : x < nI n) : ∃ k : Nat, k < n ∧ x = nI k := by
  have e := Int32.le_iff_toInt_le.mp (Int32.not_lt.mp h0)
  have e0 : (0 : Int32).toInt = 0 := by decide
  rw [e0] at e
  refine ⟨x.toInt.toNat, ?_, ?_⟩
  · have h2 := Int32.lt_iff_toInt_lt.mp h1
    rw [nI_toInt hn] at h2
    omega
  · apply Int32.toInt_inj.mp
    have h2 := Int32.lt_iff_toInt_lt.mp h1
    rw [nI_toInt hn] at h2
    rw [nI_toInt (by omega)]
    omega
theorem c3 {sz : Nat} {c : Int32} (h : hasC sz c) : c = 0 ∨ c = 1 ∨ c = 2 := by
  obtain ⟨k, hk, rfl⟩ := i32n (n := 3) (by decide) h.1 (Int32.not_le.mp h.2.2)
  rcases (show k = 0 ∨ k = 1 ∨ k = 2 by omega) with rfl | rfl | rfl
  · exact Or.inl rfl
  · exact Or.inr (Or.inl rfl)
  · exact Or.inr (Or.inr rfl)
theorem cub_can (a b c : Nat) : ∀ F : Nat → Option Nat, F = va_up (va_up (va_up (fun _ => none) 0 (some a)) 1 (some b)) 2 (some c) → (va_up (va_up F 0 (some b)) 1 (some a) = va_up (va_up (va_up (fun _ => none) 0 (some b)) 1 (some a)) 2 (some c) ∧ va_up (va_up F 1 (some a)) 0 (some b) = va_up (va_up (va_up (fun _ => none) 0 (some b)) 1 (some a)) 2 (some c)) ∧ (va_up (va_up F 0 (some c)) 2 (some a) = va_up (va_up (va_up (fun _ => none) 0 (some c)) 1 (some b)) 2 (some a) ∧ va_up (va_up F 2 (some a)) 0 (some c) = va_up (va_up (va_up (fun _ => none) 0 (some c)) 1 (some b)) 2 (some a)) ∧ (va_up (va_up F 1 (some c)) 2 (some b) = va_up (va_up (va_up (fun _ => none) 0 (some a)) 1 (some c)) 2 (some b) ∧ va_up (va_up F 2 (some b)) 1 (some c) = va_up (va_up (va_up (fun _ => none) 0 (some a)) 1 (some c)) 2 (some b)) := by
  intro F hF
  subst hF
  have key : ∀ f g : Nat → Option Nat, f 0 = g 0 → f 1 = g 1 → f 2 = g 2 → (∀ j, f (j + 3) = none) → (∀ j, g (j + 3) = none) → f = g := by
    intro f g h0 h1 h2 hf hg
    funext j
    match j with
    | 0 => exact h0
    | 1 => exact h1
    | 2 => exact h2
    | j + 3 => rw [hf, hg]
  have n0 : ∀ j : Nat, ¬ j + 3 = 0 := fun j => by omega
  have n1 : ∀ j : Nat, ¬ j + 3 = 1 := fun j => by omega
  have n2 : ∀ j : Nat, ¬ j + 3 = 2 := fun j => by omega
  refine ⟨⟨?_, ?_⟩, ⟨?_, ?_⟩, ?_, ?_⟩ <;> refine key _ _ rfl rfl rfl (fun j => ?_) (fun j => ?_) <;> simp [va_up, n0, n1, n2]
def r_as (sz : Nat) (kd : Nat → Nat) (c k : Int32) : Int32 := if hasC sz c then (if k < 0 ∨ ¬ k < 5 then -102 else if (fKK (kd c.toNatClampNeg) >>> (k &&& 31)) &&& 1 = 1 then c else -1) else -101
abbrev canT (k n : Nat) : Prop := (fTK k >>> (nI n &&& 31)) &&& 1 = 1
def kxI (v : Int32) : Int32 := if (99 : Int32) = v then 0 else if (115 : Int32) = v then 1 else if (116 : Int32) = v then 2 else if (102 : Int32) = v then 3 else if (104 : Int32) = v then 4 else -1
theorem b_i8 : ∀ n, n < 128 → (nI n).toInt8.toInt32 = nI n := by decide +kernel
theorem b_c : ∀ n, n < 128 → ((nI n).toUInt32 % 65536).toInt32 = nI n := by decide +kernel
theorem b_rem8 : ∀ p, p < 27 → nI p - nI p / 8 * 8 = nI (p % 8) := by decide +kernel
def fitsI (n p : Nat) : Int32 := if p < 23 then (if p % 8 = 0 then (if kxI (nI n) < 0 then 0 else 1) else if p % 8 = 7 then (if n = 44 then 1 else 0) else if 97 ≤ n ∧ n < 103 then 1 else 0) else 0
theorem fits01 (n p : Nat) : fitsI n p = 0 ∨ fitsI n p = 1 := by
  unfold fitsI
  repeat' split
  all_goals first | exact Or.inl rfl | exact Or.inr rfl
def kn (n : Nat) : Nat := if n = 99 then 0 else if n = 115 then 1 else if n = 116 then 2 else if n = 102 then 3 else 4
theorem kn5 (n : Nat) : kn n < 5 := by
  unfold kn
  repeat' split
  all_goals decide
theorem kx_kn {n : Nat} (hn : n < 128) (h : ¬ kxI (nI n) < 0) : kxI (nI n) = nI (kn n) := by
  have key : ∀ m : Nat, m < 128 → ¬ kxI (nI m) < 0 → kxI (nI m) = nI (kn m) := by decide +kernel
  exact key n hn h
theorem sub97 {n : Nat} (h : 97 ≤ n) (hn : n < 128) : nI n - 97 = nI (n - 97) := by
  have key : ∀ m : Nat, m < 128 → 97 ≤ m → nI m - 97 = nI (m - 97) := by decide +kernel
  exact key n hn h
theorem fits_k {n p : Nat} (h : fitsI n p = 1) (hp : p % 8 = 0) : ¬ kxI (nI n) < 0 := by
  intro q
  unfold fitsI at h
  split at h
  · exact absurd h (by decide)
  · exact absurd h (by decide)
theorem fits_c {n p : Nat} (h : fitsI n p = 1) (h0 : ¬ p % 8 = 0) (h7 : ¬ p % 8 = 7) : 97 ≤ n ∧ n < 103 := by
  unfold fitsI at h
  split at h
  · split at h
    · assumption
    · exact absurd h (by decide)
  · exact absurd h (by decide)
def okP (q : Nat → Nat) (n : Nat) : Prop := ∀ j, j < n → fitsI (q j) j = 1
theorem d8 : ∀ n, n < 27 → (nI n + 1) / 8 = nI ((n + 1) / 8) := by decide +kernel
theorem tw_no1 {lt : Nat} {pn : Nat → Nat} (h : ¬ 2 ≤ (lt + 1) / 8) : ¬ ((lt = 15 ∨ lt = 23) ∧ okP pn lt) := by
  intro q
  rcases q.1 with rfl | rfl <;> exact h (by decide)
theorem tw_no2 {lt : Nat} {pn : Nat → Nat} (h : ¬ (lt + 1) / 8 * 8 = lt + 1) : ¬ ((lt = 15 ∨ lt = 23) ∧ okP pn lt) := by
  intro q
  rcases q.1 with rfl | rfl <;> exact h (by decide)
def r_wall (sz : Nat) (f : Nat → Nat → Int32) (w v : Int32) : Int32 := if w < 0 ∨ ¬ w < 4 ∨ sz = 0 then -101 else if v < 0 ∨ ¬ v ≤ 1 then -102 else if v = 1 then nI (clOn sz (f 0) (f 1) (f 2) (2 + w.toNatClampNeg)) else if clOn sz (f 0) (f 1) (f 2) (2 + w.toNatClampNeg) = 0 then 1 else 0
theorem fam5 {P : Nat → Prop} (h0 : P 0) (h1 : P 1) (h2 : P 2) (h3 : P 3) (h4 : P 4) {k : Nat} (hk : k < 5) : P k := by
  rcases (show k = 0 ∨ k = 1 ∨ k = 2 ∨ k = 3 ∨ k = 4 by omega) with rfl | rfl | rfl | rfl | rfl
  · exact h0
  · exact h1
  · exact h2
  · exact h3
  · exact h4
theorem okv_in {x : Int32} (h : okv x) : vp_in x 6 := by
  obtain ⟨k, hk, rfl⟩ := i32n (n := 6) (by decide) h.1 h.2
  exact nI_in hk (by decide)
theorem cub_set (a b c x : Nat) : (va_up (va_up (va_up (va_up (fun _ => none) 0 (some a)) 1 (some b)) 2 (some c)) 0 (some x) = va_up (va_up (va_up (fun _ => none) 0 (some x)) 1 (some b)) 2 (some c)) ∧ (va_up (va_up (va_up (va_up (fun _ => none) 0 (some a)) 1 (some b)) 2 (some c)) 1 (some x) = va_up (va_up (va_up (fun _ => none) 0 (some a)) 1 (some x)) 2 (some c)) ∧ (va_up (va_up (va_up (va_up (fun _ => none) 0 (some a)) 1 (some b)) 2 (some c)) 2 (some x) = va_up (va_up (va_up (fun _ => none) 0 (some a)) 1 (some b)) 2 (some x)) := by
  have key : ∀ f g : Nat → Option Nat, f 0 = g 0 → f 1 = g 1 → f 2 = g 2 → (∀ j, f (j + 3) = none) → (∀ j, g (j + 3) = none) → f = g := by
    intro f g h0 h1 h2 hf hg
    funext j
    match j with
    | 0 => exact h0
    | 1 => exact h1
    | 2 => exact h2
    | j + 3 => rw [hf, hg]
  have n0 : ∀ j : Nat, ¬ j + 3 = 0 := fun j => by omega
  have n1 : ∀ j : Nat, ¬ j + 3 = 1 := fun j => by omega
  have n2 : ∀ j : Nat, ¬ j + 3 = 2 := fun j => by omega
  refine ⟨?_, ?_, ?_⟩ <;> refine key _ _ rfl rfl rfl (fun j => ?_) (fun j => ?_) <;> simp [va_up, n0, n1, n2]
def wb1 (u : Int32) (f g : Nat → Int32) (w s : Nat) : Int32 := u ||| ((1 : Int32) <<< ((nI (s * 6) + f (g (w * 6 + 2 + s)).toNatClampNeg) &&& 31))
def wallsI (f g : Nat → Int32) (w : Nat) : Int32 := wb1 (wb1 (wb1 (wb1 0 f g w 0) f g w 1) f g w 2) f g w 3
def wlT (sz : Nat) (kd : Nat → Nat) (f wf : Nat → Nat → Int32) (J w : Nat) : Int32 := if J < sz then wallsI (f J) (wf (kd J)) w else 0
theorem wlT_in {sz : Nat} {kd : Nat → Nat} {f wf : Nat → Nat → Int32} {J w : Nat} (h : J < sz) : wlT sz kd f wf J w = wallsI (f J) (wf (kd J)) w := if_pos h
theorem wlT_out {sz : Nat} {kd : Nat → Nat} {f wf : Nat → Nat → Int32} {J w : Nat} (h : ¬ J < sz) : wlT sz kd f wf J w = 0 := if_neg h
theorem wl_put {v t : Nat → Int32} {w : Nat} {x : Int32} (h : ∀ k, k < w → v k = t k) (hx : x = t w) : ∀ k, k < w + 1 → upd v w x k = t k := by
  intro k hk
  unfold upd
  by_cases q : k = w
  · rw [if_pos q, q]
    exact hx
  · rw [if_neg q]
    exact h k (by omega)
theorem has_iff {sz J : Nat} (hs : sz = 0 ∨ sz = 2 ∨ sz = 3) (hJ : J < 3) : hasC sz (nI J) ↔ J < sz := by
  unfold hasC
  constructor
  · intro h
    rcases Nat.lt_or_ge J sz with q | q
    · exact q
    · exact absurd (nI_le q (by omega)) h.2.1
  · intro h
    exact ⟨nI_pos (by omega), nI_ge h (by omega), nI_ge hJ (by decide)⟩
theorem sub10 {w : Int32} (h1 : ¬ w < 10) (h2 : ¬ 16 ≤ w) : ∃ k : Nat, k < 6 ∧ w - 10 = nI k := by
  obtain ⟨k, hk, rfl⟩ := i32n (x := w) (n := 16) (by decide) (fun q => h1 (Int32.lt_trans q (by decide))) (Int32.not_le.mp h2)
  have h10 : 10 ≤ k := nI_leN (b := 10) (by decide) (Int32.not_lt.mp h1)
  have key : ∀ m : Nat, m < 16 → 10 ≤ m → nI m - 10 = nI (m - 10) := by decide +kernel
  exact ⟨k - 10, by omega, key k hk h10⟩
theorem cs5 {x : Int32} (h : ¬ (x.toInt < 0 ∨ 4 < x.toInt)) : x = 0 ∨ x = 1 ∨ x = 2 ∨ x = 3 ∨ x = 4 := by
  have h1 : x.toInt = 0 ∨ x.toInt = 1 ∨ x.toInt = 2 ∨ x.toInt = 3 ∨ x.toInt = 4 := by omega
  have k : ∀ y : Int32, x.toInt = y.toInt → x = y := fun y q => Int32.toInt_inj.mp q
  rcases h1 with q | q | q | q | q
  · exact Or.inl (k 0 q)
  · exact Or.inr (Or.inl (k 1 q))
  · exact Or.inr (Or.inr (Or.inl (k 2 q)))
  · exact Or.inr (Or.inr (Or.inr (Or.inl (k 3 q))))
  · exact Or.inr (Or.inr (Or.inr (Or.inr (k 4 q))))
theorem ns_ok (y : Int64) : ∃ m : Nat, m < 2147483648 ∧ (y &&& 2147483647).toInt32 = nI m := by
  refine ⟨y.toBitVec.toNat % 2147483648, Nat.mod_lt _ (by decide), ?_⟩
  apply Int32.toBitVec_inj.mp
  apply BitVec.eq_of_toNat_eq
  have e : (2147483647 : Int64).toBitVec.toNat = 2 ^ 31 - 1 := by decide
  have e2 : (nI (y.toBitVec.toNat % 2147483648)).toBitVec = BitVec.ofNat 32 (y.toBitVec.toNat % 2147483648) := rfl
  rw [Int64.toBitVec_toInt32, BitVec.signExtend_eq_setWidth_of_le _ (by decide), BitVec.toNat_setWidth, e2, BitVec.toNat_ofNat, Int64.toBitVec_and, BitVec.toNat_and, e, Nat.and_two_pow_sub_one_eq_mod]
theorem rem_ok {a d : Nat} (ha : a < 2 ^ 31) (h0 : 0 < d) (hd : d < 2 ^ 31) : nI a - nI a / nI d * nI d = nI (a % d) := by
  rw [pk_div ha h0 hd, nIm]
  have h1 : a / d * d + a % d = a := by rw [Nat.mul_comm]; exact Nat.div_add_mod a d
  have h2 : nI a = nI (a / d * d) + nI (a % d) := by rw [nIa, h1]
  rw [h2, Int32.add_comm, Int32.add_sub_cancel]
theorem tT {t : Int32} (h1 : ¬ t < 1) (h2 : ¬ 99 < t) : ∃ n : Nat, n < 100 ∧ t = nI n := i32n (n := 100) (by decide) (fun q => h1 (Int32.lt_trans q (by decide))) (Int32.lt_of_le_of_lt (Int32.not_lt.mp h2) (by decide))
theorem sS {x : Int32} (h : ¬ x < 0) : ∃ n : Nat, n < 2147483648 ∧ x = nI n := by
  have e := Int32.le_iff_toInt_le.mp (Int32.not_lt.mp h)
  have e0 : (0 : Int32).toInt = 0 := by decide
  rw [e0] at e
  have hl : x.toInt < 2147483648 := Int32.toInt_lt x
  refine ⟨x.toInt.toNat, by omega, ?_⟩
  apply Int32.toInt_inj.mp
  rw [nI_toInt (by omega)]
  omega
theorem wn0 {r v lo hi : Int32} (h : r = (if ¬ v < lo ∧ ¬ hi < v then 1 else 0)) (h0 : r = 0) : v < lo ∨ ¬ v ≤ hi := by
  by_cases q : ¬ v < lo ∧ ¬ hi < v
  · rw [if_pos q] at h
    rw [h] at h0
    exact absurd h0 (by decide)
  · by_cases q1 : v < lo
    · exact Or.inl q1
    · exact Or.inr (fun q2 => q ⟨q1, Int32.not_lt.mpr q2⟩)
theorem wn1 {r v lo hi : Int32} (h : r = (if ¬ v < lo ∧ ¬ hi < v then 1 else 0)) (h0 : ¬ r = 0) : ¬ (v < lo ∨ ¬ v ≤ hi) := by
  by_cases q : ¬ v < lo ∧ ¬ hi < v
  · exact fun z => z.elim q.1 (fun z => z (Int32.not_lt.mp q.2))
  · rw [if_neg q] at h
    exact absurd h h0
def sdI (l s : Int32) : Int32 := (l >>> ((3 * s) &&& 31)) &&& 7
def m7 (a : Int32) : Int32 := (7 : Int32) <<< ((3 * a) &&& 31)
def shI (v a : Int32) : Int32 := v <<< ((3 * a) &&& 31)
def rgI (l a b c d : Int32) : Int32 := ((((l &&& ((((m7 a ||| m7 b) ||| m7 c) ||| m7 d) ^^^ -1)) ||| shI (sdI l a) b) ||| shI (sdI l b) c) ||| shI (sdI l c) d) ||| shI (sdI l d) a
def quI (l : Int32) (t : Nat) : Int32 := if t = 0 then rgI l 2 4 3 5 else if t = 1 then rgI l 5 3 4 2 else if t = 2 then rgI l 0 2 1 3 else rgI l 3 1 2 0
def tuI (k l : Int32) (t : Nat) : Int32 := if k = 4 then quI (quI l t) t else quI l t
def tofI (k : Nat) : Int32 := if k = 1 then 3 else if k = 2 then 12 else if k = 3 then 0 else if k = 4 then 3 else 15
def wofI (k : Nat) : Int32 := if k = 1 then 4 else if k = 2 then 4 else if k = 3 then 1 else if k = 4 then 2 else 24
def paI (l s v : Int32) : Int32 := (l &&& (m7 s ^^^ -1)) ||| shI v s
def smI (l k s : Int32) : Int32 := if sdI l s = sdI k s then 1 else 0
def kbI (v : Int32) : Int32 := if v = 99 then 0 else if v = 102 then 3 else if v = 104 then 4 else if v = 115 then 1 else if v = 116 then 2 else -1
def coI (k : Int32) (w : Int32) : Int32 := if w = 0 then (if k = 0 ∨ k = 1 then 1 else 0) else if w = 1 then (if k = 0 ∨ k = 2 then 1 else 0) else (if k = 0 ∨ k = 1 ∨ k = 4 then 1 else 0)
theorem k5 {k : Nat} (h : k < 5) : k = 0 ∨ k = 1 ∨ k = 2 ∨ k = 3 ∨ k = 4 := by omega
def la1 (u l w : Int32) (s : Int32) : Int32 := u ||| shI (sdI l (sdI w s)) s
def laI (l w : Int32) : Int32 := la1 (la1 (la1 (la1 (la1 (la1 0 l w 0) l w 1) l w 2) l w 3) l w 4) l w 5
def sz1 (u x : Int32) (s : Int32) : Int32 := u + ((x >>> (s &&& 31)) &&& 1)
def szI (x : Int32) : Int32 := sz1 (sz1 (sz1 (sz1 (sz1 (sz1 0 x 0) x 1) x 2) x 3) x 4) x 5
def amF (pl : Nat) (mp : Nat → Nat) (j : Nat) : Nat := if j < pl then mp j else 0
theorem nar_b : ∀ n, n < 128 → vp_nar .byte (nI n) = nI n := by decide +kernel
theorem isc {cb : Nat} (h : cb = 0 ∨ cb = 2 ∨ cb = 3) {x : Int32} (hx : x = nI cb - 1) (c : Int32) : (¬ c < 0 ∧ ¬ x < c) ↔ hasC cb c := by
  have e0 : (0 : Int32).toInt = 0 := by decide
  have e3 : (3 : Int32).toInt = 3 := by decide
  have em : (-1 : Int32).toInt = -1 := by decide
  have e1 : (1 : Int32).toInt = 1 := by decide
  have e2 : (2 : Int32).toInt = 2 := by decide
  unfold hasC
  rcases h with rfl | rfl | rfl
  · rw [show x = -1 from hx.trans (by decide), show nI 0 = (0 : Int32) from rfl, Int32.lt_iff_toInt_lt, Int32.lt_iff_toInt_lt, Int32.le_iff_toInt_le, Int32.le_iff_toInt_le, e0, e3, em]
    omega
  · rw [show x = 1 from hx.trans (by decide), show nI 2 = (2 : Int32) from rfl, Int32.lt_iff_toInt_lt, Int32.lt_iff_toInt_lt, Int32.le_iff_toInt_le, Int32.le_iff_toInt_le, e0, e3, e1, e2]
    omega
  · rw [show x = 2 from hx.trans (by decide), show nI 3 = (3 : Int32) from rfl, Int32.lt_iff_toInt_lt, Int32.lt_iff_toInt_lt, Int32.le_iff_toInt_le, e0, e3, e2]
    omega
theorem ifc {P Q : Prop} [Decidable P] [Decidable Q] (h : P ↔ Q) (a b : Int32) : (if P then a else b) = (if Q then a else b) := by
  by_cases q : P
  · rw [if_pos q, if_pos (h.mp q)]
  · rw [if_neg q, if_neg (fun z => q (h.mpr z))]
theorem rng95 {x : Int32} (h : ¬ (x < 32 ∨ ¬ x ≤ 126)) : ∃ n : Nat, n < 127 ∧ 32 ≤ n ∧ x = nI n := by
  have h1 : ¬ x < 32 := fun q => h (Or.inl q)
  have h2 : x ≤ 126 := by
    by_cases q : x ≤ 126
    · exact q
    · exact absurd (Or.inr q) h
  obtain ⟨n, hn, rfl⟩ := i32n (x := x) (n := 127) (by decide) (fun q => h1 (Int32.lt_trans q (by decide))) (Int32.lt_of_le_of_lt h2 (by decide))
  exact ⟨n, hn, nI_leN (b := 32) (by decide) (Int32.not_lt.mp h1), rfl⟩
theorem updN (mp : Nat → Nat) (k n : Nat) : upd (fun j => nI (mp j)) k (nI n) = fun j => nI (va_up mp k n j) := by
  funext j
  unfold upd va_up
  split <;> rfl
def moI (cb : Nat) (s a b c : Int32) : Int32 := if cb = 2 then smI a b s else smI a b s + smI a c s + smI b c s
def mfI (cb : Nat) (a b c : Int32) : Int32 := moI cb 2 a b c + moI cb 3 a b c + moI cb 4 a b c + moI cb 5 a b c
def mcI (cb : Nat) (ml : Nat → Int32) : Int32 := if cb = 0 then 0 else mfI cb (ml 0) (ml 1) (ml 2)
theorem hs_n {cb : Nat} {c : Int32} (h : hasC cb c) : ∃ j : Nat, j < 3 ∧ c = nI j := i32n (n := 3) (by decide) h.1 (Int32.not_le.mp h.2.2)
def m_as (cb : Nat) (mk : Nat → Nat) (c k : Int32) : Int32 := if hasC cb c then (if k < 0 ∨ ¬ k ≤ 4 then -102 else if k = 0 ∨ nI (mk c.toNatClampNeg) = k ∨ (k = 1 ∧ nI (mk c.toNatClampNeg) = 4) then c else -1) else -101
theorem m_as3 {cb : Nat} {mk : Nat → Nat} {j : Nat} {k : Int32} (hc : hasC cb (nI j)) (hj : j < 3) (hk : ¬ (k < 0 ∨ ¬ k ≤ 4)) : m_as cb mk (nI j) k = (if k = 0 ∨ nI (mk j) = k ∨ (k = 1 ∧ nI (mk j) = 4) then nI j else -1) := by
  unfold m_as
  rw [if_pos hc, if_neg hk, nI_clamp (n := j) (by omega)]
def wnI (cb : Nat) (ml : Nat → Int32) (w v : Int32) : Int32 := if v = 1 then moI cb (w + 2) (ml 0) (ml 1) (ml 2) else if moI cb (w + 2) (ml 0) (ml 1) (ml 2) = 0 then 1 else 0
def m_wall (cb : Nat) (ml : Nat → Int32) (w v : Int32) : Int32 := if cb = 0 ∨ (w < 0 ∨ ¬ w ≤ 3) then -101 else if v < 0 ∨ ¬ v ≤ 1 then -102 else wnI cb ml w v
theorem wn5 {x : Int32} (h : ¬ (x < 0 ∨ ¬ x ≤ 4)) : ∃ n : Nat, n < 5 ∧ x = nI n := i32n (n := 5) (by decide) (fun q => h (Or.inl q)) (Int32.not_le.mp (fun q => h (Or.inr (fun z => absurd (Int32.le_trans q z) (by decide)))))
theorem wn6 {x : Int32} (h : ¬ (x < 0 ∨ ¬ x ≤ 5)) : ∃ n : Nat, n < 6 ∧ x = nI n := i32n (n := 6) (by decide) (fun q => h (Or.inl q)) (Int32.not_le.mp (fun q => h (Or.inr (fun z => absurd (Int32.le_trans q z) (by decide)))))
theorem wn4 {x : Int32} (h : ¬ (x < 0 ∨ ¬ x ≤ 3)) : ∃ n : Nat, n < 4 ∧ x = nI n := i32n (n := 4) (by decide) (fun q => h (Or.inl q)) (Int32.not_le.mp (fun q => h (Or.inr (fun z => absurd (Int32.le_trans q z) (by decide)))))
abbrev inT (k n : Nat) : Prop := (tofI k >>> (nI n &&& 31)) &&& 1 = 1
def gwI (cb : Nat) (ml : Nat → Int32) : Int32 := if cb = 0 then 0 else ((wnI cb ml 0 0 + wnI cb ml 1 0) + wnI cb ml 2 0) + wnI cb ml 3 0
def mu1 (u l s : Int32) : Int32 := u ||| ((1 : Int32) <<< (sdI l s &&& 31))
def mu6 (u l : Int32) : Int32 := mu1 (mu1 (mu1 (mu1 (mu1 (mu1 u l 0) l 1) l 2) l 3) l 4) l 5
def muI (cb : Nat) (ml : Nat → Int32) : Int32 := if cb = 0 then 0 else if cb = 2 then mu6 (mu6 0 (ml 0)) (ml 1) else mu6 (mu6 (mu6 0 (ml 0)) (ml 1)) (ml 2)
def lt1 (n : Nat) : Prop := 97 ≤ n ∧ n < 103
theorem in05 : ∀ n, n < 128 → ((¬ (nI n - 97) < 0 ∧ ¬ 5 < (nI n - 97)) ↔ (97 ≤ n ∧ n < 103)) := by decide +kernel
theorem kb_kx : ∀ n, n < 128 → (kbI (nI n) = -1 ↔ kxI (nI n) < 0) := by decide +kernel
theorem kb_kn : ∀ n, n < 128 → ¬ kbI (nI n) = -1 → kbI (nI n) = nI (kn n) := by decide +kernel
theorem am128 {pl : Nat} {mp : Nat → Nat} (h : ∀ j, mp j < 128) (j : Nat) : amF pl mp j < 128 := by
  unfold amF
  split
  · exact h j
  · decide
theorem ft_k {n p : Nat} (hn : n < 128) (hp : p < 23) (h0 : p % 8 = 0) : (fitsI n p = 1 ↔ ¬ kbI (nI n) = -1) := by
  unfold fitsI
  rw [if_pos hp, if_pos h0]
  constructor
  · intro h q
    rw [if_pos ((kb_kx n hn).mp q)] at h
    exact absurd h (by decide)
  · intro h
    rw [if_neg (fun q => h ((kb_kx n hn).mpr q))]
theorem ft_c {n p : Nat} (hp : p < 23) (h0 : ¬ p % 8 = 0) (h7 : ¬ p % 8 = 7) : (fitsI n p = 1 ↔ lt1 n) := by
  unfold fitsI lt1
  rw [if_pos hp, if_neg h0, if_neg h7]
  constructor
  · intro h
    by_cases q : 97 ≤ n ∧ n < 103
    · exact q
    · rw [if_neg q] at h
      exact absurd h (by decide)
  · intro h
    rw [if_pos h]
theorem ft_m {n p : Nat} (hp : p < 23) (h7 : p % 8 = 7) : (fitsI n p = 1 ↔ n = 44) := by
  unfold fitsI
  rw [if_pos hp, if_neg (by omega), if_pos h7]
  constructor
  · intro h
    by_cases q : n = 44
    · exact q
    · rw [if_neg q] at h
      exact absurd h (by decide)
  · intro h
    rw [if_pos h]
def FM (q : Nat → Nat) (e : Nat) : Prop := (∀ j, j < e → fitsI (q j) j = 1) ∧ ¬ fitsI (q e) e = 1
theorem FM_one {q : Nat → Nat} {a b : Nat} (ha : FM q a) (hb : FM q b) : a = b := by
  rcases Nat.lt_trichotomy a b with h | h | h
  · exact absurd (hb.1 a h) ha.2
  · exact h
  · exact absurd (ha.1 b h) hb.2
def RC (q : Nat → Nat) (a e : Nat) : Prop := a ≤ e ∧ e ≤ a + 7 ∧ (e = a → kbI (nI (q a)) = -1) ∧ (a < e → ¬ kbI (nI (q a)) = -1) ∧ (∀ i, a < i → i < e → lt1 (q i)) ∧ (a < e → e < a + 7 → ¬ lt1 (q e))
theorem RC_ok {q : Nat → Nat} (hq : ∀ j, q j < 128) {a e : Nat} (ha : a % 8 = 0) (hl : a < 17) (h : RC q a e) : ∀ i, a ≤ i → i < e → fitsI (q i) i = 1 := by
  obtain ⟨h1, h2, h3, h4, h5, h6⟩ := h
  intro i hi he
  by_cases q0 : i = a
  · subst q0
    exact (ft_k (hq i) (by omega) ha).mpr (h4 he)
  · exact (ft_c (by omega) (by omega) (by omega)).mpr (h5 i (by omega) he)
theorem RC_no {q : Nat → Nat} (hq : ∀ j, q j < 128) {a e : Nat} (ha : a % 8 = 0) (hl : a < 17) (h : RC q a e) (hne : ¬ e = a + 7) : ¬ fitsI (q e) e = 1 := by
  obtain ⟨h1, h2, h3, h4, h5, h6⟩ := h
  by_cases q0 : e = a
  · subst q0
    exact fun z => (ft_k (hq e) (by omega) ha).mp z (h3 rfl)
  · exact fun z => h6 (by omega) (by omega) ((ft_c (by omega) (by omega) (by omega)).mp z)
theorem wn0n {r v lo hi : Int32} (h : r = (if ¬ v < lo ∧ ¬ hi < v then 1 else 0)) (h0 : r = 0) : ¬ (¬ v < lo ∧ ¬ hi < v) := hs0 _ h h0
theorem wn1n {r v lo hi : Int32} (h : r = (if ¬ v < lo ∧ ¬ hi < v then 1 else 0)) (h0 : ¬ r = 0) : ¬ v < lo ∧ ¬ hi < v := hs1 _ h h0
theorem upd_upd (f : Nat → Int32) (k : Nat) (x y : Int32) : upd (upd f k x) k y = upd f k y := by
  funext j
  unfold upd
  split <;> rfl
theorem upd_rd (f : Nat → Int32) (k : Nat) (x : Int32) {n : Nat} (h : n = k) : upd f k x n = x := by
  unfold upd
  exact if_pos h
def pk1 (u : Int32) (n : Nat) (s : Int32) : Int32 := u ||| ((nI n - 97) <<< ((3 * s) &&& 31))
def pk6 (mp : Nat → Nat) (c : Nat) : Int32 := pk1 (pk1 (pk1 (pk1 (pk1 (pk1 0 (mp (8 * c + 1)) 0) (mp (8 * c + 2)) 1) (mp (8 * c + 3)) 2) (mp (8 * c + 4)) 3) (mp (8 * c + 5)) 4) (mp (8 * c + 6)) 5
def kT (mk mp : Nat → Nat) (z : Nat) : Nat → Nat := if z = 2 then va_up (va_up mk 0 (kn (mp 0))) 1 (kn (mp 8)) else va_up (va_up (va_up mk 0 (kn (mp 0))) 1 (kn (mp 8))) 2 (kn (mp 16))
def lT (ml : Nat → Int32) (mp : Nat → Nat) (z : Nat) : Nat → Int32 := if z = 2 then upd (upd ml 0 (pk6 mp 0)) 1 (pk6 mp 1) else upd (upd (upd ml 0 (pk6 mp 0)) 1 (pk6 mp 1)) 2 (pk6 mp 2)
theorem rd_no {w : Int32} {A B : Prop} (h : (w = 1 ∧ A) ∨ (w = 0 ∧ B)) (h0 : w = 0) : B := by
  rcases h with ⟨q, _⟩ | ⟨_, q⟩
  · rw [q] at h0
    exact absurd h0 (by decide)
  · exact q
def GW : List Int32 := [181896, 108872, 80648, 180755, 180314, 152776, 107052, 106597, 78373, 77932, 35155, 6931, 181441, 6490, 35610, 152090, 151635, 34028, 5804, 109313, 5349, 34469, 80193, 153217]
theorem gw_turn : ∀ k, k < 5 → ∀ t, t < 4 → ∀ x ∈ GW, tuI (nI k) x t ∈ GW := by decide +kernel
theorem gw_as : (181896 : Int32) ∈ GW := by decide +kernel
theorem nd_le : ∀ (L M : List Int32), L.Nodup → (∀ x ∈ L, x ∈ M) → L.length ≤ M.length
  | [], M, _, _ => Nat.zero_le _
  | a :: L, M, hn, hs => by
    have ha : a ∈ M := hs a List.mem_cons_self
    have hn2 := List.nodup_cons.mp hn
    have h := nd_le L (M.erase a) hn2.2 (fun x hx => (List.mem_erase_of_ne (fun (q : x = a) => hn2.1 (by rw [← q]; exact hx))).mpr (hs x (List.mem_cons_of_mem _ hx)))
    rw [List.length_erase_of_mem ha] at h
    have hp : 0 < M.length := List.length_pos_of_mem ha
    show L.length + 1 ≤ M.length
    omega
def WS (f : Nat → Int32) (b n : Nat) : Prop := n ≤ 24 ∧ (∀ i, i < n → f (b + i) ∈ GW) ∧ (∀ i j, i < j → j < n → ¬ f (b + i) = f (b + j))
theorem WS_lt {f : Nat → Int32} {b n : Nat} {x : Int32} (h : WS f b n) (hx : x ∈ GW) (hne : ∀ i, i < n → ¬ f (b + i) = x) : n < 24 := by
  have key : ((List.range n).map (fun i => f (b + i)) ++ [x]).length ≤ GW.length := by
    refine nd_le _ GW ?_ ?_
    · rw [List.nodup_append]
      refine ⟨?_, by simp, ?_⟩
      · rw [List.nodup_iff_pairwise_ne, List.pairwise_map]
        exact List.Pairwise.imp_of_mem (fun {a c} ha hc hac => h.2.2 a c hac (List.mem_range.mp hc)) List.pairwise_lt_range
      · intro a ha c hc
        obtain ⟨i, hi, rfl⟩ := List.mem_map.mp ha
        rw [List.mem_singleton.mp hc]
        exact hne i (List.mem_range.mp hi)
    · intro y hy
      rcases List.mem_append.mp hy with q | q
      · obtain ⟨i, hi, rfl⟩ := List.mem_map.mp q
        exact h.2.1 i (List.mem_range.mp hi)
      · rw [List.mem_singleton.mp q]
        exact hx
  rw [List.length_append, List.length_map, List.length_range] at key
  have hg : GW.length = 24 := by decide
  have h1 : [x].length = 1 := rfl
  omega
theorem WS_add {f : Nat → Int32} {b n : Nat} {x : Int32} (h : WS f b n) (hx : x ∈ GW) (hne : ∀ i, i < n → ¬ f (b + i) = x) : WS (upd f (b + n) x) b (n + 1) := by
  have hl := WS_lt h hx hne
  have e1 : ∀ i, i < n → upd f (b + n) x (b + i) = f (b + i) := fun i hi => if_neg (by omega)
  have e2 : upd f (b + n) x (b + n) = x := if_pos rfl
  refine ⟨hl, fun i hi => ?_, fun i j hij hj => ?_⟩
  · rcases Nat.lt_succ_iff_lt_or_eq.mp hi with q | q
    · rw [e1 i q]
      exact h.2.1 i q
    · rw [q, e2]
      exact hx
  · rcases Nat.lt_succ_iff_lt_or_eq.mp hj with q | q
    · rw [e1 i (by omega), e1 j q]
      exact h.2.2 i j hij q
    · rw [q, e2, e1 i (by omega)]
      exact hne i (by omega)
theorem WS_0 (f : Nat → Int32) (b : Nat) : WS f b 0 := ⟨by decide, fun i h => absurd h (Nat.not_lt_zero i), fun i j _ h => absurd h (Nat.not_lt_zero j)⟩
theorem WS_up {f : Nat → Int32} {b n k : Nat} {x : Int32} (h : WS f b n) (hk : k < b ∨ b + 24 ≤ k) : WS (upd f k x) b n := by
  have e1 : ∀ i, i < n → upd f k x (b + i) = f (b + i) := fun i hi => if_neg (by have := h.1; omega)
  exact ⟨h.1, fun i hi => by rw [e1 i hi]; exact h.2.1 i hi, fun i j hij hj => by rw [e1 i (by omega), e1 j hj]; exact h.2.2 i j hij hj⟩
def LA (mn : Nat → Nat) : Prop := (1 ≤ mn 0 ∧ mn 0 ≤ 24) ∧ (1 ≤ mn 1 ∧ mn 1 ≤ 24) ∧ (1 ≤ mn 2 ∧ mn 2 ≤ 24)
theorem LA_le {mn : Nat → Nat} (h : LA mn) {J : Nat} (hJ : J < 3) : mn J ≤ 24 := by
  obtain ⟨h0, h1, h2⟩ := h
  rcases (show J = 0 ∨ J = 1 ∨ J = 2 by omega) with rfl | rfl | rfl <;> omega
theorem LA_set {mn m2 : Nat → Nat} (h : LA mn) {J : Nat} (hJ : J < 3) (h1 : 1 ≤ m2 J) (h2 : m2 J ≤ 24) (ho : ∀ j, ¬ j = J → m2 j = mn j) : LA m2 := by
  obtain ⟨a0, a1, a2⟩ := h
  rcases (show J = 0 ∨ J = 1 ∨ J = 2 by omega) with rfl | rfl | rfl
  · have e1 := ho 1 (by decide)
    have e2 := ho 2 (by decide)
    exact ⟨⟨h1, h2⟩, by omega, by omega⟩
  · have e1 := ho 0 (by decide)
    have e2 := ho 2 (by decide)
    exact ⟨by omega, ⟨h1, h2⟩, by omega⟩
  · have e1 := ho 0 (by decide)
    have e2 := ho 1 (by decide)
    exact ⟨by omega, by omega, ⟨h1, h2⟩⟩
def alN (cb : Nat) (mn : Nat → Nat) : Nat := if cb = 2 then mn 0 * mn 1 else mn 0 * mn 1 * mn 2
theorem al_lt {cb : Nat} {mn : Nat → Nat} (h : LA mn) : alN cb mn < 13825 := by
  obtain ⟨⟨_, a0⟩, ⟨_, a1⟩, _, a2⟩ := h
  have h1 : mn 0 * mn 1 ≤ 24 * 24 := Nat.mul_le_mul a0 a1
  unfold alN
  split
  · omega
  · have h2 : mn 0 * mn 1 * mn 2 ≤ 24 * 24 * 24 := Nat.mul_le_mul h1 a2
    omega
theorem al_pos {cb : Nat} {mn : Nat → Nat} (h : LA mn) : 0 < alN cb mn := by
  obtain ⟨⟨a0, _⟩, ⟨a1, _⟩, a2, _⟩ := h
  unfold alN
  split
  · exact Nat.mul_pos a0 a1
  · exact Nat.mul_pos (Nat.mul_pos a0 a1) a2
theorem al3 {cb : Nat} {mn : Nat → Nat} (h : LA mn) {k : Nat} (hk : k < alN cb mn) : k / mn 0 / mn 1 < 24 := by
  obtain ⟨⟨a0, _⟩, ⟨a1, _⟩, a2, b2⟩ := h
  rw [Nat.div_div_eq_div_mul]
  have hp : 0 < mn 0 * mn 1 := Nat.mul_pos a0 a1
  unfold alN at hk
  split at hk
  · rw [Nat.div_eq_of_lt hk]
    decide
  · refine Nat.lt_of_lt_of_le ((Nat.div_lt_iff_lt_mul hp).mpr ?_) b2
    rw [Nat.mul_comm]
    exact hk
def cbI (cb : Nat) (mn : Nat → Nat) (c : Nat → Int32) (k : Nat) : Int32 := mfI cb (c (k % mn 0)) (c (24 + k / mn 0 % mn 1)) (c (48 + k / mn 0 / mn 1))
def soN (cb : Nat) (mn : Nat → Nat) (c : Nat → Int32) : Nat → Nat
  | 0 => 0
  | n + 1 => soN cb mn c n + (if cbI cb mn c n = 0 then 1 else 0)
theorem soN_le (cb : Nat) (mn : Nat → Nat) (c : Nat → Int32) : ∀ n, soN cb mn c n ≤ n
  | 0 => Nat.le_refl _
  | n + 1 => by
    have h := soN_le cb mn c n
    unfold soN
    split <;> omega
theorem so0 {cb : Nat} {mn : Nat → Nat} {c : Nat → Int32} {n : Nat} (h : ¬ cbI cb mn c n = 0) : nI (soN cb mn c n) + 0 = nI (soN cb mn c (n + 1)) := by
  rw [Int32.add_zero, soN, if_neg h, Nat.add_zero]
theorem so1 {cb : Nat} {mn : Nat → Nat} {c : Nat → Int32} {n : Nat} (h : cbI cb mn c n = 0) : nI (soN cb mn c n) + 1 = nI (soN cb mn c (n + 1)) := by
  rw [soN, if_pos h]
  exact nIa _ 1
theorem cb_2 {cb : Nat} (h : cb = 0 ∨ cb = 2 ∨ cb = 3) (h0 : ¬ nI cb = 0) : cb = 2 ∨ cb = 3 := by
  rcases h with rfl | h
  · exact absurd rfl h0
  · exact h
theorem upd_back (f : Nat → Int32) (k : Nat) (x : Int32) : upd (upd f k x) k (f k) = f := by
  funext j
  unfold upd
  split
  · rename_i h
    rw [h]
  · rfl
theorem div_l {a b : Nat} (h : a < 2 ^ 31) : a / b < 2 ^ 31 := Nat.lt_of_le_of_lt (Nat.div_le_self a b) h
abbrev nL (n : Nat) : Int64 := Int64.ofNat n
theorem ns_l (y : Int64) : ∃ m : Nat, m < 2147483648 ∧ (y &&& 2147483647) = nL m := by
  refine ⟨y.toBitVec.toNat % 2147483648, Nat.mod_lt _ (by decide), ?_⟩
  apply Int64.toBitVec_inj.mp
  apply BitVec.eq_of_toNat_eq
  have e : (2147483647 : Int64).toBitVec.toNat = 2 ^ 31 - 1 := by decide
  have e2 : (Int64.ofNat (y.toBitVec.toNat % 2147483648)).toBitVec = BitVec.ofNat 64 (y.toBitVec.toNat % 2147483648) := rfl
  rw [e2, BitVec.toNat_ofNat, Int64.toBitVec_and, BitVec.toNat_and, e, Nat.and_two_pow_sub_one_eq_mod]
  omega
theorem lrm {a d : Nat} (ha : a < 2 ^ 62) (hd : d < 2 ^ 62) : nL a - nL a / nL d * nL d = nL (a % d) := by
  rw [← Int64.ofNat_div (by omega) (by omega), ← Int64.ofNat_mul]
  have h1 : a / d * d + a % d = a := by rw [Nat.mul_comm]; exact Nat.div_add_mod a d
  have h2 : nL a = nL (a / d * d) + nL (a % d) := (congrArg Int64.ofNat h1.symm).trans (Int64.ofNat_add _ _)
  rw [h2, Int64.add_comm]
  exact Int64.add_sub_cancel _ _
theorem ldv {a : Nat} (ha : a < 2 ^ 62) : nL a / 65536 = nL (a / 65536) := by
  rw [show (65536 : Int64) = nL 65536 from rfl]
  exact (Int64.ofNat_div (by omega) (by decide)).symm
theorem nI64 {n : Nat} (h : n < 2 ^ 31) : (nI n).toInt64 = nL n := by
  apply Int64.toInt_inj.mp
  rw [Int32.toInt_toInt64, Int64.toInt_ofNat_of_lt (by omega)]
  exact Int32.toInt_ofNat_of_lt (by omega)
theorem nL_ne0 {d : Nat} (h0 : 0 < d) (h : d < 5) : ¬ nL d = 0 := by
  rcases (show d = 1 ∨ d = 2 ∨ d = 3 ∨ d = 4 by omega) with rfl | rfl | rfl | rfl <;> decide
theorem tT2 {t : Int32} (h : ¬ (t < 1 ∨ ¬ t ≤ 99)) : ∃ n : Nat, n < 100 ∧ t = nI n := tT (fun q => h (Or.inl q)) (fun q => h (Or.inr (Int32.not_le.mpr q)))
