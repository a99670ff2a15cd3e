-- small rows on whole numbers and on cells
theorem vi_c {i : Int32} {n : Nat} (h : decide (¬ (i < 0 ∨ n ≤ i.toNatClampNeg)) = true) : vp_in i n := of_decide_eq_true (p := ¬ (i < 0 ∨ n ≤ i.toNatClampNeg)) h
theorem nIa (a b : Nat) : nI a + nI b = nI (a + b) := (Int32.ofNat_add a b).symm
theorem nIm (a b : Nat) : nI a * nI b = nI (a * b) := (Int32.ofNat_mul a b).symm
theorem nI_ltN {a b : Nat} (ha : a < 2 ^ 31) (h : ¬ nI b ≤ nI a) : a < b := by
  rcases Nat.lt_or_ge a b with q | q
  · exact q
  · exact absurd (nI_le q ha) h
theorem nI_leN {a b : Nat} (hb : b < 2 ^ 31) (h : nI b ≤ nI a) : b ≤ a := by
  rcases Nat.lt_or_ge a b with q | q
  · exact absurd h (nI_ge q hb)
  · exact q
theorem d4_key {a : Nat} {e0 e1 e2 e3 : va_E} : ∀ (k : Nat) (q : Nat × va_E), ([(a, e0), (a + 1, e1), (a + 2, e2), (a + 3, e3)] : va_W)[k]? = some q → k < 4 ∧ q.1 = a + k := by
  intro k q h
  match k, h with
  | 0, h => cases h; exact ⟨by decide, rfl⟩
  | 1, h => cases h; exact ⟨by decide, rfl⟩
  | 2, h => cases h; exact ⟨by decide, rfl⟩
  | 3, h => cases h; exact ⟨by decide, rfl⟩
  | k + 4, h => simp at h
theorem d4 {A : Nat → Prop} {a : Nat} {e0 e1 e2 e3 : va_E} (h : ∀ q, a ≤ q → A q) : va_D A [(a, e0), (a + 1, e1), (a + 2, e2), (a + 3, e3)] := by
  refine ⟨fun i j p q hi hj he => ?_, fun k q hk => ?_⟩
  · have h1 := (d4_key i p hi).2
    have h2 := (d4_key j q hj).2
    omega
  · have h1 := (d4_key k q hk).2
    exact h _ (by omega)
section KM
variable {p : Program} {l : Launch} {e : Env} {R : Room} {s : State} {m : MethodId} {args : Array Value} {below : List Frame} {meth : Method} {c : Code} {H : Heap} {locs : List Loc} {cells slots : Nat} {Q : State → Prop}
variable {cc : ByteArray} {pc : Nat} {ls : Array Slot} {rest : List Value} {D : va_G} {cy : Nat → ClassId} {A : Nat → Prop} {ws : va_W}
theorem kq {o : Option Nat} {a : Nat} (h : o = some a) (k : W p l e R s m args below meth c H locs cells slots Q (F0 m pc ls (.ref a :: rest))) : W p l e R s m args below meth c H locs cells slots Q (F0 m pc ls (va_rf o :: rest)) := by
  subst h
  exact k
theorem m_outer (c : ClassId) (h : Nat) : (((mu_out c).setSlot 0 (.ref (h + 1))).setSlot 1 (.ref (h + 2))).setSlot 2 (.ref (h + 3)) = vp_cell c (3, .inr (.inr (.inr (.inr (va_up (va_up (va_up (fun _ => none) 0 (some (h + 1))) 1 (some (h + 2))) 2 (some (h + 3))))))) := rfl
theorem m_inner (c : ClassId) : mu_in c = vp_cell c (24, .inl (fun _ => 0)) := rfl
theorem nw_m (hx : p.tables.exec = Jvm.exec) (hb : c.code = cc) (hX : sx D cy A s) {own : String} {index : Nat} (hown : s.vm.findClass own = some m.cls) (hclink : (Cond.classLink own index "[[I").before args s = true) (harr : (Cond.arrayClass .int).before args s = true) (hP : va_P D vwCl ws H) (hD : va_D A ws) (hS : va_S A s.heap H locs) (hA : ∀ q, s.heap.size ≤ q → A q) (hcells : cells + 4 ≤ R.cells) (hslots : slots + 75 ≤ R.slots) (hdg : decode cc pc = .ok (.multianewarray index 2, 4))
    (kk : ∀ (q q1 q2 q3 : Nat) (H1 : Heap), va_P D vwCl (ws ++ [(q, .inl (cy 4, 3, .inr (.inr (.inr (.inr (va_up (va_up (va_up (fun _ => none) 0 (some q1)) 1 (some q2)) 2 (some q3))))))), (q1, .inl (cy 0, 24, .inl (fun _ => 0))), (q2, .inl (cy 0, 24, .inl (fun _ => 0))), (q3, .inl (cy 0, 24, .inl (fun _ => 0)))]) H1 → va_D A (ws ++ [(q, .inl (cy 4, 3, .inr (.inr (.inr (.inr (va_up (va_up (va_up (fun _ => none) 0 (some q1)) 1 (some q2)) 2 (some q3))))))), (q1, .inl (cy 0, 24, .inl (fun _ => 0))), (q2, .inl (cy 0, 24, .inl (fun _ => 0))), (q3, .inl (cy 0, 24, .inl (fun _ => 0)))]) → va_S A s.heap H1 locs →
      W p l e R s m args below meth c H1 locs (cells + 4) (slots + 75) Q (F0 m (pc + 4) ls (.ref q :: rest))) : W p l e R s m args below meth c H locs cells slots Q (F0 m pc ls (.int 24 :: .int 3 :: rest)) := by
  intro T hT Xs
  obtain ⟨vm₁, cA, comp, fA, fC, X', step⟩ := mz_multi Xs hx hown hclink hX.2.2.2.2.2 harr (g := F0 m pc ls (.int 24 :: .int 3 :: rest)) rfl (by rw [hb]; exact hdg) rfl hcells hslots
  have e1 : cA = cy 4 := Option.some.inj (fA.symm.trans (hX.1.2 4 (cy 4, .array .int) rfl).2)
  have e2 : comp = cy 0 := Option.some.inj (fC.symm.trans (hX.1.2 0 (cy 0, .int) rfl).2)
  subst e1
  subst e2
  generalize hF : mu_all (T.setVm vm₁) (cy 4) (cy 0) = F at X' step
  have hTh : (T.setVm vm₁).heap = H := hT
  obtain ⟨f1, f2, f3, f4⟩ := mu_facts (T.setVm vm₁) (cy 4) (cy 0)
  rw [hF, hTh] at f1 f2
  have hold : ∀ x : Nat, x < H.size → F.heap[x]? = H[x]? := fun x hx => by
    have := f4 x (by rw [hTh]; exact hx)
    rw [hF, hTh] at this
    exact this
  have hrow : ∀ j : Nat, j < 3 → F.heap[H.size + 1 + j]? = some (vp_cell (cy 0) (24, .inl (fun _ => 0))) := fun j hj => by
    have := f3 j hj
    rw [hF, hTh, m_inner] at this
    exact this
  rw [m_outer] at f2
  have hP0 : va_P D vwCl ws F.heap := hP.kept (fun k9 x hx => hold x.1 ((hP k9 x hx).lt))
  have hP1 : va_P D vwCl [(H.size, .inl (cy 4, 3, .inr (.inr (.inr (.inr (va_up (va_up (va_up (fun _ => none) 0 (some (H.size + 1))) 1 (some (H.size + 2))) 2 (some (H.size + 3)))))))), (H.size + 1, .inl (cy 0, 24, .inl (fun _ => 0))), (H.size + 2, .inl (cy 0, 24, .inl (fun _ => 0))), (H.size + 3, .inl (cy 0, 24, .inl (fun _ => 0)))] F.heap := by
    intro k9 x hx9
    match k9, hx9 with
    | 0, h => cases h; exact f2
    | 1, h => cases h; exact hrow 0 (by decide)
    | 2, h => cases h; exact hrow 1 (by decide)
    | 3, h => cases h; exact hrow 2 (by decide)
    | k9 + 4, h => simp at h
  have hD1 := va_D.app hD (d4 (e0 := .inl (cy 4, 3, .inr (.inr (.inr (.inr (va_up (va_up (va_up (fun _ => none) 0 (some (H.size + 1))) 1 (some (H.size + 2))) 2 (some (H.size + 3)))))))) (e1 := .inl (cy 0, 24, .inl (fun _ => 0))) (e2 := .inl (cy 0, 24, .inl (fun _ => 0))) (e3 := .inl (cy 0, 24, .inl (fun _ => 0))) (fun q h => hA q (Nat.le_trans hS.1 h))) (fun i j x y hx9 hy9 he => by
    have h1 := (hP i x hx9).lt
    have h2 := (d4_key j y hy9).2
    omega)
  obtain ⟨t, a1, b1⟩ := kk H.size (H.size + 1) (H.size + 2) (H.size + 3) F.heap (hP0.app hP1) hD1 ⟨Nat.le_trans hS.1 (by omega), fun x h1 h2 => (hold x (Nat.lt_of_lt_of_le h1 hS.1)).trans (hS.2.1 x h1 h2), hS.2.2⟩ F rfl X'
  rw [hT] at step
  exact ⟨t, step t a1, b1⟩
end KM
