-- the same over the survey's cells
def cTf (wv : Nat → Nat → Int32) (i j : Nat) (c9 : Int32) (l : Nat) : Int32 := (c9 + bcF (wv 2 l &&& wv 0 i)) + bcF (wv 2 l &&& wv 1 j)
def tTf (wg : Nat → Nat → Int32) (q : Nat → Nat) (i j l : Nat) : Int32 := (wg (q 0) i + wg (q 1) j) + wg (q 2) l
def fTf (wh : Nat → Nat → Int32) (q : Nat → Nat) (i j l : Nat) : Int32 := (wh (q 0) i ||| (wh (q 1) j <<< ((4 : Int32) &&& 31))) ||| (wh (q 2) l <<< ((8 : Int32) &&& 31))
def c2f (wv : Nat → Nat → Int32) (i j : Nat) : Int32 := bcF (wv 0 i &&& wv 1 j)
def ttK (z : Nat → Nat) (wg wh : Nat → Nat → Int32) (q : Nat → Nat) (wv : Nat → Nat → Int32) (i j : Nat) (c9 : Int32) (Q : Q4) : Q4 := ttF (cTf wv i j c9) (tTf wg q i j) (fTf wh q i j) (z (q 2)) Q
def l2K (z : Nat → Nat) (wg wh : Nat → Nat → Int32) (q : Nat → Nat) (wv : Nat → Nat → Int32) (i n : Nat) (Q : Q4) : Q4 := l2F (c2f wv i) (fun j => ttK z wg wh q wv i j (c2f wv i j)) n Q
def l1K (z : Nat → Nat) (wg wh : Nat → Nat → Int32) (q : Nat → Nat) (wv : Nat → Nat → Int32) (n : Nat) (Q : Q4) : Q4 := l1F (fun i => l2K z wg wh q wv i (z (q 1))) n Q
def lkF (z : Nat → Nat) (wg wh : Nat → Nat → Int32) (q : Nat → Nat) (wv : Nat → Nat → Int32) : Q4 := l1K z wg wh q wv (z (q 0)) (0, 2147483647, 0, 0)
def SvF (z : Nat → Nat) (wf wg wh : Nat → Nat → Int32) (sz : Nat) (kd : Nat → Nat) (f : Nat → Nat → Int32) (q : Nat → Nat) (wv : Nat → Nat → Int32) (so le fe fi : Int32) : Prop := (∀ J, J < 3 → q J = if J < sz then kd J else 3) ∧ (∀ J, J < 3 → ∀ w, w < z (q J) → wv J w = wlT sz kd f wf J w) ∧ ((so, le, fe, fi) : Q4) = lkF z wg wh q wv
theorem SvF_of {z : Nat → Nat} {wf wg wh : Nat → Nat → Int32} {sz : Nat} {kd : Nat → Nat} {f : Nat → Nat → Int32} {qa qb qc : Nat → Nat} {va vb vc : Nat → Nat → Int32} {so le fe fi : Int32} (lq0 : qa 0 = if 0 < sz then kd 0 else 3) (lo1 : ∀ k, ¬ k = 1 → qb k = qa k) (lv1 : ∀ k, ¬ k = 1 → vb k = va k) (lw0 : ∀ w, w < z (qa 0) → va 0 w = wlT sz kd f wf 0 w) (lq1 : qb 1 = if 1 < sz then kd 1 else 3) (lo2 : ∀ k, ¬ k = 2 → qc k = qb k) (lv2 : ∀ k, ¬ k = 2 → vc k = vb k) (lw1 : ∀ w, w < z (qb 1) → vb 1 w = wlT sz kd f wf 1 w) (lq2 : qc 2 = if 2 < sz then kd 2 else 3) (lw2 : ∀ w, w < z (qc 2) → vc 2 w = wlT sz kd f wf 2 w) (hk : ((so, le, fe, fi) : Q4) = lkF z wg wh qc vc) : SvF z wf wg wh sz kd f qc vc so le fe fi := by
  refine ⟨fun J hJ => ?_, fun J hJ w hw => ?_, hk⟩
  · rcases (show J = 0 ∨ J = 1 ∨ J = 2 by omega) with rfl | rfl | rfl
    · rw [lo2 0 (by decide), lo1 0 (by decide)]
      exact lq0
    · rw [lo2 1 (by decide)]
      exact lq1
    · exact lq2
  · rcases (show J = 0 ∨ J = 1 ∨ J = 2 by omega) with rfl | rfl | rfl
    · rw [lo2 0 (by decide), lo1 0 (by decide)] at hw
      rw [lv2 0 (by decide), lv1 0 (by decide)]
      exact lw0 w hw
    · rw [lo2 1 (by decide)] at hw
      rw [lv2 1 (by decide)]
      exact lw1 w hw
    · exact lw2 w hw
