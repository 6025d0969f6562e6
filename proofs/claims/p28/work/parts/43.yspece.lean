/-! ===== a chip emptied, the ticks ===== -/
theorem yem_stop {M : am_M} {c : Int} {n m : Nat} (h : (yem M c n).2.2 = false) (hm : n ≤ m) : yem M c m = yem M c n := by
  induction m with
  | zero =>
    obtain rfl : n = 0 := by omega
    rfl
  | succ m ih =>
    by_cases e : n = m + 1
    · subst e
      rfl
    · have i := ih (by omega)
      simp only [yem]
      rw [i, if_neg (by rw [h]; decide)]
theorem yem_t {M N : am_M} {c k : Int} {n : Nat} (hq : yem M c n = (N, k, true)) : yem M c (n + 1) = (if rd N 4 (c * 6 + n) = -1 then (N, k, true) else if ychf N (rd N 1 c) c = -1 then (N, k, false) else (ykal (ytake N (rd N 4 (c * 6 + n))) (rd N 4 (c * 6 + n)) (ychf N (rd N 1 c) c), k + 1, true)) := by
  simp only [yem]
  rw [hq, if_pos rfl]
theorem yem_b (M : am_M) (c : Int) (n : Nat) : 0 ≤ (yem M c n).2.1 ∧ (yem M c n).2.1 ≤ n := by
  induction n with
  | zero => exact ⟨Int.le_refl _, Int.le_refl _⟩
  | succ n ih =>
    unfold yem
    (repeat' split) <;> first | omega | (dsimp only; omega)
def yrI (M : am_M) : Nat → am_M
  | 0 => M
  | f + 1 => yra (yrI M f) f
theorem yrI_3 (M : am_M) : yrI M 3 = yt1 M := rfl
def ytI (M : am_M) : Nat → am_M
  | 0 => M
  | k + 1 => yt1 (ytI M k)
def yt0 (M : am_M) (t : Int) : am_M := am_u2 M 0 3 (M 0 3 + t)
def YT (M : am_M) (t : Int) : Prop := M 0 3 + t ≤ 100000 → ∀ k : Nat, (k : Int) < t → YR3 (ytI (yt0 M t) k)
theorem YR3_f {M : am_M} (h : YR3 M) : ∀ f : Nat, f < 3 → YRf (yrI M f) f := by
  intro f hf
  rcases (show f = 0 ∨ f = 1 ∨ f = 2 by omega) with rfl | rfl | rfl
  · exact h.2.1
  · exact h.2.2.1
  · exact h.2.2.2
theorem WM_rI {M : am_M} (h : YR3 M) (f : Nat) (hf : f ≤ 3) : WM (yrI M f) := by
  induction f with
  | zero => exact h.1
  | succ f ih => exact WM_ra (ih (by omega)) (by omega) (YR3_f h f (by omega))
theorem ytN_1 {M : am_M} {n : Nat} (h : yt1 M 0 4 = M 0 4) : ytN M (n + 1) = yt1 M := by
  simp only [ytN]
  rw [if_pos h]
theorem ytN_2 {M : am_M} {n : Nat} (h : ¬ yt1 M 0 4 = M 0 4) : ytN M (n + 1) = ytN (yt1 M) n := by
  simp only [ytN]
  rw [if_neg h]
theorem yps_R (M : am_M) (c : Int) : am_R (yps M c) := by
  unfold yps
  split
  · exact ⟨by decide, by decide⟩
  · split
    · exact ⟨by decide, by decide⟩
    · exact am_R_and _ _
