/-! ===== a word that is lost or waits ===== -/
def YSr (M : am_M) (w : Int) : Prop := w = -1 ∨ (YK M w ∧ (ylsC M w = false → YW (yls1 M w) (rd M 12 w) (rd M 11 w)) ∧ (ylsC M w = true → rd M 8 (rd M 12 w) ≤ 5))
theorem ylv_row {M : am_M} {w : Int} {j : Nat} (h7 : j ≠ 7) (h8 : j ≠ 8) : ylv M w j = M j := by
  unfold ylv
  rw [wr_row _ _ _ h8, ylq_row h7]
theorem ylwM_row {M : am_M} {f r : Int} {j : Nat} (h6 : j ≠ 6) (h7 : j ≠ 7) (h8 : j ≠ 8) (h11 : j ≠ 11) : ylwM M f r j = M j := by
  unfold ylwM
  split
  · rfl
  · unfold ylw1
    rw [wr_row _ _ _ h11, ylv_row h7 h8, wr_row _ _ _ h6]
theorem ylsM_10 {M : am_M} {w : Int} (h : ¬ w = -1) (hC : ylsC M w = false) : rd (ylsM M w) 10 w = -1 := by
  unfold ylsM
  rw [if_neg h, if_neg (by rw [hC]; decide)]
  show ylwM (yls1 M w) (rd M 12 w) (rd M 11 w) 10 w.toNat = -1
  rw [ylwM_row (by decide) (by decide) (by decide) (by decide)]
  unfold yls1
  rw [wr_row _ _ _ (by decide)]
  exact rd_wr _ _ _ _
theorem ylsM_same {M : am_M} {w : Int} (hC : ylsC M w = true) : ylsM M w = M := by
  unfold ylsM
  rw [if_pos hC]
  split <;> rfl
theorem YSr_let {M : am_M} {w : Int} (h : YSr M w) : w = -1 ∨ ((0 ≤ w ∧ w < 24) ∧ rd (ylsM M w) 10 w = -1) ∨ (YK (ylsM M w) w ∧ rd (ylsM M w) 8 (rd (ylsM M w) 12 w) ≤ 5) := by
  rcases h with h | ⟨hk, h1, h2⟩
  · exact Or.inl h
  · refine Or.inr ?_
    cases hC : ylsC M w with
    | true =>
      rw [ylsM_same hC]
      exact Or.inr ⟨hk, h2 hC⟩
    | false => exact Or.inl ⟨hk.1, ylsM_10 (by have := hk.1; omega) hC⟩
theorem WM_YSr {M : am_M} {w : Int} (hW : WM M) (h : YSr M w) : WM (ylsM M w) := by
  rcases h with h | ⟨hk, h1, h2⟩
  · exact WM_lsM hW (Or.inl h)
  · cases hC : ylsC M w with
    | true => rw [ylsM_same hC]; exact hW
    | false => exact WM_lsM hW (Or.inr ⟨hk, h1 hC⟩)
theorem WM_YSl {M : am_M} {w : Int} (hW : WM M) (h : YSr M w) : WM (ylet (ylsM M w) w) := by
  rcases YSr_let h with h2 | h2 | h2
  · exact WM_let (WM_YSr hW h) (Or.inl h2)
  · exact WM_let (WM_YSr hW h) (Or.inr (Or.inl h2.2))
  · exact WM_let (WM_YSr hW h) (Or.inr (Or.inr h2))
theorem ylwR_b (M : am_M) (f r : Int) : 0 ≤ ylwR M f r ∧ ylwR M f r ≤ 1 := by
  unfold ylwR
  split <;> omega
theorem ylsR_b (M : am_M) (w : Int) : 0 ≤ ylsR M w ∧ ylsR M w ≤ 2 := by
  have := ylwR_b (yls1 M w) (rd M 12 w) (rd M 11 w)
  unfold ylsR
  (repeat' split) <;> omega
/-- a chip's rows, one behind another, as it dies; a godfather's -/
def yld (M : am_M) (c : Int) : Nat → am_M × Int
  | 0 => (M, 0)
  | n + 1 => (ylet (ylsM (yld M c n).1 (rd (yld M c n).1 4 (c * 6 + n))) (rd (yld M c n).1 4 (c * 6 + n)), (yld M c n).2 + ylsR (yld M c n).1 (rd (yld M c n).1 4 (c * 6 + n)))
def yhd (M : am_M) (f : Int) : Nat → am_M × Int
  | 0 => (M, 0)
  | n + 1 => (ylwM (yhd M f n).1 f n, (yhd M f n).2 + ylwR (yhd M f n).1 f n)
theorem yld_b (M : am_M) (c : Int) (n : Nat) : 0 ≤ (yld M c n).2 ∧ (yld M c n).2 ≤ 2 * n := by
  induction n with
  | zero => exact ⟨Int.le_refl _, Int.le_refl _⟩
  | succ n ih =>
    have := ylsR_b (yld M c n).1 (rd (yld M c n).1 4 (c * 6 + n))
    show 0 ≤ (yld M c n).2 + _ ∧ (yld M c n).2 + _ ≤ _
    omega
theorem yhd_b (M : am_M) (c : Int) (n : Nat) : 0 ≤ (yhd M c n).2 ∧ (yhd M c n).2 ≤ n := by
  induction n with
  | zero => exact ⟨Int.le_refl _, Int.le_refl _⟩
  | succ n ih =>
    have := ylwR_b (yhd M c n).1 c n
    show 0 ≤ (yhd M c n).2 + _ ∧ (yhd M c n).2 + _ ≤ _
    omega
def YD (M : am_M) (c : Int) : Prop := (0 ≤ c ∧ c < M 0 0) → bit (M 0 1) c = 1 → (rd M 5 (rd M 1 c) = c → ∀ n : Nat, n < 6 → YW (yhd M (rd M 1 c) n).1 (rd M 1 c) n) ∧ (¬ rd M 5 (rd M 1 c) = c → ∀ n : Nat, n < 6 → YSr (yld M c n).1 (rd (yld M c n).1 4 (c * 6 + n)))
theorem WM_yhd {M : am_M} {f : Int} (hW : WM M) (hf : 0 ≤ f ∧ f ≤ 2) (h : ∀ n : Nat, n < 6 → YW (yhd M f n).1 f n) (n : Nat) (hn : n ≤ 6) : WM (yhd M f n).1 := by
  induction n with
  | zero => exact hW
  | succ n ih => exact WM_lwM (ih (by omega)) hf (by omega) (h n (by omega))
theorem WM_yld {M : am_M} {c : Int} (hW : WM M) (h : ∀ n : Nat, n < 6 → YSr (yld M c n).1 (rd (yld M c n).1 4 (c * 6 + n))) (n : Nat) (hn : n ≤ 6) : WM (yld M c n).1 := by
  induction n with
  | zero => exact hW
  | succ n ih => exact WM_YSl (ih (by omega)) (h n (by omega))
theorem ylet_row {M : am_M} {w : Int} {j : Nat} (h4 : j ≠ 4) (h6 : j ≠ 6) (h7 : j ≠ 7) (h8 : j ≠ 8) (h10 : j ≠ 10) : ylet M w j = M j := by
  unfold ylet
  split
  · rfl
  · split
    · rfl
    · unfold yle3 yle2 yle1
      rw [wr_row _ _ _ h8, wr_row _ _ _ h7, wr_row _ _ _ h6, ytake_row h4 h10]
theorem ylsM_row {M : am_M} {w : Int} {j : Nat} (h4 : j ≠ 4) (h6 : j ≠ 6) (h7 : j ≠ 7) (h8 : j ≠ 8) (h10 : j ≠ 10) (h11 : j ≠ 11) : ylsM M w j = M j := by
  unfold ylsM
  split
  · rfl
  · split
    · rfl
    · rw [ylwM_row h6 h7 h8 h11]
      unfold yls1
      rw [wr_row _ _ _ h11, ytake_row h4 h10]
theorem yld_row {M : am_M} {c : Int} {j : Nat} (n : Nat) (h4 : j ≠ 4) (h6 : j ≠ 6) (h7 : j ≠ 7) (h8 : j ≠ 8) (h10 : j ≠ 10) (h11 : j ≠ 11) : (yld M c n).1 j = M j := by
  induction n with
  | zero => rfl
  | succ n ih =>
    show ylet _ _ j = _
    rw [ylet_row h4 h6 h7 h8 h10, ylsM_row h4 h6 h7 h8 h10 h11]
    exact ih
theorem yhd_row {M : am_M} {f : Int} {j : Nat} (n : Nat) (h6 : j ≠ 6) (h7 : j ≠ 7) (h8 : j ≠ 8) (h11 : j ≠ 11) : (yhd M f n).1 j = M j := by
  induction n with
  | zero => rfl
  | succ n ih =>
    show ylwM _ _ _ j = _
    rw [ylwM_row h6 h7 h8 h11]
    exact ih
def ylvg (M : am_M) (c : Int) : am_M := am_u2 M 0 1 (am_and (M 0 1) (am_xor (am_shl 1 c) (-1)))
def ydie (M : am_M) (c : Int) : Int × am_M := if 0 ≤ c ∧ c < M 0 0 then (if bit (M 0 1) c = 1 then (if rd M 5 (rd M 1 c) = c then ((yhd M (rd M 1 c) 6).2, ylvg (wr (yhd M (rd M 1 c) 6).1 5 (rd M 1 c) (-1)) c) else ((yld M c 6).2, ylvg (yld M c 6).1 c)) else (-1000002, M)) else (-1000001, M)
def ybr0 (M : am_M) (c r : Int) : am_M := if rd M 3 c ≤ 0 then wr M 2 c (am_or (rd M 2 c) (am_shl 1 r)) else wr M 3 c (rd M 3 c - 1)
def ybrw (M : am_M) (c r : Int) : Int := rd (ybr0 M c r) 4 (c * 6 + r)
def ybreak (M : am_M) (c r : Int) : Int × am_M := if 0 ≤ c ∧ c < M 0 0 then (if 0 ≤ r ∧ r ≤ 5 then (if bit (M 0 1) c = 1 then (if bit (rd M 2 c) r = 1 then (-1000002, M) else (if rd M 5 (rd M 1 c) = c then (ylwR (ybr0 M c r) (rd M 1 c) r, ylwM (ybr0 M c r) (rd M 1 c) r) else (ylsR (ybr0 M c r) (ybrw M c r), if rd M 3 c ≤ 0 then ylet (ylsM (ybr0 M c r) (ybrw M c r)) (ybrw M c r) else ylsM (ybr0 M c r) (ybrw M c r)))) else (-1000002, M)) else (-1000001, M)) else (-1000001, M)
def YB (M : am_M) (c r : Int) : Prop := (0 ≤ c ∧ c < M 0 0) → (0 ≤ r ∧ r ≤ 5) → (rd M 5 (rd M 1 c) = c → YW (ybr0 M c r) (rd M 1 c) r) ∧ (¬ rd M 5 (rd M 1 c) = c → YSr (ybr0 M c r) (ybrw M c r))
theorem am_or_b : ∀ b : Fin 64, ∀ r : Fin 6, 0 ≤ am_or (b.val : Int) (am_shl 1 (r.val : Int)) ∧ am_or (b.val : Int) (am_shl 1 (r.val : Int)) < 64 := by decide +kernel
theorem am_or_b2 {b r : Int} (hb : 0 ≤ b ∧ b < 64) (hr : 0 ≤ r ∧ r ≤ 5) : 0 ≤ am_or b (am_shl 1 r) ∧ am_or b (am_shl 1 r) < 64 := by
  have := am_or_b ⟨b.toNat, by omega⟩ ⟨r.toNat, by omega⟩
  simp only at this
  rwa [show ((b.toNat : Nat) : Int) = b by omega, show ((r.toNat : Nat) : Int) = r by omega] at this
theorem WM_br0 {M : am_M} {c r : Int} (hW : WM M) (hc : 0 ≤ c ∧ c < 8) (hr : 0 ≤ r ∧ r ≤ 5) : WM (ybr0 M c r) := by
  obtain ⟨w0, w2, w1, w5, w8, w12, wb⟩ := hW
  have hb := wb c hc.1 hc.2
  have ho := am_or_b2 hb hr
  unfold ybr0
  split
  · refine ⟨by rw [wr_row _ _ _ (by decide)]; exact w0, by rw [wr_row _ _ _ (by decide)]; exact w2, fun a h0 h9 => by rw [rd_wrj _ _ _ _ (by decide)]; exact w1 a h0 h9, fun f h0 h9 => by rw [rd_wrj _ _ _ _ (by decide)]; exact w5 f h0 h9, fun f h0 h9 => by rw [rd_wrj _ _ _ _ (by decide)]; exact w8 f h0 h9, fun w h0 h9 => by rw [rd_wrj _ _ _ _ (by decide), rd_wrj _ _ _ _ (by decide)]; exact w12 w h0 h9, fun a h0 h9 => ?_⟩
    by_cases ha : a = c
    · subst ha; rw [rd_wr]; exact ho
    · rw [rd_wri _ _ _ hc.1 h0 ha]; exact wb a h0 h9
  · refine ⟨by rw [wr_row _ _ _ (by decide)]; exact w0, by rw [wr_row _ _ _ (by decide)]; exact w2, fun a h0 h9 => by rw [rd_wrj _ _ _ _ (by decide)]; exact w1 a h0 h9, fun f h0 h9 => by rw [rd_wrj _ _ _ _ (by decide)]; exact w5 f h0 h9, fun f h0 h9 => by rw [rd_wrj _ _ _ _ (by decide)]; exact w8 f h0 h9, fun w h0 h9 => by rw [rd_wrj _ _ _ _ (by decide), rd_wrj _ _ _ _ (by decide)]; exact w12 w h0 h9, fun a h0 h9 => by rw [rd_wrj _ _ _ _ (by decide)]; exact wb a h0 h9⟩
