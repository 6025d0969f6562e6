/-! ===== the class's changes: bounds ===== -/
theorem and63 (x : Int) : 0 ≤ am_and x 63 ∧ am_and x 63 ≤ 63 := by
  unfold am_and
  rw [show Int32.ofInt 63 = 63 from rfl]
  have key : ∀ a : Int32, 0 ≤ (a &&& 63).toInt ∧ (a &&& 63).toInt ≤ 63 := by
    intro a
    have e : (a &&& 63).toInt = (a.toBitVec &&& 63#32).toInt := rfl
    have hn : (a.toBitVec &&& 63#32).toNat ≤ 63 := by
      rw [BitVec.toNat_and]
      exact Nat.and_le_right
    have ht : (a.toBitVec &&& 63#32).toInt = ((a.toBitVec &&& 63#32).toNat : Int) := BitVec.toInt_eq_toNat_of_lt (by omega)
    rw [e, ht]
    omega
  exact key _
theorem ybc_b (x : Int) : 0 ≤ ybc x ∧ ybc x ≤ 63 := and63 _
theorem ybc_R (x : Int) : am_R (ybc x) := ⟨by have := ybc_b x; omega, by have := ybc_b x; omega⟩
theorem yrk_b (M : am_M) (f c : Int) : 0 ≤ yrk M f c ∧ yrk M f c ≤ 69 := by
  have := ybc_b (yps M c)
  unfold yrk
  (repeat' split) <;> omega
theorem ybest_b (M : am_M) (f lo : Int) (n : Nat) : (-1 ≤ (ybest M f lo n).1 ∧ (ybest M f lo n).1 < n) ∧ 0 ≤ (ybest M f lo n).2 ∧ (ybest M f lo n).2 ≤ 69 := by
  induction n with
  | zero => exact ⟨⟨Int.le_refl _, by show (-1 : Int) < ((0 : Nat) : Int); omega⟩, Int.le_refl _, by show (0 : Int) ≤ 69; omega⟩
  | succ n ih =>
    have := yrk_b M f n
    unfold ybest
    (repeat' split) <;> first | omega | (dsimp only; omega)
theorem yrk_R (M : am_M) (f c : Int) : am_R (yrk M f c) := ⟨by have := yrk_b M f c; omega, by have := yrk_b M f c; omega⟩
theorem WM_wr {M : am_M} {j : Nat} {i x : Int} (hW : WM M) (hj : 4 ≤ j) (h5 : j ≠ 5) (h8 : j = 8 → 0 ≤ x ∧ x ≤ 6) (h11 : j = 11 → -1 ≤ x ∧ x ≤ 5) (h12 : j = 12 → 0 ≤ x ∧ x ≤ 2) (hi : 0 ≤ i) : WM (wr M j i x) := by
  obtain ⟨w0, w2, w1, w5, w8, w12, wb⟩ := hW
  have r0 : wr M j i x 0 = M 0 := wr_row M i x (by omega)
  refine ⟨by rw [r0]; exact w0, by rw [r0]; exact w2, fun c h0 h9 => by rw [rd_wrj M i c x (by omega)]; exact w1 c h0 h9, fun f h0 h9 => by rw [rd_wrj M i f x (by omega)]; exact w5 f h0 h9, fun f h0 h9 => ?_, fun w h0 h9 => ⟨?_, ?_⟩, fun c h0 h9 => by rw [rd_wrj M i c x (by omega)]; exact wb c h0 h9⟩
  · by_cases hj8 : j = 8
    · subst hj8
      by_cases hfi : f = i
      · subst hfi; rw [rd_wr]; exact h8 rfl
      · rw [rd_wri M 8 x hi h0 hfi]; exact w8 f h0 h9
    · rw [rd_wrj M i f x (Ne.symm hj8)]; exact w8 f h0 h9
  · by_cases hj8 : j = 12
    · subst hj8
      by_cases hfi : w = i
      · subst hfi; rw [rd_wr]; exact h12 rfl
      · rw [rd_wri M 12 x hi h0 hfi]; exact (w12 w h0 h9).1
    · rw [rd_wrj M i w x (Ne.symm hj8)]; exact (w12 w h0 h9).1
  · by_cases hj8 : j = 11
    · subst hj8
      by_cases hfi : w = i
      · subst hfi; rw [rd_wr]; exact h11 rfl
      · rw [rd_wri M 11 x hi h0 hfi]; exact (w12 w h0 h9).2
    · rw [rd_wrj M i w x (Ne.symm hj8)]; exact (w12 w h0 h9).2
/-- a word that its chip keeps, by its own numbers -/
def YK (M : am_M) (w : Int) : Prop := (0 ≤ w ∧ w < 24) ∧ (0 ≤ rd M 10 w ∧ rd M 10 w < 8) ∧ 0 ≤ rd M 11 w ∧ rd M 11 w ≤ 5
theorem WM_take {M : am_M} {w : Int} (hW : WM M) (hk : YK M w) : WM (ytake M w) := by
  obtain ⟨h1, h2, h3⟩ := hk
  exact WM_wr (WM_wr hW (by decide) (by decide) (by omega) (by omega) (by omega) (by omega)) (by decide) (by decide) (by omega) (by omega) (by omega) h1.1
theorem ytake_rd {M : am_M} {w : Int} {j : Nat} (k : Int) (h4 : j ≠ 4) (h10 : j ≠ 10) : rd (ytake M w) j k = rd M j k := by
  unfold ytake
  rw [rd_wrj _ _ _ _ h10, rd_wrj _ _ _ _ h4]
theorem ytake_row {M : am_M} {w : Int} {j : Nat} (h4 : j ≠ 4) (h10 : j ≠ 10) : ytake M w j = M j := by
  unfold ytake
  rw [wr_row _ _ _ h10, wr_row _ _ _ h4]
theorem ylq_row {M : am_M} {f w : Int} {i : Nat} {j : Nat} (h : j ≠ 7) : (ylq M f w i).1 j = M j := by
  induction i with
  | zero => rfl
  | succ i ih =>
    unfold ylq
    (repeat' split) <;> first | exact ih | (dsimp only; rw [wr_row _ _ _ h, ih])
theorem WM_row {M N : am_M} (hW : WM M) (h : ∀ j, j ≠ 7 → N j = M j) : WM N := by
  unfold WM rd at hW ⊢
  rw [h 0 (by decide), h 1 (by decide), h 5 (by decide), h 8 (by decide), h 12 (by decide), h 11 (by decide), h 2 (by decide)]
  exact hW
theorem WM_lv {M : am_M} {w : Int} (hW : WM M) (hw : 0 ≤ w ∧ w < 24) (hq : 1 ≤ rd M 8 (rd M 12 w)) : WM (ylv M w) := by
  have h12 := hW.2.2.2.2.2.1 w hw.1 hw.2
  have h8 := hW.2.2.2.2.1 _ h12.1.1 h12.1.2
  exact WM_wr (WM_row hW (fun j hj => ylq_row hj)) (by decide) (by decide) (by omega) (by omega) (by omega) (by omega)
/-- a row's waiting word, by its own numbers -/
def YW (M : am_M) (f r : Int) : Prop := rd M 6 (f * 6 + r) = -1 ∨ ((0 ≤ rd M 6 (f * 6 + r) ∧ rd M 6 (f * 6 + r) < 24) ∧ 1 ≤ rd M 8 (rd M 12 (rd M 6 (f * 6 + r))))
theorem WM_lwM {M : am_M} {f r : Int} (hW : WM M) (hf : 0 ≤ f ∧ f ≤ 2) (hr : 0 ≤ r ∧ r ≤ 5) (h : YW M f r) : WM (ylwM M f r) := by
  unfold ylwM
  split
  · exact hW
  · rename_i hne
    rcases h with h | ⟨h1, h2⟩
    · exact absurd h hne
    · have hW1 : WM (wr M 6 (f * 6 + r) (-1)) := WM_wr hW (by decide) (by decide) (by omega) (by omega) (by omega) (by omega)
      have hW2 := WM_lv (w := rd M 6 (f * 6 + r)) hW1 h1 (by rw [rd_wrj _ _ _ _ (by decide), rd_wrj _ _ _ _ (by decide)]; exact h2)
      exact WM_wr hW2 (by decide) (by decide) (by omega) (by omega) (by omega) h1.1
theorem WM_ls1 {M : am_M} {w : Int} (hW : WM M) (hk : YK M w) : WM (yls1 M w) := WM_wr (WM_take hW hk) (by decide) (by decide) (by omega) (by omega) (by omega) hk.1.1
theorem WM_lsM {M : am_M} {w : Int} (hW : WM M) (hk : w = -1 ∨ (YK M w ∧ YW (yls1 M w) (rd M 12 w) (rd M 11 w))) : WM (ylsM M w) := by
  unfold ylsM
  split
  · exact hW
  · split
    · exact hW
    · rcases hk with hk | ⟨hk, hy⟩
      · contradiction
      · have h12 := hW.2.2.2.2.2.1 w hk.1.1 hk.1.2
        exact WM_lwM (WM_ls1 hW hk) h12.1 hk.2.2 hy
theorem WM_let {M : am_M} {w : Int} (hW : WM M) (hk : w = -1 ∨ rd M 10 w = -1 ∨ (YK M w ∧ rd M 8 (rd M 12 w) ≤ 5)) : WM (ylet M w) := by
  unfold ylet
  split
  · exact hW
  · split
    · exact hW
    · rcases hk with hk | hk | ⟨hk, h5⟩
      · contradiction
      · contradiction
      · have h12 := hW.2.2.2.2.2.1 w hk.1.1 hk.1.2
        have h8 := hW.2.2.2.2.1 _ h12.1.1 h12.1.2
        have ht := WM_take hW hk
        have hr := hk.2.2
        have e12 : rd (ytake M w) 12 w = rd M 12 w := ytake_rd _ (by decide) (by decide)
        have e11 : rd (ytake M w) 11 w = rd M 11 w := ytake_rd _ (by decide) (by decide)
        have e8 : rd (yle1 M w) 8 (rd (ytake M w) 12 w) = rd M 8 (rd M 12 w) := by
          unfold yle1
          rw [rd_wrj _ _ _ _ (by decide), e12]
          exact ytake_rd _ (by decide) (by decide)
        have h1 : WM (yle1 M w) := WM_wr ht (by decide) (by decide) (by omega) (by omega) (by omega) (by rw [e12, e11]; omega)
        have h2 : WM (yle2 M w) := WM_wr h1 (by decide) (by decide) (by omega) (by omega) (by omega) (by rw [e12, ← e12, e8, e12]; omega)
        have e82 : rd (yle2 M w) 8 (rd (ytake M w) 12 w) = rd M 8 (rd M 12 w) := by
          unfold yle2
          rw [rd_wrj _ _ _ _ (by decide)]; exact e8
        exact WM_wr h2 (by decide) (by decide) (fun _ => by rw [e82]; omega) (by omega) (by omega) (by rw [e12]; omega)
