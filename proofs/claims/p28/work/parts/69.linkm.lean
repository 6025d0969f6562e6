/-! ===== a word is carried; written ===== -/
theorem ypsN_c2 {M N : am_M} {c f : Int} (n : Nat) (h4 : ∀ k : Nat, k < n → rd N 4 (c * 6 + k) = rd M 4 (c * 6 + k)) (h6 : N 6 = M 6) : ypsN N c f n = ypsN M c f n := by
  induction n with
  | zero => rfl
  | succ n ih =>
    have e6 : rd N 6 (f * 6 + n) = rd M 6 (f * 6 + n) := congrFun h6 _
    simp only [ypsN]
    rw [h4 n (by omega), e6, ih (fun k hk => h4 k (by omega))]
theorem yps_c2 {M N : am_M} {c : Int} (h0 : N 0 = M 0) (h1 : N 1 = M 1) (h2 : N 2 = M 2) (h4 : ∀ k : Nat, k < 6 → rd N 4 (c * 6 + k) = rd M 4 (c * 6 + k)) (h5 : N 5 = M 5) (h6 : N 6 = M 6) : yps N c = yps M c := by
  unfold yps
  rw [ypsN_c2 6 h4 h6]
  unfold rd
  rw [h0, h1, h2, h5]
theorem ylow_ps {M N : am_M} {c : Int} (h : yps N c = yps M c) : ylow N c = ylow M c := by
  unfold ylow
  rw [h]
theorem ykal_ls {M : am_M} {w c : Int} (hl : ylow (yls1 M w) c < 6) : ykal (ytake M w) w c = ykal (yls1 M w) w c := by
  have r : ∀ j, j ≠ 11 → yls1 M w j = ytake M w j := fun j hj => wr_row _ _ _ hj
  have e : ylow (yls1 M w) c = ylow (ytake M w) c := ylow_ps (yps_congr (r 0 (by decide)) (r 1 (by decide)) (r 2 (by decide)) (r 4 (by decide)) (r 5 (by decide)) (r 6 (by decide)))
  unfold ykal
  rw [← e, if_pos hl, if_pos hl]
  unfold yls1
  exact (ysit_wr _).symm
/-- a kept word goes to another chip's lowest place -/
theorem CX_move {M : am_M} {S : Nat → Int} (h : CX M S) {w c : Int} (hw : 0 ≤ w ∧ w < S 1) (hs : xwd S w 1 = 0) (hc : 0 ≤ c ∧ c < S 0) (hne : ¬ xwd S w 2 = c) (hpl : xpls S c ≠ 0) : CX (ykal (ytake M w) w c) (xsits S w c (xlow S c)) ∧ rd (ykal (ytake M w) w c) 11 w = xlow S c := by
  obtain ⟨hY, e10, e11, e12, e9, hc0, h4⟩ := CL_at0 h.1 hw hs
  have hX := h.1.1.2
  have h8 := hX.1
  have hc8 : 0 ≤ c ∧ c < 8 := by omega
  have hA := CX_A h hw hs
  have y2 := hY.2.1
  have y3 := hY.2.2
  have e1 : xlay S w 1 2 1 = S 1 := xlay_lo hw.1 (by decide) (by decide)
  have e0 : xlay S w 1 2 0 = S 0 := xlay_lo hw.1 (by decide) (by decide)
  have eps : yps (yls1 M w) c = yps M c := yps_c2 (yls1_row (by decide) (by decide) (by decide)) (yls1_row (by decide) (by decide) (by decide)) (yls1_row (by decide) (by decide) (by decide)) (fun k hk => by
    rw [yls1_4 (by omega) (by omega), if_neg]
    intro z
    exact hne (by rw [← e10]; omega)) (yls1_row (by decide) (by decide) (by decide)) (yls1_row (by decide) (by decide) (by decide))
  have ep : xpls (xlay S w 1 2) c = xpls S c := by rw [← CL_pls hA.1 hc8, ← CL_pls h.1 hc8, eps]
  have el : xlow (xlay S w 1 2) c = xlow S c := by rw [← CL_low hA.1 hc8, ← CL_low h.1 hc8, ylow_ps eps]
  have hl := xlow_lt hpl
  have hlow : ylow (yls1 M w) c = xlow S c := by rw [CL_low hA.1 hc8, el]
  have hv : rd (yls1 M w) 9 w = xwd (xlay S w 1 2) w 0 := by
    rw [yls1_rd _ (by decide) (by decide) (by decide), e9]
    exact (xlay_ne ⟨hw.1, by decide, by decide⟩ ⟨hw.1, by decide, by decide⟩ (Or.inr (by decide))).symm
  have hG := CX_G hA (w := w) (c := c) (by rw [e1]; exact hw) xlay_at (by rw [e0]; exact hc) (by rw [ep]; exact hpl) hv
  rw [el, xsits_lay] at hG
  rw [ykal_ls (by rw [hlow]; exact hl)]
  refine ⟨hG, ?_⟩
  unfold ykal
  rw [hlow, if_pos hl]
  unfold ysit
  rw [rd_wrj _ _ _ _ (by decide), rd_wr]
theorem CX_carry {M : am_M} {S : Nat → Int} (h : CX M S) (w c : Int) : (ycarry M w c).1 = xcarR S w c ∧ CX (ycarry M w c).2 (xcarS S w c) ∧ ((0 ≤ w ∧ w < M 0 2) → ¬ rd M 10 w = -1 → YK M w) := by
  have hX := h.1.1.2
  have h8 := hX.1
  have e0 : M 0 0 = S 0 := h.1.2.1.1.1.1
  have e2 : M 0 2 = S 1 := h.1.2.1.1.1.2.1
  refine ⟨?_, ?_, fun q1 q2 => ?_⟩
  rotate_left 2
  · rw [e2] at q1
    exact (CL_at0 h.1 q1 ((CL_st0 h.1 q1).mpr q2)).1
  all_goals
    unfold ycarry
    first
    | unfold xcarR
    | unfold xcarS
    rw [e0, e2]
    by_cases q1 : 0 ≤ w ∧ w < S 1
    · rw [if_pos q1, if_pos (show 0 ≤ w ∧ w ≤ S 1 - 1 by omega)]
      by_cases q2 : 0 ≤ c ∧ c < S 0
      · have hc8 : 0 ≤ c ∧ c < 8 := by omega
        rw [if_pos q2, if_pos (show 0 ≤ c ∧ c ≤ S 0 - 1 by omega)]
        unfold xcarC
        by_cases q3 : xwd S w 1 = 0
        · have s0 := (CL_st0 h.1 q1).mp q3
          have at0 := CL_at0 h.1 q1 q3
          rw [if_neg s0, at0.2.1]
          by_cases q4 : xwd S w 2 = c
          · rw [if_pos q4, if_neg (by simp [q4])]
            first | done | exact h | rfl
          · rw [if_neg q4]
            by_cases q5 : xpls S c = 0
            · rw [if_pos ((CL_p0 h.1 hc8).mpr q5), if_neg (by simp [q5])]
              first | done | exact h | rfl
            · rw [if_neg (fun z => q5 ((CL_p0 h.1 hc8).mp z)), if_pos (by simp [q3, q4, q5])]
              have hm := CX_move h q1 q3 q2 q4 q5
              first | exact hm.2 | exact hm.1
        · have s0 : rd M 10 w = -1 := by
            by_cases z : rd M 10 w = -1
            · exact z
            · exact absurd ((CL_st0 h.1 q1).mpr z) q3
          rw [if_pos s0, if_neg (by simp [q3])]
          first | done | exact h | rfl
      · rw [if_neg q2, if_neg (show ¬ (0 ≤ c ∧ c ≤ S 0 - 1) by omega)]
        first | done | exact h | rfl
    · rw [if_neg q1, if_neg (show ¬ (0 ≤ w ∧ w ≤ S 1 - 1) by omega)]
      first | done | exact h | rfl
