/-! ===== put ===== -/
theorem yps_c3 {M N : am_M} {c : Int} (h0 : N 0 1 = M 0 1) (h1 : N 1 = M 1) (h2 : N 2 = M 2) (h4 : N 4 = M 4) (h5 : N 5 = M 5) (h6 : N 6 = M 6) : yps N c = yps M c := by
  unfold yps
  rw [ypsN_congr h4 h6]
  unfold rd
  rw [h0, h1, h2, h5]
theorem ysit_wr10 {M : am_M} {w c l : Int} (x : Int) : ysit (wr M 10 w x) w c l = ysit M w c l := by
  have e : wr (wr (wr M 10 w x) 4 (c * 6 + l) w) 10 w c = wr (wr M 4 (c * 6 + l) w) 10 w c := by
    funext a b
    unfold wr am_u2 am_u1
    by_cases h1 : a = 10
    · subst h1
      simp
      by_cases h2 : b = w.toNat <;> simp [h2]
    · simp [h1]
  unfold ysit
  rw [e]
theorem CX_puts {M : am_M} {S : Nat → Int} (h : CX M S) (c v : Int) : (yput M c v).1 = (xputs S c v).1 ∧ CX (yput M c v).2 (xputs S c v).2 := by
  have hX := h.1.1.2
  have h8 := hX.1
  have h24 := hX.2.1
  have e0 : M 0 0 = S 0 := h.1.2.1.1.1.1
  have e2 : M 0 2 = S 1 := h.1.2.1.1.1.2.1
  unfold yput xputs
  rw [e0, e2]
  by_cases q1 : 0 ≤ c ∧ c < S 0
  · have hc8 : 0 ≤ c ∧ c < 8 := by omega
    rw [if_pos q1, if_pos (show 0 ≤ c ∧ c ≤ S 0 - 1 by omega)]
    by_cases q2 : 0 ≤ v ∧ v ≤ 255
    · rw [if_pos q2, if_pos q2]
      by_cases q3 : xpls S c = 0
      · rw [if_pos ((CL_p0 h.1 hc8).mpr q3), if_pos q3]
        exact ⟨rfl, h⟩
      · rw [if_neg (fun z => q3 ((CL_p0 h.1 hc8).mp z)), if_neg q3]
        by_cases q4 : S 1 < 24
        · rw [if_pos q4, if_neg (by omega)]
          refine ⟨rfl, ?_⟩
          obtain ⟨a, t1, t0, l1, l0⟩ := CX_H h v q4
          have eps : yps (yH M (S 1) v) c = yps M c := yps_c3 (yH_0 (by decide)) (yH_row (by decide) (by decide) (by decide) (by decide)) (yH_row (by decide) (by decide) (by decide) (by decide)) (yH_row (by decide) (by decide) (by decide) (by decide)) (yH_row (by decide) (by decide) (by decide) (by decide)) (yH_row (by decide) (by decide) (by decide) (by decide))
          have ep : xpls (xlay (xH S v) (S 1) 1 2) c = xpls S c := by rw [← CL_pls a.1 hc8, ← CL_pls h.1 hc8, eps]
          have el : xlow (xlay (xH S v) (S 1) 1 2) c = xlow S c := by rw [← CL_low a.1 hc8, ← CL_low h.1 hc8, ylow_ps eps]
          have hG := CX_G a (w := S 1) (c := c) (by rw [l1]; omega) t1 (by rw [l0]; exact q1) (by rw [ep]; exact q3) t0
          rw [el, xsits_lay] at hG
          have hlow : ylow (yH M (S 1) v) c = xlow S c := by rw [CL_low a.1 hc8, el]
          have hl := xlow_lt q3
          have eu : ypu1 M v = wr (am_u2 M 0 2 (S 1 + 1)) 9 (S 1) v := by unfold ypu1; rw [e2]
          have epu : ylow (ypu1 M v) c = xlow S c := by
            rw [← hlow]
            refine ylow_ps (yps_c3 ?_ ?_ ?_ ?_ ?_ ?_)
            · rw [yH_0 (by decide), eu, wr_row _ _ _ (by decide), am_u2_rd _ _ (Or.inr (by decide))]
            all_goals
              rw [yH_row (by decide) (by decide) (by decide) (by decide), eu, wr_row _ _ _ (by decide), am_u2_ne _ _ _ (by decide)]
          have ek : ykal (ypu1 M v) (S 1) c = ykal (yH M (S 1) v) (S 1) c := by
            unfold ykal
            rw [epu, hlow, if_pos hl, if_pos hl]
            unfold yH
            rw [ysit_wr, ysit_wr10, eu]
          rw [ek]
          exact hG
        · rw [if_neg q4, if_pos (by omega)]
          exact ⟨rfl, h⟩
    · rw [if_neg q2, if_neg q2]
      exact ⟨rfl, h⟩
  · rw [if_neg q1, if_neg (show ¬ (0 ≤ c ∧ c ≤ S 0 - 1) by omega)]
    exact ⟨rfl, h⟩
