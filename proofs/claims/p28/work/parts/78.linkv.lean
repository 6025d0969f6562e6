/-! ===== the first word is raised ===== -/
theorem CX_raise {M : am_M} {S : Nat → Int} (h : CX M S) {f : Int} (hf : 0 ≤ f ∧ f ≤ 2) : CX (yra M f) (xra S f) := by
  have hX := h.1.1.2
  have h24 := hX.2.1
  have hq6 := CL_q h.1 hf
  have hfst := CL_first h.1 hf
  unfold yra xra
  by_cases q1 : rd M 8 f = 0
  · rw [if_pos q1] at hfst
    rw [if_pos q1, if_pos (by omega)]
    exact h
  · rw [if_neg q1] at hfst
    obtain ⟨b1, b2, b3⟩ := (h.1.2.2.2.1 f hf).2.1 0 (by omega) (by omega)
    rw [show f * 6 + 0 = f * 6 by omega] at b1 b2 b3
    obtain ⟨e10, e11, e12, e9, -, hr, e6⟩ := CL_at1 h.1 b1 b2
    rw [b3] at e6 e12
    have hB := CX_B h b1 b2 rfl b3
    have hy1 : yr1 M f = wr M 6 (f * 6 + xwd S (rd M 7 (f * 6)) 3) (-1) := by unfold yr1; rw [e11]
    rw [if_neg q1, hfst, if_neg (show ¬ rd M 7 (f * 6) < 0 by omega), e11]
    generalize hw : rd M 7 (f * 6) = w at *
    have hyB : yB M w f (xwd S w 3) = wr (ylv (yr1 M f) w) 11 w (-1) := by rw [hy1]; rfl
    have rb : ∀ j, j ≠ 7 → j ≠ 8 → j ≠ 11 → yB M w f (xwd S w 3) j = yr1 M f j := fun j a b c => by
      rw [hyB, wr_row _ _ _ c, ylv_row a b]
    have eps : ∀ c : Int, yps (yr1 M f) c = yps (yB M w f (xwd S w 3)) c := fun c => yps_congr (rb 0 (by decide) (by decide) (by decide)).symm (rb 1 (by decide) (by decide) (by decide)).symm (rb 2 (by decide) (by decide) (by decide)).symm (rb 4 (by decide) (by decide) (by decide)).symm (rb 5 (by decide) (by decide) (by decide)).symm (rb 6 (by decide) (by decide) (by decide)).symm
    have etg : ychf (yr1 M f) f (-1) = xtarget (xlay S w 1 2) f (-1) := by
      rw [← CL_target hB.1]
      exact ychf_congr (congrFun (rb 0 (by decide) (by decide) (by decide)).symm _) (rb 1 (by decide) (by decide) (by decide)).symm eps _ _
    have htb := xtarget_b hB.1.1.2 f (-1)
    rw [etg]
    by_cases q2 : xtarget (xlay S w 1 2) f (-1) < 0
    · rw [if_pos (show xtarget (xlay S w 1 2) f (-1) = -1 by omega), if_pos q2, hy1, wr_wr, wr_id e6, xlay_xlay]
      have e : xlay S w 1 1 = S := by
        have z : xlay S w 1 (xwd S w 1) = S := am_u1_self _ _
        rwa [b2] at z
      rw [e]
      exact h
    · rw [if_neg (show ¬ xtarget (xlay S w 1 2) f (-1) = -1 by omega), if_neg q2]
      obtain ⟨p1, p2, p3⟩ := xtarget_pl (S := xlay S w 1 2) (f := f) (wt := -1) (by omega)
      have l1 : xlay S w 1 2 1 = S 1 := xlay_lo b1.1 (by decide) (by decide)
      have hv : rd (yB M w f (xwd S w 3)) 9 w = xwd (xlay S w 1 2) w 0 := by
        rw [yB_rd _ (by decide) (by decide) (by decide) (by decide), e9]
        exact (xlay_ne ⟨b1.1, by decide, by decide⟩ ⟨b1.1, by decide, by decide⟩ (Or.inr (by decide))).symm
      have hG := CX_G hB (w := w) (c := xtarget (xlay S w 1 2) f (-1)) (by rw [l1]; exact b1) xlay_at ⟨by omega, p2⟩ p1 hv
      have hl := xlow_lt p1
      have hlow : ylow (yB M w f (xwd S w 3)) (xtarget (xlay S w 1 2) f (-1)) = xlow (xlay S w 1 2) (xtarget (xlay S w 1 2) f (-1)) := CL_low hB.1 (by omega)
      have ey2 : yr2 M f = ykal (yB M w f (xwd S w 3)) w (xtarget (xlay S w 1 2) f (-1)) := by
        unfold yr2
        rw [hw, etg]
        have el : ylow (ylv (yr1 M f) w) (xtarget (xlay S w 1 2) f (-1)) = ylow (yB M w f (xwd S w 3)) (xtarget (xlay S w 1 2) f (-1)) := by
          refine (ylow_ps ?_).symm
          have r : ∀ j, j ≠ 11 → yB M w f (xwd S w 3) j = ylv (yr1 M f) w j := fun j hj => by rw [hyB, wr_row _ _ _ hj]
          exact yps_congr (r 0 (by decide)) (r 1 (by decide)) (r 2 (by decide)) (r 4 (by decide)) (r 5 (by decide)) (r 6 (by decide))
        unfold ykal
        rw [el, hlow, if_pos hl, if_pos hl, hyB, ysit_wr]
      have hSWs : xsits (xlay S w 1 2) w (xtarget (xlay S w 1 2) f (-1)) (xlow (xlay S w 1 2) (xtarget (xlay S w 1 2) f (-1))) 1 = S 1 := by
        unfold xsits
        rw [xlay_lo b1.1 (by decide) (by decide), xlay_lo b1.1 (by decide) (by decide), xlay_lo b1.1 (by decide) (by decide), xlay_lo b1.1 (by decide) (by decide)]
        exact l1
      have e13 := (hG.1.2.2.1.1.1 w b1.1 (by rw [hSWs]; exact b1.2)).2.2.2
      have hV := CX_val hG (w := w) (v := rd (yr2 M f) 13 w + 1) (k := 6) (j := 13) (by rw [hSWs]; exact b1) (Or.inr ⟨rfl, rfl⟩)
      have hN := CX_n3 hV
      have ey3 : yr3 M f = wr (ykal (yB M w f (xwd S w 3)) w (xtarget (xlay S w 1 2) f (-1))) 13 w (rd (yr2 M f) 13 w + 1) := by
        unfold yr3
        rw [hw, ← ey2]
      have exr : xraS S f = xlay (xsits (xlay S w 1 2) w (xtarget (xlay S w 1 2) f (-1)) (xlow (xlay S w 1 2) (xtarget (xlay S w 1 2) f (-1)))) w 6 (rd (yr2 M f) 13 w + 1) := by
        unfold xraS
        rw [hfst, ey2, e13]
      rw [ey3, exr]
      exact hN
