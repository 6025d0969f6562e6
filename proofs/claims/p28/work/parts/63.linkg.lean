/-! ===== a word falls ===== -/
def LO (S S2 : Nat → Int) : Prop := ∀ k : Nat, k < 40 → k ≠ 4 → S2 k = S k
theorem LO_ch {S S2 : Nat → Int} {c j : Int} (h : LO S S2) (hc : 0 ≤ c ∧ c < 8) (hj : 0 ≤ j ∧ j < 4) : xch S2 c j = xch S c j := h _ (by omega) (by omega)
theorem LO_god {S S2 : Nat → Int} {f : Int} (h : LO S S2) (hf : 0 ≤ f ∧ f ≤ 2) : xgod S2 f = xgod S f := h _ (by omega) (by omega)
theorem LO_trans {S S2 S3 : Nat → Int} (h : LO S S2) (h2 : LO S2 S3) : LO S S3 := fun k a b => (h2 k a b).trans (h k a b)
theorem LO_refl (S : Nat → Int) : LO S S := fun _ _ _ => rfl
theorem xlost_up {S S2 : Nat → Int} {w : Int} (hS : SW S S2 w) (hw : 0 ≤ w ∧ w < S 1) : xlost S2 = xlost S + ((if xwd S2 w 1 = 2 then 1 else 0) - (if xwd S w 1 = 2 then 1 else 0)) := by
  unfold xlost
  rw [hS.1 1 (by decide) (by decide), cntW_sumW, cntW_sumW]
  refine sumW_up (a := w.toNat) (by omega) (fun k hk hn => ?_) ?_
  · rw [hS.2 k 1 (by omega) (by omega) (by decide) (by decide)]
  · rw [show ((w.toNat : Nat) : Int) = w by omega]
    simp only [beq_iff_eq]
    omega
theorem ylsM_f {M : am_M} {w : Int} (hw : ¬ w = -1) (hC : ylsC M w = false) : ylsM M w = ylwM (yls1 M w) (rd M 12 w) (rd M 11 w) := by
  unfold ylsM
  rw [if_neg hw, if_neg (by rw [hC]; decide)]
theorem ylsR_f {M : am_M} {w : Int} (hw : ¬ w = -1) (hC : ylsC M w = false) : ylsR M w = 1 + ylwR (yls1 M w) (rd M 12 w) (rd M 11 w) := by
  unfold ylsR
  rw [if_neg hw, if_neg (by rw [hC]; decide)]
theorem ylsR_t {M : am_M} {w : Int} (hC : ylsC M w = true) : ylsR M w = 0 := by
  unfold ylsR
  split
  · rfl
  · first | rfl | rw [if_pos hC]
theorem ylet_no {M : am_M} {w : Int} (h : rd M 10 w = -1) : ylet M w = M := by
  unfold ylet
  split
  · rfl
  · first | rfl | rw [if_pos h]
theorem CX_fall {M : am_M} {S : Nat → Int} (h : CX M S) {w b : Int} (hw : 0 ≤ w ∧ w < S 1) (hs : xwd S w 1 = 0) (hb : b = 0 ∨ b = 1) : CX (if b = 0 then ylet (ylsM M w) w else ylsM M w) (xfalls S w b) ∧ xlost (xfalls S w b) = xlost S + ylsR M w ∧ YSr M w ∧ LO S (xfalls S w b) := by
  obtain ⟨hY, e10, e11, e12, e9, hc0, h4⟩ := CL_at0 h.1 hw hs
  have h24 := h.1.1.2.2.1
  have hwr := h.1.1.2.2.2.2.2 w hw.1 (by omega)
  have hA := CX_A h hw hs
  have hSW : SW S (xlay S w 1 2) w := SW_lay hw.1 (by decide)
  have hwait := CL_wait h.1 hwr.1 hwr.2
  have hwb := xwait_b h.1.1.2 (xwd S w 4) (xwd S w 3)
  have hgu := (CL_gub h.1 hwr.1).2 (xwd S w 3) hwr.2.1 hwr.2.2
  have e1 : xlay S w 1 2 1 = S 1 := xlay_lo hw.1 (by decide) (by decide)
  have e6 : rd (yls1 M w) 6 (rd M 12 w * 6 + rd M 11 w) = xwait S (xwd S w 4) (xwd S w 3) := by
    rw [yls1_rd _ (by decide) (by decide) (by decide), e12, e11]
    exact hwait.symm
  have hwn : ¬ w = -1 := by omega
  have eC : ylsC M w = (xgu S (xwd S w 4) (xwd S w 3) && decide (xwait S (xwd S w 4) (xwd S w 3) < 0)) := by
    unfold ylsC
    rw [e12, e11, hgu, ← hwait]
    have z1 : ((if xgu S (xwd S w 4) (xwd S w 3) = true then (1 : Int) else 0) == 1) = xgu S (xwd S w 4) (xwd S w 3) := by
      cases xgu S (xwd S w 4) (xwd S w 3) <;> rfl
    have z2 : (xwait S (xwd S w 4) (xwd S w 3) == -1) = decide (xwait S (xwd S w 4) (xwd S w 3) < 0) := by
      by_cases z : xwait S (xwd S w 4) (xwd S w 3) = -1
      · rw [z]; rfl
      · rw [beq_eq_false_iff_ne.mpr z, decide_eq_false (by omega)]
    rw [z1, z2]
  have lostA : xlost (xlay S w 1 2) = xlost S + 1 := by
    have := xlost_up hSW hw
    rw [xlay_at, hs] at this
    rw [this, if_pos rfl, if_neg (by decide)]
    rfl
  by_cases g : xgu S (xwd S w 4) (xwd S w 3) = true
  · by_cases z : xwait S (xwd S w 4) (xwd S w 3) < 0
    · -- it is summed
      have hC : ylsC M w = true := by rw [eC, g, decide_eq_true z]; rfl
      have hq5 := CL_q5 h.1 hwr.1 hwr.2 (by rw [← hwait]; omega)
      refine ⟨?_, ?_, Or.inr ⟨hY, fun q => by rw [hC] at q; exact absurd q (by decide), fun _ => by rw [e12]; exact hq5⟩, ?_⟩
      · rw [ylsM_same hC]
        unfold xfalls
        rw [if_pos g, if_pos z]
        rcases hb with rfl | rfl
        · rw [if_pos rfl, if_pos rfl]
          exact CX_C h hw hs g z
        · rw [if_neg (by decide), if_neg (by decide)]
          exact h
      · rw [ylsR_t hC]
        unfold xfalls
        rw [if_pos g, if_pos z]
        rcases hb with rfl | rfl
        · rw [if_pos rfl]
          obtain ⟨s, -, x1, -, -⟩ := xwn_SW (S := S) (w := w) hw.1
          have := xlost_up s hw
          rw [x1, hs] at this
          rw [this]
          rfl
        · rw [if_neg (by decide)]
          omega
      · unfold xfalls
        rw [if_pos g, if_pos z]
        rcases hb with rfl | rfl
        · rw [if_pos rfl]
          exact (xwn_SW (S := S) (w := w) hw.1).1.1
        · rw [if_neg (by decide)]
          exact LO_refl S
    · -- another one waits: both are lost
      have hC : ylsC M w = false := by rw [eC, decide_eq_false z]; exact Bool.and_false _
      have hv : 0 ≤ xwait S (xwd S w 4) (xwd S w 3) ∧ xwait S (xwd S w 4) (xwd S w 3) < S 1 := by omega
      have hwat := ((h.1.2.2.1.2.2 _ _ hwr.1 hwr.2).2 _ hv.1 hv.2).mpr hwait.symm
      generalize hvv : xwait S (xwd S w 4) (xwd S w 3) = v at *
      obtain ⟨v1, v4, v3⟩ := hwat
      have vw : v ≠ w := fun q => by rw [q] at v1; omega
      have n1 : xwd (xlay S w 1 2) v 1 = 1 := by rw [hSW.2 v 1 hv.1 vw (by decide) (by decide)]; exact v1
      have n3 : xwd (xlay S w 1 2) v 3 = xwd S w 3 := by rw [hSW.2 v 3 hv.1 vw (by decide) (by decide)]; exact v3
      have n4 : xwd (xlay S w 1 2) v 4 = xwd S w 4 := by rw [hSW.2 v 4 hv.1 vw (by decide) (by decide)]; exact v4
      have hB := CX_B hA (w := v) (by rw [e1]; exact hv) n1 n3 n4
      have hM : ylsM M w = yB (yls1 M w) v (xwd S w 4) (xwd S w 3) := by
        rw [ylsM_f hwn hC]
        unfold ylwM
        rw [e6, if_neg (by omega)]
        unfold ylw1
        rw [e6, e12, e11]
        rfl
      have hR : ylsR M w = 2 := by
        rw [ylsR_f hwn hC]
        unfold ylwR
        rw [e6, if_neg (by omega)]
        rfl
      have hF : xfalls S w b = xlay (xlay S w 1 2) v 1 2 := by
        unfold xfalls
        rw [if_pos g, hvv, if_neg (by omega)]
      have hm : (if b = 0 then ylet (ylsM M w) w else ylsM M w) = ylsM M w := by
        split
        · exact ylet_no (ylsM_10 hwn hC)
        · rfl
      rw [hm, hM, hR, hF]
      have hq1 : 1 ≤ rd (yls1 M w) 8 (rd (yls1 M w) 12 v) := by
        have y1 := hA.1.2.2.2.1
        have at1 := CL_at1 hA.1 (w := v) (by rw [e1]; exact hv) n1
        obtain ⟨i, i0, i9, -⟩ := (y1 (xwd S w 4) hwr.1).2.2.1 v hv.1 (by rw [e1]; exact hv.2) n1 n4
        rw [at1.2.2.1, n4]
        omega
      refine ⟨hB, ?_, Or.inr ⟨hY, fun _ => Or.inr ?_, fun q => by rw [hC] at q; exact absurd q (by decide)⟩, LO_trans hSW.1 (SW_lay hv.1 (by decide)).1⟩
      · have := xlost_up (SW_lay (S := xlay S w 1 2) (w := v) (k := 1) (v := 2) hv.1 (by decide)) (by rw [e1]; exact hv)
        rw [xlay_at, n1, lostA] at this
        rw [this, if_pos rfl, if_neg (by decide)]
        omega
      · rw [e6]
        exact ⟨⟨hv.1, by omega⟩, hq1⟩
  · -- no sum tells it
    have z : xwait S (xwd S w 4) (xwd S w 3) < 0 := by
      by_cases z : xwait S (xwd S w 4) (xwd S w 3) < 0
      · exact z
      · exfalso
        have hv : 0 ≤ xwait S (xwd S w 4) (xwd S w 3) ∧ xwait S (xwd S w 4) (xwd S w 3) < S 1 := by omega
        obtain ⟨v1, v4, v3⟩ := ((h.1.2.2.1.2.2 _ _ hwr.1 hwr.2).2 _ hv.1 hv.2).mpr hwait.symm
        have := h.2 _ hv.1 hv.2 v1
        rw [v4, v3] at this
        exact g this
    have hC : ylsC M w = false := by
      rw [eC]
      cases q : xgu S (xwd S w 4) (xwd S w 3) with
      | true => exact absurd q g
      | false => exact Bool.false_and _
    have hM : ylsM M w = yls1 M w := by
      rw [ylsM_f hwn hC]
      unfold ylwM
      rw [e6, if_pos (by omega)]
    have hR : ylsR M w = 1 := by
      rw [ylsR_f hwn hC]
      unfold ylwR
      rw [e6, if_pos (by omega)]
      rfl
    have hF : xfalls S w b = xlay S w 1 2 := by
      unfold xfalls
      rw [if_neg g]
    have hm : (if b = 0 then ylet (ylsM M w) w else ylsM M w) = ylsM M w := by
      split
      · exact ylet_no (ylsM_10 hwn hC)
      · rfl
    rw [hm, hM, hR, hF]
    exact ⟨hA, lostA, Or.inr ⟨hY, fun _ => Or.inl (by rw [e6]; omega), fun q => by rw [hC] at q; exact absurd q (by decide)⟩, hSW.1⟩
