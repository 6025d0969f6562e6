/-! ===== a row breaks, in both ===== -/
theorem xbrS_bc {S : Nat → Int} {c r : Int} (hc : 0 ≤ c ∧ c < 8) (hL : LO S (xbr1 S c r)) : xbrS S c r = xbc (xbr1 S c r) c r := by
  have e1 : xch (xbr1 S c r) c 1 = xch S c 1 := LO_ch hL hc (by decide)
  have a1 : xbr1 S c r (8 + 4 * c + 1).toNat = xch S c 1 := e1
  have a3 : xbr2 S c r (8 + 4 * c + 3).toNat = xch (xbr1 S c r) c 3 := by
    unfold xbr2
    exact am_u1_ne _ _ (by omega)
  unfold xbrS xbc
  rw [a3, e1]
  unfold xbr2
  rw [a1]
theorem falls_bc {S : Nat → Int} {c r w b : Int} (hc : 0 ≤ c ∧ c < 8) (hX : WX S) (hng : ∀ f : Int, 0 ≤ f → f ≤ 2 → ¬ xgod S f = c) (hw : 0 ≤ w ∧ w < 24) (hL : LO S (xfalls S w b)) : xfalls (xbc S c r) w b = xbc (xfalls S w b) c r := by
  have hX1 : WX (am_u1 S (8 + 4 * c + 1).toNat (xch S c 1 - (if xch S c 1 ≤ 0 then 0 else 1))) := WX_chip hX hc (by decide)
  have e1 : xch (xfalls S w b) c 1 = xch S c 1 := LO_ch hL hc (by decide)
  have e3 : xch (xfalls S w b) c 3 = xch S c 3 := LO_ch hL hc (by decide)
  unfold xbc
  rw [e1, e3, dm_falls (by omega) (fun f f0 f2 g0 => ?_) hX1 hw, dm_falls (by omega) (fun f f0 f2 g0 => ?_) hX hw]
  · omega
  · rw [dm_god (by omega) ⟨f0, f2⟩] at g0 ⊢
    have := hng f f0 f2
    omega
theorem xlost_bc {S : Nat → Int} {c r : Int} (hc : 0 ≤ c ∧ c < 8) : xlost (xbc S c r) = xlost S := by
  unfold xbc
  rw [dm_lost (by omega), dm_lost (by omega)]
theorem lay_bc {S : Nat → Int} {c r v : Int} (hc : 0 ≤ c ∧ c < 8) (hv : 0 ≤ v) : xlay (xbc S c r) v 1 2 = xbc (xlay S v 1 2) c r := by
  unfold xbc
  rw [dm_lay (by omega) hv (by decide), dm_lay (by omega) hv (by decide), xlay_ch hv (by decide) hc (by decide), xlay_ch hv (by decide) hc (by decide)]
theorem CLx_bc {S : Nat → Int} {c r : Int} (h : CLx S) (hX : WX S) (hy : CLy S) (hc : 0 ≤ c ∧ c < 8) (hr : 0 ≤ r ∧ r ≤ 5) (hb3 : 0 ≤ xch S c 3 ∧ xch S c 3 < 64) (hnw : ∀ w : Int, 0 ≤ w → w < S 1 → ¬ wat S w (xch S c 0) r) : CLx (xbc S c r) := by
  intro w w0 w1 s1
  have h24 := hX.2.1
  rw [xbc_l S hc (by omega)] at w1
  have wd : ∀ j : Int, 0 ≤ j → xwd (xbc S c r) w j = xwd S w j := fun j j0 => xbc_l S hc (by omega)
  rw [wd 1 (by decide)] at s1
  have hb := hX.2.2.2.2 w w0 (by omega)
  have old := h w w0 w1 s1
  have hgb := hX.2.2.1 _ hb.1.1 hb.1.2
  rw [wd 4 (by decide), wd 3 (by decide)]
  unfold xgu at old ⊢
  rw [show xgod (xbc S c r) (xwd S w 4) = xgod S (xwd S w 4) from xbc_l S hc (by omega)]
  by_cases q : 0 ≤ xgod S (xwd S w 4)
  · by_cases z : xgod S (xwd S w 4) = c
    · have hfam := hy _ hb.1.1 hb.1.2 q
      rw [z] at hfam old ⊢
      rw [xbc_3 S]
      have hrow : xwd S w 3 ≠ r := fun y => hnw w w0 w1 ⟨s1, hfam.symm, y⟩
      by_cases p : xch S c 1 ≤ 0
      · rw [if_pos p, bi_or6 hb3 hr hb.2, if_neg hrow]
        exact old
      · rw [if_neg p, am_or_0 ⟨by omega, by omega⟩]
        exact old
    · rw [xbc_ch S hc q (by decide) (Or.inl z)]
      exact old
  · rw [decide_eq_false q, Bool.false_and] at old
    exact absurd old (by decide)
theorem CX_breaks {M : am_M} {S : Nat → Int} (h : CX M S) (hy : CLy S) (c r : Int) : (ybreak M c r).1 = (xbreaks S c r).1 ∧ CX (ybreak M c r).2 (xbreaks S c r).2 ∧ YB M c r := by
  have hX := h.1.1.2
  have h8 := hX.1
  have h24 := hX.2.1
  have e0 : M 0 0 = S 0 := h.1.2.1.1.1.1
  unfold ybreak xbreaks YB
  rw [e0]
  by_cases q1 : 0 ≤ c ∧ c < S 0
  · have hc8 : 0 ≤ c ∧ c < 8 := by omega
    obtain ⟨z1, z2, z3, z4, z5⟩ := h.1.2.1.2.1.2 c hc8.1 hc8.2
    have hf := hX.2.2.2.1 c hc8.1 hc8.2
    have hgd := (h.1.2.1.2.2.1 _ hf.1 hf.2).1
    rw [if_pos q1, if_pos (show 0 ≤ c ∧ c ≤ S 0 - 1 by omega)]
    by_cases q2 : 0 ≤ r ∧ r ≤ 5
    · rw [if_pos q2, if_pos q2, z3, z1, hgd, z4, z2]
      have er : ∀ j k, j ≠ 2 → j ≠ 3 → rd (ybr0 M c r) j k = rd M j k := fun j k a b => congrFun (ybr0_row a b) _
      have hkept := CL_kept h.1 hc8 q2
      have hkb := (h.1.2.2.1.2.1 c r hc8 q2).1
      have hwait := CL_wait h.1 hf q2
      have hwb := (h.1.2.2.1.2.2 _ r hf q2).1
      have ew : ybrw M c r = xkept S c r := by
        unfold ybrw
        rw [er 4 _ (by decide) (by decide)]
        exact hkept.symm
      have e6 : rd (ybr0 M c r) 6 (xch S c 0 * 6 + r) = xwait S (xch S c 0) r := by
        rw [er 6 _ (by decide) (by decide)]
        exact hwait.symm
      have hcell := CL_cell h.1 q1 q2
      have hb3 : 0 ≤ xch S c 3 ∧ xch S c 3 < 64 := by
        rw [← z4]
        exact h.1.1.1.2.2.2.2.2.2 c hc8.1 hc8.2
      by_cases q5 : xgod S (xch S c 0) = c
      · -- the godfather: the word that waits in the row is lost
        have hi : xisg S c = true := by unfold xisg; rw [q5]; exact beq_self_eq_true c
        by_cases q6 : xwait S (xch S c 0) r < 0
        · have e1 : xbr1 S c r = S := by unfold xbr1; rw [if_pos hi, if_pos q6]
          have eS : xbrS S c r = xbc S c r := by rw [xbrS_bc hc8 (by rw [e1]; exact LO_refl S), e1]
          have hx := CLx_bc h.2 hX hy hc8 q2 hb3 (fun w w0 w1 y => by
            have := ((h.1.2.2.1.2.2 _ r hf q2).2 w w0 w1).mp y
            omega)
          refine ⟨?_, ?_, fun _ _ => ⟨fun _ => Or.inl (by rw [e6]; omega), fun z => absurd q5 z⟩⟩
          all_goals
            rw [if_pos q5]
            unfold ylwR ylwM
            rw [e6, eS]
            simp only [if_pos (show xwait S (xch S c 0) r = -1 by omega)]
            by_cases q3 : xch S c 2 = 1
            · rw [if_pos q3, if_pos q3]
              rcases bit01 (xch S c 3) r with q4 | q4
              · rw [if_neg (by omega), if_pos q4]
                first | exact ⟨hcell, hx⟩ | (rw [xlost_bc hc8]; omega)
              · rw [if_pos q4, if_neg (by omega)]
                first | done | exact h | rfl
            · rw [if_neg q3, if_neg q3]
              first | done | exact h | rfl
        · generalize hv : xwait S (xch S c 0) r = v at *
          have hv0 : 0 ≤ v ∧ v < S 1 := by omega
          have hwat := ((h.1.2.2.1.2.2 _ r hf q2).2 v hv0.1 hv0.2).mpr hwait.symm
          have hSW : SW S (xlay S v 1 2) v := SW_lay hv0.1 (by decide)
          have e1 : xbr1 S c r = xlay S v 1 2 := by unfold xbr1; rw [if_pos hi, hv, if_neg q6]
          have eS : xbrS S c r = xbc (xlay S v 1 2) c r := by rw [xbrS_bc hc8 (by rw [e1]; exact hSW.1), e1]
          have hB0 := CX_B h hv0 hwat.1 hwat.2.2 hwat.2.1
          have wd : ∀ j : Int, 0 ≤ j → xwd (xbc S c r) v j = xwd S v j := fun j j0 => xbc_l S hc8 (by omega)
          have hB := CL_B hcell (w := v) (f := xch S c 0) (r := r) (by rw [xbc_l S hc8 (by omega)]; exact hv0) (by rw [wd 1 (by decide)]; exact hwat.1) (by rw [wd 3 (by decide)]; exact hwat.2.2) (by rw [wd 4 (by decide)]; exact hwat.2.1)
          rw [lay_bc hc8 hv0.1] at hB
          have ec : ∀ j : Int, 0 ≤ j ∧ j < 4 → xch (xlay S v 1 2) c j = xch S c j := fun j hj => xlay_ch hv0.1 (by decide) hc8 hj
          have hx := CLx_bc (c := c) (r := r) hB0.2 hB0.1.1.2 (CLy_LO hy hX hSW.1) hc8 q2 (by rw [ec 3 (by decide)]; exact hb3) (fun u u0 u1 y => by
            rw [ec 0 (by decide)] at y
            have uv : u ≠ v := fun z => by have := y.1; rw [z, xlay_at] at this; omega
            obtain ⟨y1, y4, y3⟩ := y
            rw [hSW.2 u 1 u0 uv (by decide) (by decide)] at y1
            rw [hSW.2 u 4 u0 uv (by decide) (by decide)] at y4
            rw [hSW.2 u 3 u0 uv (by decide) (by decide)] at y3
            rw [hSW.1 1 (by decide) (by decide)] at u1
            have := ((h.1.2.2.1.2.2 _ r hf q2).2 u u0 u1).mp ⟨y1, y4, y3⟩
            omega)
          have hl : xlost (xlay S v 1 2) = xlost S + 1 := by
            have := xlost_up hSW hv0
            rw [xlay_at, hwat.1] at this
            rw [this, if_pos rfl, if_neg (by decide)]
            rfl
          have eM : ylw1 (ybr0 M c r) (xch S c 0) r = yB (ybr0 M c r) v (xch S c 0) r := by
            unfold ylw1
            rw [e6]
            rfl
          have hq1 : 1 ≤ rd (ybr0 M c r) 8 (rd (ybr0 M c r) 12 v) := by
            obtain ⟨i, i0, i9, -⟩ := (h.1.2.2.2.1 (xch S c 0) hf).2.2.1 v hv0.1 hv0.2 hwat.1 hwat.2.1
            rw [er 12 _ (by decide) (by decide), er 8 _ (by decide) (by decide), (CL_at1 h.1 hv0 hwat.1).2.2.1, hwat.2.1]
            omega
          refine ⟨?_, ?_, fun _ _ => ⟨fun _ => Or.inr (by rw [e6]; exact ⟨⟨hv0.1, by omega⟩, hq1⟩), fun z => absurd q5 z⟩⟩
          all_goals
            rw [if_pos q5]
            unfold ylwR ylwM
            rw [e6, eS]
            simp only [if_neg (show ¬ v = -1 by omega)]
            by_cases q3 : xch S c 2 = 1
            · rw [if_pos q3, if_pos q3]
              rcases bit01 (xch S c 3) r with q4 | q4
              · rw [if_neg (by omega), if_pos q4]
                first | (rw [eM]; exact ⟨hB, hx⟩) | (rw [xlost_bc hc8, hl]; omega)
              · rw [if_pos q4, if_neg (by omega)]
                first | done | exact h | rfl
            · rw [if_neg q3, if_neg q3]
              first | done | exact h | rfl
      · have hi : ¬ xisg S c = true := by unfold xisg; rw [beq_eq_false_iff_ne.mpr q5]; decide
        have hng := CLy_no hy hc8.1 q5
        have hcx := CX_cell h q1 q2 hng
        by_cases q6 : xkept S c r < 0
        · have e1 : xbr1 S c r = S := by unfold xbr1; rw [if_neg hi, if_pos q6]
          have eS : xbrS S c r = xbc S c r := by rw [xbrS_bc hc8 (by rw [e1]; exact LO_refl S), e1]
          have ew1 : ybrw M c r = -1 := by omega
          have y1 : ylsM (ybr0 M c r) (-1) = ybr0 M c r := by unfold ylsM; rw [if_pos rfl]
          have y2 : ylsR (ybr0 M c r) (-1) = 0 := by unfold ylsR; rw [if_pos rfl]
          have y3 : ylet (ybr0 M c r) (-1) = ybr0 M c r := by unfold ylet; rw [if_pos rfl]
          refine ⟨?_, ?_, fun _ _ => ⟨fun z => absurd z q5, fun _ => Or.inl ew1⟩⟩
          all_goals
            rw [if_neg q5, ew1, y1, y2, y3, ite_self, eS]
            by_cases q3 : xch S c 2 = 1
            · rw [if_pos q3, if_pos q3]
              rcases bit01 (xch S c 3) r with q4 | q4
              · rw [if_neg (by omega), if_pos q4]
                first | exact hcx | (rw [xlost_bc hc8]; omega)
              · rw [if_pos q4, if_neg (by omega)]
                first | done | exact h | rfl
            · rw [if_neg q3, if_neg q3]
              first | done | exact h | rfl
        · have hw : 0 ≤ xkept S c r ∧ xkept S c r < S 1 := by omega
          have hka := ((h.1.2.2.1.2.1 c r hc8 q2).2 _ hw.1 hw.2).mpr hkept.symm
          have hb01 : (if xch S c 1 ≤ 0 then (0 : Int) else 1) = 0 ∨ (if xch S c 1 ≤ 0 then (0 : Int) else 1) = 1 := by split <;> omega
          have hLO := (CX_fall h hw hka.1 hb01).2.2.2
          have e1 : xbr1 S c r = xfalls S (xkept S c r) (if xch S c 1 ≤ 0 then 0 else 1) := by unfold xbr1; rw [if_neg hi, if_neg q6]
          have eS : xbrS S c r = xfalls (xbc S c r) (xkept S c r) (if xch S c 1 ≤ 0 then 0 else 1) := by rw [xbrS_bc hc8 (by rw [e1]; exact hLO), e1, falls_bc hc8 hX hng (by omega) hLO]
          obtain ⟨a1, a2, a3, -⟩ := CX_fall hcx (w := xkept S c r) (by rw [xbc_l S hc8 (by omega)]; exact hw) (by rw [show xwd (xbc S c r) (xkept S c r) 1 = xwd S (xkept S c r) 1 from xbc_l S hc8 (by omega)]; exact hka.1) hb01
          have em : (if (if xch S c 1 ≤ 0 then (0 : Int) else 1) = 0 then ylet (ylsM (ybr0 M c r) (xkept S c r)) (xkept S c r) else ylsM (ybr0 M c r) (xkept S c r)) = (if xch S c 1 ≤ 0 then ylet (ylsM (ybr0 M c r) (xkept S c r)) (xkept S c r) else ylsM (ybr0 M c r) (xkept S c r)) := by
            by_cases p : xch S c 1 ≤ 0
            · rw [if_pos p, if_pos p, if_pos rfl]
            · rw [if_neg p, if_neg p, if_neg (by decide)]
          rw [em] at a1
          rw [xlost_bc hc8] at a2
          refine ⟨?_, ?_, fun _ _ => ⟨fun z => absurd z q5, fun _ => by rw [ew]; exact a3⟩⟩
          all_goals
            rw [if_neg q5, ew, eS]
            by_cases q3 : xch S c 2 = 1
            · rw [if_pos q3, if_pos q3]
              rcases bit01 (xch S c 3) r with q4 | q4
              · rw [if_neg (by omega), if_pos q4]
                first | exact a1 | (rw [a2]; omega)
              · rw [if_pos q4, if_neg (by omega)]
                first | done | exact h | rfl
            · rw [if_neg q3, if_neg q3]
              first | done | exact h | rfl
    · rw [if_neg q2, if_neg q2]
      exact ⟨rfl, h, fun _ z => absurd z q2⟩
  · rw [if_neg q1, if_neg (show ¬ (0 ≤ c ∧ c ≤ S 0 - 1) by omega)]
    exact ⟨rfl, h, fun z => absurd z q1⟩
