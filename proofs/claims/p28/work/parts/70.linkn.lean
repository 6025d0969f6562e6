/-! ===== a word's value, how often it was raised ===== -/
theorem CX_val {M : am_M} {S : Nat → Int} (h : CX M S) {w v k : Int} {j : Nat} (hw : 0 ≤ w ∧ w < S 1) (hj : (j = 9 ∧ k = 0) ∨ (j = 13 ∧ k = 6)) : CX (wr M j w v) (xlay S w k v) := by
  obtain ⟨⟨⟨hM, hX⟩, ⟨hn, hcc, hff, hg⟩, ⟨hcw, hck, hct⟩, hq, hss⟩, hx⟩ := h
  have h24 := hX.2.1
  have hSW : SW S (xlay S w k v) w := SW_lay hw.1 (by omega)
  have e1 : xlay S w k v 1 = S 1 := hSW.1 1 (by decide) (by decide)
  have wd : ∀ u i : Int, 0 ≤ u → 0 ≤ i → i < 7 → i ≠ k → xwd (xlay S w k v) u i = xwd S u i := fun u i u0 i0 i7 ik => xlay_ne ⟨hw.1, by omega, by omega⟩ ⟨u0, i0, i7⟩ (Or.inr ik)
  have r : ∀ a, a ≠ j → wr M j w v a = M a := fun a ha => wr_row _ _ _ ha
  have rr : ∀ a i, a ≠ j → rd (wr M j w v) a i = rd M a i := fun a i ha => rd_wrj _ _ _ _ ha
  have hX2 : WX (xlay S w k v) := WX_lay hX ⟨hw.1, by omega⟩ (by omega) (by omega) (by omega)
  refine ⟨⟨⟨WM_wr hM (by omega) (by omega) (by omega) (by omega) (by omega) hw.1, hX2⟩, ⟨CLn_SW hn hSW (r 0 (by omega)), CLc_SW hcc hSW (r 0 (by omega)) (r 1 (by omega)) (r 2 (by omega)) (r 3 (by omega)), CLf_SW hff hSW (r 5 (by omega)), fun a a0 a8 q b b0 b5 => ?_⟩, ⟨CLw_up hcw hSW hw (fun u u0 un => ⟨?_, rr 10 u (by omega), rr 11 u (by omega), rr 12 u (by omega), ?_⟩) ⟨?_, ?_, ?_, ?_⟩, CLk_up hck hSW hw (fun a b ha hb => ?_), CLt_up hct hSW hw (fun a b ha hb => ?_)⟩, ?_, ?_⟩, CLx_SW hx hX hSW (fun q => ?_) hX2⟩
  · have hf' := hX.2.2.2.1 a a0 a8
    rw [SW_ch hSW ⟨a0, a8⟩ (by decide), SW_god hSW hf'] at q
    rw [rr 4 _ (by omega)]
    exact hg a a0 a8 q b b0 b5
  · by_cases z : j = 9
    · subst z
      exact rd_wri _ _ _ hw.1 u0 un
    · exact rr 9 u (by omega)
  · by_cases z : j = 13
    · subst z
      exact rd_wri _ _ _ hw.1 u0 un
    · exact rr 13 u (by omega)
  · rw [wd w 1 hw.1 (by decide) (by decide) (by omega)]
    unfold yfate
    rw [rr 10 w (by omega), rr 11 w (by omega)]
    exact (hcw.1 w hw.1 hw.2).1
  · rw [wd w 1 hw.1 (by decide) (by decide) (by omega), wd w 2 hw.1 (by decide) (by decide) (by omega), rr 10 w (by omega)]
    exact (hcw.1 w hw.1 hw.2).2.1
  · rw [wd w 1 hw.1 (by decide) (by decide) (by omega), wd w 3 hw.1 (by decide) (by decide) (by omega), wd w 4 hw.1 (by decide) (by decide) (by omega), rr 11 w (by omega), rr 12 w (by omega)]
    intro q
    obtain ⟨o1, o2, o3⟩ := (hcw.1 w hw.1 hw.2).2.2.1 q
    refine ⟨o1, o2, ?_⟩
    rcases hj with ⟨rfl, rfl⟩ | ⟨rfl, rfl⟩
    · rw [rd_wr, xlay_at]
    · rw [rd_wrj _ _ _ _ (by decide), wd w 0 hw.1 (by decide) (by decide) (by decide)]
      exact o3
  · have o := (hcw.1 w hw.1 hw.2).2.2.2
    rcases hj with ⟨rfl, rfl⟩ | ⟨rfl, rfl⟩
    · rw [rd_wrj _ _ _ _ (by decide), wd w 6 hw.1 (by decide) (by decide) (by decide)]
      exact o
    · rw [rd_wr, xlay_at]
  · have o := (hck a b ha hb).2 w hw.1 hw.2
    have ek : kat (xlay S w k v) w a b ↔ kat S w a b := by
      unfold kat
      rw [wd w 1 hw.1 (by decide) (by decide) (by omega), wd w 2 hw.1 (by decide) (by decide) (by omega), wd w 3 hw.1 (by decide) (by decide) (by omega)]
    rw [ek, rr 4 _ (by omega)]
    exact ⟨fun q => ⟨o.mp q, Or.inr (o.mp q)⟩, fun q => by rw [if_neg (fun z => q (o.mpr z))]⟩
  · have o := (hct a b ha hb).2 w hw.1 hw.2
    have ek : wat (xlay S w k v) w a b ↔ wat S w a b := by
      unfold wat
      rw [wd w 1 hw.1 (by decide) (by decide) (by omega), wd w 4 hw.1 (by decide) (by decide) (by omega), wd w 3 hw.1 (by decide) (by decide) (by omega)]
    rw [ek, rr 6 _ (by omega)]
    exact ⟨fun q => ⟨o.mp q, Or.inr (o.mp q)⟩, fun q => by rw [if_neg (fun z => q (o.mpr z))]⟩
  · intro g hgg
    obtain ⟨a, b, c', d⟩ := hq g hgg
    rw [rr 8 _ (by omega), e1]
    refine ⟨?_, fun i i0 i9 => ?_, fun u u0 u1 s1 s4 => ?_, fun i i2 i0 ij j9 => ?_⟩
    · rw [a]
      exact sumW_congr (fun k hk => by rw [rr 6 _ (by omega)])
    · have z := b i i0 i9
      rw [rr 7 _ (by omega), wd _ 1 z.1.1 (by decide) (by decide) (by omega), wd _ 4 z.1.1 (by decide) (by decide) (by omega)]
      exact z
    · rw [wd u 1 u0 (by decide) (by decide) (by omega)] at s1
      rw [wd u 4 u0 (by decide) (by decide) (by omega)] at s4
      obtain ⟨i, i0, i9, i2⟩ := c' u u0 u1 s1 s4
      exact ⟨i, i0, i9, by rw [rr 7 _ (by omega)]; exact i2⟩
    · rw [rr 7 _ (by omega), rr 7 _ (by omega), wd _ 5 (b i i0 (by omega)).1.1 (by decide) (by decide) (by omega), wd _ 5 (b i2 (by omega) j9).1.1 (by decide) (by decide) (by omega)]
      exact d i i2 i0 ij j9
  · intro u u0 u1 s1
    rw [e1] at u1
    rw [wd u 1 u0 (by decide) (by decide) (by omega)] at s1
    rw [wd u 5 u0 (by decide) (by decide) (by omega), xlay_lo hw.1 (by omega) (by decide)]
    exact hss u u0 u1 s1
  · rw [wd w 1 hw.1 (by decide) (by decide) (by omega)] at q
    rw [wd w 4 hw.1 (by decide) (by decide) (by omega), wd w 3 hw.1 (by decide) (by decide) (by omega)]
    exact hx w hw.1 hw.2 q
theorem CX_write {M : am_M} {S : Nat → Int} (h : CX M S) (w v : Int) : (ywrite M w v).1 = xwriteR S w v ∧ CX (ywrite M w v).2 (xwriteS S w v) := by
  have e2 : M 0 2 = S 1 := h.1.2.1.1.1.2.1
  unfold ywrite xwriteR xwriteS
  rw [e2]
  by_cases q1 : 0 ≤ w ∧ w < S 1
  · rw [if_pos q1, if_pos (show 0 ≤ w ∧ w ≤ S 1 - 1 by omega), if_pos (show 0 ≤ w ∧ w ≤ S 1 - 1 by omega)]
    by_cases q2 : 0 ≤ v ∧ v ≤ 255
    · rw [if_pos q2, if_pos q2, if_pos q2]
      by_cases q3 : xwd S w 1 = 0
      · rw [if_neg ((CL_st0 h.1 q1).mp q3), if_pos q3, if_pos q3]
        exact ⟨(CL_at0 h.1 q1 q3).2.2.2.2.1, CX_val h q1 (Or.inl ⟨rfl, rfl⟩)⟩
      · have s0 : rd M 10 w = -1 := by
          by_cases z : rd M 10 w = -1
          · exact z
          · exact absurd ((CL_st0 h.1 q1).mpr z) q3
        rw [if_pos s0, if_neg q3, if_neg q3]
        exact ⟨rfl, h⟩
    · rw [if_neg q2, if_neg q2, if_neg q2]
      exact ⟨rfl, h⟩
  · rw [if_neg q1, if_neg (show ¬ (0 ≤ w ∧ w ≤ S 1 - 1) by omega), if_neg (show ¬ (0 ≤ w ∧ w ≤ S 1 - 1) by omega)]
    exact ⟨rfl, h⟩
