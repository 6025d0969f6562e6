/-! ===== a kept word is lost; a lost one is kept ===== -/
theorem yls1_row {M : am_M} {w : Int} {j : Nat} (h4 : j ≠ 4) (h10 : j ≠ 10) (h11 : j ≠ 11) : yls1 M w j = M j := by
  unfold yls1
  rw [wr_row _ _ _ h11, ytake_row h4 h10]
theorem yls1_rd {M : am_M} {w : Int} {j : Nat} (k : Int) (h4 : j ≠ 4) (h10 : j ≠ 10) (h11 : j ≠ 11) : rd (yls1 M w) j k = rd M j k := by
  unfold rd
  rw [yls1_row h4 h10 h11]
theorem yls1_4 {M : am_M} {w : Int} {k : Int} (hk : 0 ≤ k) (h0 : 0 ≤ rd M 10 w * 6 + rd M 11 w) : rd (yls1 M w) 4 k = if k = rd M 10 w * 6 + rd M 11 w then -1 else rd M 4 k := by
  unfold yls1 ytake
  rw [rd_wrj _ _ _ _ (by decide), rd_wrj _ _ _ _ (by decide)]
  by_cases q : k = rd M 10 w * 6 + rd M 11 w
  · rw [if_pos q, q, rd_wr]
  · rw [if_neg q, rd_wri _ _ _ h0 hk q]
/-- a kept word's numbers -/
theorem CL_at0 {M : am_M} {S : Nat → Int} (h : CL M S) {w : Int} (hw : 0 ≤ w ∧ w < S 1) (hs : xwd S w 1 = 0) : YK M w ∧ rd M 10 w = xwd S w 2 ∧ rd M 11 w = xwd S w 3 ∧ rd M 12 w = xwd S w 4 ∧ rd M 9 w = xwd S w 0 ∧ xwd S w 2 < S 0 ∧ rd M 4 (rd M 10 w * 6 + rd M 11 w) = w := by
  obtain ⟨⟨hM, hX⟩, -, ⟨hcw, hck, -⟩, -⟩ := h
  obtain ⟨a, b, c, d⟩ := hcw.1 w hw.1 hw.2
  have b := b hs
  have c := c (by omega)
  have h24 := hX.2.1
  have h8 := hX.1
  have hr := (hX.2.2.2.2 w hw.1 (by omega)).2
  refine ⟨⟨⟨hw.1, by omega⟩, ⟨by omega, by omega⟩, by omega, by omega⟩, b.1, c.1, c.2.1, c.2.2, b.2.2, ?_⟩
  rw [b.1, c.1]
  exact ((hck (xwd S w 2) (xwd S w 3) (by omega) hr).2 w hw.1 hw.2).mp ⟨hs, rfl, rfl⟩
theorem CL_A {M : am_M} {S : Nat → Int} (h : CL M S) {w : Int} (hw : 0 ≤ w ∧ w < S 1) (hs : xwd S w 1 = 0) : CL (yls1 M w) (xlay S w 1 2) := by
  obtain ⟨hY, e10, e11, e12, e9, hc0, h4⟩ := CL_at0 h hw hs
  obtain ⟨⟨hM, hX⟩, ⟨hn, hc, hf, hg⟩, ⟨hcw, hck, hct⟩, hq, hss⟩ := h
  have h24 := hX.2.1
  have hSW : SW S (xlay S w 1 2) w := SW_lay hw.1 (by decide)
  have h2 : xwd (xlay S w 1 2) w 1 = 2 := xlay_at
  have hne : ∀ j : Int, 0 ≤ j → j < 7 → j ≠ 1 → xwd (xlay S w 1 2) w j = xwd S w j := fun j a b c => xlay_ne ⟨hw.1, by decide, by decide⟩ ⟨hw.1, a, b⟩ (Or.inr c)
  obtain ⟨y1, y2, y3⟩ := id hY
  have r0 : 0 ≤ rd M 10 w * 6 + rd M 11 w := by omega
  refine ⟨⟨WM_ls1 hM hY, WX_lay hX ⟨hw.1, by omega⟩ (by decide) (by omega) (by omega)⟩, ⟨CLn_SW hn hSW (yls1_row (by decide) (by decide) (by decide)), CLc_SW hc hSW (yls1_row (by decide) (by decide) (by decide)) (yls1_row (by decide) (by decide) (by decide)) (yls1_row (by decide) (by decide) (by decide)) (yls1_row (by decide) (by decide) (by decide)), CLf_SW hf hSW (yls1_row (by decide) (by decide) (by decide)), fun c c0 c8 q r r0' r5 => ?_⟩, ⟨CLw_up hcw hSW hw (fun v v0 vn => ⟨yls1_rd _ (by decide) (by decide) (by decide), ?_, ?_, yls1_rd _ (by decide) (by decide) (by decide), yls1_rd _ (by decide) (by decide) (by decide)⟩) ⟨?_, ?_, ?_, ?_⟩, CLk_up hck hSW hw (fun c r hc' hr' => ⟨fun q => absurd q.1 (by rw [h2]; decide), fun _ => ?_⟩), CLt_no hct hSW hw (by omega) (by omega) (yls1_row (by decide) (by decide) (by decide))⟩, CLq_no hq hSW (by omega) (by omega) (yls1_row (by decide) (by decide) (by decide)) (yls1_row (by decide) (by decide) (by decide)) (yls1_row (by decide) (by decide) (by decide)), CLs_no hss hSW (xlay_lo hw.1 (by decide) (by decide)) (by omega)⟩
  · have hf' := hX.2.2.2.1 c c0 c8
    rw [SW_ch hSW ⟨c0, c8⟩ (by decide), SW_god hSW hf'] at q
    have := hg c c0 c8 q r r0' r5
    rw [yls1_4 (by omega) r0]
    split
    · rfl
    · exact this
  · unfold yls1 ytake
    rw [rd_wrj _ _ _ _ (by decide), rd_wri _ _ _ hw.1 v0 vn, rd_wrj _ _ _ _ (by decide)]
  · unfold yls1
    rw [rd_wri _ _ _ hw.1 v0 vn, ytake_rd _ (by decide) (by decide)]
  · rw [h2]
    unfold yfate yls1 ytake
    rw [rd_wrj _ _ _ _ (by decide), rd_wr, rd_wr, if_pos rfl, if_pos rfl]
  · rw [h2]; intro q; omega
  · rw [h2]; intro q; exact absurd rfl q
  · rw [yls1_rd _ (by decide) (by decide) (by decide), hne 6 (by decide) (by decide) (by decide)]
    exact (hcw.1 w hw.1 hw.2).2.2.2
  · rw [yls1_4 (by omega) r0]
    by_cases q : c * 6 + r = rd M 10 w * 6 + rd M 11 w
    · rw [if_pos q, q, if_pos h4]
    · rw [if_neg q, if_neg]
      intro z
      obtain ⟨-, k2, k3⟩ := ((hck c r hc' hr').2 w hw.1 hw.2).mpr z
      exact q (by rw [e10, e11, k2, k3])
theorem ysit_row' {M : am_M} {w c r : Int} {j : Nat} (k : Int) (h4 : j ≠ 4) (h10 : j ≠ 10) (h11 : j ≠ 11) (h12 : j ≠ 12) : rd (ysit M w c r) j k = rd M j k := by
  unfold rd
  rw [ysit_row h4 h10 h11 h12]
theorem CL_G {M : am_M} {S : Nat → Int} (h : CL M S) {w c r : Int} (hw : 0 ≤ w ∧ w < S 1) (hs : xwd S w 1 = 2) (hc : 0 ≤ c ∧ c < S 0) (hr : 0 ≤ r ∧ r ≤ 5) (hp : rd M 4 (c * 6 + r) = -1) (hng : ¬ xgod S (xch S c 0) = c) (hv : rd M 9 w = xwd S w 0) : CL (ysit M w c r) (xsits S w c r) := by
  obtain ⟨⟨hM, hX⟩, ⟨hn, hcc, hf, hg⟩, ⟨hcw, hck, hct⟩, hq, hss⟩ := h
  have h24 := hX.2.1
  have h8 := hX.1
  have hc8 : 0 ≤ c ∧ c < 8 := by omega
  have hfc := hX.2.2.2.1 c hc8.1 hc8.2
  have hSW : SW S (xsits S w c r) w := by
    unfold xsits
    exact SW_trans (SW_trans (SW_trans (SW_lay hw.1 (by decide)) (SW_lay hw.1 (by decide))) (SW_lay hw.1 (by decide))) (SW_lay hw.1 (by decide))
  have ech : xch (xlay (xlay (xlay S w 1 0) w 2 c) w 3 r) c 0 = xch S c 0 := by
    rw [xlay_ch hw.1 (by decide) hc8 (by decide), xlay_ch hw.1 (by decide) hc8 (by decide), xlay_ch hw.1 (by decide) hc8 (by decide)]
  have ne : ∀ (T : Nat → Int) (k v j : Int), 0 ≤ k → k < 7 → 0 ≤ j → j < 7 → j ≠ k → xwd (xlay T w k v) w j = xwd T w j := fun T k v j a b c d e => xlay_ne ⟨hw.1, a, b⟩ ⟨hw.1, c, d⟩ (Or.inr e)
  have s1 : xwd (xsits S w c r) w 1 = 0 := by
    unfold xsits
    rw [ne _ _ _ _ (by decide) (by decide) (by decide) (by decide) (by decide), ne _ _ _ _ (by decide) (by decide) (by decide) (by decide) (by decide), ne _ _ _ _ (by decide) (by decide) (by decide) (by decide) (by decide), xlay_at]
  have s2 : xwd (xsits S w c r) w 2 = c := by
    unfold xsits
    rw [ne _ _ _ _ (by decide) (by decide) (by decide) (by decide) (by decide), ne _ _ _ _ (by decide) (by decide) (by decide) (by decide) (by decide), xlay_at]
  have s3 : xwd (xsits S w c r) w 3 = r := by
    unfold xsits
    rw [ne _ _ _ _ (by decide) (by decide) (by decide) (by decide) (by decide), xlay_at]
  have s4 : xwd (xsits S w c r) w 4 = xch S c 0 := by
    unfold xsits
    rw [xlay_at, ech]
  have so : ∀ j : Int, (j = 0 ∨ j = 5 ∨ j = 6) → xwd (xsits S w c r) w j = xwd S w j := by
    intro j hj
    unfold xsits
    rw [ne _ _ _ _ (by decide) (by decide) (by omega) (by omega) (by omega), ne _ _ _ _ (by decide) (by decide) (by omega) (by omega) (by omega), ne _ _ _ _ (by decide) (by decide) (by omega) (by omega) (by omega), ne _ _ _ _ (by decide) (by decide) (by omega) (by omega) (by omega)]
  have k0 : 0 ≤ c * 6 + r := by omega
  have m4 : ∀ k : Int, 0 ≤ k → rd (ysit M w c r) 4 k = if k = c * 6 + r then w else rd M 4 k := by
    intro k hk
    unfold ysit
    rw [rd_wrj _ _ _ _ (by decide), rd_wrj _ _ _ _ (by decide), rd_wrj _ _ _ _ (by decide)]
    by_cases q : k = c * 6 + r
    · rw [if_pos q, q, rd_wr]
    · rw [if_neg q, rd_wri _ _ _ k0 hk q]
  have e1 : rd (wr (wr (wr M 4 (c * 6 + r) w) 10 w c) 11 w r) 1 c = rd M 1 c := by
    rw [rd_wrj _ _ _ _ (by decide), rd_wrj _ _ _ _ (by decide), rd_wrj _ _ _ _ (by decide)]
  have m10 : rd (ysit M w c r) 10 w = c := by
    unfold ysit
    rw [rd_wrj _ _ _ _ (by decide), rd_wrj _ _ _ _ (by decide), rd_wr]
  have m11 : rd (ysit M w c r) 11 w = r := by
    unfold ysit
    rw [rd_wrj _ _ _ _ (by decide), rd_wr]
  have m12 : rd (ysit M w c r) 12 w = xch S c 0 := by
    unfold ysit
    rw [rd_wr, e1]
    exact (hcc.2 c hc8.1 hc8.2).1
  have hWM : WM (ysit M w c r) := by
    unfold ysit
    refine WM_wr (WM_wr (WM_wr (WM_wr hM (by decide) (by decide) (by omega) (by omega) (by omega) k0) (by decide) (by decide) (by omega) (by omega) (by omega) hw.1) (by decide) (by decide) (by omega) (by omega) (by omega) hw.1) (by decide) (by decide) (by omega) (by omega) (fun _ => ?_) hw.1
    rw [e1]
    exact hM.2.2.1 c hc8.1 hc8.2
  refine ⟨⟨hWM, WX_sits hX ⟨hw.1, by omega⟩ hc8 hr⟩, ⟨CLn_SW hn hSW (ysit_row (by decide) (by decide) (by decide) (by decide)), CLc_SW hcc hSW (ysit_row (by decide) (by decide) (by decide) (by decide)) (ysit_row (by decide) (by decide) (by decide) (by decide)) (ysit_row (by decide) (by decide) (by decide) (by decide)) (ysit_row (by decide) (by decide) (by decide) (by decide)), CLf_SW hf hSW (ysit_row (by decide) (by decide) (by decide) (by decide)), fun a a0 a8 q b b0 b5 => ?_⟩, ⟨CLw_up hcw hSW hw (fun v v0 vn => ⟨ysit_row' _ (by decide) (by decide) (by decide) (by decide), ?_, ?_, ?_, ysit_row' _ (by decide) (by decide) (by decide) (by decide)⟩) ⟨?_, ?_, ?_, ?_⟩, CLk_up hck hSW hw (fun a b ha hb => ⟨fun q => ?_, fun q => ?_⟩), CLt_no hct hSW hw (by omega) (by omega) (ysit_row (by decide) (by decide) (by decide) (by decide))⟩, CLq_no hq hSW (by omega) (by omega) (ysit_row (by decide) (by decide) (by decide) (by decide)) (ysit_row (by decide) (by decide) (by decide) (by decide)) (ysit_row (by decide) (by decide) (by decide) (by decide)), CLs_no hss hSW ?_ (by omega)⟩
  · have hf' := hX.2.2.2.1 a a0 a8
    rw [SW_ch hSW ⟨a0, a8⟩ (by decide), SW_god hSW hf'] at q
    have := hg a a0 a8 q b b0 b5
    rw [m4 _ (by omega), if_neg]
    · exact this
    · intro z
      have : a = c := by omega
      subst this
      exact hng q
  · unfold ysit
    rw [rd_wrj _ _ _ _ (by decide), rd_wrj _ _ _ _ (by decide), rd_wri _ _ _ hw.1 v0 vn, rd_wrj _ _ _ _ (by decide)]
  · unfold ysit
    rw [rd_wrj _ _ _ _ (by decide), rd_wri _ _ _ hw.1 v0 vn, rd_wrj _ _ _ _ (by decide), rd_wrj _ _ _ _ (by decide)]
  · unfold ysit
    rw [rd_wri _ _ _ hw.1 v0 vn, rd_wrj _ _ _ _ (by decide), rd_wrj _ _ _ _ (by decide), rd_wrj _ _ _ _ (by decide)]
  · rw [s1]
    unfold yfate
    rw [m10, if_neg (by omega)]
  · rw [m10, s2]
    exact fun _ => ⟨rfl, hc.1, hc.2⟩
  · rw [m11, m12, s3, s4, so 0 (by omega), ysit_row' _ (by decide) (by decide) (by decide) (by decide)]
    exact fun _ => ⟨rfl, rfl, hv⟩
  · rw [ysit_row' _ (by decide) (by decide) (by decide) (by decide), so 6 (by omega)]
    exact (hcw.1 w hw.1 hw.2).2.2.2
  · obtain ⟨-, q2, q3⟩ := q
    rw [s2] at q2
    rw [s3] at q3
    subst q2
    subst q3
    rw [m4 _ k0, if_pos rfl]
    exact ⟨rfl, Or.inl hp⟩
  · rw [m4 _ (by omega), if_neg (fun z => q ⟨s1, by rw [s2]; omega, by rw [s3]; omega⟩), if_neg]
    intro z
    have := ((hck a b ha hb).2 w hw.1 hw.2).mpr z
    exact absurd this.1 (by omega)
  · unfold xsits
    rw [xlay_lo hw.1 (by decide) (by decide), xlay_lo hw.1 (by decide) (by decide), xlay_lo hw.1 (by decide) (by decide), xlay_lo hw.1 (by decide) (by decide)]
