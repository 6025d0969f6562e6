/-! ===== a lost word waits ===== -/
theorem sumW_up {g g2 : Nat → Int} {n a : Nat} {d : Int} (ha : a < n) (h : ∀ k, k < n → k ≠ a → g2 k = g k) (hd : g2 a = g a + d) : sumW g2 n = sumW g n + d := by
  induction n with
  | zero => omega
  | succ n ih =>
    simp only [sumW]
    by_cases q : a = n
    · subst q
      rw [hd, sumW_congr (fun k hk => h k (by omega) (by omega))]
      omega
    · rw [ih (by omega) (fun k hk hn => h k (by omega) hn), h n (by omega) (fun z => q z.symm)]
      omega
theorem sumW_b2 {g : Nat → Int} {n : Nat} (h : ∀ k, k < n → 0 ≤ g k ∧ g k ≤ 1) : 0 ≤ sumW g n ∧ sumW g n ≤ n := by
  induction n with
  | zero => exact ⟨Int.le_refl _, Int.le_refl _⟩
  | succ n ih =>
    have a := ih (fun k hk => h k (by omega))
    have b := h n (by omega)
    simp only [sumW]
    omega
def yI (M : am_M) (w f r : Int) : am_M := wr (wr (wr (wr M 11 w r) 6 (f * 6 + r) w) 7 (f * 6 + rd M 8 f) w) 8 f (rd M 8 f + 1)
theorem yI_row {M : am_M} {w f r : Int} {j : Nat} (h6 : j ≠ 6) (h7 : j ≠ 7) (h8 : j ≠ 8) (h11 : j ≠ 11) : yI M w f r j = M j := by
  unfold yI
  rw [wr_row _ _ _ h8, wr_row _ _ _ h7, wr_row _ _ _ h6, wr_row _ _ _ h11]
theorem yI_rd {M : am_M} {w f r : Int} {j : Nat} (k : Int) (h6 : j ≠ 6) (h7 : j ≠ 7) (h8 : j ≠ 8) (h11 : j ≠ 11) : rd (yI M w f r) j k = rd M j k := by
  unfold rd
  rw [yI_row h6 h7 h8 h11]
/-- how many wait in a family -/
theorem CL_q {M : am_M} {S : Nat → Int} (h : CL M S) {f : Int} (hf : 0 ≤ f ∧ f ≤ 2) : 0 ≤ rd M 8 f ∧ rd M 8 f ≤ 6 := by
  rw [(h.2.2.2.1 f hf).1]
  exact sumW_b2 (fun k hk => by split <;> omega)
theorem CL_q5 {M : am_M} {S : Nat → Int} (h : CL M S) {f r : Int} (hf : 0 ≤ f ∧ f ≤ 2) (hr : 0 ≤ r ∧ r ≤ 5) (hp : rd M 6 (f * 6 + r) = -1) : rd M 8 f ≤ 5 := by
  rw [(h.2.2.2.1 f hf).1]
  have e := sumW_up (g := fun k : Nat => if rd M 6 (f * 6 + k) = -1 then (0 : Int) else 1) (g2 := fun k : Nat => if (k : Int) = r then 1 else if rd M 6 (f * 6 + k) = -1 then (0 : Int) else 1) (n := 6) (a := r.toNat) (d := 1) (by omega) (fun k hk hn => by rw [if_neg (by omega)]) (by rw [show ((r.toNat : Nat) : Int) = r by omega, if_pos rfl, if_pos hp]; rfl)
  have b := sumW_b2 (g := fun k : Nat => if (k : Int) = r then 1 else if rd M 6 (f * 6 + k) = -1 then (0 : Int) else 1) (n := 6) (fun k hk => by (repeat' split) <;> omega)
  omega
theorem xwn_SW {S : Nat → Int} {w : Int} (hw : 0 ≤ w) : SW S (xwn S w) w ∧ xwn S w 4 = S 4 + 1 ∧ xwd (xwn S w) w 1 = 1 ∧ xwd (xwn S w) w 5 = S 4 ∧ ∀ j : Int, 0 ≤ j → j < 7 → j ≠ 1 → j ≠ 5 → xwd (xwn S w) w j = xwd S w j := by
  have e4 : xlay S w 1 1 4 = S 4 := xlay_lo hw (by decide) (by decide)
  have a : ∀ (T : Nat → Int) (x v k : Int), 0 ≤ v → 0 ≤ k → xwd (am_u1 T 4 x) v k = xwd T v k := fun T x v k v0 k0 => by
    unfold xwd
    rw [am_u1_ne _ _ (by omega)]
  unfold xwn
  refine ⟨⟨fun k hk h4 => ?_, fun v k v0 vn k0 k7 => ?_⟩, ?_, ?_, ?_, fun j j0 j7 j1 j5 => ?_⟩
  · rw [am_u1_ne _ _ h4, xlay_lo hw (by decide) hk, xlay_lo hw (by decide) hk]
  · rw [a _ _ _ _ v0 k0, xlay_ne ⟨hw, by decide, by decide⟩ ⟨v0, k0, k7⟩ (Or.inl vn), xlay_ne ⟨hw, by decide, by decide⟩ ⟨v0, k0, k7⟩ (Or.inl vn)]
  · rw [am_u1_at, xlay_lo hw (by decide) (by decide), e4]
  · rw [a _ _ _ _ hw (by decide), xlay_ne ⟨hw, by decide, by decide⟩ ⟨hw, by decide, by decide⟩ (Or.inr (by decide)), xlay_at]
  · rw [a _ _ _ _ hw (by decide), xlay_at, e4]
  · rw [a _ _ _ _ hw j0, xlay_ne ⟨hw, by decide, by decide⟩ ⟨hw, j0, j7⟩ (Or.inr j5), xlay_ne ⟨hw, by decide, by decide⟩ ⟨hw, j0, j7⟩ (Or.inr j1)]
theorem CL_at2 {M : am_M} {S : Nat → Int} (h : CL M S) {w : Int} (hw : 0 ≤ w ∧ w < S 1) (hs : xwd S w 1 = 2) : rd M 10 w = -1 ∧ rd M 11 w = -1 := by
  have e := (h.2.2.1.1.1 w hw.1 hw.2).1
  rw [hs] at e
  unfold yfate at e
  by_cases q : rd M 10 w = -1
  · rw [if_pos q] at e
    by_cases q2 : rd M 11 w = -1
    · exact ⟨q, q2⟩
    · rw [if_neg q2] at e; omega
  · rw [if_neg q] at e; omega
theorem CL_I {M : am_M} {S : Nat → Int} (h : CL M S) {w f r : Int} (hw : 0 ≤ w ∧ w < S 1) (hs : xwd S w 1 = 2) (hf : 0 ≤ f ∧ f ≤ 2) (hr : 0 ≤ r ∧ r ≤ 5) (h3 : xwd S w 3 = r) (h4 : xwd S w 4 = f) (h12 : rd M 12 w = f) (hv : rd M 9 w = xwd S w 0) (hp : rd M 6 (f * 6 + r) = -1) : CL (yI M w f r) (xwn S w) := by
  have hq6 := CL_q h hf
  have hqs := fun g hg => CL_q h (f := g) hg
  have hq5 := CL_q5 h hf hr hp
  obtain ⟨e10, e11⟩ := CL_at2 h hw hs
  obtain ⟨⟨hM, hX⟩, ⟨hn, hcc, hff, hg⟩, ⟨hcw, hck, hct⟩, hq, hss⟩ := h
  have h24 := hX.2.1
  obtain ⟨hSW, x4, x1, x5, xo⟩ := xwn_SW (S := S) (w := w) hw.1
  have e1 : xwn S w 1 = S 1 := hSW.1 1 (by decide) (by decide)
  have r0 : 0 ≤ f * 6 + r := by omega
  have q0 : 0 ≤ f * 6 + rd M 8 f := by omega
  have m6 : ∀ k : Int, 0 ≤ k → rd (yI M w f r) 6 k = if k = f * 6 + r then w else rd M 6 k := by
    intro k hk
    unfold yI
    rw [rd_wrj _ _ _ _ (by decide), rd_wrj _ _ _ _ (by decide)]
    by_cases q : k = f * 6 + r
    · rw [if_pos q, q, rd_wr]
    · rw [if_neg q, rd_wri _ _ _ r0 hk q, rd_wrj _ _ _ _ (by decide)]
  have m7 : ∀ k : Int, 0 ≤ k → rd (yI M w f r) 7 k = if k = f * 6 + rd M 8 f then w else rd M 7 k := by
    intro k hk
    unfold yI
    rw [rd_wrj _ _ _ _ (by decide)]
    by_cases q : k = f * 6 + rd M 8 f
    · rw [if_pos q, q, rd_wr]
    · rw [if_neg q, rd_wri _ _ _ q0 hk q, rd_wrj _ _ _ _ (by decide), rd_wrj _ _ _ _ (by decide)]
  have m8 : ∀ k : Int, 0 ≤ k → rd (yI M w f r) 8 k = if k = f then rd M 8 f + 1 else rd M 8 k := by
    intro k hk
    unfold yI
    by_cases q : k = f
    · rw [if_pos q, q, rd_wr]
    · rw [if_neg q, rd_wri _ _ _ hf.1 hk q, rd_wrj _ _ _ _ (by decide), rd_wrj _ _ _ _ (by decide), rd_wrj _ _ _ _ (by decide)]
  have m11 : ∀ k : Int, 0 ≤ k → rd (yI M w f r) 11 k = if k = w then r else rd M 11 k := by
    intro k hk
    unfold yI
    rw [rd_wrj _ _ _ _ (by decide), rd_wrj _ _ _ _ (by decide), rd_wrj _ _ _ _ (by decide)]
    by_cases q : k = w
    · rw [if_pos q, q, rd_wr]
    · rw [if_neg q, rd_wri _ _ _ hw.1 hk q]
  have hWM : WM (yI M w f r) := by
    unfold yI
    exact WM_wr (WM_wr (WM_wr (WM_wr hM (by decide) (by decide) (by omega) (by omega) (by omega) hw.1) (by decide) (by decide) (by omega) (by omega) (by omega) r0) (by decide) (by decide) (by omega) (by omega) (by omega) q0) (by decide) (by decide) (by omega) (by omega) (by omega) hf.1
  have hWX : WX (xwn S w) := WX_wn hX ⟨hw.1, by omega⟩
  have nw : ∀ v : Int, xwd S v 1 = 1 → v ≠ w := fun v hv1 q => by rw [q] at hv1; omega
  refine ⟨⟨hWM, hWX⟩, ⟨CLn_SW hn hSW (yI_row (by decide) (by decide) (by decide) (by decide)), CLc_SW hcc hSW (yI_row (by decide) (by decide) (by decide) (by decide)) (yI_row (by decide) (by decide) (by decide) (by decide)) (yI_row (by decide) (by decide) (by decide) (by decide)) (yI_row (by decide) (by decide) (by decide) (by decide)), CLf_SW hff hSW (yI_row (by decide) (by decide) (by decide) (by decide)), fun a a0 a8 q b b0 b5 => ?_⟩, ⟨CLw_up hcw hSW hw (fun v v0 vn => ⟨yI_rd _ (by decide) (by decide) (by decide) (by decide), yI_rd _ (by decide) (by decide) (by decide) (by decide), by rw [m11 v v0, if_neg vn], yI_rd _ (by decide) (by decide) (by decide) (by decide), yI_rd _ (by decide) (by decide) (by decide) (by decide)⟩) ⟨?_, ?_, ?_, ?_⟩, CLk_up hck hSW hw (fun a b ha hb => ⟨fun q => absurd q.1 (by omega), fun q => ?_⟩), CLt_up hct hSW hw (fun a b ha hb => ⟨fun q => ?_, fun q => ?_⟩)⟩, ?_, ?_⟩
  · have hf' := hX.2.2.2.1 a a0 a8
    rw [SW_ch hSW ⟨a0, a8⟩ (by decide), SW_god hSW hf'] at q
    rw [yI_rd _ (by decide) (by decide) (by decide) (by decide)]
    exact hg a a0 a8 q b b0 b5
  · rw [x1]
    unfold yfate
    rw [yI_rd _ (by decide) (by decide) (by decide) (by decide), e10, if_pos rfl, m11 w hw.1, if_pos rfl, if_neg (by omega)]
  · intro q; omega
  · rw [m11 w hw.1, if_pos rfl, yI_rd _ (by decide) (by decide) (by decide) (by decide), yI_rd _ (by decide) (by decide) (by decide) (by decide), xo 3 (by decide) (by decide) (by decide) (by decide), xo 4 (by decide) (by decide) (by decide) (by decide), xo 0 (by decide) (by decide) (by decide) (by decide)]
    exact fun _ => ⟨h3.symm, by rw [h12, h4], hv⟩
  · rw [yI_rd _ (by decide) (by decide) (by decide) (by decide), xo 6 (by decide) (by decide) (by decide) (by decide)]
    exact (hcw.1 w hw.1 hw.2).2.2.2
  · rw [yI_rd _ (by decide) (by decide) (by decide) (by decide), if_neg]
    intro z
    have := ((hck a b ha hb).2 w hw.1 hw.2).mpr z
    exact absurd this.1 (by omega)
  · obtain ⟨-, q2, q3⟩ := q
    rw [xo 4 (by decide) (by decide) (by decide) (by decide), h4] at q2
    rw [xo 3 (by decide) (by decide) (by decide) (by decide), h3] at q3
    subst q2
    subst q3
    rw [m6 _ r0, if_pos rfl]
    exact ⟨rfl, Or.inl hp⟩
  · rw [m6 _ (by omega), if_neg (fun z => q ⟨x1, by rw [xo 4 (by decide) (by decide) (by decide) (by decide), h4]; omega, by rw [xo 3 (by decide) (by decide) (by decide) (by decide), h3]; omega⟩), if_neg]
    intro z
    have := ((hct a b ha hb).2 w hw.1 hw.2).mpr z
    exact absurd this.1 (by omega)
  · intro g hg'
    obtain ⟨a, b, c, d⟩ := hq g hg'
    have hqg := hqs g hg'
    by_cases gf : g = f
    · subst gf
      rw [m8 g hf.1, if_pos rfl, e1]
      have en : ∀ i : Int, 0 ≤ i → i < rd M 8 g → rd (yI M w g r) 7 (g * 6 + i) = rd M 7 (g * 6 + i) := fun i i0 i9 => by
        rw [m7 _ (by omega), if_neg (by omega)]
      have eq9 : rd (yI M w g r) 7 (g * 6 + rd M 8 g) = w := by rw [m7 _ q0, if_pos rfl]
      refine ⟨?_, fun i i0 i9 => ?_, fun v v0 v1 s1 s4 => ?_, fun i j i0 ij j9 => ?_⟩
      · rw [a]
        refine (sumW_up (a := r.toNat) (by omega) (fun k hk hn => ?_) ?_).symm
        · rw [m6 _ (by omega), if_neg (show ¬ g * 6 + (k : Int) = g * 6 + r by omega)]
        · rw [show ((r.toNat : Nat) : Int) = r by omega, m6 _ r0, if_pos rfl, if_neg (by omega), hp]
          rfl
      · by_cases iq : i = rd M 8 g
        · rw [iq, eq9, x1, xo 4 (by decide) (by decide) (by decide) (by decide), h4]
          exact ⟨hw, rfl, rfl⟩
        · have i8 : i < rd M 8 g := by omega
          obtain ⟨b1, b2, b3⟩ := b i i0 i8
          have vn := nw _ b2
          rw [en i i0 i8, hSW.2 _ 1 b1.1 vn (by decide) (by decide), hSW.2 _ 4 b1.1 vn (by decide) (by decide)]
          exact ⟨b1, b2, b3⟩
      · by_cases vw : v = w
        · exact ⟨rd M 8 g, hq6.1, by omega, by rw [eq9, vw]⟩
        · rw [hSW.2 _ 1 v0 vw (by decide) (by decide)] at s1
          rw [hSW.2 _ 4 v0 vw (by decide) (by decide)] at s4
          obtain ⟨i, i0, i9, i2⟩ := c v v0 v1 s1 s4
          exact ⟨i, i0, by omega, by rw [en i i0 i9]; exact i2⟩
      · obtain ⟨b1, b2, b3⟩ := b i i0 (by omega)
        have vn := nw _ b2
        rw [en i i0 (by omega), hSW.2 _ 5 b1.1 vn (by decide) (by decide)]
        by_cases jq : j = rd M 8 g
        · rw [jq, eq9, x5]
          exact hss _ b1.1 b1.2 b2
        · obtain ⟨c1, c2, c3⟩ := b j (by omega) (by omega)
          have vn2 := nw _ c2
          rw [en j (by omega) (by omega), hSW.2 _ 5 c1.1 vn2 (by decide) (by decide)]
          exact d i j i0 ij (by omega)
    · rw [m8 g hg'.1, if_neg gf, e1]
      have en : ∀ i : Int, 0 ≤ i → i < rd M 8 g → rd (yI M w f r) 7 (g * 6 + i) = rd M 7 (g * 6 + i) := fun i i0 i9 => by
        rw [m7 _ (by omega), if_neg (by omega)]
      refine ⟨?_, fun i i0 i9 => ?_, fun v v0 v1 s1 s4 => ?_, fun i j i0 ij j9 => ?_⟩
      · rw [a]
        refine sumW_congr (fun k hk => ?_)
        rw [m6 _ (by omega), if_neg (show ¬ g * 6 + (k : Int) = f * 6 + r by omega)]
      · obtain ⟨b1, b2, b3⟩ := b i i0 i9
        have vn := nw _ b2
        rw [en i i0 i9, hSW.2 _ 1 b1.1 vn (by decide) (by decide), hSW.2 _ 4 b1.1 vn (by decide) (by decide)]
        exact ⟨b1, b2, b3⟩
      · have vw : v ≠ w := fun z => by
          rw [z, xo 4 (by decide) (by decide) (by decide) (by decide), h4] at s4
          exact gf s4.symm
        rw [hSW.2 _ 1 v0 vw (by decide) (by decide)] at s1
        rw [hSW.2 _ 4 v0 vw (by decide) (by decide)] at s4
        obtain ⟨i, i0, i9, i2⟩ := c v v0 v1 s1 s4
        exact ⟨i, i0, i9, by rw [en i i0 i9]; exact i2⟩
      · obtain ⟨b1, b2, b3⟩ := b i i0 (by omega)
        have vn := nw _ b2
        obtain ⟨c1, c2, c3⟩ := b j (by omega) j9
        have vn2 := nw _ c2
        rw [en i i0 (by omega), en j (by omega) j9, hSW.2 _ 5 b1.1 vn (by decide) (by decide), hSW.2 _ 5 c1.1 vn2 (by decide) (by decide)]
        exact d i j i0 ij j9
  · intro v v0 v1 s1
    rw [x4]
    by_cases vw : v = w
    · rw [vw, x5]; omega
    · rw [e1] at v1
      rw [hSW.2 _ 1 v0 vw (by decide) (by decide)] at s1
      rw [hSW.2 _ 5 v0 vw (by decide) (by decide)]
      have := hss v v0 v1 s1
      omega
