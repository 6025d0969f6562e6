/-! ===== a waiting word is lost ===== -/
theorem ylq_s {N : am_M} {f w p : Int} {q : Nat} (hf : 0 ≤ f) (hp : 0 ≤ p) (hu : ∀ i : Int, 0 ≤ i → i < q → (rd N 7 (f * 6 + i) = w ↔ i = p)) (i : Nat) (hi : i < q) : (ylq N f w i).2 = decide (p < i) ∧ ∀ k : Int, 0 ≤ k → rd (ylq N f w i).1 7 k = if f * 6 + p ≤ k ∧ k < f * 6 + i then rd N 7 (k + 1) else rd N 7 k := by
  induction i with
  | zero =>
    refine ⟨(decide_eq_false (by omega)).symm, fun k hk => ?_⟩
    rw [if_neg (by omega)]
    rfl
  | succ i ih =>
    obtain ⟨a, b⟩ := ih (by omega)
    have hw : ∀ k : Int, 0 ≤ k → rd (wr (ylq N f w i).1 7 (f * 6 + i) (rd (ylq N f w i).1 7 (f * 6 + i + 1))) 7 k = if k = f * 6 + i then rd N 7 (f * 6 + i + 1) else rd (ylq N f w i).1 7 k := by
      intro k hk
      by_cases z : k = f * 6 + i
      · rw [if_pos z, z, rd_wr, b _ (by omega), if_neg (by omega)]
      · rw [if_neg z, rd_wri _ _ _ (by omega) hk z]
    have hgo : p ≤ i → ∀ k : Int, 0 ≤ k → (if k = f * 6 + i then rd N 7 (f * 6 + i + 1) else rd (ylq N f w i).1 7 k) = if f * 6 + p ≤ k ∧ k < f * 6 + ((i + 1 : Nat) : Int) then rd N 7 (k + 1) else rd N 7 k := by
      intro hpi k hk
      by_cases z : k = f * 6 + i
      · rw [if_pos z, if_pos (by omega), z]
      · rw [if_neg z, b k hk]
        by_cases z2 : f * 6 + p ≤ k ∧ k < f * 6 + i
        · rw [if_pos z2, if_pos (by omega)]
        · rw [if_neg z2, if_neg (by omega)]
    simp only [ylq]
    by_cases c1 : p < i
    · rw [if_pos (by rw [a]; exact decide_eq_true c1)]
      refine ⟨(decide_eq_true (by omega)).symm, fun k hk => ?_⟩
      show rd (wr (ylq N f w i).1 7 (f * 6 + i) (rd (ylq N f w i).1 7 (f * 6 + i + 1))) 7 k = _
      rw [hw k hk, hgo (by omega) k hk]
    · have bi : rd (ylq N f w i).1 7 (f * 6 + i) = rd N 7 (f * 6 + i) := by rw [b _ (by omega), if_neg (by omega)]
      rw [if_neg (by rw [a, decide_eq_false c1]; decide), bi]
      by_cases c2 : rd N 7 (f * 6 + i) = w
      · have hip := (hu i (by omega) (by omega)).mp c2
        rw [if_pos c2]
        refine ⟨(decide_eq_true (by omega)).symm, fun k hk => ?_⟩
        show rd (wr (ylq N f w i).1 7 (f * 6 + i) (rd (ylq N f w i).1 7 (f * 6 + i + 1))) 7 k = _
        rw [hw k hk, hgo (by omega) k hk]
      · have hip : (i : Int) ≠ p := fun z => c2 ((hu i (by omega) (by omega)).mpr z)
        rw [if_neg c2]
        refine ⟨(decide_eq_false (by omega)).symm, fun k hk => ?_⟩
        show rd (ylq N f w i).1 7 k = _
        rw [b k hk, if_neg (by omega), if_neg (by omega)]
def yB (M : am_M) (w f r : Int) : am_M := wr (ylv (wr M 6 (f * 6 + r) (-1)) w) 11 w (-1)
theorem yB_row {M : am_M} {w f r : Int} {j : Nat} (h6 : j ≠ 6) (h7 : j ≠ 7) (h8 : j ≠ 8) (h11 : j ≠ 11) : yB M w f r j = M j := by
  unfold yB
  rw [wr_row _ _ _ h11, ylv_row h7 h8, wr_row _ _ _ h6]
theorem yB_rd {M : am_M} {w f r : Int} {j : Nat} (k : Int) (h6 : j ≠ 6) (h7 : j ≠ 7) (h8 : j ≠ 8) (h11 : j ≠ 11) : rd (yB M w f r) j k = rd M j k := by
  unfold rd
  rw [yB_row h6 h7 h8 h11]
theorem CL_at1 {M : am_M} {S : Nat → Int} (h : CL M S) {w : Int} (hw : 0 ≤ w ∧ w < S 1) (hs : xwd S w 1 = 1) : rd M 10 w = -1 ∧ rd M 11 w = xwd S w 3 ∧ rd M 12 w = xwd S w 4 ∧ rd M 9 w = xwd S w 0 ∧ (0 ≤ xwd S w 4 ∧ xwd S w 4 ≤ 2) ∧ (0 ≤ xwd S w 3 ∧ xwd S w 3 ≤ 5) ∧ rd M 6 (xwd S w 4 * 6 + xwd S w 3) = w := by
  obtain ⟨⟨hM, hX⟩, -, ⟨hcw, -, hct⟩, -⟩ := h
  obtain ⟨a, b, c, d⟩ := hcw.1 w hw.1 hw.2
  have c := c (by omega)
  have h24 := hX.2.1
  have hr := hX.2.2.2.2 w hw.1 (by omega)
  have e10 : rd M 10 w = -1 := by
    rw [hs] at a
    unfold yfate at a
    by_cases q : rd M 10 w = -1
    · exact q
    · rw [if_neg q] at a; omega
  exact ⟨e10, c.1, c.2.1, c.2.2, hr.1, hr.2, ((hct _ _ hr.1 hr.2).2 w hw.1 hw.2).mp ⟨hs, rfl, rfl⟩⟩
theorem CL_B {M : am_M} {S : Nat → Int} (h : CL M S) {w f r : Int} (hw : 0 ≤ w ∧ w < S 1) (hs : xwd S w 1 = 1) (h3 : xwd S w 3 = r) (h4 : xwd S w 4 = f) : CL (yB M w f r) (xlay S w 1 2) := by
  obtain ⟨e10, e11, e12, e9, hf, hr, e6⟩ := CL_at1 h hw hs
  rw [h4] at hf e12 e6
  rw [h3] at hr e11 e6
  have hq6 := CL_q h hf
  have hqs := fun g hg => CL_q h (f := g) hg
  obtain ⟨⟨hM, hX⟩, ⟨hn, hcc, hff, hg⟩, ⟨hcw, hck, hct⟩, hq, hss⟩ := h
  have h24 := hX.2.1
  have hSW : SW S (xlay S w 1 2) w := SW_lay hw.1 (by decide)
  have x1 : xwd (xlay S w 1 2) w 1 = 2 := xlay_at
  have xo : ∀ j : Int, 0 ≤ j → j < 7 → j ≠ 1 → xwd (xlay S w 1 2) w j = xwd S w j := fun j a b c => xlay_ne ⟨hw.1, by decide, by decide⟩ ⟨hw.1, a, b⟩ (Or.inr c)
  have e1 : xlay S w 1 2 1 = S 1 := hSW.1 1 (by decide) (by decide)
  have r0 : 0 ≤ f * 6 + r := by omega
  -- where it stands
  obtain ⟨qa, qb, qc, qd⟩ := hq f hf
  obtain ⟨p, p0, p9, p7⟩ := qc w hw.1 hw.2 hs h4
  have hu : ∀ i : Int, 0 ≤ i → i < rd M 8 f → (rd M 7 (f * 6 + i) = w ↔ i = p) := by
    intro i i0 i9
    constructor
    · intro z
      by_cases a : i < p
      · have := qd i p i0 a p9
        rw [z, p7] at this
        omega
      · by_cases b : p < i
        · have := qd p i p0 b i9
          rw [z, p7] at this
          omega
        · omega
    · intro z; rw [z]; exact p7
  have en7 : ∀ k : Int, rd (wr M 6 (f * 6 + r) (-1)) 7 k = rd M 7 k := fun k => rd_wrj _ _ _ _ (by decide)
  have en8 : ∀ k : Int, rd (wr M 6 (f * 6 + r) (-1)) 8 k = rd M 8 k := fun k => rd_wrj _ _ _ _ (by decide)
  have en12 : rd (wr M 6 (f * 6 + r) (-1)) 12 w = f := by rw [rd_wrj _ _ _ _ (by decide)]; exact e12
  have hqn : ((rd M 8 f).toNat : Int) = rd M 8 f := by omega
  obtain ⟨-, ys⟩ := ylq_s (N := wr M 6 (f * 6 + r) (-1)) (f := f) (w := w) (p := p) (q := (rd M 8 f).toNat) hf.1 p0 (fun i i0 i9 => by rw [en7]; exact hu i i0 (by omega)) (rd M 8 f - 1).toNat (by omega)
  have m6 : ∀ k : Int, 0 ≤ k → rd (yB M w f r) 6 k = if k = f * 6 + r then -1 else rd M 6 k := by
    intro k hk
    unfold yB
    rw [rd_wrj _ _ _ _ (by decide)]
    have e : ylv (wr M 6 (f * 6 + r) (-1)) w 6 = wr M 6 (f * 6 + r) (-1) 6 := ylv_row (by decide) (by decide)
    have e' : rd (ylv (wr M 6 (f * 6 + r) (-1)) w) 6 k = rd (wr M 6 (f * 6 + r) (-1)) 6 k := congrFun e _
    rw [e']
    by_cases q : k = f * 6 + r
    · rw [if_pos q, q, rd_wr]
    · rw [if_neg q, rd_wri _ _ _ r0 hk q]
  have m7 : ∀ k : Int, 0 ≤ k → rd (yB M w f r) 7 k = if f * 6 + p ≤ k ∧ k < f * 6 + (rd M 8 f - 1) then rd M 7 (k + 1) else rd M 7 k := by
    intro k hk
    unfold yB ylv
    rw [rd_wrj _ _ _ _ (by decide), rd_wrj _ _ _ _ (by decide), en12, en8, ys k hk, en7, en7, show (((rd M 8 f - 1).toNat : Nat) : Int) = rd M 8 f - 1 by omega]
  have m8 : ∀ k : Int, 0 ≤ k → rd (yB M w f r) 8 k = if k = f then rd M 8 f - 1 else rd M 8 k := by
    intro k hk
    unfold yB ylv
    rw [rd_wrj _ _ _ _ (by decide), en12, en8]
    by_cases q : k = f
    · rw [if_pos q, q, rd_wr]
    · rw [if_neg q, rd_wri _ _ _ hf.1 hk q]
      have e : (ylq (wr M 6 (f * 6 + r) (-1)) f w (rd M 8 f - 1).toNat).1 8 = wr M 6 (f * 6 + r) (-1) 8 := ylq_row (by decide)
      have e' : rd (ylq (wr M 6 (f * 6 + r) (-1)) f w (rd M 8 f - 1).toNat).1 8 k = rd (wr M 6 (f * 6 + r) (-1)) 8 k := congrFun e _
      rw [e', en8]
  have m11 : ∀ k : Int, 0 ≤ k → rd (yB M w f r) 11 k = if k = w then -1 else rd M 11 k := by
    intro k hk
    unfold yB
    by_cases q : k = w
    · rw [if_pos q, q, rd_wr]
    · rw [if_neg q, rd_wri _ _ _ hw.1 hk q]
      have e : ylv (wr M 6 (f * 6 + r) (-1)) w 11 = wr M 6 (f * 6 + r) (-1) 11 := ylv_row (by decide) (by decide)
      have e' : rd (ylv (wr M 6 (f * 6 + r) (-1)) w) 11 k = rd (wr M 6 (f * 6 + r) (-1)) 11 k := congrFun e _
      rw [e', rd_wrj _ _ _ _ (by decide)]
  have hWM : WM (yB M w f r) := by
    unfold yB
    exact WM_wr (WM_lv (WM_wr hM (by decide) (by decide) (by omega) (by omega) (by omega) r0) ⟨hw.1, by omega⟩ (by rw [en12, en8]; omega)) (by decide) (by decide) (by omega) (by omega) (by omega) hw.1
  refine ⟨⟨hWM, WX_lay hX ⟨hw.1, by omega⟩ (by decide) (by omega) (by omega)⟩, ⟨CLn_SW hn hSW (yB_row (by decide) (by decide) (by decide) (by decide)), CLc_SW hcc hSW (yB_row (by decide) (by decide) (by decide) (by decide)) (yB_row (by decide) (by decide) (by decide) (by decide)) (yB_row (by decide) (by decide) (by decide) (by decide)) (yB_row (by decide) (by decide) (by decide) (by decide)), CLf_SW hff hSW (yB_row (by decide) (by decide) (by decide) (by decide)), fun a a0 a8 q b b0 b5 => ?_⟩, ⟨CLw_up hcw hSW hw (fun v v0 vn => ⟨yB_rd _ (by decide) (by decide) (by decide) (by decide), yB_rd _ (by decide) (by decide) (by decide) (by decide), by rw [m11 v v0, if_neg vn], yB_rd _ (by decide) (by decide) (by decide) (by decide), yB_rd _ (by decide) (by decide) (by decide) (by decide)⟩) ⟨?_, ?_, ?_, ?_⟩, CLk_up hck hSW hw (fun a b ha hb => ⟨fun q => absurd q.1 (by omega), fun q => ?_⟩), CLt_up hct hSW hw (fun a b ha hb => ⟨fun q => absurd q.1 (by omega), fun q => ?_⟩)⟩, ?_, CLs_no hss hSW (xlay_lo hw.1 (by decide) (by decide)) (by omega)⟩
  · have hf' := hX.2.2.2.1 a a0 a8
    rw [SW_ch hSW ⟨a0, a8⟩ (by decide), SW_god hSW hf'] at q
    rw [yB_rd _ (by decide) (by decide) (by decide) (by decide)]
    exact hg a a0 a8 q b b0 b5
  · rw [x1]
    unfold yfate
    rw [yB_rd _ (by decide) (by decide) (by decide) (by decide), e10, if_pos rfl, m11 w hw.1, if_pos rfl, if_pos rfl]
  · intro q; omega
  · intro q; omega
  · rw [yB_rd _ (by decide) (by decide) (by decide) (by decide), xo 6 (by decide) (by decide) (by decide)]
    exact (hcw.1 w hw.1 hw.2).2.2.2
  · rw [yB_rd _ (by decide) (by decide) (by decide) (by decide), if_neg]
    intro z
    have := ((hck a b ha hb).2 w hw.1 hw.2).mpr z
    exact absurd this.1 (by omega)
  · rw [m6 _ (by omega)]
    by_cases z : a * 6 + b = f * 6 + r
    · rw [if_pos z, z, if_pos e6]
    · rw [if_neg z, if_neg]
      intro y
      obtain ⟨-, y4, y3⟩ := ((hct a b ha hb).2 w hw.1 hw.2).mpr y
      exact z (by rw [← y4, ← y3, h4, h3])
  · intro g hg'
    obtain ⟨a, b, c, d⟩ := hq g hg'
    have hqg := hqs g hg'
    by_cases gf : g = f
    · subst gf
      rw [m8 g hf.1, if_pos rfl, e1]
      have en : ∀ i : Int, 0 ≤ i → i < rd M 8 g - 1 → ∃ j : Int, rd (yB M w g r) 7 (g * 6 + i) = rd M 7 (g * 6 + j) ∧ (j = if i < p then i else i + 1) := by
        intro i i0 i9
        refine ⟨_, ?_, rfl⟩
        rw [m7 _ (by omega)]
        by_cases z : i < p
        · rw [if_neg (by omega), if_pos z]
        · rw [if_pos (by omega), if_neg z, Int.add_assoc]
      have nn : ∀ j : Int, 0 ≤ j → j < rd M 8 g → j ≠ p → rd M 7 (g * 6 + j) ≠ w := fun j j0 j9 jp z => jp ((hu j j0 j9).mp z)
      refine ⟨?_, fun i i0 i9 => ?_, fun v v0 v1 s1 s4 => ?_, fun i j i0 ij j9 => ?_⟩
      · rw [a]
        have := sumW_up (g := fun k : Nat => if rd M 6 (g * 6 + k) = -1 then (0 : Int) else 1) (g2 := fun k : Nat => if rd (yB M w g r) 6 (g * 6 + k) = -1 then (0 : Int) else 1) (n := 6) (a := r.toNat) (d := -1) (by omega) (fun k hk hn => by rw [m6 _ (by omega), if_neg (show ¬ g * 6 + (k : Int) = g * 6 + r by omega)]) (by rw [show ((r.toNat : Nat) : Int) = r by omega, m6 _ r0, if_pos rfl, if_pos rfl, e6, if_neg (by omega)]; rfl)
        omega
      · obtain ⟨j, j1, j2⟩ := en i i0 i9
        have j0 : 0 ≤ j ∧ j < rd M 8 g ∧ j ≠ p := by split at j2 <;> omega
        obtain ⟨b1, b2, b3⟩ := b j j0.1 j0.2.1
        have vn := nn j j0.1 j0.2.1 j0.2.2
        rw [j1, hSW.2 _ 1 b1.1 vn (by decide) (by decide), hSW.2 _ 4 b1.1 vn (by decide) (by decide)]
        exact ⟨b1, b2, b3⟩
      · have vw : v ≠ w := fun z => by rw [z, x1] at s1; omega
        rw [hSW.2 _ 1 v0 vw (by decide) (by decide)] at s1
        rw [hSW.2 _ 4 v0 vw (by decide) (by decide)] at s4
        obtain ⟨i, i0, i9, i2⟩ := c v v0 v1 s1 s4
        have ip : i ≠ p := fun z => vw (by rw [← i2, z, p7])
        by_cases z : i < p
        · obtain ⟨j, j1, j2⟩ := en i i0 (by omega)
          rw [if_pos z] at j2
          exact ⟨i, i0, by omega, by rw [j1, j2]; exact i2⟩
        · obtain ⟨j, j1, j2⟩ := en (i - 1) (by omega) (by omega)
          rw [if_neg (by omega)] at j2
          exact ⟨i - 1, by omega, by omega, by rw [j1, j2, show i - 1 + 1 = i by omega]; exact i2⟩
      · obtain ⟨i', i1, i2⟩ := en i i0 (by omega)
        obtain ⟨j', j1, j2⟩ := en j (by omega) j9
        have hi' : 0 ≤ i' ∧ i' < rd M 8 g ∧ i' ≠ p := by split at i2 <;> omega
        have hj' : 0 ≤ j' ∧ j' < rd M 8 g ∧ j' ≠ p := by split at j2 <;> omega
        have hij : i' < j' := by (split at i2 <;> split at j2) <;> omega
        have vn := nn i' hi'.1 hi'.2.1 hi'.2.2
        have vn2 := nn j' hj'.1 hj'.2.1 hj'.2.2
        rw [i1, j1, hSW.2 _ 5 (b i' hi'.1 hi'.2.1).1.1 vn (by decide) (by decide), hSW.2 _ 5 (b j' hj'.1 hj'.2.1).1.1 vn2 (by decide) (by decide)]
        exact d i' j' hi'.1 hij hj'.2.1
    · rw [m8 g hg'.1, if_neg gf, e1]
      have en : ∀ i : Int, 0 ≤ i → i < rd M 8 g → rd (yB M w f r) 7 (g * 6 + i) = rd M 7 (g * 6 + i) := fun i i0 i9 => by
        rw [m7 _ (by omega), if_neg (by omega)]
      have nn : ∀ i : Int, 0 ≤ i → i < rd M 8 g → rd M 7 (g * 6 + i) ≠ w := fun i i0 i9 z => by
        have := (b i i0 i9).2.2
        rw [z, h4] at this
        exact gf this.symm
      refine ⟨?_, fun i i0 i9 => ?_, fun v v0 v1 s1 s4 => ?_, fun i j i0 ij j9 => ?_⟩
      · rw [a]
        refine sumW_congr (fun k hk => ?_)
        rw [m6 _ (by omega), if_neg (show ¬ g * 6 + (k : Int) = f * 6 + r by omega)]
      · obtain ⟨b1, b2, b3⟩ := b i i0 i9
        have vn := nn i i0 i9
        rw [en i i0 i9, hSW.2 _ 1 b1.1 vn (by decide) (by decide), hSW.2 _ 4 b1.1 vn (by decide) (by decide)]
        exact ⟨b1, b2, b3⟩
      · have vw : v ≠ w := fun z => by rw [z, x1] at s1; omega
        rw [hSW.2 _ 1 v0 vw (by decide) (by decide)] at s1
        rw [hSW.2 _ 4 v0 vw (by decide) (by decide)] at s4
        obtain ⟨i, i0, i9, i2⟩ := c v v0 v1 s1 s4
        exact ⟨i, i0, i9, by rw [en i i0 i9]; exact i2⟩
      · rw [en i i0 (by omega), en j (by omega) j9, hSW.2 _ 5 (b i i0 (by omega)).1.1 (nn i i0 (by omega)) (by decide) (by decide), hSW.2 _ 5 (b j (by omega) j9).1.1 (nn j (by omega) j9) (by decide) (by decide)]
        exact d i j i0 ij j9
