/-! ===== words wait in guarded rows alone; moves put together ===== -/
def CLx (S : Nat → Int) : Prop := ∀ w : Int, 0 ≤ w → w < S 1 → xwd S w 1 = 1 → xgu S (xwd S w 4) (xwd S w 3) = true
def CX (M : am_M) (S : Nat → Int) : Prop := CL M S ∧ CLx S
theorem xgu_SW {S S2 : Nat → Int} {w f r : Int} (hX : WX S) (hS : SW S S2 w) (hf : 0 ≤ f ∧ f ≤ 2) : xgu S2 f r = xgu S f r := by
  have hg := hX.2.2.1 f hf.1 hf.2
  unfold xgu
  rw [SW_god hS hf]
  by_cases q : 0 ≤ xgod S f
  · rw [SW_ch hS (by omega) (by decide)]
  · rw [decide_eq_false q, Bool.false_and, Bool.false_and]
theorem fstW_p {p : Nat → Bool} {r n : Nat} (h : fstW p r n < (r : Int) + n) : p (fstW p r n).toNat = true := by
  induction n generalizing r with
  | zero =>
    have : fstW p r 0 = r := rfl
    omega
  | succ n ih =>
    simp only [fstW] at h ⊢
    by_cases q : p r = true
    · rw [if_pos q]
      exact q
    · rw [if_neg q] at h ⊢
      exact ih (by omega)
theorem xlow_pl {S : Nat → Int} {c : Int} (h : xpls S c ≠ 0) : xpl S c (xlow S c) = true := by
  have a := xlow_lt h
  have b := xlow_0 S c
  have e := fstW_p (p := fun r : Nat => xpl S c r) (r := 0) (n := 6) (by show xlow S c < _; omega)
  have e2 : xpl S c (((xlow S c).toNat : Nat) : Int) = true := e
  rwa [show (((xlow S c).toNat : Nat) : Int) = xlow S c by omega] at e2
theorem CLx_SW {S S2 : Nat → Int} {w : Int} (h : CLx S) (hX : WX S) (hS : SW S S2 w) (hw : xwd S2 w 1 = 1 → xgu S (xwd S2 w 4) (xwd S2 w 3) = true) (hX2 : WX S2) : CLx S2 := by
  intro v v0 v1 s1
  have h24 := hX2.2.1
  have hb := (hX2.2.2.2.2 v v0 (by omega)).1
  rw [hS.1 1 (by decide) (by decide)] at v1
  rw [xgu_SW hX hS hb]
  by_cases vw : v = w
  · subst vw
    exact hw s1
  · rw [hS.2 _ 1 v0 vw (by decide) (by decide)] at s1
    rw [hS.2 _ 4 v0 vw (by decide) (by decide), hS.2 _ 3 v0 vw (by decide) (by decide)]
    exact h v v0 v1 s1
theorem CX_A {M : am_M} {S : Nat → Int} (h : CX M S) {w : Int} (hw : 0 ≤ w ∧ w < S 1) (hs : xwd S w 1 = 0) : CX (yls1 M w) (xlay S w 1 2) := by
  have a := CL_A h.1 hw hs
  exact ⟨a, CLx_SW h.2 h.1.1.2 (SW_lay hw.1 (by decide)) (fun q => by rw [xlay_at] at q; omega) a.1.2⟩
theorem CX_B {M : am_M} {S : Nat → Int} (h : CX M S) {w f r : Int} (hw : 0 ≤ w ∧ w < S 1) (hs : xwd S w 1 = 1) (h3 : xwd S w 3 = r) (h4 : xwd S w 4 = f) : CX (yB M w f r) (xlay S w 1 2) := by
  have a := CL_B h.1 hw hs h3 h4
  exact ⟨a, CLx_SW h.2 h.1.1.2 (SW_lay hw.1 (by decide)) (fun q => by rw [xlay_at] at q; omega) a.1.2⟩
theorem wr_wr (M : am_M) (j : Nat) (i x z : Int) : wr (wr M j i x) j i z = wr M j i z := by
  funext a b
  unfold wr am_u2 am_u1
  by_cases h : a = j
  · simp [h]
    by_cases hb : b = i.toNat <;> simp [hb]
  · simp [h]
theorem wr_id {M : am_M} {j : Nat} {i x : Int} (h : rd M j i = x) : wr M j i x = M := by
  subst h
  exact am_u2_id _ _ _
theorem xlay_xlay (S : Nat → Int) (w k x z : Int) : xlay (xlay S w k x) w k z = xlay S w k z := by
  funext a
  unfold xlay am_u1
  by_cases h : a = (40 + 7 * w + k).toNat <;> simp [h]
theorem xwn_lay (S : Nat → Int) (w : Int) : xwn (xlay S w 1 2) w = xwn S w := by
  unfold xwn
  rw [xlay_xlay]
theorem xsits_lay (S : Nat → Int) (w c r : Int) : xsits (xlay S w 1 2) w c r = xsits S w c r := by
  unfold xsits
  rw [xlay_xlay]
/-- the waits of the class, from the word's being lost -/
theorem ylet_I {M : am_M} {w : Int} (hw : ¬ w = -1) (h10 : ¬ rd M 10 w = -1) : ylet M w = yI (yls1 M w) w (rd M 12 w) (rd M 11 w) := by
  have e12 : rd (ytake M w) 12 w = rd M 12 w := ytake_rd _ (by decide) (by decide)
  have e11 : rd (ytake M w) 11 w = rd M 11 w := ytake_rd _ (by decide) (by decide)
  have e8 : rd (yle1 M w) 8 (rd M 12 w) = rd M 8 (rd M 12 w) := by
    unfold yle1
    rw [rd_wrj _ _ _ _ (by decide)]
    exact ytake_rd _ (by decide) (by decide)
  have e82 : rd (yle2 M w) 8 (rd M 12 w) = rd M 8 (rd M 12 w) := by
    unfold yle2
    rw [rd_wrj _ _ _ _ (by decide)]
    exact e8
  unfold ylet
  rw [if_neg hw, if_neg h10]
  unfold yI yle3
  rw [e12, e82, yls1_rd _ (by decide) (by decide) (by decide)]
  unfold yle2
  rw [e12, e8]
  unfold yle1
  rw [e12, e11]
  have e : wr (yls1 M w) 11 w (rd M 11 w) = ytake M w := by
    unfold yls1
    rw [wr_wr, wr_id e11]
  rw [e]
theorem CX_C {M : am_M} {S : Nat → Int} (h : CX M S) {w : Int} (hw : 0 ≤ w ∧ w < S 1) (hs : xwd S w 1 = 0) (hg : xgu S (xwd S w 4) (xwd S w 3) = true) (hp : xwait S (xwd S w 4) (xwd S w 3) < 0) : CX (ylet M w) (xwn S w) := by
  obtain ⟨hY, e10, e11, e12, e9, hc0, h4⟩ := CL_at0 h.1 hw hs
  have h24 := h.1.1.2.2.1
  have hb := h.1.1.2.2.2.2.2 w hw.1 (by omega)
  have hA := CX_A h hw hs
  have ne : ∀ j : Int, 0 ≤ j → j < 7 → j ≠ 1 → xwd (xlay S w 1 2) w j = xwd S w j := fun j a b c => xlay_ne ⟨hw.1, by decide, by decide⟩ ⟨hw.1, a, b⟩ (Or.inr c)
  have hwait := CL_wait h.1 hb.1 hb.2
  have hwb := xwait_b h.1.1.2 (xwd S w 4) (xwd S w 3)
  have e6 : rd (yls1 M w) 6 (xwd S w 4 * 6 + xwd S w 3) = -1 := by
    rw [yls1_rd _ (by decide) (by decide) (by decide), ← hwait]
    omega
  have e1 : xlay S w 1 2 1 = S 1 := xlay_lo hw.1 (by decide) (by decide)
  have a := CL_I hA.1 (w := w) (f := xwd S w 4) (r := xwd S w 3) (by rw [e1]; exact hw) xlay_at hb.1 hb.2 (ne 3 (by decide) (by decide) (by decide)) (ne 4 (by decide) (by decide) (by decide)) (by rw [yls1_rd _ (by decide) (by decide) (by decide)]; exact e12) (by rw [yls1_rd _ (by decide) (by decide) (by decide), ne 0 (by decide) (by decide) (by decide)]; exact e9) e6
  rw [xwn_lay] at a
  obtain ⟨hSW, x4, x1, x5, xo⟩ := xwn_SW (S := S) (w := w) hw.1
  rw [ylet_I (by omega) (by have := hY.2.1; omega), e12, e11]
  exact ⟨a, CLx_SW h.2 h.1.1.2 hSW (fun _ => by rw [xo 4 (by decide) (by decide) (by decide) (by decide), xo 3 (by decide) (by decide) (by decide) (by decide)]; exact hg) a.1.2⟩
theorem ypsN_congr {M N : am_M} {c f : Int} (h4 : N 4 = M 4) (h6 : N 6 = M 6) (n : Nat) : ypsN N c f n = ypsN M c f n := by
  induction n with
  | zero => rfl
  | succ n ih =>
    simp only [ypsN]
    unfold rd
    rw [h4, h6, ih]
theorem yps_congr {M N : am_M} {c : Int} (h0 : N 0 = M 0) (h1 : N 1 = M 1) (h2 : N 2 = M 2) (h4 : N 4 = M 4) (h5 : N 5 = M 5) (h6 : N 6 = M 6) : yps N c = yps M c := by
  unfold yps
  rw [ypsN_congr h4 h6]
  unfold rd
  rw [h0, h1, h2, h5]
theorem ysit_wr {M : am_M} {w c l : Int} (x : Int) : ysit (wr M 11 w x) w c l = ysit M w c l := by
  have e : wr (wr (wr (wr M 11 w x) 4 (c * 6 + l) w) 10 w c) 11 w l = wr (wr (wr M 4 (c * 6 + l) w) 10 w c) 11 w l := by
    funext a b
    unfold wr am_u2 am_u1
    by_cases h1 : a = 11
    · subst h1
      simp
      by_cases h2 : b = w.toNat <;> simp [h2]
    · simp [h1]
  unfold ysit
  rw [e]
/-- a lost word comes to a chip's lowest place -/
theorem CX_G {M : am_M} {S : Nat → Int} (h : CX M S) {w c : Int} (hw : 0 ≤ w ∧ w < S 1) (hs : xwd S w 1 = 2) (hc : 0 ≤ c ∧ c < S 0) (hpl : xpls S c ≠ 0) (hv : rd M 9 w = xwd S w 0) : CX (ykal M w c) (xsits S w c (xlow S c)) := by
  have h8 := h.1.1.2.1
  have hc8 : 0 ≤ c ∧ c < 8 := by omega
  have hl := xlow_lt hpl
  have hl0 := xlow_0 S c
  have hpx := xlow_pl hpl
  have hkb := xkept_b h.1.1.2 c (xlow S c)
  unfold xpl at hpx
  simp only [Bool.and_eq_true, Bool.not_eq_true', decide_eq_true_eq] at hpx
  obtain ⟨p1, p2, p3, p4, p5⟩ := hpx
  have hk := CL_kept h.1 hc8 (r := xlow S c) (by omega)
  have hng : ¬ xgod S (xch S c 0) = c := fun q => by
    unfold xisg at p2
    rw [q] at p2
    simp at p2
  have a := CL_G h.1 hw hs hc (r := xlow S c) (by omega) (by omega) hng hv
  have hSW : SW S (xsits S w c (xlow S c)) w := by
    unfold xsits
    exact SW_trans (SW_trans (SW_trans (SW_lay hw.1 (by decide)) (SW_lay hw.1 (by decide))) (SW_lay hw.1 (by decide))) (SW_lay hw.1 (by decide))
  have e : ykal M w c = ysit M w c (xlow S c) := by
    unfold ykal
    rw [CL_low h.1 hc8, if_pos (by omega)]
  rw [e]
  refine ⟨a, CLx_SW h.2 h.1.1.2 hSW (fun q => ?_) a.1.2⟩
  exfalso
  have := (a.2.2.1.1.1 w hw.1 (by rw [hSW.1 1 (by decide) (by decide)]; exact hw.2)).1
  rw [q] at this
  have m10 : rd (ysit M w c (xlow S c)) 10 w = c := by
    unfold ysit
    rw [rd_wrj _ _ _ _ (by decide), rd_wrj _ _ _ _ (by decide), rd_wr]
  unfold yfate at this
  rw [m10, if_neg (by omega)] at this
  omega
