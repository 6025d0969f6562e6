/-! ===== a new word ===== -/
def yH (M : am_M) (W v : Int) : am_M := wr (wr (wr (am_u2 M 0 2 (W + 1)) 9 W v) 10 W (-1)) 11 W (-1)
def xH (S : Nat → Int) (v : Int) : Nat → Int := xlay (xlay (xlay (am_u1 S 1 (S 1 + 1)) (S 1) 0 v) (S 1) 5 0) (S 1) 6 0
theorem yH_row {M : am_M} {W v : Int} {j : Nat} (h0 : j ≠ 0) (h9 : j ≠ 9) (h10 : j ≠ 10) (h11 : j ≠ 11) : yH M W v j = M j := by
  unfold yH
  rw [wr_row _ _ _ h11, wr_row _ _ _ h10, wr_row _ _ _ h9, am_u2_ne _ _ _ h0]
theorem yH_0 {M : am_M} {W v : Int} {k : Nat} (hk : k ≠ 2) : yH M W v 0 k = M 0 k := by
  unfold yH
  rw [wr_row _ _ _ (by decide), wr_row _ _ _ (by decide), wr_row _ _ _ (by decide), am_u2_rd _ _ (Or.inr hk)]
theorem yH_02 {M : am_M} {W v : Int} : yH M W v 0 2 = W + 1 := by
  unfold yH
  rw [wr_row _ _ _ (by decide), wr_row _ _ _ (by decide), wr_row _ _ _ (by decide), am_u2_hit]
theorem CX_H {M : am_M} {S : Nat → Int} (h : CX M S) (v : Int) (hW : S 1 < 24) : CX (yH M (S 1) v) (xlay (xH S v) (S 1) 1 2) ∧ xwd (xlay (xH S v) (S 1) 1 2) (S 1) 1 = 2 ∧ rd (yH M (S 1) v) 9 (S 1) = xwd (xlay (xH S v) (S 1) 1 2) (S 1) 0 ∧ xlay (xH S v) (S 1) 1 2 1 = S 1 + 1 ∧ xlay (xH S v) (S 1) 1 2 0 = S 0 := by
  obtain ⟨⟨⟨hM, hX⟩, ⟨hn, hcc, hff, hg⟩, ⟨hcw, hck, hct⟩, hq, hss⟩, hx⟩ := h
  have h24 := hX.2.1
  have h8 := hX.1
  generalize hS2 : xlay (xH S v) (S 1) 1 2 = T
  have lo : ∀ k : Nat, k < 40 → k ≠ 1 → T k = S k := by
    intro k hk h1
    rw [← hS2]
    unfold xH
    rw [xlay_lo h24.1 (by decide) hk, xlay_lo h24.1 (by decide) hk, xlay_lo h24.1 (by decide) hk, xlay_lo h24.1 (by decide) hk, am_u1_ne _ _ h1]
  have l1 : T 1 = S 1 + 1 := by
    rw [← hS2]
    unfold xH
    rw [xlay_lo h24.1 (by decide) (by decide), xlay_lo h24.1 (by decide) (by decide), xlay_lo h24.1 (by decide) (by decide), xlay_lo h24.1 (by decide) (by decide), am_u1_at]
  have wd : ∀ w j : Int, 0 ≤ w → w ≠ S 1 → 0 ≤ j → j < 7 → xwd T w j = xwd S w j := by
    intro w j w0 wn j0 j7
    rw [← hS2]
    unfold xH
    rw [xlay_ne ⟨h24.1, by decide, by decide⟩ ⟨w0, j0, j7⟩ (Or.inl wn), xlay_ne ⟨h24.1, by decide, by decide⟩ ⟨w0, j0, j7⟩ (Or.inl wn), xlay_ne ⟨h24.1, by decide, by decide⟩ ⟨w0, j0, j7⟩ (Or.inl wn), xlay_ne ⟨h24.1, by decide, by decide⟩ ⟨w0, j0, j7⟩ (Or.inl wn)]
    unfold xwd
    exact am_u1_ne _ _ (by omega)
  have ne : ∀ (U : Nat → Int) (k x j : Int), 0 ≤ k → k < 7 → 0 ≤ j → j < 7 → j ≠ k → xwd (xlay U (S 1) k x) (S 1) j = xwd U (S 1) j := fun U k x j a b c d e => xlay_ne ⟨h24.1, a, b⟩ ⟨h24.1, c, d⟩ (Or.inr e)
  have t1 : xwd T (S 1) 1 = 2 := by rw [← hS2]; exact xlay_at
  have t6 : xwd T (S 1) 6 = 0 := by
    rw [← hS2, ne _ _ _ _ (by decide) (by decide) (by decide) (by decide) (by decide)]
    exact xlay_at
  have t0 : xwd T (S 1) 0 = v := by
    rw [← hS2, ne _ _ _ _ (by decide) (by decide) (by decide) (by decide) (by decide)]
    unfold xH
    rw [ne _ _ _ _ (by decide) (by decide) (by decide) (by decide) (by decide), ne _ _ _ _ (by decide) (by decide) (by decide) (by decide) (by decide), xlay_at]
  have r : ∀ j k, j ≠ 0 → j ≠ 9 → j ≠ 10 → j ≠ 11 → rd (yH M (S 1) v) j k = rd M j k := fun j k a b c d => congrFun (yH_row a b c d) _
  have rn : ∀ (j : Nat) (w : Int), j ≠ 0 → 0 ≤ w → w ≠ S 1 → rd (yH M (S 1) v) j w = rd M j w := by
    intro j w j0 w0 wn
    have e : ∀ (N : am_M) (b : Nat) (x : Int), rd (wr N b (S 1) x) j w = rd N j w := by
      intro N b x
      by_cases z : j = b
      · subst z
        exact rd_wri _ _ _ h24.1 w0 wn
      · exact rd_wrj _ _ _ _ z
    unfold yH
    rw [e, e, e]
    exact congrFun (am_u2_ne _ _ _ j0) _
  have m10 : rd (yH M (S 1) v) 10 (S 1) = -1 := by
    unfold yH
    rw [rd_wrj _ _ _ _ (by decide), rd_wr]
  have m11 : rd (yH M (S 1) v) 11 (S 1) = -1 := by
    unfold yH
    rw [rd_wr]
  have m9 : rd (yH M (S 1) v) 9 (S 1) = v := by
    unfold yH
    rw [rd_wrj _ _ _ _ (by decide), rd_wrj _ _ _ _ (by decide), rd_wr]
  have hWM : WM (yH M (S 1) v) := by
    unfold yH
    exact WM_wr (WM_wr (WM_wr (WM_0 hM (fun z => absurd z (by decide)) (fun _ => by omega)) (by decide) (by decide) (by omega) (by omega) (by omega) h24.1) (by decide) (by decide) (by omega) (by omega) (by omega) h24.1) (by decide) (by decide) (by omega) (by omega) (by omega) h24.1
  have hWX : WX T := by
    rw [← hS2]
    unfold xH
    exact WX_lay (WX_lay (WX_lay (WX_lay (WX_w1 hX hW) ⟨h24.1, hW⟩ (by decide) (by omega) (by omega)) ⟨h24.1, hW⟩ (by decide) (by omega) (by omega)) ⟨h24.1, hW⟩ (by decide) (by omega) (by omega)) ⟨h24.1, hW⟩ (by decide) (by omega) (by omega)
  have ch : ∀ c j : Int, 0 ≤ c → c < 8 → 0 ≤ j → j < 4 → xch T c j = xch S c j := fun c j a b d e => lo _ (by omega) (by omega)
  have go : ∀ f : Int, 0 ≤ f → f ≤ 2 → xgod T f = xgod S f := fun f a b => lo _ (by omega) (by omega)
  refine ⟨⟨⟨⟨hWM, hWX⟩, ⟨?_, ?_, ?_, ?_⟩, ⟨?_, ?_, ?_⟩, ?_, ?_⟩, ?_⟩, t1, by rw [m9, t0], l1, lo 0 (by decide) (by decide)⟩
  · unfold CLn at hn ⊢
    rw [yH_0 (by decide), yH_02, yH_0 (by decide), yH_0 (by decide), l1, lo 0 (by decide) (by decide), lo 2 (by decide) (by decide), lo 3 (by decide) (by decide)]
    exact ⟨⟨hn.1.1, rfl, hn.1.2.2⟩, hn.2⟩
  · refine ⟨by rw [yH_0 (by decide)]; exact hcc.1, fun a a0 a8 => ?_⟩
    rw [r 1 _ (by decide) (by decide) (by decide) (by decide), r 2 _ (by decide) (by decide) (by decide) (by decide), r 3 _ (by decide) (by decide) (by decide) (by decide), yH_0 (by decide), ch a 0 a0 a8 (by decide) (by decide), ch a 1 a0 a8 (by decide) (by decide), ch a 2 a0 a8 (by decide) (by decide), ch a 3 a0 a8 (by decide) (by decide), lo 0 (by decide) (by decide)]
    exact hcc.2 a a0 a8
  · intro f f0 f2
    rw [r 5 _ (by decide) (by decide) (by decide) (by decide), go f f0 f2, lo 0 (by decide) (by decide)]
    exact hff f f0 f2
  · intro a a0 a8 q b b0 b5
    have hf' := hX.2.2.2.1 a a0 a8
    rw [ch a 0 a0 a8 (by decide) (by decide), go _ hf'.1 hf'.2] at q
    rw [r 4 _ (by decide) (by decide) (by decide) (by decide)]
    exact hg a a0 a8 q b b0 b5
  · unfold CLw
    rw [l1, lo 0 (by decide) (by decide)]
    refine ⟨fun w w0 w1 => ?_, fun w w0 w1 => ?_⟩
    · by_cases wn : w = S 1
      · subst wn
        rw [t1, t6, r 13 _ (by decide) (by decide) (by decide) (by decide)]
        refine ⟨?_, fun z => absurd z (by decide), fun z => absurd rfl z, hcw.2 _ (by omega) hW⟩
        unfold yfate
        rw [m10, m11, if_pos rfl, if_pos rfl]
      · unfold yfate
        rw [rn 9 w (by decide) w0 wn, rn 10 w (by decide) w0 wn, rn 11 w (by decide) w0 wn, rn 12 w (by decide) w0 wn, rn 13 w (by decide) w0 wn, wd w 0 w0 wn (by decide) (by decide), wd w 1 w0 wn (by decide) (by decide), wd w 2 w0 wn (by decide) (by decide), wd w 3 w0 wn (by decide) (by decide), wd w 4 w0 wn (by decide) (by decide), wd w 6 w0 wn (by decide) (by decide)]
        exact hcw.1 w w0 (by omega)
    · rw [r 13 _ (by decide) (by decide) (by decide) (by decide)]
      exact hcw.2 w (by omega) w1
  · intro a b ha hb
    obtain ⟨k1, k2⟩ := hck a b ha hb
    rw [l1, r 4 _ (by decide) (by decide) (by decide) (by decide)]
    refine ⟨by omega, fun w w0 w1 => ?_⟩
    by_cases wn : w = S 1
    · subst wn
      exact ⟨fun z => absurd z.1 (by rw [t1]; decide), fun z => by omega⟩
    · unfold kat
      rw [wd w 1 w0 wn (by decide) (by decide), wd w 2 w0 wn (by decide) (by decide), wd w 3 w0 wn (by decide) (by decide)]
      exact k2 w w0 (by omega)
  · intro a b ha hb
    obtain ⟨k1, k2⟩ := hct a b ha hb
    rw [l1, r 6 _ (by decide) (by decide) (by decide) (by decide)]
    refine ⟨by omega, fun w w0 w1 => ?_⟩
    by_cases wn : w = S 1
    · subst wn
      exact ⟨fun z => absurd z.1 (by rw [t1]; decide), fun z => by omega⟩
    · unfold wat
      rw [wd w 1 w0 wn (by decide) (by decide), wd w 4 w0 wn (by decide) (by decide), wd w 3 w0 wn (by decide) (by decide)]
      exact k2 w w0 (by omega)
  · intro g hgg
    obtain ⟨a, b, c', d⟩ := hq g hgg
    have e7 : ∀ i, rd (yH M (S 1) v) 7 i = rd M 7 i := fun i => r 7 _ (by decide) (by decide) (by decide) (by decide)
    rw [r 8 _ (by decide) (by decide) (by decide) (by decide), l1]
    refine ⟨?_, fun i i0 i9 => ?_, fun w w0 w1 s1 s4 => ?_, fun i j i0 ij j9 => ?_⟩
    · rw [a]
      exact sumW_congr (fun k hk => by rw [r 6 _ (by decide) (by decide) (by decide) (by decide)])
    · obtain ⟨b1, b2, b3⟩ := b i i0 i9
      rw [e7, wd _ 1 b1.1 (by omega) (by decide) (by decide), wd _ 4 b1.1 (by omega) (by decide) (by decide)]
      exact ⟨by omega, b2, b3⟩
    · have wn : w ≠ S 1 := fun z => by rw [z, t1] at s1; omega
      rw [wd w 1 w0 wn (by decide) (by decide)] at s1
      rw [wd w 4 w0 wn (by decide) (by decide)] at s4
      obtain ⟨i, i0, i9, i2⟩ := c' w w0 (by omega) s1 s4
      exact ⟨i, i0, i9, by rw [e7]; exact i2⟩
    · have x1 := (b i i0 (by omega)).1
      have x2 := (b j (by omega) j9).1
      rw [e7, e7, wd _ 5 x1.1 (by omega) (by decide) (by decide), wd _ 5 x2.1 (by omega) (by decide) (by decide)]
      exact d i j i0 ij j9
  · intro w w0 w1 s1
    have wn : w ≠ S 1 := fun z => by rw [z, t1] at s1; omega
    rw [wd w 1 w0 wn (by decide) (by decide)] at s1
    rw [wd w 5 w0 wn (by decide) (by decide), lo 4 (by decide) (by decide)]
    exact hss w w0 (by omega) s1
  · intro w w0 w1 s1
    have wn : w ≠ S 1 := fun z => by rw [z, t1] at s1; omega
    rw [l1] at w1
    rw [wd w 1 w0 wn (by decide) (by decide)] at s1
    have hb := (hX.2.2.2.2 w w0 (by omega)).1
    have hgb := hX.2.2.1 _ hb.1 hb.2
    have old := hx w w0 (by omega) s1
    rw [wd w 4 w0 wn (by decide) (by decide), wd w 3 w0 wn (by decide) (by decide)]
    unfold xgu at old ⊢
    rw [go _ hb.1 hb.2]
    by_cases q : 0 ≤ xgod S (xwd S w 4)
    · rw [ch _ 3 q (by omega) (by decide) (by decide)]
      exact old
    · rw [decide_eq_false q, Bool.false_and] at old
      exact absurd old (by decide)
