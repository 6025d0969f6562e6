/-! ===== a godfather comes or goes; a chip dies ===== -/
theorem CX_god {M : am_M} {S : Nat → Int} (h : CX M S) {f v : Int} (hf : 0 ≤ f ∧ f ≤ 2) (hv : -1 ≤ v ∧ v < S 0) (hkn : 0 ≤ v → ∀ r : Int, 0 ≤ r → r ≤ 5 → rd M 4 (v * 6 + r) = -1) (hnw : ∀ w : Int, 0 ≤ w → w < S 1 → xwd S w 1 = 1 → xwd S w 4 ≠ f) : CX (wr M 5 f v) (am_u1 S (5 + f).toNat v) := by
  obtain ⟨⟨⟨hM, hX⟩, ⟨hn, hcc, hff, hg⟩, ⟨hcw, hck, hct⟩, hq, hss⟩, hx⟩ := h
  have h8 := hX.1
  have h24 := hX.2.1
  have r : ∀ j, j ≠ 5 → wr M 5 f v j = M j := fun j hj => wr_row _ _ _ hj
  have l : ∀ k : Nat, (k < 5 ∨ 8 ≤ k) → am_u1 S (5 + f).toNat v k = S k := fun k hk => am_u1_ne _ _ (by omega)
  have wd : ∀ w j : Int, 0 ≤ w → 0 ≤ j → xwd (am_u1 S (5 + f).toNat v) w j = xwd S w j := fun w j w0 j0 => l _ (by omega)
  have ch : ∀ c j : Int, 0 ≤ c → 0 ≤ j → xch (am_u1 S (5 + f).toNat v) c j = xch S c j := fun c j c0 j0 => l _ (by omega)
  have go : ∀ g : Int, 0 ≤ g → g ≤ 2 → xgod (am_u1 S (5 + f).toNat v) g = if g = f then v else xgod S g := by
    intro g g0 g2
    unfold xgod
    by_cases q : g = f
    · rw [if_pos q, q, am_u1_at]
    · rw [if_neg q, am_u1_ne _ _ (by omega)]
  have hX2 : WX (am_u1 S (5 + f).toNat v) := WX_god hX hf (by omega)
  refine ⟨⟨⟨WM_5 hM hf (by omega), hX2⟩, ⟨?_, ?_, ?_, ?_⟩, ⟨?_, ?_, ?_⟩, ?_, ?_⟩, ?_⟩
  · unfold CLn at hn ⊢
    rw [r 0 (by decide), l 0 (by omega), l 1 (by omega), l 2 (by omega), l 3 (by omega)]
    exact hn
  · refine ⟨by rw [r 0 (by decide)]; exact hcc.1, fun a a0 a8 => ?_⟩
    rw [ch a 0 a0 (by decide), ch a 1 a0 (by decide), ch a 2 a0 (by decide), ch a 3 a0 (by decide), l 0 (by omega), r 0 (by decide)]
    unfold rd
    rw [r 1 (by decide), r 2 (by decide), r 3 (by decide)]
    exact hcc.2 a a0 a8
  · intro g g0 g2
    rw [go g g0 g2, l 0 (by omega)]
    by_cases q : g = f
    · rw [if_pos q, q, rd_wr]
      exact ⟨rfl, hv.2⟩
    · rw [if_neg q, rd_wri _ _ _ hf.1 g0 q]
      exact hff g g0 g2
  · intro a a0 a8 q b b0 b5
    have hfa := hX.2.2.2.1 a a0 a8
    rw [ch a 0 a0 (by decide), go _ hfa.1 hfa.2] at q
    rw [rd_wrj _ _ _ _ (by decide)]
    by_cases z : xch S a 0 = f
    · rw [if_pos z] at q
      rw [← q]
      exact hkn (by omega) b b0 b5
    · rw [if_neg z] at q
      exact hg a a0 a8 q b b0 b5
  · unfold CLw at hcw ⊢
    rw [l 0 (by omega), l 1 (by omega)]
    refine ⟨fun w w0 w1 => ?_, fun w w0 w1 => ?_⟩
    · rw [wd w 0 w0 (by decide), wd w 1 w0 (by decide), wd w 2 w0 (by decide), wd w 3 w0 (by decide), wd w 4 w0 (by decide), wd w 6 w0 (by decide)]
      exact hcw.1 w w0 w1
    · exact hcw.2 w w0 w1
  · intro a b ha hb
    rw [l 1 (by omega), rd_wrj _ _ _ _ (by decide)]
    refine ⟨(hck a b ha hb).1, fun w w0 w1 => ?_⟩
    unfold kat
    rw [wd w 1 w0 (by decide), wd w 2 w0 (by decide), wd w 3 w0 (by decide)]
    exact (hck a b ha hb).2 w w0 w1
  · intro a b ha hb
    rw [l 1 (by omega), rd_wrj _ _ _ _ (by decide)]
    refine ⟨(hct a b ha hb).1, fun w w0 w1 => ?_⟩
    unfold wat
    rw [wd w 1 w0 (by decide), wd w 4 w0 (by decide), wd w 3 w0 (by decide)]
    exact (hct a b ha hb).2 w w0 w1
  · intro g hgg
    obtain ⟨a, b, c', d⟩ := hq g hgg
    have e8 : rd (wr M 5 f v) 8 g = rd M 8 g := rd_wrj _ _ _ _ (by decide)
    have e7 : ∀ i, rd (wr M 5 f v) 7 i = rd M 7 i := fun i => rd_wrj _ _ _ _ (by decide)
    have e6 : ∀ i, rd (wr M 5 f v) 6 i = rd M 6 i := fun i => rd_wrj _ _ _ _ (by decide)
    rw [e8, l 1 (by omega)]
    refine ⟨?_, fun i i0 i9 => ?_, fun w w0 w1 s1 s4 => ?_, fun i j i0 ij j9 => ?_⟩
    · rw [a]
      exact sumW_congr (fun k hk => by rw [e6])
    · have z := b i i0 i9
      rw [e7, wd _ 1 z.1.1 (by decide), wd _ 4 z.1.1 (by decide)]
      exact z
    · rw [wd w 1 w0 (by decide)] at s1
      rw [wd w 4 w0 (by decide)] at s4
      obtain ⟨i, i0, i9, i2⟩ := c' w w0 w1 s1 s4
      exact ⟨i, i0, i9, by rw [e7]; exact i2⟩
    · rw [e7, e7, wd _ 5 (b i i0 (by omega)).1.1 (by decide), wd _ 5 (b j (by omega) j9).1.1 (by decide)]
      exact d i j i0 ij j9
  · intro w w0 w1 s1
    rw [l 1 (by omega)] at w1
    rw [wd w 1 w0 (by decide)] at s1
    rw [wd w 5 w0 (by decide), l 4 (by omega)]
    exact hss w w0 w1 s1
  · intro w w0 w1 s1
    rw [l 1 (by omega)] at w1
    rw [wd w 1 w0 (by decide)] at s1
    have hb := (hX.2.2.2.2 w w0 (by omega)).1
    have hne := hnw w w0 w1 s1
    have hgd := hX.2.2.1 _ hb.1 hb.2
    have old := hx w w0 w1 s1
    rw [wd w 4 w0 (by decide), wd w 3 w0 (by decide)]
    unfold xgu at old ⊢
    rw [go _ hb.1 hb.2, if_neg hne]
    by_cases q : 0 ≤ xgod S (xwd S w 4)
    · rw [ch _ 3 q (by decide)]
      exact old
    · rw [decide_eq_false q, Bool.false_and] at old
      exact absurd old (by decide)
theorem am_u1_self (S : Nat → Int) (k : Nat) : am_u1 S k (S k) = S := by
  funext a
  unfold am_u1
  by_cases h : a = k
  · rw [if_pos h, h]
  · rw [if_neg h]
theorem ylvg_wr (M : am_M) (c f v : Int) : ylvg (wr M 5 f v) c = wr (ylvg M c) 5 f v := by
  funext a b
  unfold ylvg wr am_u2 am_u1
  by_cases h1 : a = 0
  · subst h1
    simp
  · by_cases h2 : a = 5
    · subst h2
      simp
    · simp [h1, h2]
theorem CX_kills {M : am_M} {S : Nat → Int} (h : CX M S) (c : Int) : (ydie M c).1 = (xkills S c).1 ∧ CX (ydie M c).2 (xkills S c).2 ∧ YD M c := by
  have hX := h.1.1.2
  have h8 := hX.1
  have e0 : M 0 0 = S 0 := h.1.2.1.1.1.1
  unfold ydie xkills YD
  rw [e0]
  by_cases q1 : 0 ≤ c ∧ c < S 0
  · have hc8 : 0 ≤ c ∧ c < 8 := by omega
    obtain ⟨z1, z2, z3, z4, z5⟩ := h.1.2.1.2.1.2 c hc8.1 hc8.2
    have hf := hX.2.2.2.1 c hc8.1 hc8.2
    have hgd := (h.1.2.1.2.2.1 _ hf.1 hf.2).1
    have hk := DL_of hc8
    rw [if_pos q1, if_pos (show 0 ≤ c ∧ c ≤ S 0 - 1 by omega), z3, z1, hgd]
    by_cases q2 : xch S c 2 = 1
    · rw [if_pos q2, if_pos q2]
      by_cases q3 : xgod S (xch S c 0) = c
      · -- the godfather
        obtain ⟨a1, a2, a3, a4, a5⟩ := CX_hrows h hc8 q3 6 (by decide)
        have hi : xisg S c = true := by unfold xisg; rw [q3]; exact beq_self_eq_true c
        have ek : xkillS S c = am_u1 (am_u1 (xkrows S c (xch S c 0) true 6) (5 + xch S c 0).toNat (-1)) (8 + 4 * c + 2).toNat 0 := by
          unfold xkillS
          rw [hi, if_pos rfl, dl_krows hk hX]
          exact dl_comm _ _ _ (by omega)
        have hg := CX_god a1 hf (v := -1) (by rw [a3 0 (by decide) (by decide)]; omega) (fun z => absurd z (by decide)) (fun w w0 w1 s1 s4 => by
          have hb := (a1.1.1.2.2.2.2.2 w w0 (by have := a1.1.1.2.2.1; omega)).2
          have hw9 := a5 (xwd (xkrows S c (xch S c 0) true 6) w 3).toNat (by omega)
          rw [show (((xwd (xkrows S c (xch S c 0) true 6) w 3).toNat : Nat) : Int) = xwd (xkrows S c (xch S c 0) true 6) w 3 by omega, CL_wait a1.1 hf hb] at hw9
          have := ((a1.1.2.2.1.2.2 _ _ hf hb).2 w w0 w1).mp ⟨s1, s4, rfl⟩
          omega)
        have hl := CX_live hg (c := c) (by rw [am_u1_ne _ _ (by omega), a3 0 (by decide) (by decide)]; exact q1)
        rw [if_pos q3, ek]
        refine ⟨?_, hl, fun _ _ => ⟨fun _ => fun n hn => a4 n hn, fun z => absurd q3 z⟩⟩
        have el : xlost (am_u1 (am_u1 (xkrows S c (xch S c 0) true 6) (5 + xch S c 0).toNat (-1)) (8 + 4 * c + 2).toNat 0) = xlost (xkrows S c (xch S c 0) true 6) := by
          rw [dl_lost hk]
          unfold xlost
          rw [am_u1_ne _ _ (show 1 ≠ (5 + xch S c 0).toNat by omega)]
          congr 1
          funext w
          unfold xwd
          rw [am_u1_ne _ _ (show (40 + 7 * (w : Int) + 1).toNat ≠ (5 + xch S c 0).toNat by omega)]
        dsimp only
        rw [el, a2]
        omega
      · obtain ⟨a1, a2, a3, a4⟩ := CX_rows h hc8 6 (by decide)
        have hi : xisg S c = false := by unfold xisg; exact beq_eq_false_iff_ne.mpr q3
        have ek : xkillS S c = am_u1 (xkrows S c (xch S c 0) false 6) (8 + 4 * c + 2).toNat 0 := by
          unfold xkillS
          rw [hi, if_neg (by decide), dl_krows hk hX]
          exact am_u1_self _ _
        have hl := CX_live a1 (c := c) (by rw [a3 0 (by decide) (by decide)]; exact q1)
        rw [if_neg q3, ek]
        refine ⟨?_, hl, fun _ _ => ⟨fun z => absurd z q3, fun _ => fun n hn => a4 n hn⟩⟩
        dsimp only
        rw [dl_lost hk, a2]
        omega
    · rw [if_neg q2, if_neg q2]
      exact ⟨rfl, h, fun _ z => absurd z q2⟩
  · rw [if_neg q1, if_neg (show ¬ (0 ≤ c ∧ c ≤ S 0 - 1) by omega)]
    exact ⟨rfl, h, fun z => absurd z q1⟩
