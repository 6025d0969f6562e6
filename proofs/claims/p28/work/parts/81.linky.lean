/-! ===== a chip is added ===== -/
theorem xaddc_c {S : Nat → Int} {f sp : Int} (h0 : 0 ≤ S 0) : xaddc S f sp 0 = S 0 + 1 ∧ (∀ k : Nat, k ≠ 0 → k < (8 + 4 * S 0).toNat ∨ (8 + 4 * S 0 + 3).toNat < k → xaddc S f sp k = S k) ∧ xch (xaddc S f sp) (S 0) 0 = f ∧ xch (xaddc S f sp) (S 0) 1 = sp ∧ xch (xaddc S f sp) (S 0) 2 = 1 ∧ xch (xaddc S f sp) (S 0) 3 = 0 := by
  unfold xaddc xch
  refine ⟨?_, fun k k0 hk => ?_, ?_, ?_, ?_, ?_⟩
  · rw [am_u1_at, am_u1_ne _ _ (by omega), am_u1_ne _ _ (by omega), am_u1_ne _ _ (by omega), am_u1_ne _ _ (by omega)]
  · rw [am_u1_ne _ _ (by omega), am_u1_ne _ _ (by omega), am_u1_ne _ _ (by omega), am_u1_ne _ _ (by omega), am_u1_ne _ _ (by omega)]
  · rw [am_u1_ne _ _ (by omega), am_u1_ne _ _ (by omega), am_u1_ne _ _ (by omega), am_u1_ne _ _ (by omega), Int.add_zero, am_u1_at]
  · rw [am_u1_ne _ _ (by omega), am_u1_ne _ _ (by omega), am_u1_ne _ _ (by omega), am_u1_at]
  · rw [am_u1_ne _ _ (by omega), am_u1_ne _ _ (by omega), am_u1_at]
  · rw [am_u1_ne _ _ (by omega), am_u1_at]
def yadN (M : am_M) (f sp : Int) : am_M := wr (wr (am_u2 (am_u2 M 0 0 (M 0 0 + 1)) 0 1 (am_or (M 0 1) (am_shl 1 (M 0 0)))) 1 (M 0 0) f) 3 (M 0 0) sp
theorem yadN_row {M : am_M} {f sp : Int} {j : Nat} (h0 : j ≠ 0) (h1 : j ≠ 1) (h3 : j ≠ 3) : yadN M f sp j = M j := by
  unfold yadN
  rw [wr_row _ _ _ h3, wr_row _ _ _ h1, am_u2_ne _ _ _ h0, am_u2_ne _ _ _ h0]
theorem yadN_0 {M : am_M} {f sp : Int} (k : Nat) : yadN M f sp 0 k = if k = 0 then M 0 0 + 1 else if k = 1 then am_or (M 0 1) (am_shl 1 (M 0 0)) else M 0 k := by
  unfold yadN
  rw [wr_row _ _ _ (by decide), wr_row _ _ _ (by decide)]
  by_cases q1 : k = 1
  · subst q1
    rw [am_u2_hit]
    rfl
  · rw [am_u2_rd _ _ (Or.inr q1)]
    by_cases q0 : k = 0
    · subst q0
      rw [am_u2_hit]
      rfl
    · rw [am_u2_rd _ _ (Or.inr q0), if_neg q0, if_neg q1]
theorem yadN_1 {M : am_M} {f sp : Int} (h0 : 0 ≤ M 0 0) {c : Int} (hc : 0 ≤ c) : rd (yadN M f sp) 1 c = (if c = M 0 0 then f else rd M 1 c) ∧ rd (yadN M f sp) 3 c = (if c = M 0 0 then sp else rd M 3 c) := by
  unfold yadN
  refine ⟨?_, ?_⟩
  · rw [rd_wrj _ _ _ _ (by decide)]
    by_cases q : c = M 0 0
    · rw [if_pos q, q, rd_wr]
    · rw [if_neg q, rd_wri _ _ _ h0 hc q]
      unfold rd
      rw [am_u2_ne _ _ _ (by decide), am_u2_ne _ _ _ (by decide)]
  · by_cases q : c = M 0 0
    · rw [if_pos q, q, rd_wr]
    · rw [if_neg q, rd_wri _ _ _ h0 hc q, rd_wrj _ _ _ _ (by decide)]
      unfold rd
      rw [am_u2_ne _ _ _ (by decide), am_u2_ne _ _ _ (by decide)]
theorem CX_add {M : am_M} {S : Nat → Int} (h : CX M S) {f sp : Int} (hf9 : 0 ≤ f ∧ f ≤ 2) (h8 : S 0 < 8) : CX (yadN M f sp) (xaddc S f sp) ∧ (CLy S → CLy (xaddc S f sp)) := by
  obtain ⟨⟨⟨hM, hX⟩, ⟨hn, hcc, hff, hg⟩, ⟨hcw, hck, hct⟩, hq, hss⟩, hx⟩ := h
  have h24 := hX.2.1
  have h0 : 0 ≤ S 0 := hX.1.1
  have e0 : M 0 0 = S 0 := hn.1.1
  obtain ⟨t0, t1, a0, a1, a2, a3⟩ := xaddc_c (f := f) (sp := sp) h0
  have r : ∀ j, j ≠ 0 → j ≠ 1 → j ≠ 3 → yadN M f sp j = M j := fun j a b c => yadN_row a b c
  have rr : ∀ j k, j ≠ 0 → j ≠ 1 → j ≠ 3 → rd (yadN M f sp) j k = rd M j k := fun j k a b c => congrFun (r j a b c) _
  have z : ∀ k, yadN M f sp 0 k = if k = 0 then M 0 0 + 1 else if k = 1 then am_or (M 0 1) (am_shl 1 (M 0 0)) else M 0 k := fun k => yadN_0 k
  have lo : ∀ k : Nat, k ≠ 0 → k < 8 → xaddc S f sp k = S k := fun k a b => t1 k a (by omega)
  have wd : ∀ w j : Int, 0 ≤ w → 0 ≤ j → xwd (xaddc S f sp) w j = xwd S w j := fun w j w0 j0 => t1 _ (by omega) (by omega)
  have ch : ∀ c j : Int, 0 ≤ c → c ≠ S 0 → 0 ≤ j → j < 4 → xch (xaddc S f sp) c j = xch S c j := fun c j c0 cn j0 j4 => t1 _ (by omega) (by omega)
  have go : ∀ g : Int, 0 ≤ g → g ≤ 2 → xgod (xaddc S f sp) g = xgod S g := fun g g0 g2 => lo _ (by omega) (by omega)
  have hX2 : WX (xaddc S f sp) := by
    refine ⟨by rw [t0]; omega, by rw [lo 1 (by decide) (by decide)]; exact h24, fun g g0 g2 => by rw [go g g0 g2]; exact hX.2.2.1 g g0 g2, fun a a0' a8 => ?_, fun w w0 w9 => by rw [wd w 4 w0 (by decide), wd w 3 w0 (by decide)]; exact hX.2.2.2.2 w w0 w9⟩
    by_cases q : a = S 0
    · rw [q, a0]; exact hf9
    · rw [ch a 0 a0' q (by decide) (by decide)]; exact hX.2.2.2.1 a a0' a8
  have hM2 : WM (yadN M f sp) := by
    obtain ⟨w0, w2, w1, w5, w8, w12, wb⟩ := hM
    refine ⟨by rw [z, if_pos rfl]; omega, by rw [z, if_neg (by decide), if_neg (by decide)]; exact w2, fun c c0 c8 => ?_, fun g g0 g2 => by rw [rr 5 _ (by decide) (by decide) (by decide)]; exact w5 g g0 g2, fun g g0 g2 => by rw [rr 8 _ (by decide) (by decide) (by decide)]; exact w8 g g0 g2, fun w u0 u9 => by rw [rr 12 _ (by decide) (by decide) (by decide), rr 11 _ (by decide) (by decide) (by decide)]; exact w12 w u0 u9, fun c c0 c8 => by rw [rr 2 _ (by decide) (by decide) (by decide)]; exact wb c c0 c8⟩
    rw [(yadN_1 (by omega) c0).1]
    split
    · exact hf9
    · exact w1 c c0 c8
  obtain ⟨b1, b2⟩ := bi_or8 hcc.1 (r := S 0) ⟨h0, h8⟩
  refine ⟨⟨⟨⟨hM2, hX2⟩, ⟨?_, ?_, ?_, ?_⟩, ⟨?_, ?_, ?_⟩, ?_, ?_⟩, ?_⟩, ?_⟩
  · unfold CLn at hn ⊢
    rw [z 0, z 2, z 3, z 4, t0, lo 1 (by decide) (by decide), lo 2 (by decide) (by decide), lo 3 (by decide) (by decide)]
    exact ⟨⟨by rw [if_pos rfl, e0], hn.1.2.1, hn.1.2.2.1, hn.1.2.2.2⟩, hn.2⟩
  · refine ⟨by rw [z 1, if_neg (by decide), if_pos rfl, e0]; exact b1, fun a a0' a8 => ?_⟩
    obtain ⟨z1, z2, z3, z4, z5⟩ := hcc.2 a a0' a8
    obtain ⟨y1, y3⟩ := yadN_1 (M := M) (f := f) (sp := sp) (by omega) a0'
    rw [y1, y3, z 1, if_neg (show ¬ (1 : Nat) = 0 by decide), if_pos (show (1 : Nat) = 1 from rfl), rr 2 _ (by decide) (by decide) (by decide), e0, b2 a a0' a8, t0]
    by_cases q : a = S 0
    · rw [if_pos q, if_pos q, if_pos q, q, a0, a1, a2, a3]
      rw [q] at z4 z5
      exact ⟨rfl, rfl, rfl, by rw [z4]; exact (z5 (by omega)).2, fun y => by omega⟩
    · rw [if_neg q, if_neg q, if_neg q, ch a 0 a0' q (by decide) (by decide), ch a 1 a0' q (by decide) (by decide), ch a 2 a0' q (by decide) (by decide), ch a 3 a0' q (by decide) (by decide)]
      exact ⟨z1, z2, z3, z4, fun y => z5 (by omega)⟩
  · intro g g0 g2
    have := hff g g0 g2
    rw [rr 5 _ (by decide) (by decide) (by decide), go g g0 g2, t0]
    exact ⟨this.1, by omega⟩
  · intro a a0' a8 q b b0 b5
    rw [rr 4 _ (by decide) (by decide) (by decide)]
    by_cases y : a = S 0
    · exfalso
      rw [y, a0, go f hf9.1 hf9.2] at q
      have := (hff f hf9.1 hf9.2).2
      omega
    · have hf' := hX.2.2.2.1 a a0' a8
      rw [ch a 0 a0' y (by decide) (by decide), go _ hf'.1 hf'.2] at q
      exact hg a a0' a8 q b b0 b5
  · unfold CLw at hcw ⊢
    rw [t0, lo 1 (by decide) (by decide)]
    refine ⟨fun w w0 w1 => ?_, fun w w0 w1 => ?_⟩
    · rw [wd w 0 w0 (by decide), wd w 1 w0 (by decide), wd w 2 w0 (by decide), wd w 3 w0 (by decide), wd w 4 w0 (by decide), wd w 6 w0 (by decide)]
      obtain ⟨c1, c2, c3, c4⟩ := hcw.1 w w0 w1
      have ef : yfate (yadN M f sp) w = yfate M w := by
        unfold yfate
        rw [rr 10 _ (by decide) (by decide) (by decide), rr 11 _ (by decide) (by decide) (by decide)]
      rw [ef, rr 9 _ (by decide) (by decide) (by decide), rr 10 _ (by decide) (by decide) (by decide), rr 11 _ (by decide) (by decide) (by decide), rr 12 _ (by decide) (by decide) (by decide), rr 13 _ (by decide) (by decide) (by decide)]
      exact ⟨c1, fun y => ⟨(c2 y).1, (c2 y).2.1, by have := (c2 y).2.2; omega⟩, c3, c4⟩
    · rw [rr 13 _ (by decide) (by decide) (by decide)]
      exact hcw.2 w w0 w1
  · intro a b ha hb
    rw [lo 1 (by decide) (by decide), rr 4 _ (by decide) (by decide) (by decide)]
    refine ⟨(hck a b ha hb).1, fun w w0 w1 => ?_⟩
    unfold kat
    rw [wd w 1 w0 (by decide), wd w 2 w0 (by decide), wd w 3 w0 (by decide)]
    exact (hck a b ha hb).2 w w0 w1
  · intro a b ha hb
    rw [lo 1 (by decide) (by decide), rr 6 _ (by decide) (by decide) (by decide)]
    refine ⟨(hct a b ha hb).1, fun w w0 w1 => ?_⟩
    unfold wat
    rw [wd w 1 w0 (by decide), wd w 4 w0 (by decide), wd w 3 w0 (by decide)]
    exact (hct a b ha hb).2 w w0 w1
  · intro g hgg
    obtain ⟨a, b, c', d⟩ := hq g hgg
    rw [rr 8 _ (by decide) (by decide) (by decide), lo 1 (by decide) (by decide)]
    refine ⟨?_, fun i i0 i9 => ?_, fun w w0 w1 s1 s4 => ?_, fun i j i0 ij j9 => ?_⟩
    · rw [a]
      exact sumW_congr (fun k hk => by rw [rr 6 _ (by decide) (by decide) (by decide)])
    · have z := b i i0 i9
      rw [rr 7 _ (by decide) (by decide) (by decide), wd _ 1 z.1.1 (by decide), wd _ 4 z.1.1 (by decide)]
      exact z
    · rw [wd w 1 w0 (by decide)] at s1
      rw [wd w 4 w0 (by decide)] at s4
      obtain ⟨i, i0, i9, i2⟩ := c' w w0 w1 s1 s4
      exact ⟨i, i0, i9, by rw [rr 7 _ (by decide) (by decide) (by decide)]; exact i2⟩
    · rw [rr 7 _ (by decide) (by decide) (by decide), rr 7 _ (by decide) (by decide) (by decide), wd _ 5 (b i i0 (by omega)).1.1 (by decide), wd _ 5 (b j (by omega) j9).1.1 (by decide)]
      exact d i j i0 ij j9
  · intro w w0 w1 s1
    rw [lo 1 (by decide) (by decide)] at w1
    rw [wd w 1 w0 (by decide)] at s1
    rw [wd w 5 w0 (by decide), lo 4 (by decide) (by decide)]
    exact hss w w0 w1 s1
  · intro w w0 w1 s1
    rw [lo 1 (by decide) (by decide)] at w1
    rw [wd w 1 w0 (by decide)] at s1
    have hb := (hX.2.2.2.2 w w0 (by omega)).1
    have old := hx w w0 w1 s1
    rw [wd w 4 w0 (by decide), wd w 3 w0 (by decide)]
    unfold xgu at old ⊢
    rw [go _ hb.1 hb.2]
    by_cases q : 0 ≤ xgod S (xwd S w 4)
    · have := (hff _ hb.1 hb.2).2
      rw [ch _ 3 q (by omega) (by decide) (by decide)]
      exact old
    · rw [decide_eq_false q, Bool.false_and] at old
      exact absurd old (by decide)
  · intro hy g g0 g2 y0
    rw [go g g0 g2] at y0 ⊢
    have := (hff g g0 g2).2
    rw [ch _ 0 y0 (by omega) (by decide) (by decide)]
    exact hy g g0 g2 y0
theorem CX_chip {M : am_M} {S : Nat → Int} (h : CX M S) (f sp : Int) : yadR M f sp = xchipR S f sp ∧ CX (yadM M f sp) (xchipS S f sp) ∧ (CLy S → CLy (xchipS S f sp)) := by
  have h8 := h.1.1.2.1
  have e0 : M 0 0 = S 0 := h.1.2.1.1.1.1
  unfold yadR yadM xchipR xchipS
  by_cases q1 : 0 ≤ f ∧ f ≤ 2
  · rw [if_pos q1, if_pos q1, if_pos q1, if_pos q1]
    by_cases q2 : 0 ≤ sp ∧ sp ≤ 2
    · rw [if_neg (show ¬ sp < 0 by omega), if_neg (show ¬ sp < 0 by omega), if_pos q2, if_pos q2, if_pos q2.2, if_pos q2.2, e0]
      by_cases q3 : S 0 = 8
      · rw [if_neg (show ¬ S 0 < 8 by omega), if_neg (show ¬ S 0 < 8 by omega), if_pos q3, if_pos q3]
        exact ⟨rfl, h, fun y => y⟩
      · rw [if_pos (show S 0 < 8 by omega), if_pos (show S 0 < 8 by omega), if_neg q3, if_neg q3]
        have := CX_add (sp := sp) h q1 (by omega)
        unfold yadN at this
        rw [e0] at this
        exact ⟨rfl, this⟩
    · rw [if_neg q2, if_neg q2]
      by_cases q4 : sp < 0
      · rw [if_pos q4, if_pos q4]
        exact ⟨rfl, h, fun y => y⟩
      · rw [if_neg q4, if_neg q4, if_neg (show ¬ sp ≤ 2 by omega), if_neg (show ¬ sp ≤ 2 by omega)]
        exact ⟨rfl, h, fun y => y⟩
  · rw [if_neg q1, if_neg q1, if_neg q1, if_neg q1]
    exact ⟨rfl, h, fun y => y⟩
