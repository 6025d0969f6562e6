/-! ===== a row breaks ===== -/
def xbc (S : Nat → Int) (c r : Int) : Nat → Int := am_u1 (am_u1 S (8 + 4 * c + 1).toNat (xch S c 1 - (if xch S c 1 ≤ 0 then 0 else 1))) (8 + 4 * c + 3).toNat (am_or (xch S c 3) (if xch S c 1 ≤ 0 then am_shl 1 r else 0))
theorem xbc_l (S : Nat → Int) {c r : Int} (hc : 0 ≤ c ∧ c < 8) {k : Nat} (hk : k < 8 ∨ 40 ≤ k) : xbc S c r k = S k := by
  unfold xbc
  rw [am_u1_ne _ _ (by omega), am_u1_ne _ _ (by omega)]
theorem xbc_ch (S : Nat → Int) {c r a j : Int} (hc : 0 ≤ c ∧ c < 8) (ha : 0 ≤ a) (hj : 0 ≤ j ∧ j < 4) (hne : a ≠ c ∨ j = 0 ∨ j = 2) : xch (xbc S c r) a j = xch S a j := by
  unfold xbc xch
  rw [am_u1_ne _ _ (by omega), am_u1_ne _ _ (by omega)]
theorem xbc_1 (S : Nat → Int) {c r : Int} (hc : 0 ≤ c ∧ c < 8) : xch (xbc S c r) c 1 = xch S c 1 - (if xch S c 1 ≤ 0 then 0 else 1) := by
  unfold xbc
  show am_u1 _ _ _ (8 + 4 * c + 1).toNat = _
  rw [am_u1_ne _ _ (by omega), am_u1_at]
theorem xbc_3 (S : Nat → Int) {c r : Int} : xch (xbc S c r) c 3 = am_or (xch S c 3) (if xch S c 1 ≤ 0 then am_shl 1 r else 0) := am_u1_at _ _ _
theorem ybr0_row {M : am_M} {c r : Int} {j : Nat} (h2 : j ≠ 2) (h3 : j ≠ 3) : ybr0 M c r j = M j := by
  unfold ybr0
  split
  · exact wr_row _ _ _ h2
  · exact wr_row _ _ _ h3
theorem CL_cell {M : am_M} {S : Nat → Int} (h : CL M S) {c r : Int} (hc : 0 ≤ c ∧ c < S 0) (hr : 0 ≤ r ∧ r ≤ 5) : CL (ybr0 M c r) (xbc S c r) := by
  obtain ⟨⟨hM, hX⟩, ⟨hn, hcc, hff, hg⟩, ⟨hcw, hck, hct⟩, hq, hss⟩ := h
  have h8 := hX.1
  have h24 := hX.2.1
  have hc8 : 0 ≤ c ∧ c < 8 := by omega
  have r' : ∀ j, j ≠ 2 → j ≠ 3 → ybr0 M c r j = M j := fun j a b => ybr0_row a b
  have rr : ∀ j k, j ≠ 2 → j ≠ 3 → rd (ybr0 M c r) j k = rd M j k := fun j k a b => congrFun (r' j a b) _
  have l : ∀ k : Nat, (k < 8 ∨ 40 ≤ k) → xbc S c r k = S k := fun k hk => xbc_l S hc8 hk
  have wd : ∀ w j : Int, 0 ≤ w → 0 ≤ j → xwd (xbc S c r) w j = xwd S w j := fun w j w0 j0 => l _ (by omega)
  have go : ∀ g : Int, 0 ≤ g → g ≤ 2 → xgod (xbc S c r) g = xgod S g := fun g g0 g2 => l _ (by omega)
  obtain ⟨z1, z2, z3, z4, z5⟩ := hcc.2 c hc8.1 hc8.2
  have hX2 : WX (xbc S c r) := by
    refine ⟨by rw [l 0 (by omega)]; exact h8, by rw [l 1 (by omega)]; exact h24, fun f f0 f2 => by rw [go f f0 f2]; exact hX.2.2.1 f f0 f2, fun a a0 a8 => by rw [xbc_ch S hc8 a0 (by decide) (by omega)]; exact hX.2.2.2.1 a a0 a8, fun w w0 w9 => by rw [wd w 4 w0 (by decide), wd w 3 w0 (by decide)]; exact hX.2.2.2.2 w w0 w9⟩
  refine ⟨⟨WM_br0 hM hc8 hr, hX2⟩, ⟨?_, ?_, ?_, ?_⟩, ⟨?_, ?_, ?_⟩, ?_, ?_⟩
  · unfold CLn at hn ⊢
    rw [r' 0 (by decide) (by decide), l 0 (by omega), l 1 (by omega), l 2 (by omega), l 3 (by omega)]
    exact hn
  · refine ⟨by rw [r' 0 (by decide) (by decide)]; exact hcc.1, fun a a0 a8 => ?_⟩
    obtain ⟨y1, y2, y3, y4, y5⟩ := hcc.2 a a0 a8
    rw [rr 1 a (by decide) (by decide), r' 0 (by decide) (by decide), xbc_ch S hc8 a0 (by decide) (Or.inr (Or.inl rfl)), xbc_ch S hc8 a0 (by decide) (Or.inr (Or.inr rfl)), l 0 (by omega)]
    by_cases ac : a = c
    · subst ac
      rw [xbc_1 S hc8, xbc_3 S]
      unfold ybr0
      rw [y2, y4]
      by_cases q : xch S a 1 ≤ 0
      · rw [if_pos q, if_pos q, if_pos q, rd_wrj _ _ _ _ (by decide), rd_wr]
        exact ⟨y1, by omega, y3, rfl, fun z => by omega⟩
      · rw [if_neg q, if_neg q, if_neg q, rd_wr, rd_wrj _ _ _ _ (by decide), am_or_0 (by rw [← y4]; have := hM.2.2.2.2.2.2 a a0 a8; exact ⟨by omega, by omega⟩)]
        exact ⟨y1, by omega, y3, y4, fun z => by omega⟩
    · rw [xbc_ch S hc8 a0 (by decide) (Or.inl ac), xbc_ch S hc8 a0 (by decide) (Or.inl ac)]
      have e2 : rd (ybr0 M c r) 2 a = rd M 2 a := by
        unfold ybr0
        split
        · exact rd_wri _ _ _ hc8.1 a0 ac
        · exact rd_wrj _ _ _ _ (by decide)
      have e3 : rd (ybr0 M c r) 3 a = rd M 3 a := by
        unfold ybr0
        split
        · exact rd_wrj _ _ _ _ (by decide)
        · exact rd_wri _ _ _ hc8.1 a0 ac
      rw [e2, e3]
      exact ⟨y1, y2, y3, y4, y5⟩
  · intro g g0 g2
    rw [go g g0 g2, l 0 (by omega), rr 5 g (by decide) (by decide)]
    exact hff g g0 g2
  · intro a a0 a8 q b b0 b5
    have hfa := hX.2.2.2.1 a a0 a8
    rw [xbc_ch S hc8 a0 (by decide) (Or.inr (Or.inl rfl)), go _ hfa.1 hfa.2] at q
    rw [rr 4 _ (by decide) (by decide)]
    exact hg a a0 a8 q b b0 b5
  · unfold CLw at hcw ⊢
    rw [l 0 (by omega), l 1 (by omega)]
    refine ⟨fun w w0 w1 => ?_, fun w w0 w1 => ?_⟩
    · rw [wd w 0 w0 (by decide), wd w 1 w0 (by decide), wd w 2 w0 (by decide), wd w 3 w0 (by decide), wd w 4 w0 (by decide), wd w 6 w0 (by decide)]
      unfold yfate
      rw [rr 9 _ (by decide) (by decide), rr 10 _ (by decide) (by decide), rr 11 _ (by decide) (by decide), rr 12 _ (by decide) (by decide), rr 13 _ (by decide) (by decide)]
      exact hcw.1 w w0 w1
    · rw [rr 13 _ (by decide) (by decide)]
      exact hcw.2 w w0 w1
  · intro a b ha hb
    rw [l 1 (by omega), rr 4 _ (by decide) (by decide)]
    refine ⟨(hck a b ha hb).1, fun w w0 w1 => ?_⟩
    unfold kat
    rw [wd w 1 w0 (by decide), wd w 2 w0 (by decide), wd w 3 w0 (by decide)]
    exact (hck a b ha hb).2 w w0 w1
  · intro a b ha hb
    rw [l 1 (by omega), rr 6 _ (by decide) (by decide)]
    refine ⟨(hct a b ha hb).1, fun w w0 w1 => ?_⟩
    unfold wat
    rw [wd w 1 w0 (by decide), wd w 4 w0 (by decide), wd w 3 w0 (by decide)]
    exact (hct a b ha hb).2 w w0 w1
  · intro g hgg
    obtain ⟨a, b, c', d⟩ := hq g hgg
    rw [rr 8 _ (by decide) (by decide), l 1 (by omega)]
    refine ⟨?_, fun i i0 i9 => ?_, fun w w0 w1 s1 s4 => ?_, fun i j i0 ij j9 => ?_⟩
    · rw [a]
      exact sumW_congr (fun k hk => by rw [rr 6 _ (by decide) (by decide)])
    · have z := b i i0 i9
      rw [rr 7 _ (by decide) (by decide), wd _ 1 z.1.1 (by decide), wd _ 4 z.1.1 (by decide)]
      exact z
    · rw [wd w 1 w0 (by decide)] at s1
      rw [wd w 4 w0 (by decide)] at s4
      obtain ⟨i, i0, i9, i2⟩ := c' w w0 w1 s1 s4
      exact ⟨i, i0, i9, by rw [rr 7 _ (by decide) (by decide)]; exact i2⟩
    · rw [rr 7 _ (by decide) (by decide), rr 7 _ (by decide) (by decide), wd _ 5 (b i i0 (by omega)).1.1 (by decide), wd _ 5 (b j (by omega) j9).1.1 (by decide)]
      exact d i j i0 ij j9
  · intro w w0 w1 s1
    rw [l 1 (by omega)] at w1
    rw [wd w 1 w0 (by decide)] at s1
    rw [wd w 5 w0 (by decide), l 4 (by omega)]
    exact hss w w0 w1 s1
