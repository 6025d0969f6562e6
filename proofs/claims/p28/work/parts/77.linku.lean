/-! ===== one more is raised; chipFor by what it reads ===== -/
theorem ybest_congr {M N : am_M} (h1 : N 1 = M 1) (hp : ∀ c : Int, yps N c = yps M c) (f lo : Int) (n : Nat) : ybest N f lo n = ybest M f lo n := by
  have hr : ∀ c, yrk N f c = yrk M f c := fun c => by
    unfold yrk rd
    rw [hp, h1]
  induction n with
  | zero => rfl
  | succ n ih =>
    simp only [ybest]
    rw [ih, hr]
theorem ychf_congr {M N : am_M} (h0 : N 0 0 = M 0 0) (h1 : N 1 = M 1) (hp : ∀ c : Int, yps N c = yps M c) (f lo : Int) : ychf N f lo = ychf M f lo := by
  unfold ychf
  rw [h0, ybest_congr h1 hp]
theorem CX_n3 {M : am_M} {S : Nat → Int} (h : CX M S) : CX (am_u2 M 0 4 (M 0 4 + 1)) (am_u1 S 3 (S 3 + 1)) := by
  obtain ⟨⟨⟨hM, hX⟩, ⟨hn, hcc, hff, hg⟩, ⟨hcw, hck, hct⟩, hq, hss⟩, hx⟩ := h
  have h24 := hX.2.1
  have r : ∀ j, j ≠ 0 → am_u2 M 0 4 (M 0 4 + 1) j = M j := fun j hj => am_u2_ne _ _ _ hj
  have rr : ∀ j k, j ≠ 0 → rd (am_u2 M 0 4 (M 0 4 + 1)) j k = rd M j k := fun j k hj => congrFun (r j hj) _
  have r0 : ∀ k, k ≠ 4 → am_u2 M 0 4 (M 0 4 + 1) 0 k = M 0 k := fun k hk => am_u2_rd _ _ (Or.inr hk)
  have l : ∀ k : Nat, k ≠ 3 → am_u1 S 3 (S 3 + 1) k = S k := fun k hk => am_u1_ne _ _ hk
  have wd : ∀ w j : Int, 0 ≤ w → 0 ≤ j → xwd (am_u1 S 3 (S 3 + 1)) w j = xwd S w j := fun w j w0 j0 => l _ (by omega)
  have ch : ∀ c j : Int, 0 ≤ c → 0 ≤ j → xch (am_u1 S 3 (S 3 + 1)) c j = xch S c j := fun c j c0 j0 => l _ (by omega)
  have go : ∀ f : Int, 0 ≤ f → xgod (am_u1 S 3 (S 3 + 1)) f = xgod S f := fun f f0 => l _ (by omega)
  have hX2 : WX (am_u1 S 3 (S 3 + 1)) := by
    refine ⟨by rw [l 0 (by decide)]; exact hX.1, by rw [l 1 (by decide)]; exact h24, fun f f0 f2 => by rw [go f f0]; exact hX.2.2.1 f f0 f2, fun a a0 a8 => by rw [ch a 0 a0 (by decide)]; exact hX.2.2.2.1 a a0 a8, fun w w0 w9 => by rw [wd w 4 w0 (by decide), wd w 3 w0 (by decide)]; exact hX.2.2.2.2 w w0 w9⟩
  refine ⟨⟨⟨WM_0 hM (fun z => absurd z (by decide)) (fun z => absurd z (by decide)), hX2⟩, ⟨?_, ?_, ?_, ?_⟩, ⟨?_, ?_, ?_⟩, ?_, ?_⟩, ?_⟩
  · unfold CLn at hn ⊢
    rw [r0 0 (by decide), r0 2 (by decide), r0 3 (by decide), am_u2_hit, l 0 (by decide), l 1 (by decide), l 2 (by decide), am_u1_at, hn.1.2.2.2]
    exact ⟨⟨hn.1.1, hn.1.2.1, hn.1.2.2.1, rfl⟩, hn.2⟩
  · refine ⟨by rw [r0 1 (by decide)]; exact hcc.1, fun a a0 a8 => ?_⟩
    rw [rr 1 _ (by decide), rr 2 _ (by decide), rr 3 _ (by decide), r0 1 (by decide), ch a 0 a0 (by decide), ch a 1 a0 (by decide), ch a 2 a0 (by decide), ch a 3 a0 (by decide), l 0 (by decide)]
    exact hcc.2 a a0 a8
  · intro f f0 f2
    rw [rr 5 _ (by decide), go f f0, l 0 (by decide)]
    exact hff f f0 f2
  · intro a a0 a8 q b b0 b5
    have hf' := hX.2.2.2.1 a a0 a8
    rw [ch a 0 a0 (by decide), go _ hf'.1] at q
    rw [rr 4 _ (by decide)]
    exact hg a a0 a8 q b b0 b5
  · unfold CLw at hcw ⊢
    rw [l 0 (by decide), l 1 (by decide)]
    refine ⟨fun w w0 w1 => ?_, fun w w0 w1 => ?_⟩
    · rw [wd w 0 w0 (by decide), wd w 1 w0 (by decide), wd w 2 w0 (by decide), wd w 3 w0 (by decide), wd w 4 w0 (by decide), wd w 6 w0 (by decide)]
      exact hcw.1 w w0 w1
    · exact hcw.2 w w0 w1
  · intro a b ha hb
    rw [l 1 (by decide), rr 4 _ (by decide)]
    refine ⟨(hck a b ha hb).1, fun w w0 w1 => ?_⟩
    unfold kat
    rw [wd w 1 w0 (by decide), wd w 2 w0 (by decide), wd w 3 w0 (by decide)]
    exact (hck a b ha hb).2 w w0 w1
  · intro a b ha hb
    rw [l 1 (by decide), rr 6 _ (by decide)]
    refine ⟨(hct a b ha hb).1, fun w w0 w1 => ?_⟩
    unfold wat
    rw [wd w 1 w0 (by decide), wd w 4 w0 (by decide), wd w 3 w0 (by decide)]
    exact (hct a b ha hb).2 w w0 w1
  · intro g hgg
    obtain ⟨a, b, c', d⟩ := hq g hgg
    rw [rr 8 _ (by decide), l 1 (by decide)]
    refine ⟨?_, fun i i0 i9 => ?_, fun w w0 w1 s1 s4 => ?_, fun i j i0 ij j9 => ?_⟩
    · rw [a]
      exact sumW_congr (fun k hk => by rw [rr 6 _ (by decide)])
    · have z := b i i0 i9
      rw [rr 7 _ (by decide), wd _ 1 z.1.1 (by decide), wd _ 4 z.1.1 (by decide)]
      exact z
    · rw [wd w 1 w0 (by decide)] at s1
      rw [wd w 4 w0 (by decide)] at s4
      obtain ⟨i, i0, i9, i2⟩ := c' w w0 w1 s1 s4
      exact ⟨i, i0, i9, by rw [rr 7 _ (by decide)]; exact i2⟩
    · rw [rr 7 _ (by decide), rr 7 _ (by decide), wd _ 5 (b i i0 (by omega)).1.1 (by decide), wd _ 5 (b j (by omega) j9).1.1 (by decide)]
      exact d i j i0 ij j9
  · intro w w0 w1 s1
    rw [l 1 (by decide)] at w1
    rw [wd w 1 w0 (by decide)] at s1
    rw [wd w 5 w0 (by decide), l 4 (by decide)]
    exact hss w w0 w1 s1
  · intro w w0 w1 s1
    rw [l 1 (by decide)] at w1
    rw [wd w 1 w0 (by decide)] at s1
    have hb := (hX.2.2.2.2 w w0 (by omega)).1
    have old := hx w w0 w1 s1
    rw [wd w 4 w0 (by decide), wd w 3 w0 (by decide)]
    unfold xgu at old ⊢
    rw [go _ hb.1]
    by_cases q : 0 ≤ xgod S (xwd S w 4)
    · rw [ch _ 3 q (by decide)]
      exact old
    · rw [decide_eq_false q, Bool.false_and] at old
      exact absurd old (by decide)
