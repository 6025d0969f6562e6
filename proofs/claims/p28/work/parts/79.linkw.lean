/-! ===== ticks: the time is read by none of them ===== -/
theorem CX_n2 {M : am_M} {S : Nat → Int} (h : CX M S) {x : Int} (hx9 : 0 ≤ x ∧ x ≤ 100000) : CX (am_u2 M 0 3 x) (am_u1 S 2 x) := by
  obtain ⟨⟨⟨hM, hX⟩, ⟨hn, hcc, hff, hg⟩, ⟨hcw, hck, hct⟩, hq, hss⟩, hx⟩ := h
  have h24 := hX.2.1
  have r : ∀ j, j ≠ 0 → am_u2 M 0 3 x j = M j := fun j hj => am_u2_ne _ _ _ hj
  have rr : ∀ j k, j ≠ 0 → rd (am_u2 M 0 3 x) j k = rd M j k := fun j k hj => congrFun (r j hj) _
  have r0 : ∀ k, k ≠ 3 → am_u2 M 0 3 x 0 k = M 0 k := fun k hk => am_u2_rd _ _ (Or.inr hk)
  have l : ∀ k : Nat, k ≠ 2 → am_u1 S 2 x k = S k := fun k hk => am_u1_ne _ _ hk
  have wd : ∀ w j : Int, 0 ≤ w → 0 ≤ j → xwd (am_u1 S 2 x) w j = xwd S w j := fun w j w0 j0 => l _ (by omega)
  have ch : ∀ c j : Int, 0 ≤ c → 0 ≤ j → xch (am_u1 S 2 x) c j = xch S c j := fun c j c0 j0 => l _ (by omega)
  have go : ∀ f : Int, 0 ≤ f → xgod (am_u1 S 2 x) f = xgod S f := fun f f0 => l _ (by omega)
  have hX2 : WX (am_u1 S 2 x) := by
    refine ⟨by rw [l 0 (by decide)]; exact hX.1, by rw [l 1 (by decide)]; exact h24, fun f f0 f2 => by rw [go f f0]; exact hX.2.2.1 f f0 f2, fun a a0 a8 => by rw [ch a 0 a0 (by decide)]; exact hX.2.2.2.1 a a0 a8, fun w w0 w9 => by rw [wd w 4 w0 (by decide), wd w 3 w0 (by decide)]; exact hX.2.2.2.2 w w0 w9⟩
  refine ⟨⟨⟨WM_0 hM (fun z => absurd z (by decide)) (fun z => absurd z (by decide)), hX2⟩, ⟨?_, ?_, ?_, ?_⟩, ⟨?_, ?_, ?_⟩, ?_, ?_⟩, ?_⟩
  · unfold CLn at hn ⊢
    rw [r0 0 (by decide), r0 2 (by decide), r0 4 (by decide), am_u2_hit, l 0 (by decide), l 1 (by decide), l 3 (by decide), am_u1_at]
    exact ⟨⟨hn.1.1, hn.1.2.1, rfl, hn.1.2.2.2⟩, hx9⟩
  · refine ⟨by rw [r0 1 (by decide)]; exact hcc.1, fun a a0 a8 => ?_⟩
    rw [rr 1 _ (by decide), rr 2 _ (by decide), rr 3 _ (by decide), r0 1 (by decide), ch a 0 a0 (by decide), ch a 1 a0 (by decide), ch a 2 a0 (by decide), ch a 3 a0 (by decide), l 0 (by decide)]
    exact hcc.2 a a0 a8
  · intro f f0 f2
    rw [rr 5 _ (by decide), go f f0, l 0 (by decide)]
    exact hff f f0 f2
  · intro a a0 a8 q b b0 b5
    have hf' := hX.2.2.2.1 a a0 a8
    rw [ch a 0 a0 (by decide), go _ hf'.1] at q
    rw [rr 4 _ (by decide)]
    exact hg a a0 a8 q b b0 b5
  · unfold CLw at hcw ⊢
    rw [l 0 (by decide), l 1 (by decide)]
    refine ⟨fun w w0 w1 => ?_, fun w w0 w1 => ?_⟩
    · rw [wd w 0 w0 (by decide), wd w 1 w0 (by decide), wd w 2 w0 (by decide), wd w 3 w0 (by decide), wd w 4 w0 (by decide), wd w 6 w0 (by decide)]
      exact hcw.1 w w0 w1
    · exact hcw.2 w w0 w1
  · intro a b ha hb
    rw [l 1 (by decide), rr 4 _ (by decide)]
    refine ⟨(hck a b ha hb).1, fun w w0 w1 => ?_⟩
    unfold kat
    rw [wd w 1 w0 (by decide), wd w 2 w0 (by decide), wd w 3 w0 (by decide)]
    exact (hck a b ha hb).2 w w0 w1
  · intro a b ha hb
    rw [l 1 (by decide), rr 6 _ (by decide)]
    refine ⟨(hct a b ha hb).1, fun w w0 w1 => ?_⟩
    unfold wat
    rw [wd w 1 w0 (by decide), wd w 4 w0 (by decide), wd w 3 w0 (by decide)]
    exact (hct a b ha hb).2 w w0 w1
  · intro g hgg
    obtain ⟨a, b, c', d⟩ := hq g hgg
    rw [rr 8 _ (by decide), l 1 (by decide)]
    refine ⟨?_, fun i i0 i9 => ?_, fun w w0 w1 s1 s4 => ?_, fun i j i0 ij j9 => ?_⟩
    · rw [a]
      exact sumW_congr (fun k hk => by rw [rr 6 _ (by decide)])
    · have z := b i i0 i9
      rw [rr 7 _ (by decide), wd _ 1 z.1.1 (by decide), wd _ 4 z.1.1 (by decide)]
      exact z
    · rw [wd w 1 w0 (by decide)] at s1
      rw [wd w 4 w0 (by decide)] at s4
      obtain ⟨i, i0, i9, i2⟩ := c' w w0 w1 s1 s4
      exact ⟨i, i0, i9, by rw [rr 7 _ (by decide)]; exact i2⟩
    · rw [rr 7 _ (by decide), rr 7 _ (by decide), wd _ 5 (b i i0 (by omega)).1.1 (by decide), wd _ 5 (b j (by omega) j9).1.1 (by decide)]
      exact d i j i0 ij j9
  · intro w w0 w1 s1
    rw [l 1 (by decide)] at w1
    rw [wd w 1 w0 (by decide)] at s1
    rw [wd w 5 w0 (by decide), l 4 (by decide)]
    exact hss w w0 w1 s1
  · intro w w0 w1 s1
    rw [l 1 (by decide)] at w1
    rw [wd w 1 w0 (by decide)] at s1
    have hb := (hX.2.2.2.2 w w0 (by omega)).1
    have old := hx w w0 w1 s1
    rw [wd w 4 w0 (by decide), wd w 3 w0 (by decide)]
    unfold xgu at old ⊢
    rw [go _ hb.1]
    by_cases q : 0 ≤ xgod S (xwd S w 4)
    · rw [ch _ 3 q (by decide)]
      exact old
    · rw [decide_eq_false q, Bool.false_and] at old
      exact absurd old (by decide)

section TM
variable {S : Nat → Int} {x : Int}
theorem tm_lo {k : Nat} (hk : k ≠ 2) : am_u1 S 2 x k = S k := am_u1_ne _ _ hk
theorem tm_wd {v j : Int} (hv : 0 ≤ v) (hj : 0 ≤ j) : xwd (am_u1 S 2 x) v j = xwd S v j := am_u1_ne _ _ (by omega)
theorem tm_ch {c j : Int} (hc : 0 ≤ c) (hj : 0 ≤ j) : xch (am_u1 S 2 x) c j = xch S c j := am_u1_ne _ _ (by omega)
theorem tm_god {f : Int} (hf : 0 ≤ f) : xgod (am_u1 S 2 x) f = xgod S f := am_u1_ne _ _ (by omega)
theorem tm_kept (c r : Int) : xkept (am_u1 S 2 x) c r = xkept S c r := by
  unfold xkept
  rw [tm_lo (by decide)]
  congr 1
  funext w
  rw [tm_wd (by omega) (by decide), tm_wd (by omega) (by decide), tm_wd (by omega) (by decide)]
theorem tm_wait (c r : Int) : xwait (am_u1 S 2 x) c r = xwait S c r := by
  unfold xwait
  rw [tm_lo (by decide)]
  congr 1
  funext w
  rw [tm_wd (by omega) (by decide), tm_wd (by omega) (by decide), tm_wd (by omega) (by decide)]
theorem tm_pl (hX : WX S) {c : Int} (hc : 0 ≤ c ∧ c < 8) (r : Int) : xpl (am_u1 S 2 x) c r = xpl S c r := by
  have hf := hX.2.2.2.1 c hc.1 hc.2
  unfold xpl xisg
  rw [tm_ch hc.1 (by decide), tm_ch hc.1 (by decide), tm_ch hc.1 (by decide), tm_god hf.1, tm_kept, tm_wait]
theorem tm_pls (hX : WX S) {c : Int} (hc : 0 ≤ c ∧ c < 8) : xpls (am_u1 S 2 x) c = xpls S c := by
  unfold xpls
  congr 1
  funext r
  exact tm_pl hX hc r
theorem tm_low (hX : WX S) {c : Int} (hc : 0 ≤ c ∧ c < 8) : xlow (am_u1 S 2 x) c = xlow S c := by
  unfold xlow
  congr 1
  funext r
  exact tm_pl hX hc r
theorem tm_best (hX : WX S) (f wo : Int) (b : Bool) {g0 : Int} (hg : -1 ≤ g0 ∧ g0 < 8) (n : Nat) (hn : n ≤ 8) : xbest (am_u1 S 2 x) (xq (am_u1 S 2 x) f wo b) g0 n = xbest S (xq S f wo b) g0 n := by
  induction n with
  | zero => rfl
  | succ n ih =>
    have i := ih (by omega)
    have hb : -1 ≤ xbest S (xq S f wo b) g0 n ∧ xbest S (xq S f wo b) g0 n < 8 := xbest_b hg (by omega)
    have eq1 : xq (am_u1 S 2 x) f wo b n = xq S f wo b n := by
      unfold xq
      rw [tm_ch (by omega) (by decide), tm_pls hX ⟨by omega, by omega⟩]
    simp only [xbest]
    rw [i, eq1, tm_pls hX (c := (n : Int)) ⟨by omega, by omega⟩]
    by_cases q : xbest S (xq S f wo b) g0 n < 0
    · rw [decide_eq_true q, Bool.true_or, Bool.true_or]
    · rw [tm_pls hX ⟨by omega, hb.2⟩]
theorem tm_target (hX : WX S) (f wo : Int) : xtarget (am_u1 S 2 x) f wo = xtarget S f wo := by
  have h0 := hX.1
  have h1 : -1 ≤ xbest S (xq S f wo true) (-1) (S 0).toNat ∧ _ < (8 : Int) := xbest_b (by decide) (by omega)
  unfold xtarget
  rw [tm_lo (by decide), tm_best hX f wo true (by decide) _ (by omega), tm_best hX f wo false h1 _ (by omega)]
theorem tm_firstN (f : Int) (n : Nat) : xfirstN (am_u1 S 2 x) f n = xfirstN S f n := by
  induction n with
  | zero => rfl
  | succ n ih =>
    have hb := xfirstN_b S f n
    simp only [xfirstN]
    rw [ih, tm_wd (by omega) (by decide), tm_wd (by omega) (by decide), tm_wd (by omega) (by decide)]
    by_cases q : xfirstN S f n < 0
    · rw [decide_eq_true q, Bool.true_or, Bool.true_or]
    · rw [tm_wd (by omega) (by decide)]
theorem tm_first (f : Int) : xfirst (am_u1 S 2 x) f = xfirst S f := by
  unfold xfirst
  rw [tm_lo (by decide), tm_firstN]
theorem tm_lay {w j v : Int} (hw : 0 ≤ w) (hj : 0 ≤ j) : xlay (am_u1 S 2 x) w j v = am_u1 (xlay S w j v) 2 x := dl_comm S _ _ (by omega)
theorem tm_sits {w c r : Int} (hw : 0 ≤ w) (hc : 0 ≤ c) : xsits (am_u1 S 2 x) w c r = am_u1 (xsits S w c r) 2 x := by
  unfold xsits
  rw [tm_lay hw (by decide), tm_lay hw (by decide), tm_lay hw (by decide), tm_lay hw (by decide), tm_ch hc (by decide)]
theorem tm_ra (hX : WX S) (f : Int) : xra (am_u1 S 2 x) f = am_u1 (xra S f) 2 x ∧ xraB (am_u1 S 2 x) f = xraB S f := by
  have hb := xfirst_b hX f
  unfold xra xraB xraS
  rw [tm_first]
  by_cases q : xfirst S f < 0
  · rw [if_pos q, if_pos q, decide_eq_false (by omega), Bool.false_and, Bool.false_and]
    exact ⟨rfl, rfl⟩
  · have hL : WX (xlay S (xfirst S f) 1 2) := WX_lay hX (by omega) (by decide) (by omega) (by omega)
    have ht := xtarget_b hL f (-1)
    rw [if_neg q, if_neg q, tm_lay (by omega) (by decide), tm_target hL]
    refine ⟨?_, rfl⟩
    by_cases z : xtarget (xlay S (xfirst S f) 1 2) f (-1) < 0
    · rw [if_pos z, if_pos z, tm_lay (by omega) (by decide)]
    · rw [if_neg z, if_neg z, tm_low hL (by omega), tm_sits (by omega) (by omega), tm_wd (by omega) (by decide), tm_lay (by omega) (by decide), tm_lo (by decide)]
      exact dl_comm _ _ _ (by decide)
theorem xra_cells (hX : WX S) (f : Int) : xra S f 2 = S 2 ∧ xra S f 3 = S 3 + (if xraB S f = true then 1 else 0) ∧ (xraB S f = false → xra S f = S) := by
  have hb := xfirst_b hX f
  unfold xra xraB
  by_cases q : xfirst S f < 0
  · rw [if_pos q, decide_eq_false (by omega), Bool.false_and]
    exact ⟨rfl, (Int.add_zero _).symm, fun _ => rfl⟩
  · have hw : xwd S (xfirst S f) 1 = 1 ∧ _ := xfirstN_w (S := S) (f := f) (n := (S 1).toNat) (by show 0 ≤ xfirst S f; omega)
    rw [if_neg q, decide_eq_true (by omega), Bool.true_and]
    by_cases z : xtarget (xlay S (xfirst S f) 1 2) f (-1) < 0
    · have e : xlay (xlay S (xfirst S f) 1 2) (xfirst S f) 1 1 = S := by
        rw [xlay_xlay]
        have z : xlay S (xfirst S f) 1 (xwd S (xfirst S f) 1) = S := am_u1_self _ _
        rwa [hw.1] at z
      rw [if_pos z, e, decide_eq_false (by omega)]
      exact ⟨rfl, (Int.add_zero _).symm, fun _ => rfl⟩
    · have lo : ∀ m : Nat, m < 40 → xraS S f m = S m := fun m hm => by
        unfold xraS
        rw [xlay_lo (by omega) (by decide) hm, xsits_lo (by omega) hm, xlay_lo (by omega) (by decide) hm]
      rw [if_neg z, decide_eq_true (by omega)]
      refine ⟨by rw [am_u1_ne _ _ (by decide)]; exact lo 2 (by decide), by rw [am_u1_at, lo 3 (by decide)]; rfl, fun h => absurd h (by decide)⟩
end TM
