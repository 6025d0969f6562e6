/-! ===== the rows of a chip that dies ===== -/
theorem WX_LO {S S2 : Nat → Int} (h : LO S S2) : S2 0 = S 0 ∧ S2 1 = S 1 := ⟨h 0 (by decide) (by decide), h 1 (by decide) (by decide)⟩
theorem CX_rows {M : am_M} {S : Nat → Int} (h : CX M S) {c : Int} (hc : 0 ≤ c ∧ c < 8) (n : Nat) (hn : n ≤ 6) :
    CX (yld M c n).1 (xkrows S c (xch S c 0) false n) ∧ xlost (xkrows S c (xch S c 0) false n) = xlost S + (yld M c n).2 ∧ LO S (xkrows S c (xch S c 0) false n) ∧ ∀ k : Nat, k < n → YSr (yld M c k).1 (rd (yld M c k).1 4 (c * 6 + k)) := by
  induction n with
  | zero => exact ⟨h, by show xlost S = xlost S + 0; omega, LO_refl S, fun k hk => absurd hk (Nat.not_lt_zero k)⟩
  | succ n ih =>
    obtain ⟨i1, i2, i3, i4⟩ := ih (by omega)
    have hk := CL_kept i1.1 hc (r := (n : Int)) (by omega)
    have hkb := (i1.1.2.2.1.2.1 c n hc (by omega)).1
    have es : xkrows S c (xch S c 0) false (n + 1) = xkrow (xkrows S c (xch S c 0) false n) c (xch S c 0) false n := rfl
    have ey : yld M c (n + 1) = (ylet (ylsM (yld M c n).1 (rd (yld M c n).1 4 (c * 6 + n))) (rd (yld M c n).1 4 (c * 6 + n)), (yld M c n).2 + ylsR (yld M c n).1 (rd (yld M c n).1 4 (c * 6 + n))) := rfl
    rw [es, ey]
    unfold xkrow
    rw [hk]
    by_cases q : rd (yld M c n).1 4 (c * 6 + n) < 0
    · have q1 : rd (yld M c n).1 4 (c * 6 + n) = -1 := by omega
      rw [if_pos q, if_neg (by decide), q1]
      have z1 : ylsM (yld M c n).1 (-1) = (yld M c n).1 := by unfold ylsM; rw [if_pos rfl]
      have z2 : ylsR (yld M c n).1 (-1) = 0 := by unfold ylsR; rw [if_pos rfl]
      have z3 : ylet (yld M c n).1 (-1) = (yld M c n).1 := by unfold ylet; rw [if_pos rfl]
      dsimp only
      rw [z1, z2, z3]
      refine ⟨i1, by omega, i3, fun k hk' => ?_⟩
      by_cases kn : k = n
      · subst kn
        exact Or.inl q1
      · exact i4 k (by omega)
    · have hw : 0 ≤ rd (yld M c n).1 4 (c * 6 + n) ∧ rd (yld M c n).1 4 (c * 6 + n) < xkrows S c (xch S c 0) false n 1 := by omega
      have hka := ((i1.1.2.2.1.2.1 c n hc (by omega)).2 _ hw.1 hw.2).mpr rfl
      obtain ⟨a1, a2, a3, a4⟩ := CX_fall i1 hw hka.1 (Or.inl rfl)
      rw [if_pos rfl] at a1
      rw [if_neg q, if_neg (by decide)]
      refine ⟨a1, by dsimp only; omega, LO_trans i3 a4, fun k hk' => ?_⟩
      by_cases kn : k = n
      · subst kn
        exact a3
      · exact i4 k (by omega)
theorem CX_hrows {M : am_M} {S : Nat → Int} (h : CX M S) {c : Int} (hc : 0 ≤ c ∧ c < 8) (hi : xgod S (xch S c 0) = c) (n : Nat) (hn : n ≤ 6) :
    CX (yhd M (xch S c 0) n).1 (xkrows S c (xch S c 0) true n) ∧ xlost (xkrows S c (xch S c 0) true n) = xlost S + (yhd M (xch S c 0) n).2 ∧ LO S (xkrows S c (xch S c 0) true n) ∧ (∀ k : Nat, k < n → YW (yhd M (xch S c 0) k).1 (xch S c 0) k) ∧ ∀ k : Nat, k < n → xwait (xkrows S c (xch S c 0) true n) (xch S c 0) k < 0 := by
  have hf := h.1.1.2.2.2.2.1 c hc.1 hc.2
  induction n with
  | zero => exact ⟨h, by show xlost S = xlost S + 0; omega, LO_refl S, fun k hk => absurd hk (Nat.not_lt_zero k), fun k hk => absurd hk (Nat.not_lt_zero k)⟩
  | succ n ih =>
    obtain ⟨i1, i2, i3, i4, i5⟩ := ih (by omega)
    have es : xkrows S c (xch S c 0) true (n + 1) = xkrow (xkrows S c (xch S c 0) true n) c (xch S c 0) true n := rfl
    have ey : yhd M (xch S c 0) (n + 1) = (ylwM (yhd M (xch S c 0) n).1 (xch S c 0) n, (yhd M (xch S c 0) n).2 + ylwR (yhd M (xch S c 0) n).1 (xch S c 0) n) := rfl
    have hno : xkept (xkrows S c (xch S c 0) true n) c n < 0 := by
      rw [CL_kept i1.1 hc (r := (n : Int)) (by omega), i1.1.2.1.2.2.2 c hc.1 hc.2 (by rw [LO_ch i3 hc (by decide), LO_god i3 hf]; exact hi) n (by omega) (by omega)]
      decide
    have hwt := CL_wait i1.1 hf (r := (n : Int)) (by omega)
    have hwb := (i1.1.2.2.1.2.2 (xch S c 0) n hf (by omega)).1
    rw [es, ey]
    unfold xkrow
    rw [if_pos hno, if_pos rfl]
    unfold ylwM ylwR
    rw [← hwt]
    by_cases q : xwait (xkrows S c (xch S c 0) true n) (xch S c 0) n < 0
    · have q1 : xwait (xkrows S c (xch S c 0) true n) (xch S c 0) n = -1 := by omega
      rw [if_pos q, if_pos q1, if_pos q1]
      refine ⟨i1, by dsimp only; omega, i3, fun k hk' => ?_, fun k hk' => ?_⟩
      · by_cases kn : k = n
        · subst kn
          exact Or.inl (by rw [← hwt]; exact q1)
        · exact i4 k (by omega)
      · by_cases kn : k = n
        · subst kn
          exact q
        · exact i5 k (by omega)
    · rw [if_neg q, if_neg (by omega), if_neg (by omega)]
      have hw : 0 ≤ rd (yhd M (xch S c 0) n).1 6 (xch S c 0 * 6 + n) ∧ rd (yhd M (xch S c 0) n).1 6 (xch S c 0 * 6 + n) < xkrows S c (xch S c 0) true n 1 := by omega
      have hwa := ((i1.1.2.2.1.2.2 (xch S c 0) n hf (by omega)).2 _ hw.1 hw.2).mpr rfl
      have hq1 := (i1.1.2.2.2.1 (xch S c 0) hf).2.2.1 _ hw.1 hw.2 hwa.1 hwa.2.1
      have at1 := CL_at1 i1.1 hw hwa.1
      have hB := CX_B i1 hw hwa.1 hwa.2.2 hwa.2.1
      have h24 := i1.1.1.2.2.1
      have eM : ylw1 (yhd M (xch S c 0) n).1 (xch S c 0) n = yB (yhd M (xch S c 0) n).1 (rd (yhd M (xch S c 0) n).1 6 (xch S c 0 * 6 + n)) (xch S c 0) n := rfl
      have hSW := SW_lay (S := xkrows S c (xch S c 0) true n) (w := rd (yhd M (xch S c 0) n).1 6 (xch S c 0 * 6 + n)) (k := 1) (v := 2) hw.1 (by decide)
      rw [eM, hwt]
      refine ⟨hB, ?_, LO_trans i3 hSW.1, fun k hk' => ?_, fun k hk' => ?_⟩
      · have := xlost_up hSW hw
        rw [xlay_at, hwa.1] at this
        rw [this, if_pos rfl, if_neg (by decide)]
        dsimp only
        omega
      · by_cases kn : k = n
        · subst kn
          refine Or.inr ⟨⟨hw.1, by omega⟩, ?_⟩
          obtain ⟨i, i0, i9, -⟩ := hq1
          rw [at1.2.2.1, hwa.2.1]
          omega
        · exact i4 k (by omega)
      · have hwk := CL_wait hB.1 hf (r := (k : Int)) (by omega)
        by_cases kn : k = n
        · subst kn
          rw [hwk]
          by_cases z : rd (yB (yhd M (xch S c 0) k).1 (rd (yhd M (xch S c 0) k).1 6 (xch S c 0 * 6 + k)) (xch S c 0) k) 6 (xch S c 0 * 6 + k) < 0
          · exact z
          · exfalso
            have hbb := (hB.1.2.2.1.2.2 (xch S c 0) k hf (by omega)).1
            have y1 := ((hB.1.2.2.1.2.2 (xch S c 0) k hf (by omega)).2 _ (by omega) hbb.2).mpr rfl
            generalize rd (yB (yhd M (xch S c 0) k).1 (rd (yhd M (xch S c 0) k).1 6 (xch S c 0 * 6 + k)) (xch S c 0) k) 6 (xch S c 0 * 6 + k) = v at *
            by_cases vw : v = rd (yhd M (xch S c 0) k).1 6 (xch S c 0 * 6 + k)
            · have := y1.1
              rw [vw, xlay_at] at this
              omega
            · obtain ⟨y1, y4, y3⟩ := y1
              rw [hSW.2 v 1 (by omega) vw (by decide) (by decide)] at y1
              rw [hSW.2 v 4 (by omega) vw (by decide) (by decide)] at y4
              rw [hSW.2 v 3 (by omega) vw (by decide) (by decide)] at y3
              exact vw (((i1.1.2.2.1.2.2 (xch S c 0) k hf (by omega)).2 v (by omega) (by rw [hSW.1 1 (by decide) (by decide)] at hbb; exact hbb.2)).mp ⟨y1, y4, y3⟩).symm
        · have hold := i5 k (by omega)
          rw [CL_wait i1.1 hf (r := (k : Int)) (by omega)] at hold
          rw [hwk]
          have e : rd (yB (yhd M (xch S c 0) n).1 (rd (yhd M (xch S c 0) n).1 6 (xch S c 0 * 6 + n)) (xch S c 0) n) 6 (xch S c 0 * 6 + k) = rd (yhd M (xch S c 0) n).1 6 (xch S c 0 * 6 + k) := by
            unfold yB
            rw [rd_wrj _ _ _ _ (by decide)]
            have e' : ylv (wr (yhd M (xch S c 0) n).1 6 (xch S c 0 * 6 + n) (-1)) (rd (yhd M (xch S c 0) n).1 6 (xch S c 0 * 6 + n)) 6 = wr (yhd M (xch S c 0) n).1 6 (xch S c 0 * 6 + n) (-1) 6 := ylv_row (by decide) (by decide)
            refine (congrFun e' _).trans ?_
            exact rd_wri _ _ _ (by omega) (by omega) (by omega)
          rw [e]
          exact hold
