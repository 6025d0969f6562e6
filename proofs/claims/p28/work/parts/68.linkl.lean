/-! ===== counts ===== -/
theorem sumW_add (f g : Nat → Int) (n : Nat) : sumW (fun k => f k + g k) n = sumW f n + sumW g n := by
  induction n with
  | zero => rfl
  | succ n ih =>
    simp only [sumW]
    rw [ih]
    omega
theorem sumW_z (n : Nat) : sumW (fun _ => 0) n = 0 := by
  induction n with
  | zero => rfl
  | succ n ih =>
    simp only [sumW]
    omega
theorem sumW_one {g : Nat → Int} {n a : Nat} (ha : a < n) (h1 : g a = 1) (h0 : ∀ k, k < n → k ≠ a → g k = 0) : sumW g n = 1 := by
  have := sumW_up (g := fun _ => (0 : Int)) (g2 := g) (n := n) (a := a) (d := 1) ha h0 (by rw [h1]; rfl)
  rw [sumW_z] at this
  omega
theorem cntW_rows {p : Nat → Bool} {q : Nat → Int} (n : Nat) (h : ∀ w, w < n → p w = true → 0 ≤ q w ∧ q w ≤ 5) : cntW p n = sumW (fun r => cntW (fun w => p w && q w == (r : Int)) n) 6 := by
  induction n with
  | zero => exact (sumW_z 6).symm
  | succ n ih =>
    simp only [cntW]
    rw [sumW_add, ← ih (fun w hw => h w (by omega))]
    congr 1
    by_cases z : p n = true
    · have hq := h n (by omega) z
      rw [if_pos z]
      refine (sumW_one (a := (q n).toNat) (by omega) ?_ (fun k hk hn => ?_)).symm
      · rw [if_pos]
        rw [z, Bool.true_and, beq_iff_eq]
        omega
      · rw [if_neg]
        rw [z, Bool.true_and, beq_iff_eq]
        omega
    · rw [if_neg z]
      have z' : p n = false := by cases hh : p n <;> simp_all
      refine ((sumW_congr (fun k hk => ?_)).trans (sumW_z 6)).symm
      rw [if_neg (by rw [z']; simp)]
theorem cntW_one {p : Nat → Bool} {n : Nat} {v : Int} (h : ∀ w : Nat, w < n → (p w = true ↔ (w : Int) = v)) : cntW p n = if 0 ≤ v ∧ v < n then 1 else 0 := by
  rw [cntW_sumW]
  by_cases z : 0 ≤ v ∧ v < n
  · rw [if_pos z]
    refine sumW_one (a := v.toNat) (by omega) ?_ (fun k hk hn => ?_)
    · rw [if_pos ((h _ (by omega)).mpr (by omega))]
    · rw [if_neg (fun y => hn (by have := (h k hk).mp y; omega))]
  · rw [if_neg z]
    refine (sumW_congr (fun k hk => ?_)).trans (sumW_z n)
    rw [if_neg (fun y => z (by have := (h k hk).mp y; omega))]
theorem CL_st0 {M : am_M} {S : Nat → Int} (h : CL M S) {w : Int} (hw : 0 ≤ w ∧ w < S 1) : xwd S w 1 = 0 ↔ rd M 10 w ≠ -1 := by
  have a := (h.2.2.1.1.1 w hw.1 hw.2).1
  rw [a]
  unfold yfate
  by_cases q : rd M 10 w = -1
  · rw [if_pos q]
    constructor
    · intro z; (split at z) <;> omega
    · intro z; exact absurd q z
  · rw [if_neg q]
    exact ⟨fun _ => q, fun _ => rfl⟩
theorem CL_kb {M : am_M} {S : Nat → Int} (h : CL M S) {c : Int} (hc : 0 ≤ c ∧ c < 8) : ykb M c = xwords S c := by
  have e1 : M 0 2 = S 1 := h.2.1.1.1.2.1
  have h24 := h.1.2.2.1
  unfold ykb xwords
  rw [e1, cntW_rows (q := fun w => rd M 11 w) _ (fun w hw hp => ?_), cntW_sumW]
  · refine sumW_congr (fun r hr => ?_)
    have hk := CL_kept h hc (r := (r : Int)) (by omega)
    obtain ⟨k1, k2⟩ := h.2.2.1.2.1 c r hc (by omega)
    rw [cntW_one (v := rd M 4 (c * 6 + r)) (fun w hw => ?_), hk]
    · simp only [decide_eq_true_eq]
      by_cases z : 0 ≤ rd M 4 (c * 6 + r)
      · rw [if_pos z, if_pos (by omega)]
      · rw [if_neg z, if_neg (by omega)]
    · have hw2 : 0 ≤ (w : Int) ∧ (w : Int) < S 1 := by omega
      refine Iff.trans ?_ ((k2 w hw2.1 hw2.2).trans eq_comm)
      unfold kat
      simp only [Bool.and_eq_true, beq_iff_eq]
      have a := h.2.2.1.1.1 w hw2.1 hw2.2
      constructor
      · rintro ⟨x1, x2⟩
        have s0 := (CL_st0 h hw2).mpr (by omega)
        exact ⟨s0, by rw [← (a.2.1 s0).1]; exact x1, by rw [← (a.2.2.1 (by omega)).1]; exact x2⟩
      · rintro ⟨x1, x2, x3⟩
        exact ⟨by rw [(a.2.1 x1).1]; exact x2, by rw [(a.2.2.1 (by omega)).1]; exact x3⟩
  · have hw2 : 0 ≤ (w : Int) ∧ (w : Int) < S 1 := by omega
    rw [beq_iff_eq] at hp
    have s0 := (CL_st0 h hw2).mpr (by omega)
    have a := h.2.2.1.1.1 w hw2.1 hw2.2
    rw [(a.2.2.1 (by omega)).1]
    exact (h.1.2.2.2.2.2 w hw2.1 (by omega)).2
/-- how many wait, by the reference's words -/
theorem CL_wc {M : am_M} {S : Nat → Int} (h : CL M S) {f : Int} (hf : 0 ≤ f ∧ f ≤ 2) : rd M 8 f = cntW (fun w => xwd S w 1 == 1 && xwd S w 4 == f) (S 1).toNat := by
  have h24 := h.1.2.2.1
  rw [(h.2.2.2.1 f hf).1, cntW_rows (q := fun w => xwd S w 3) _ (fun w hw hp => (h.1.2.2.2.2.2 w (by omega) (by omega)).2)]
  refine sumW_congr (fun r hr => ?_)
  obtain ⟨k1, k2⟩ := h.2.2.1.2.2 f r hf (by omega)
  rw [cntW_one (v := rd M 6 (f * 6 + r)) (fun w hw => ?_)]
  · by_cases z : rd M 6 (f * 6 + r) = -1
    · rw [if_pos z, if_neg (by omega)]
    · rw [if_neg z, if_pos (by omega)]
  · have hw2 : 0 ≤ (w : Int) ∧ (w : Int) < S 1 := by omega
    refine Iff.trans ?_ ((k2 w hw2.1 hw2.2).trans eq_comm)
    unfold wat
    simp only [Bool.and_eq_true, beq_iff_eq]
    exact and_assoc
theorem CX_elects {M : am_M} {S : Nat → Int} (h : CX M S) (c : Int) : (yelect M c).1 = (xelects S c).1 ∧ CX (yelect M c).2 (xelects S c).2 := by
  have hX := h.1.1.2
  have h8 := hX.1
  have e0 : M 0 0 = S 0 := h.1.2.1.1.1.1
  unfold yelect xelects
  rw [e0]
  by_cases q1 : 0 ≤ c ∧ c < S 0
  · have hc8 : 0 ≤ c ∧ c < 8 := by omega
    obtain ⟨z1, z2, z3, z4, z5⟩ := h.1.2.1.2.1.2 c hc8.1 hc8.2
    have hf := hX.2.2.2.1 c hc8.1 hc8.2
    have hgd := (h.1.2.1.2.2.1 _ hf.1 hf.2).1
    have hgb := hX.2.2.1 _ hf.1 hf.2
    have hkb := CL_kb h.1 hc8
    have hw0 : 0 ≤ xwords S c := (cntW_R _ _).1
    rw [if_pos q1, if_pos (show 0 ≤ c ∧ c ≤ S 0 - 1 by omega), z3, z1, hgd, hkb]
    by_cases q2 : xch S c 2 = 1
    · rw [if_pos q2, if_pos q2]
      by_cases q3 : xgod S (xch S c 0) < 0
      · rw [if_pos (show xgod S (xch S c 0) = -1 by omega), if_pos q3]
        by_cases q4 : xwords S c ≤ 0
        · rw [if_pos q4, if_pos q4]
          have hkn : ∀ r : Int, 0 ≤ r → r ≤ 5 → rd M 4 (c * 6 + r) = -1 := by
            intro r r0 r5
            by_cases y : rd M 4 (c * 6 + r) = -1
            · exact y
            · exfalso
              have kb := (h.1.2.2.1.2.1 c r hc8 ⟨r0, r5⟩).1
              have hk := CL_kept h.1 hc8 ⟨r0, r5⟩
              unfold xwords at q4
              have := cntW_lt (p := fun _ => false) (q := fun r : Nat => decide (0 ≤ xkept S c r)) (n := 6) (a := r.toNat) (fun _ _ q => absurd q (by decide)) (by omega) (by decide) (by simp only [show ((r.toNat : Nat) : Int) = r by omega]; exact decide_eq_true (by omega))
              have h0 := cntW_R (fun _ => false) 6
              omega
          have hM : CX (yelM M c) (am_u1 S (5 + xch S c 0).toNat c) := by
            unfold yelM
            rw [z1]
            refine CX_god h hf (by omega) (fun _ => hkn) (fun w w0 w1 s1 s4 => ?_)
            have := h.2 w w0 w1 s1
            rw [s4] at this
            unfold xgu at this
            rw [decide_eq_false (by omega), Bool.false_and] at this
            exact absurd this (by decide)
          refine ⟨?_, hM⟩
          have e1 : rd (yelM M c) 1 c = xch S c 0 := by
            unfold yelM
            rw [rd_wrj _ _ _ _ (by decide)]
            exact z1
          have e2 : xch (am_u1 S (5 + xch S c 0).toNat c) c 0 = xch S c 0 := by
            unfold xch
            exact am_u1_ne _ _ (by unfold xch at hf; omega)
          dsimp only
          rw [e1, e2, ← CL_gd hM.1 hf]
          obtain ⟨a, -⟩ := CL_gub hM.1 hf
          exact (bi_cnt6 a).2
        · rw [if_neg q4, if_neg q4]
          exact ⟨rfl, h⟩
      · rw [if_neg (show ¬ xgod S (xch S c 0) = -1 by omega), if_neg q3]
        exact ⟨rfl, h⟩
    · rw [if_neg q2, if_neg q2]
      exact ⟨rfl, h⟩
  · rw [if_neg q1, if_neg (show ¬ (0 ≤ c ∧ c ≤ S 0 - 1) by omega)]
    exact ⟨rfl, h⟩
