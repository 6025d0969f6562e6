/-! ===== a chip is emptied ===== -/
theorem CX_em {M : am_M} {S : Nat → Int} (h : CX M S) {c : Int} (hc : 0 ≤ c ∧ c < 8) (n : Nat) (hn : n ≤ 6) : CX (yem M c n).1 (xemS S c n).1 ∧ (yem M c n).2 = (xemS S c n).2 := by
  induction n with
  | zero => exact ⟨h, rfl⟩
  | succ n ih =>
    obtain ⟨i1, i2⟩ := ih (by omega)
    have hk := CL_kept i1.1 hc (r := (n : Int)) (by omega)
    have hkb := (i1.1.2.2.1.2.1 c n hc (by omega)).1
    have e1 := (i1.1.2.1.2.1.2 c hc.1 hc.2).1
    simp only [yem, xemS]
    rw [i2, hk, e1, CL_target i1.1]
    by_cases q1 : (xemS S c n).2.2 = true
    · rw [if_pos q1, if_pos q1]
      by_cases q2 : rd (yem M c n).1 4 (c * 6 + n) = -1
      · rw [if_pos q2, if_pos (show rd (yem M c n).1 4 (c * 6 + n) < 0 by omega)]
        exact ⟨i1, i2⟩
      · rw [if_neg q2, if_neg (show ¬ rd (yem M c n).1 4 (c * 6 + n) < 0 by omega)]
        have hw : 0 ≤ rd (yem M c n).1 4 (c * 6 + n) ∧ rd (yem M c n).1 4 (c * 6 + n) < (xemS S c n).1 1 := by omega
        have hka := ((i1.1.2.2.1.2.1 c n hc (by omega)).2 _ hw.1 hw.2).mpr rfl
        have hb := xtarget_b i1.1.1.2 (xch (xemS S c n).1 c 0) c
        by_cases q3 : xtarget (xemS S c n).1 (xch (xemS S c n).1 c 0) c < 0
        · rw [if_pos (show xtarget (xemS S c n).1 (xch (xemS S c n).1 c 0) c = -1 by omega), if_pos q3]
          exact ⟨i1, rfl⟩
        · rw [if_neg (show ¬ xtarget (xemS S c n).1 (xch (xemS S c n).1 c 0) c = -1 by omega), if_neg q3]
          obtain ⟨p1, p2, p3⟩ := xtarget_pl (S := (xemS S c n).1) (f := xch (xemS S c n).1 c 0) (wt := c) (by omega)
          refine ⟨(CX_move i1 hw hka.1 ⟨by omega, p2⟩ (fun z => p3 (by rw [← z]; exact hka.2.1)) p1).1, rfl⟩
    · rw [if_neg q1, if_neg q1]
      exact ⟨i1, i2⟩
theorem CX_empt {M : am_M} {S : Nat → Int} (h : CX M S) (c : Int) : (yempty M c).1 = (xempt S c).1 ∧ (0 ≤ (yempty M c).1 → CX (yempty M c).2 (xempt S c).2) ∧ (∃ T, CX (yempty M c).2 T ∧ (T = S ∨ T = (xemS S c 6).1)) ∧ YE M c := by
  have hX := h.1.1.2
  have h8 := hX.1
  have e0 : M 0 0 = S 0 := h.1.2.1.1.1.1
  unfold yempty xempt YE
  rw [e0]
  by_cases q1 : 0 ≤ c ∧ c < S 0
  · have hc8 : 0 ≤ c ∧ c < 8 := by omega
    obtain ⟨z1, z2, z3, z4, z5⟩ := h.1.2.1.2.1.2 c hc8.1 hc8.2
    have hf := hX.2.2.2.1 c hc8.1 hc8.2
    have hgd := (h.1.2.1.2.2.1 _ hf.1 hf.2).1
    obtain ⟨m1, m2⟩ := CX_em h hc8 6 (by decide)
    rw [if_pos q1, if_pos (show 0 ≤ c ∧ c ≤ S 0 - 1 by omega), z3, z1, hgd]
    have hYE : (0 ≤ c ∧ c < S 0) → ¬ xgod S (xch S c 0) = c → ∀ n : Nat, n < 6 → (yem M c n).2.2 = true → rd (yem M c n).1 4 (c * 6 + n) ≠ -1 → YK (yem M c n).1 (rd (yem M c n).1 4 (c * 6 + n)) := by
      intro _ _ n hn _ hne
      obtain ⟨i1, -⟩ := CX_em h hc8 n (by omega)
      have hkb := (i1.1.2.2.1.2.1 c n hc8 (by omega)).1
      have hka := ((i1.1.2.2.1.2.1 c n hc8 (by omega)).2 _ (by omega) hkb.2).mpr rfl
      exact (CL_at0 i1.1 ⟨by omega, hkb.2⟩ hka.1).1
    by_cases q2 : xch S c 2 = 1
    · rw [if_pos q2, if_pos q2]
      by_cases q3 : xgod S (xch S c 0) = c
      · have hi : xisg S c = true := by unfold xisg; rw [q3]; exact beq_self_eq_true c
        rw [if_pos q3, if_pos hi]
        exact ⟨rfl, fun _ => h, ⟨S, h, Or.inl rfl⟩, hYE⟩
      · have hi : ¬ xisg S c = true := by unfold xisg; rw [beq_eq_false_iff_ne.mpr q3]; decide
        rw [if_neg q3, if_neg hi, m2]
        by_cases q4 : (xemS S c 6).2.2 = true
        · rw [if_pos q4, if_pos q4]
          exact ⟨rfl, fun _ => m1, ⟨_, m1, Or.inr rfl⟩, hYE⟩
        · rw [if_neg q4, if_neg q4]
          exact ⟨rfl, fun z => absurd z (by show ¬ (0 : Int) ≤ -1000002; decide), ⟨_, m1, Or.inr rfl⟩, hYE⟩
    · rw [if_neg q2, if_neg q2]
      exact ⟨rfl, fun _ => h, ⟨S, h, Or.inl rfl⟩, hYE⟩
  · rw [if_neg q1, if_neg (show ¬ (0 ≤ c ∧ c ≤ S 0 - 1) by omega)]
    exact ⟨rfl, fun _ => h, ⟨S, h, Or.inl rfl⟩, fun z => absurd z q1⟩
