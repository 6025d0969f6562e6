/-! ===== the first that waits ===== -/
theorem xfirstN_s (S : Nat → Int) (f : Int) (n : Nat) : (xfirstN S f n = -1 ∧ ∀ u : Nat, u < n → ¬ (xwd S u 1 = 1 ∧ xwd S u 4 = f)) ∨ ((0 ≤ xfirstN S f n ∧ xfirstN S f n < n) ∧ (xwd S (xfirstN S f n) 1 = 1 ∧ xwd S (xfirstN S f n) 4 = f) ∧ ∀ u : Nat, u < n → xwd S u 1 = 1 → xwd S u 4 = f → xwd S (xfirstN S f n) 5 ≤ xwd S u 5) := by
  induction n with
  | zero => exact Or.inl ⟨rfl, fun u hu => absurd hu (Nat.not_lt_zero u)⟩
  | succ n ih =>
    have es : xfirstN S f (n + 1) = if (xwd S n 1 == 1 && (xwd S n 4 == f && (decide (xfirstN S f n < 0) || decide (xwd S n 5 < xwd S (xfirstN S f n) 5)))) = true then (n : Int) else xfirstN S f n := rfl
    rw [es]
    by_cases q : xwd S n 1 = 1 ∧ xwd S n 4 = f
    · obtain ⟨q1, q4⟩ := q
      rcases ih with ⟨i1, i2⟩ | ⟨i1, i2, i3⟩
      · rw [if_pos (by simp [q1, q4, i1])]
        refine Or.inr ⟨⟨by omega, by omega⟩, ⟨q1, q4⟩, fun u hu s1 s4 => ?_⟩
        by_cases un : u = n
        · rw [un]; exact Int.le_refl _
        · exact absurd ⟨s1, s4⟩ (i2 u (by omega))
      · by_cases z : xwd S n 5 < xwd S (xfirstN S f n) 5
        · rw [if_pos (by simp [q1, q4, z])]
          refine Or.inr ⟨⟨by omega, by omega⟩, ⟨q1, q4⟩, fun u hu s1 s4 => ?_⟩
          by_cases un : u = n
          · rw [un]; exact Int.le_refl _
          · have := i3 u (by omega) s1 s4
            omega
        · rw [if_neg (by simp [z]; omega)]
          refine Or.inr ⟨⟨i1.1, by omega⟩, i2, fun u hu s1 s4 => ?_⟩
          by_cases un : u = n
          · rw [un]; omega
          · exact i3 u (by omega) s1 s4
    · rw [if_neg (by simp only [Bool.and_eq_true, beq_iff_eq]; intro y; exact q ⟨y.1, y.2.1⟩)]
      rcases ih with ⟨i1, i2⟩ | ⟨i1, i2, i3⟩
      · refine Or.inl ⟨i1, fun u hu y => ?_⟩
        by_cases un : u = n
        · rw [un] at y; exact q y
        · exact i2 u (by omega) y
      · refine Or.inr ⟨⟨i1.1, by omega⟩, i2, fun u hu s1 s4 => ?_⟩
        by_cases un : u = n
        · rw [un] at s1 s4; exact absurd ⟨s1, s4⟩ q
        · exact i3 u (by omega) s1 s4
theorem CL_first {M : am_M} {S : Nat → Int} (h : CL M S) {f : Int} (hf : 0 ≤ f ∧ f ≤ 2) : xfirst S f = if rd M 8 f = 0 then -1 else rd M 7 (f * 6) := by
  have h24 := h.1.2.2.1
  have hq6 := CL_q h hf
  obtain ⟨a, b, c, d⟩ := h.2.2.2.1 f hf
  unfold xfirst
  have e0 : f * 6 + 0 = f * 6 := by omega
  rcases xfirstN_s S f (S 1).toNat with ⟨i1, i2⟩ | ⟨i1, i2, i3⟩
  · by_cases q : rd M 8 f = 0
    · rw [if_pos q]
      exact i1
    · exfalso
      obtain ⟨b1, b2, b3⟩ := b 0 (by omega) (by omega)
      have := i2 (rd M 7 (f * 6 + 0)).toNat (by omega)
      rw [show (((rd M 7 (f * 6 + 0)).toNat : Nat) : Int) = rd M 7 (f * 6 + 0) by omega] at this
      exact this ⟨b2, b3⟩
  · obtain ⟨i, i0, i9, ie⟩ := c _ i1.1 (by omega) i2.1 i2.2
    rw [if_neg (by omega)]
    by_cases z : i = 0
    · rw [z, e0] at ie
      exact ie.symm
    · exfalso
      have hlt := d 0 i (by omega) (by omega) i9
      obtain ⟨b1, b2, b3⟩ := b 0 (by omega) (by omega)
      have := i3 (rd M 7 (f * 6 + 0)).toNat (by omega)
      rw [show (((rd M 7 (f * 6 + 0)).toNat : Nat) : Int) = rd M 7 (f * 6 + 0) by omega] at this
      have := this b2 b3
      rw [ie] at hlt
      omega
