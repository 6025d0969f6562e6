/-! ===== ticks: the class all at once, the reference tick by tick ===== -/
def xt0 (S : Nat → Int) : Nat → Int := xra (xra (xra S 0) 1) 2
def xtF (S : Nat → Int) : Nat → Nat → Int
  | 0 => S
  | n + 1 => xt0 (xtF S n)
theorem xt1_0 (S : Nat → Int) : xt1 S = am_u1 (xt0 S) 2 (xt0 S 2 + 1) := rfl
theorem WX_t0 {S : Nat → Int} (hX : WX S) : WX (xt0 S) := WX_ra (WX_ra (WX_ra hX))
theorem BX_t0 {S : Nat → Int} {n : Int} (hX : WX S) (hB : BX S n) : BX (xt0 S) (n + 3) := BX_mono (BX_ra (WX_ra (WX_ra hX)) (BX_ra (WX_ra hX) (BX_ra hX hB))) (by omega)
theorem b01s {a b c : Bool} (h : (if a = true then (1 : Int) else 0) + (if b = true then 1 else 0) + (if c = true then 1 else 0) = 0) : a = false ∧ b = false ∧ c = false := by
  revert h
  cases a <;> cases b <;> cases c <;> decide
theorem xt0_cells {S : Nat → Int} (hX : WX S) : xt0 S 2 = S 2 ∧ xt0 S 3 = S 3 + xt1n S ∧ (xt1n S = 0 → xt0 S = S) := by
  obtain ⟨a1, a2, a3⟩ := xra_cells hX 0
  obtain ⟨b1, b2, b3⟩ := xra_cells (WX_ra (f := 0) hX) 1
  obtain ⟨c1, c2, c3⟩ := xra_cells (WX_ra (f := 1) (WX_ra (f := 0) hX)) 2
  refine ⟨by unfold xt0; rw [c1, b1, a1], by unfold xt0 xt1n; omega, fun h => ?_⟩
  unfold xt1n at h
  obtain ⟨n0, n1, n2⟩ := b01s h
  rw [a3 n0] at n1 n2 b3 c3
  rw [b3 n1] at n2 c3
  unfold xt0
  rw [a3 n0, b3 n1, c3 n2]
theorem tm_t0 {S : Nat → Int} (hX : WX S) (x : Int) : xt0 (am_u1 S 2 x) = am_u1 (xt0 S) 2 x ∧ xt1n (am_u1 S 2 x) = xt1n S := by
  obtain ⟨a1, a2⟩ := tm_ra (x := x) hX 0
  obtain ⟨b1, b2⟩ := tm_ra (x := x) (WX_ra (f := 0) hX) 1
  obtain ⟨c1, c2⟩ := tm_ra (x := x) (WX_ra (f := 1) (WX_ra (f := 0) hX)) 2
  unfold xt0 xt1n
  rw [a1, a2, b1, b2, c1, c2]
  exact ⟨rfl, rfl⟩
theorem WX_tF {S : Nat → Int} (hX : WX S) (n : Nat) : WX (xtF S n) := by
  induction n with
  | zero => exact hX
  | succ n ih => exact WX_t0 ih
theorem BX_tF {S : Nat → Int} {b : Int} (hX : WX S) (hB : BX S b) (n : Nat) : BX (xtF S n) (b + 3 * n) := by
  induction n with
  | zero => exact BX_mono hB (by omega)
  | succ n ih => exact BX_mono (BX_t0 (WX_tF hX n) ih) (by omega)
theorem xtF_2 {S : Nat → Int} (hX : WX S) (n : Nat) : xtF S n 2 = S 2 := by
  induction n with
  | zero => rfl
  | succ n ih => exact (xt0_cells (WX_tF hX n)).1.trans ih
theorem xtF_s (S : Nat → Int) (n : Nat) : xtF S (n + 1) = xtF (xt0 S) n := by
  induction n with
  | zero => rfl
  | succ n ih =>
    show xt0 (xtF S (n + 1)) = _
    rw [ih]
    rfl
theorem xtF_no {S : Nat → Int} (hX : WX S) (h : xt1n S = 0) (n : Nat) : xtF S n = S := by
  induction n with
  | zero => rfl
  | succ n ih =>
    show xt0 (xtF S n) = S
    rw [ih]
    exact (xt0_cells hX).2.2 h
theorem tm_tF {S : Nat → Int} (hX : WX S) (x : Int) (n : Nat) : xtF (am_u1 S 2 x) n = am_u1 (xtF S n) 2 x := by
  induction n with
  | zero => rfl
  | succ n ih =>
    show xt0 (xtF (am_u1 S 2 x) n) = _
    rw [ih]
    exact (tm_t0 (WX_tF hX n) x).1
theorem am_u1_u1 (S : Nat → Int) (k : Nat) (x z : Int) : am_u1 (am_u1 S k x) k z = am_u1 S k z := by
  funext c
  unfold am_u1
  split <;> rfl
theorem xtS_F {S : Nat → Int} (hX : WX S) (n : Nat) : xtS S n = am_u1 (xtF S n) 2 (S 2 + n) ∧ xtn S n = xtF S n 3 - S 3 := by
  induction n with
  | zero =>
    refine ⟨?_, by show (0 : Int) = S 3 - S 3; omega⟩
    show S = am_u1 S 2 (S 2 + 0)
    rw [Int.add_zero]
    exact (am_u1_self S 2).symm
  | succ n ih =>
    obtain ⟨a, b⟩ := tm_t0 (WX_tF hX n) (S 2 + n)
    have c := xt0_cells (WX_tF hX n)
    refine ⟨?_, ?_⟩
    · show xt1 (xtS S n) = am_u1 (xt0 (xtF S n)) 2 (S 2 + ((n + 1 : Nat) : Int))
      rw [ih.1, xt1_0, a, am_u1_at, am_u1_u1]
      congr 1
      omega
    · show xtn S n + xt1n (xtS S n) = xt0 (xtF S n) 3 - S 3
      rw [ih.1, b, ih.2, c.2.1]
      omega
theorem xtF_3 {S : Nat → Int} (hX : WX S) (x : Int) (n : Nat) : xtF (am_u1 S 2 x) n 3 = xtF S n 3 := by
  rw [tm_tF hX]
  exact am_u1_ne _ _ (by decide)
theorem CX_tOne {M : am_M} {S : Nat → Int} (h : CX M S) : CX (yt1 M) (xt0 S) := CX_raise (CX_raise (CX_raise h (by decide)) (by decide)) (by decide)
theorem YRf_of {M : am_M} {S : Nat → Int} (h : CX M S) {n : Int} (hB : BX S n) (hn : n ≤ 2000000000) {f : Int} (hf : 0 ≤ f ∧ f ≤ 2) : YRf M f := by
  have h24 := h.1.1.2.2.1
  have hq6 := CL_q h.1 hf
  by_cases q : rd M 8 f = 0
  · exact Or.inl q
  · obtain ⟨b1, b2, b3⟩ := (h.1.2.2.2.1 f hf).2.1 0 (by omega) (by omega)
    rw [show f * 6 + 0 = f * 6 by omega] at b1 b2 b3
    obtain ⟨e10, e11, e12, e9, -, hr, e6⟩ := CL_at1 h.1 b1 b2
    have e13 := (h.1.2.2.1.1.1 _ b1.1 b1.2).2.2.2
    have e4 : M 0 4 = S 3 := h.1.2.1.1.1.2.2.2
    have hB6 := hB.2.2.2 _ b1.1 (by omega)
    have hB3 := hB.2.1
    refine Or.inr ⟨⟨⟨b1.1, by omega⟩, by rw [e11]; exact hr.1, by rw [e11]; exact hr.2⟩, by rw [e12, b3]; omega, by rw [e13]; omega, by omega⟩
theorem YR3_of {M : am_M} {S : Nat → Int} (h : CX M S) {n : Int} (hB : BX S n) (hn : n ≤ 1000000000) : YR3 M := by
  have hX := h.1.1.2
  exact ⟨h.1.1.1, YRf_of h hB (by omega) (by decide), YRf_of (CX_raise h (f := 0) (by decide)) (BX_ra hX hB) (by omega) (by decide), YRf_of (CX_raise (CX_raise h (f := 0) (by decide)) (f := 1) (by decide)) (BX_ra (WX_ra hX) (BX_ra hX hB)) (by omega) (by decide)⟩
theorem CX_tI {M : am_M} {S : Nat → Int} (h : CX M S) (k : Nat) : CX (ytI M k) (xtF S k) := by
  induction k with
  | zero => exact h
  | succ k ih => exact CX_tOne ih
theorem CX_tN (n : Nat) : ∀ (M : am_M) (S : Nat → Int), CX M S → CX (ytN M n) (xtF S n) := by
  induction n with
  | zero => exact fun M S h => h
  | succ n ih =>
    intro M S h
    have hX := h.1.1.2
    have h1 := CX_tOne h
    have e4 : M 0 4 = S 3 := h.1.2.1.1.1.2.2.2
    have e4' : yt1 M 0 4 = xt0 S 3 := h1.1.2.1.1.1.2.2.2
    by_cases q : yt1 M 0 4 = M 0 4
    · have hz : xt1n S = 0 := by
        have := (xt0_cells hX).2.1
        omega
      rw [ytN_1 q, xtF_no hX hz]
      rwa [(xt0_cells hX).2.2 hz] at h1
    · rw [ytN_2 q, xtF_s]
      exact ih _ _ h1
theorem CX_ticks {M : am_M} {S : Nat → Int} (h : CX M S) {n : Int} (hB : BX S n) (hn0 : 0 ≤ n) (hn : n ≤ 900000000) (t : Int) : (ytick M t).1 = (xticks S t).1 ∧ CX (ytick M t).2 (xticks S t).2 ∧ YT M t := by
  have hX := h.1.1.2
  obtain ⟨⟨n0, n1, n2, n3⟩, t0, t9⟩ := h.1.2.1.1
  have key : 1 ≤ t → S 2 + t ≤ 100000 → CX (yt0 M t) (am_u1 S 2 (S 2 + t)) := fun a b => by
    unfold yt0
    rw [n2]
    exact CX_n2 h (by omega)
  refine ⟨?_, ?_, ?_⟩
  · unfold ytick xticks
    by_cases q1 : t < 1
    · rw [if_pos q1, if_neg (by omega)]
    · by_cases q2 : t ≤ 100
      · rw [if_neg q1, if_pos q2, if_pos (show 1 ≤ t ∧ t ≤ 100 by omega), n2]
        by_cases q3 : S 2 + t ≤ 100000
        · rw [if_pos q3, if_pos q3]
          have hk := CX_tN t.toNat _ _ (key (by omega) q3)
          have e : ytN (yt0 M t) t.toNat 0 4 = xtF (am_u1 S 2 (S 2 + t)) t.toNat 3 := hk.1.2.1.1.1.2.2.2
          have e2 := (xtS_F hX t.toNat).2
          rw [xtF_3 hX] at e
          unfold yt0 at e
          rw [n2] at e
          dsimp only
          omega
        · rw [if_neg q3, if_neg q3]
      · rw [if_neg q1, if_neg q2, if_neg (by omega)]
  · unfold ytick xticks
    by_cases q1 : t < 1
    · rw [if_pos q1, if_neg (by omega)]
      exact h
    · by_cases q2 : t ≤ 100
      · rw [if_neg q1, if_pos q2, if_pos (show 1 ≤ t ∧ t ≤ 100 by omega), n2]
        by_cases q3 : S 2 + t ≤ 100000
        · rw [if_pos q3, if_pos q3]
          have hk := CX_tN t.toNat _ _ (key (by omega) q3)
          rw [tm_tF hX] at hk
          have e2 := (xtS_F hX t.toNat).1
          rw [show ((t.toNat : Nat) : Int) = t by omega] at e2
          dsimp only
          rw [e2]
          unfold yt0 at hk
          rwa [n2] at hk
        · rw [if_neg q3, if_neg q3]
          exact h
      · rw [if_neg q1, if_neg q2, if_neg (by omega)]
        exact h
  · intro q3 k hk
    have q1 : 1 ≤ t := by omega
    have hk9 := CX_tI (key q1 (by omega)) k
    have hB1 : BX (am_u1 S 2 (S 2 + t)) (n + 100000) := BX_n (BX_mono hB (by omega)) (by decide) (by omega)
    have hX1 : WX (am_u1 S 2 (S 2 + t)) := WX_n hX (by omega)
    exact YR3_of hk9 (BX_tF hX1 hB1 k) (by omega)
