/-! ===== texts: all orders, one behind another ===== -/
theorem RO_u {O X : am_M} {x : Int} (h : RO O X) : RO O (am_u2 X 0 9 x) := ⟨by rw [am_u2_rd _ _ (Or.inr (by decide))]; exact h.1, by rw [am_u2_ne _ _ _ (by decide)]; exact h.2.1, by rw [am_u2_rd _ _ (Or.inr (by decide))]; exact h.2.2⟩
theorem RO_step {M O X : am_M} {S : Nat → Int} {n : Int} (hR : RO O X) (h : CZ M S n) (hn : n ≤ 900000000) (hT : TO O) (hlt : O 2 4 < O 2 1) : oR M O = xnR X S ∧ (oR M O = 0 → CZ (oM M O) (xnS X S) (n + 400) ∧ RO (oO M O) (xnY X S) ∧ TO (oO M O) ∧ O 2 4 + 1 ≤ oO M O 2 4 ∧ oO M O 2 3 = O 2 3 ∧ oO M O 2 1 = O 2 1) ∧ (oR M O ≠ 0 → oO M O 2 3 = oR M O ∧ oO M O 2 2 = O 2 4) := by
  obtain ⟨g, e5, e⟩ := RO_next hR
  obtain ⟨t1, t2', t3, t4, t5, t6⟩ := oq_at hT hlt
  have e0 : M 0 0 = S 0 := h.1.1.1.2.1.1.1.1
  have hF : xnF X = oG O := g.symm
  have bad : oR M O ≠ 0 → oO M O 2 3 = oR M O ∧ oO M O 2 2 = O 2 4 := fun z => by
    unfold oO
    rw [if_neg z]
    exact ⟨am_u2_hit _ _ _ _, (am_u2_rd _ _ (Or.inr (by decide))).trans t6⟩
  cases hG : oG O with
  | false =>
    have r1 : oR M O = 1 := by unfold oR; rw [hG, if_neg (by decide)]
    have r2 : xnR X S = 1 := by unfold xnR; rw [hF, hG, if_neg (by decide)]
    exact ⟨r1.trans r2.symm, fun z => by omega, bad⟩
  | true =>
    obtain ⟨tk, rn, rm⟩ := e hG
    obtain ⟨d1, d2⟩ := CZ_do h hn e5 tk rn.2 (fun z => (rm z).2)
    have sg := odo_sg h.1.1.1.1.1 (oq O)
    have f0 : xnY X S 0 = xnX X 0 := xnY_rd (by decide)
    have f6 : xnY X S 6 = xnX X 6 := xnY_rd (by decide)
    have rq : RO (oq O) (xnY X S) := ⟨by rw [f0]; exact rn.1.1, by rw [f6]; exact rn.1.2.1, by rw [f0]; exact rn.1.2.2⟩
    have key : xnL X = 116 ∨ (0 ≤ xnX X 7 0 ∧ xnX X 7 0 ≤ S 0 - 1) → oR M O = (if (odo M (oq O)).1 < 0 then 3 else 0) ∧ xnR X S = (if xdoR (xnX X) S (xnL X) ≤ -1000001 then 3 else 0) ∧ oM M O = (odo M (oq O)).2 ∧ xnS X S = xdoS (xnX X) S (xnL X) := fun z => by
      unfold oR xnR oM xnS xnG
      rw [hF, hG, e5, rn.2, e0]
      by_cases q1 : xnL X = 116
      · simp only [if_pos q1, if_true]
        exact ⟨trivial, trivial, trivial, trivial⟩
      · have q2 : 0 ≤ xnX X 7 0 ∧ xnX X 7 0 ≤ S 0 - 1 := by rcases z with z | z; exact absurd z q1; exact z
        have q3 : 0 ≤ xnX X 7 0 ∧ xnX X 7 0 < S 0 := by omega
        simp only [if_neg q1, if_pos q2, if_pos q3, if_true]
        exact ⟨trivial, trivial, trivial, trivial⟩
    by_cases q : xnL X = 116 ∨ (0 ≤ xnX X 7 0 ∧ xnX X 7 0 ≤ S 0 - 1)
    · obtain ⟨k1, k2, k3, k4⟩ := key q
      by_cases z : (odo M (oq O)).1 < 0
      · rw [if_pos z] at k1
        rw [if_pos (by omega)] at k2
        exact ⟨k1.trans k2.symm, fun y => by omega, bad⟩
      · rw [if_neg z] at k1
        rw [if_neg (by omega)] at k2
        refine ⟨k1.trans k2.symm, fun y => ?_, bad⟩
        rw [oR_0 k1, k3, k4]
        exact ⟨d2 (by omega), rq, t1, t2', t5, t3⟩
    · have r1 : oR M O = 2 := by
        unfold oR
        rw [hG, e5, rn.2, e0, if_pos rfl, if_neg (fun y => q (Or.inl y)), if_neg (fun y => q (Or.inr (by omega)))]
      have r2 : xnR X S = 2 := by
        unfold xnR
        rw [hF, hG, if_pos rfl, if_neg (fun y => q (Or.inl y)), if_neg (fun y => q (Or.inr y))]
      exact ⟨r1.trans r2.symm, fun z => by omega, bad⟩
theorem RO_lt {O X : am_M} (h : RO O X) : O 2 4 < O 2 1 ↔ X 0 8 < X 0 7 := by rw [h.1, h.2.2]
theorem xfl_go {k : Nat} {fd : Int} {X : am_M} {S : Nat → Int} (h : X 0 8 < X 0 7) (hf : fd = -1000004) : xfl (k + 1) (fd, X, S) = xfl k ((if xnR X S ≤ 0 then fd else X 0 8), am_u2 (xnY X S) 0 9 (xnR X S), xnS X S) := by
  simp only [xfl]
  rw [if_pos h, if_pos hf]
theorem xfl_end {k : Nat} {fd : Int} {X : am_M} {S : Nat → Int} (h : ¬ X 0 8 < X 0 7 ∨ ¬ fd = -1000004) : xfl k (fd, X, S) = (fd, X, S) := by
  cases k with
  | zero => rfl
  | succ k =>
    simp only [xfl]
    by_cases q : X 0 8 < X 0 7
    · rw [if_pos q]
      rcases h with h | h
      · exact absurd q h
      · rw [if_neg h]
    · rw [if_neg q]
theorem xpl1_go {k : Nat} {m : Int} {X : am_M} {S : Nat → Int} (h : X 0 8 < X 0 7) : xpl1 (k + 1) (m, X, S) = xpl1 k ((if xnR X S = 0 then m + 1 else m + 0), xnY X S, xnS X S) := by
  simp only [xpl1]
  rw [if_pos h]
theorem xpl1_end {k : Nat} {m : Int} {X : am_M} {S : Nat → Int} (h : ¬ X 0 8 < X 0 7) : xpl1 k (m, X, S) = (m, X, S) := by
  cases k with
  | zero => rfl
  | succ k =>
    simp only [xpl1]
    rw [if_neg h]
theorem RO_all (k : Nat) : ∀ (i : Int) (M O X : am_M) (S : Nat → Int) (n : Int), RO O X → CZ M S n → TO O → O 2 3 = 0 → O 2 1 - O 2 4 ≤ k → n + 400 * k ≤ 900000000 →
    ((oall k (i, M, O)).2.2 2 3 = 0 ∧ (xfl (k + 1) (-1000004, X, S)).1 = -1000004) ∨ ((oall k (i, M, O)).2.2 2 3 ≠ 0 ∧ (xfl (k + 1) (-1000004, X, S)).1 = (oall k (i, M, O)).2.2 2 2 ∧ (xfl (k + 1) (-1000004, X, S)).2.1 0 9 = (oall k (i, M, O)).2.2 2 3 ∧ 0 ≤ (xfl (k + 1) (-1000004, X, S)).1 ∧ (xfl (k + 1) (-1000004, X, S)).1 ≤ 60) := by
  induction k with
  | zero =>
    intro i M O X S n hR h hT h3 hk hn
    have hlt : ¬ O 2 4 < O 2 1 := by omega
    rw [oall_end hlt, xfl_end (Or.inl (fun z => hlt ((RO_lt hR).mpr z)))]
    exact Or.inl ⟨h3, rfl⟩
  | succ k ih =>
    intro i M O X S n hR h hT h3 hk hn
    by_cases hlt : O 2 4 < O 2 1
    · have hxl := (RO_lt hR).mp hlt
      obtain ⟨e, good, bad⟩ := RO_step hR h (by omega) hT hlt
      by_cases hz : oR M O = 0
      · obtain ⟨g1, g2, g3, g4, g5, g6⟩ := good hz
        rw [oall_go hlt hz, xfl_go hxl rfl, if_pos (by omega)]
        exact ih (i + 1) _ _ _ _ (n + 400) (RO_u g2) g1 g3 (by rw [g5]; exact h3) (by omega) (by omega)
      · obtain ⟨b1, b2⟩ := bad hz
        have hb := xnR_b X S
        rw [oall_stop hlt hz, xfl_go hxl rfl, if_neg (by omega), xfl_end (Or.inr (by have := hT.1; have := hR.2.2; omega))]
        refine Or.inr ⟨by show oO M O 2 3 ≠ 0; omega, ?_, ?_, ?_, ?_⟩
        · show X 0 8 = oO M O 2 2
          rw [b2, hR.2.2]
        · show am_u2 (xnY X S) 0 9 (xnR X S) 0 9 = oO M O 2 3
          rw [am_u2_hit, b1, e]
        · show 0 ≤ X 0 8
          rw [← hR.2.2]
          exact hT.1
        · show X 0 8 ≤ 60
          rw [← hR.2.2]
          have := hT.2.1
          have := hT.2.2.2
          omega
    · rw [oall_end hlt, xfl_end (Or.inl (fun z => hlt ((RO_lt hR).mpr z)))]
      exact Or.inl ⟨h3, rfl⟩
theorem RO_pl (k : Nat) : ∀ (i m : Int) (M O X : am_M) (S : Nat → Int) (n : Int), RO O X → CZ M S n → TO O → O 2 1 - O 2 4 ≤ k → n + 400 * k ≤ 900000000 → (oall k (i, M, O)).2.2 2 3 = 0 →
    (xpl1 (k + 1) (m, X, S)).1 = m + ((oall k (i, M, O)).1 - i) ∧ CZ (oall k (i, M, O)).2.1 (xpl1 (k + 1) (m, X, S)).2.2 (n + 400 * k) := by
  induction k with
  | zero =>
    intro i m M O X S n hR h hT hk hn _
    have hlt : ¬ O 2 4 < O 2 1 := by omega
    rw [oall_end hlt, xpl1_end (fun z => hlt ((RO_lt hR).mpr z))]
    exact ⟨by dsimp only; omega, CZ_mono h (by omega)⟩
  | succ k ih =>
    intro i m M O X S n hR h hT hk hn h0
    by_cases hlt : O 2 4 < O 2 1
    · have hxl := (RO_lt hR).mp hlt
      obtain ⟨e, good, bad⟩ := RO_step hR h (by omega) hT hlt
      by_cases hz : oR M O = 0
      · obtain ⟨g1, g2, g3, g4, g5, g6⟩ := good hz
        rw [oall_go hlt hz] at h0 ⊢
        rw [xpl1_go hxl, if_pos (by omega)]
        obtain ⟨a, b⟩ := ih (i + 1) (m + 1) _ _ _ _ (n + 400) g2 g1 g3 (by omega) (by omega) h0
        exact ⟨by omega, CZ_mono b (by omega)⟩
      · exfalso
        rw [oall_stop hlt hz] at h0
        have := (bad hz).1
        dsimp only at h0
        omega
    · rw [oall_end hlt, xpl1_end (fun z => hlt ((RO_lt hR).mpr z))]
      exact ⟨by dsimp only; omega, CZ_mono h (by omega)⟩
theorem RO_ini {O X : am_M} {S : Nat → Int} {j : Nat} (hj : j = 3 ∨ j = 4) (h1 : O 2 1 = X 0 7) (h3 : O 3 = X 6) : RO (oini O) (am_u2 (am_u3 X j S) 0 8 0) := by
  unfold oini
  refine ⟨?_, ?_, ?_⟩
  · rw [am_u2_rd _ _ (Or.inr (by decide)), am_u2_rd _ _ (Or.inr (by decide)), am_u2_rd _ _ (Or.inr (by decide)), am_u3_ne _ _ (by omega)]
    exact h1
  · rw [am_u2_ne _ _ _ (by decide), am_u2_ne _ _ _ (by decide), am_u2_ne _ _ _ (by decide), am_u3_ne _ _ (by omega)]
    exact h3
  · rw [am_u2_rd _ _ (Or.inr (by decide)), am_u2_hit, am_u2_hit]
theorem oini_at (O : am_M) : oini O 2 3 = 0 ∧ oini O 2 4 = 0 ∧ oini O 2 1 = O 2 1 := by
  unfold oini
  exact ⟨am_u2_hit _ _ _ _, by rw [am_u2_rd _ _ (Or.inr (by decide)), am_u2_hit], by rw [am_u2_rd _ _ (Or.inr (by decide)), am_u2_rd _ _ (Or.inr (by decide))]⟩
theorem CZ_flt {M O X : am_M} {S : Nat → Int} {n : Int} (h : CZ M S n) (hn : n ≤ 400000000) (h1 : O 2 1 = X 0 7) (h3 : O 3 = X 6) (h7 : 0 ≤ X 0 7 ∧ X 0 7 ≤ 60) :
    ((oA M O).2.2 2 3 = 0 ∧ (xflt X S).1 = -1000004) ∨ ((oA M O).2.2 2 3 ≠ 0 ∧ (xflt X S).1 = (oA M O).2.2 2 2 ∧ (xflt X S).2.1 0 9 = (oA M O).2.2 2 3 ∧ 0 ≤ (xflt X S).1 ∧ (xflt X S).1 ≤ 60) := by
  obtain ⟨a, b, c⟩ := oini_at O
  exact RO_all 60 0 M (oini O) (am_u2 (am_u3 X 4 S) 0 8 0) S n (RO_ini (Or.inr rfl) h1 h3) h ⟨by omega, by omega, by omega, by omega⟩ a (by omega) (by omega)
theorem CZ_fltR {M O X : am_M} {S : Nat → Int} {n : Int} (h : CZ M S n) (hn : n ≤ 400000000) (h1 : O 2 1 = X 0 7) (h3 : O 3 = X 6) (h7 : 0 ≤ X 0 7 ∧ X 0 7 ≤ 60) : am_R (xflt X S).1 := by
  rcases CZ_flt h hn h1 h3 h7 with ⟨-, e⟩ | ⟨-, -, -, e1, e2⟩
  · rw [e]
    exact ⟨by decide, by decide⟩
  · exact ⟨by omega, by omega⟩
theorem CZ_fault {M O X : am_M} {S : Nat → Int} {n : Int} (h : CZ M S n) (hn : n ≤ 400000000) (h1 : O 2 1 = X 0 7) (h3 : O 3 = X 6) (h7 : 0 ≤ X 0 7 ∧ X 0 7 ≤ 60) (k : Int) : gftR M O k = xfault X S k := by
  unfold gftR xfault
  by_cases q : k = 0 ∨ k = 1
  · rw [if_pos q, if_pos (show 0 ≤ k ∧ k ≤ 1 by omega)]
    rcases CZ_flt h hn h1 h3 h7 with ⟨e0, e⟩ | ⟨e0, e, e9, e1, e2⟩
    · rw [if_pos e0, if_pos e]
    · rw [if_neg e0, if_neg (show ¬ (xflt X S).1 = -1000004 by omega), e, e9]
  · rw [if_neg q, if_neg (by omega)]
theorem CZ_play {M O X : am_M} {S : Nat → Int} {n : Int} (h : CZ M S n) (hn : n ≤ 400000000) (h1 : O 2 1 = X 0 7) (h3 : O 3 = X 6) (h7 : 0 ≤ X 0 7 ∧ X 0 7 ≤ 60) :
    ((oA M O).2.2 2 3 = 0 ∧ (xflt X S).1 = -1000004 ∧ (xplS X S).1 = (oA M O).1 ∧ CZ (oA M O).2.1 (xplS X S).2.2 (n + 24000)) ∨ ((oA M O).2.2 2 3 ≠ 0 ∧ (xflt X S).1 ≠ -1000004) := by
  rcases CZ_flt h hn h1 h3 h7 with ⟨e0, e⟩ | ⟨e0, e, e9, e1, e2⟩
  · refine Or.inl ⟨e0, e, ?_⟩
    obtain ⟨a, b, c⟩ := oini_at O
    have f7 : (xflt X S).2.1 0 7 = X 0 7 := xflt_7 X S
    have f6 : (xflt X S).2.1 6 = X 6 := by
      unfold xflt
      rw [(xfl_5 61 _ _ _).2.2 6 ⟨by decide, by decide, by decide⟩, am_u2_ne _ _ _ (by decide), am_u3_ne _ _ (by decide)]
    obtain ⟨r1, r2⟩ := RO_pl 60 0 0 M (oini O) (am_u2 (am_u3 (xflt X S).2.1 3 S) 0 8 0) S n (RO_ini (Or.inl rfl) (by rw [f7]; exact h1) (by rw [f6]; exact h3)) h ⟨by omega, by omega, by omega, by omega⟩ (by omega) (by omega) e0
    refine ⟨?_, CZ_mono r2 (by omega)⟩
    show (xpl1 61 (0, am_u2 (am_u3 (xflt X S).2.1 3 S) 0 8 0, S)).1 = (oall 60 (0, M, oini O)).1
    rw [r1]
    omega
  · exact Or.inr ⟨e0, by omega⟩
/-- what any order leaves of a state that is linked -/
theorem CZ_odo {M : am_M} {S : Nat → Int} {n : Int} (h : CZ M S n) (hn : n ≤ 900000000) (O : am_M) : ∃ T, CZ (odo M O).2 T (n + 400) := by
  unfold odo
  (repeat' split) <;> first | exact ⟨_, CZ_mono (CZ_kills h _) (by omega)⟩ | exact ⟨_, CZ_ticks h hn _⟩ | exact ⟨_, CZ_mono (CZ_elects h _) (by omega)⟩ | exact ⟨_, CZ_mono (CZ_puts h _ _) (by omega)⟩ | exact ⟨_, CZ_mono (CZ_breaks h _ _) (by omega)⟩ | exact ⟨_, CZ_mono h (by omega)⟩ | skip
  obtain ⟨T, hT⟩ := (CZ_empt h (O 2 6)).2
  exact ⟨T, CZ_mono hT (by omega)⟩
