/-! ===== an order of the class ===== -/
def or1 (O : am_M) : am_M := am_u2 (am_u2 O 2 5 (O 3 (O 2 4).toNat)) 2 4 (O 2 4 + 1)
def rdo (O : am_M) : Bool × am_M := orf (or1 O) (O 3 (O 2 4).toNat)
theorem TO_1 {O : am_M} (h : TO O) (hn : O 2 4 < O 2 1) : TO (or1 O) := by
  obtain ⟨h1, h2, h3, h4⟩ := h
  unfold or1 TO
  rw [am_u2_hit, am_u2_rd _ _ (Or.inr (by decide)), am_u2_rd _ _ (Or.inr (by decide))]
  omega
theorem o6_at (O : am_M) : o6 O 2 4 = O 2 4 + onN O ∧ o6 O 2 1 = O 2 1 ∧ o6 O 3 = O 3 ∧ o6 O 2 3 = O 2 3 ∧ o6 O 2 2 = O 2 2 := by
  unfold o6 onX
  exact ⟨by rw [am_u2_rd _ _ (Or.inr (by decide)), am_u2_hit], by rw [am_u2_rd _ _ (Or.inr (by decide)), am_u2_rd _ _ (Or.inr (by decide))], by rw [am_u2_ne _ _ _ (by decide), am_u2_ne _ _ _ (by decide)], by rw [am_u2_rd _ _ (Or.inr (by decide)), am_u2_rd _ _ (Or.inr (by decide))], by rw [am_u2_rd _ _ (Or.inr (by decide)), am_u2_rd _ _ (Or.inr (by decide))]⟩
theorem o7_at (O : am_M) : o7 O 2 4 = O 2 4 + onN O ∧ o7 O 2 1 = O 2 1 ∧ o7 O 3 = O 3 ∧ o7 O 2 3 = O 2 3 ∧ o7 O 2 2 = O 2 2 := by
  unfold o7 onX
  exact ⟨by rw [am_u2_rd _ _ (Or.inr (by decide)), am_u2_hit], by rw [am_u2_rd _ _ (Or.inr (by decide)), am_u2_rd _ _ (Or.inr (by decide))], by rw [am_u2_ne _ _ _ (by decide), am_u2_ne _ _ _ (by decide)], by rw [am_u2_rd _ _ (Or.inr (by decide)), am_u2_rd _ _ (Or.inr (by decide))], by rw [am_u2_rd _ _ (Or.inr (by decide)), am_u2_rd _ _ (Or.inr (by decide))]⟩
theorem ohX_at (O : am_M) (c : Int) : O 2 4 ≤ ohX O c 2 4 ∧ ohX O c 2 1 = O 2 1 ∧ ohX O c 3 = O 3 ∧ ohX O c 2 3 = O 2 3 ∧ ohX O c 2 2 = O 2 2 := by
  unfold ohX
  split
  · exact ⟨by rw [am_u2_hit]; omega, am_u2_rd _ _ (Or.inr (by decide)), am_u2_ne _ _ _ (by decide), am_u2_rd _ _ (Or.inr (by decide)), am_u2_rd _ _ (Or.inr (by decide))⟩
  · exact ⟨Int.le_refl _, rfl, rfl, rfl, rfl⟩
def ORs (O Q : am_M) : Prop := TO Q ∧ O 2 4 ≤ Q 2 4 ∧ Q 2 1 = O 2 1 ∧ Q 3 = O 3 ∧ Q 2 3 = O 2 3 ∧ Q 2 2 = O 2 2
theorem ORs_6 {O : am_M} (h : TO O) : ORs O (o6 O) := by
  obtain ⟨a, b, c, d, e⟩ := o6_at O
  exact ⟨TO_6 h, by rw [a]; omega, b, c, d, e⟩
theorem ORs_7 {O P : am_M} (h : ORs O P) : ORs O (o7 P) := by
  obtain ⟨a, b, c, d, e⟩ := o7_at P
  obtain ⟨h1, h2, h3, h4, h5, h6⟩ := h
  exact ⟨TO_7 h1, by rw [a]; omega, b.trans h3, c.trans h4, d.trans h5, e.trans h6⟩
theorem ORs_h {O P : am_M} {x : Int} (h : ORs O P) : ORs O (ohX P x) := by
  obtain ⟨a, b, c, d, e⟩ := ohX_at P x
  obtain ⟨h1, h2, h3, h4, h5, h6⟩ := h
  exact ⟨TO_has h1, by omega, b.trans h3, c.trans h4, d.trans h5, e.trans h6⟩
theorem ORs_u7 {O P : am_M} {x : Int} (h : ORs O P) : ORs O (am_u2 P 2 7 x) := by
  obtain ⟨h1, h2, h3, h4, h5, h6⟩ := h
  exact ⟨TO_u h1 (by decide) (by decide), by rw [am_u2_rd _ _ (Or.inr (by decide))]; exact h2, by rw [am_u2_rd _ _ (Or.inr (by decide))]; exact h3, by rw [am_u2_ne _ _ _ (by decide)]; exact h4, by rw [am_u2_rd _ _ (Or.inr (by decide))]; exact h5, by rw [am_u2_rd _ _ (Or.inr (by decide))]; exact h6⟩
theorem ORs_orf {O : am_M} {L : Int} (h : TO O) : ORs O (orf O L).2 := by
  have h6 := ORs_6 h
  unfold orf
  (repeat' split) <;> dsimp only
  · exact h6
  · exact ORs_7 (ORs_h h6)
  · exact ORs_h (ORs_7 (ORs_h h6))
  · exact ORs_u7 (ORs_h h6)
  · exact ORs_h h6
  · exact ⟨h, Int.le_refl _, rfl, rfl, rfl, rfl⟩
theorem or1_at (O : am_M) : or1 O 2 4 = O 2 4 + 1 ∧ or1 O 2 1 = O 2 1 ∧ or1 O 3 = O 3 ∧ or1 O 2 3 = O 2 3 ∧ or1 O 2 2 = O 2 2 := by
  unfold or1
  exact ⟨am_u2_hit _ _ _ _, by rw [am_u2_rd _ _ (Or.inr (by decide)), am_u2_rd _ _ (Or.inr (by decide))], by rw [am_u2_ne _ _ _ (by decide), am_u2_ne _ _ _ (by decide)], by rw [am_u2_rd _ _ (Or.inr (by decide)), am_u2_rd _ _ (Or.inr (by decide))], by rw [am_u2_rd _ _ (Or.inr (by decide)), am_u2_rd _ _ (Or.inr (by decide))]⟩
theorem rdo_at {O : am_M} (h : TO O) (hn : O 2 4 < O 2 1) : TO (rdo O).2 ∧ O 2 4 + 1 ≤ (rdo O).2 2 4 ∧ (rdo O).2 2 1 = O 2 1 ∧ (rdo O).2 3 = O 3 ∧ (rdo O).2 2 3 = O 2 3 ∧ (rdo O).2 2 2 = O 2 2 := by
  obtain ⟨a, b, c, d, e⟩ := or1_at O
  obtain ⟨h1, h2, h3, h4, h5, h6⟩ := ORs_orf (L := O 3 (O 2 4).toNat) (TO_1 h hn)
  exact ⟨h1, by rw [← a]; exact h2, h3.trans b, h4.trans c, h5.trans d, h6.trans e⟩
/-- what an order needs -/
def YE (M : am_M) (c : Int) : Prop := (0 ≤ c ∧ c < M 0 0) → ¬ rd M 5 (rd M 1 c) = c → ∀ n : Nat, n < 6 → (yem M c n).2.2 = true → rd (yem M c n).1 4 (c * 6 + n) ≠ -1 → YK (yem M c n).1 (rd (yem M c n).1 4 (c * 6 + n))
def YS (M : am_M) : Prop := WM M ∧ (0 ≤ M 0 3 ∧ M 0 3 ≤ 100000) ∧ (∀ c, YD M c) ∧ (∀ t, YT M t) ∧ (∀ c, YE M c) ∧ (∀ c r, YB M c r) ∧ ∀ w, (0 ≤ w ∧ w < M 0 2) → ¬ rd M 10 w = -1 → YK M w
def odo (M O : am_M) : Int × am_M := if O 2 5 = 107 then ydie M (O 2 6) else if O 2 5 = 116 then ytick M (O 2 6) else if O 2 5 = 101 then yelect M (O 2 6) else if O 2 5 = 118 then yempty M (O 2 6) else if O 2 5 = 112 then yput M (O 2 6) (O 2 7) else if O 2 5 = 98 then ybreak M (O 2 6) (O 2 7) else (-1000002, M)
theorem yra_4 (M : am_M) (f : Int) : M 0 4 ≤ yra M f 0 4 ∧ yra M f 0 4 ≤ M 0 4 + 1 := by
  unfold yra
  split
  · omega
  · split
    · unfold yr1
      rw [wr_row _ _ _ (by decide), wr_row _ _ _ (by decide)]
      omega
    · rw [am_u2_hit, yr3_0]
      omega
theorem yt1_4 (M : am_M) : M 0 4 ≤ yt1 M 0 4 ∧ yt1 M 0 4 ≤ M 0 4 + 3 := by
  have a := yra_4 M 0
  have b := yra_4 (yra M 0) 1
  have c := yra_4 (yra (yra M 0) 1) 2
  unfold yt1
  omega
theorem ytN_4 (n : Nat) : ∀ M : am_M, M 0 4 ≤ ytN M n 0 4 ∧ ytN M n 0 4 ≤ M 0 4 + 3 * n := by
  induction n with
  | zero => exact fun M => ⟨Int.le_refl _, by show M 0 4 ≤ M 0 4 + 3 * ((0 : Nat) : Int); omega⟩
  | succ n ih =>
    intro M
    have a := yt1_4 M
    have b := ih (yt1 M)
    by_cases h : yt1 M 0 4 = M 0 4
    · rw [ytN_1 h]
      omega
    · rw [ytN_2 h]
      omega
theorem ytick_b (M : am_M) (t : Int) : -1000003 ≤ (ytick M t).1 ∧ (ytick M t).1 ≤ 300 := by
  have h := ytN_4 t.toNat (am_u2 M 0 3 (M 0 3 + t))
  rw [show am_u2 M 0 3 (M 0 3 + t) 0 4 = M 0 4 from am_u2_rd _ _ (Or.inr (by decide))] at h
  unfold ytick
  (repeat' split) <;> dsimp only <;> omega
theorem ydie_b (M : am_M) (c : Int) : -1000003 ≤ (ydie M c).1 ∧ (ydie M c).1 ≤ 300 := by
  have h1 := yhd_b M (rd M 1 c) 6
  have h2 := yld_b M c 6
  unfold ydie
  (repeat' split) <;> dsimp only <;> omega
theorem yelect_b (M : am_M) (c : Int) : -1000003 ≤ (yelect M c).1 ∧ (yelect M c).1 ≤ 300 := by
  have h1 := ybc_b (ygd (yelM M c) (rd (yelM M c) 1 c))
  unfold yelect
  (repeat' split) <;> dsimp only <;> omega
theorem yempty_b (M : am_M) (c : Int) : -1000003 ≤ (yempty M c).1 ∧ (yempty M c).1 ≤ 300 := by
  have h1 := yem_b M c 6
  unfold yempty
  (repeat' split) <;> dsimp only <;> omega
theorem yput_b {M : am_M} (hW : WM M) (c v : Int) : -1000003 ≤ (yput M c v).1 ∧ (yput M c v).1 ≤ 300 := by
  have h1 := hW.2.1
  unfold yput
  (repeat' split) <;> dsimp only <;> omega
theorem ybreak_b (M : am_M) (c r : Int) : -1000003 ≤ (ybreak M c r).1 ∧ (ybreak M c r).1 ≤ 300 := by
  have h1 := ylwR_b (ybr0 M c r) (rd M 1 c) r
  have h2 := ylsR_b (ybr0 M c r) (ybrw M c r)
  unfold ybreak
  (repeat' split) <;> dsimp only <;> omega
theorem odo_b {M : am_M} (hW : WM M) (O : am_M) : -1000003 ≤ (odo M O).1 ∧ (odo M O).1 ≤ 300 := by
  unfold odo
  split
  · exact ydie_b _ _
  · split
    · exact ytick_b _ _
    · split
      · exact yelect_b _ _
      · split
        · exact yempty_b _ _
        · split
          · exact yput_b hW _ _
          · split
            · exact ybreak_b _ _ _
            · exact ⟨by show (-1000003 : Int) ≤ -1000002; decide, by show (-1000002 : Int) ≤ 300; decide⟩
def os (O : am_M) : am_M := am_u2 O 2 2 (O 2 4)
def oq (O : am_M) : am_M := (rdo (os O)).2
def oG (O : am_M) : Bool := (rdo (os O)).1
def oR (M O : am_M) : Int := if oG O = true then (if oq O 2 5 = 116 then (if (odo M (oq O)).1 < 0 then 3 else 0) else (if 0 ≤ oq O 2 6 ∧ oq O 2 6 < M 0 0 then (if (odo M (oq O)).1 < 0 then 3 else 0) else 2)) else 1
def oM (M O : am_M) : am_M := if oG O = true then (if oq O 2 5 = 116 then (odo M (oq O)).2 else (if 0 ≤ oq O 2 6 ∧ oq O 2 6 < M 0 0 then (odo M (oq O)).2 else M)) else M
def oO (M O : am_M) : am_M := if oR M O = 0 then oq O else am_u2 (oq O) 2 3 (oR M O)
def oall : Nat → Int × am_M × am_M → Int × am_M × am_M
  | 0, s => s
  | k + 1, (n, M, O) => if O 2 4 < O 2 1 then (if oR M O = 0 then oall k (n + 1, oM M O, oO M O) else (n, oM M O, oO M O)) else (n, M, O)
def oini (O : am_M) : am_M := am_u2 (am_u2 O 2 4 0) 2 3 0
def oA (M O : am_M) : Int × am_M × am_M := oall 60 (0, M, oini O)
theorem oall_stop {k : Nat} {i : Int} {N Q : am_M} (hlt : Q 2 4 < Q 2 1) (hr : oR N Q ≠ 0) : oall (k + 1) (i, N, Q) = (i, oM N Q, oO N Q) := by
  simp only [oall]
  rw [if_pos hlt, if_neg hr]
theorem oall_go {k : Nat} {i : Int} {N Q : am_M} (hlt : Q 2 4 < Q 2 1) (hr : oR N Q = 0) : oall (k + 1) (i, N, Q) = oall k (i + 1, oM N Q, oO N Q) := by
  simp only [oall]
  rw [if_pos hlt, if_pos hr]
theorem oall_end {k : Nat} {i : Int} {N Q : am_M} (hlt : ¬ Q 2 4 < Q 2 1) : oall k (i, N, Q) = (i, N, Q) := by
  cases k with
  | zero => rfl
  | succ k =>
    simp only [oall]
    rw [if_neg hlt]
theorem os_at (O : am_M) : os O 2 4 = O 2 4 ∧ os O 2 1 = O 2 1 ∧ os O 3 = O 3 ∧ os O 2 3 = O 2 3 ∧ os O 2 2 = O 2 4 := by
  unfold os
  exact ⟨am_u2_rd _ _ (Or.inr (by decide)), am_u2_rd _ _ (Or.inr (by decide)), am_u2_ne _ _ _ (by decide), am_u2_rd _ _ (Or.inr (by decide)), am_u2_hit _ _ _ _⟩
theorem oq_at {O : am_M} (h : TO O) (hn : O 2 4 < O 2 1) : TO (oq O) ∧ O 2 4 + 1 ≤ oq O 2 4 ∧ oq O 2 1 = O 2 1 ∧ oq O 3 = O 3 ∧ oq O 2 3 = O 2 3 ∧ oq O 2 2 = O 2 4 := by
  obtain ⟨a, b, c, d, e⟩ := os_at O
  have hT : TO (os O) := TO_u h (by decide) (by decide)
  obtain ⟨h1, h2, h3, h4, h5, h6⟩ := rdo_at hT (by rw [a, b]; exact hn)
  exact ⟨h1, by rw [← a]; exact h2, h3.trans b, h4.trans c, h5.trans d, h6.trans e⟩
theorem oR_0 {M O : am_M} (h : oR M O = 0) : oO M O = oq O := if_pos h
