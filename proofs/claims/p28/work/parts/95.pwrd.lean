/-! ===== what words() asks, and why it is so; all answers are ints ===== -/
def aRow (M : am_M) (c : Int) : Nat → Int
  | 0 => 0
  | r + 1 => aRow M c r + (if gchip M c 2 = 0 then (if grow M c r < 0 then 0 else 1) else 0)
def WAw (M : am_M) (w : Int) : Prop := (gword M w 0 = 0 → gchip M (gword M w 1) 1 = 1 ∧ gchip M (gword M w 1) 2 = 0 ∧ grow M (gword M w 1) (gword M w 2) = w ∧ gword M w 3 = gchip M (gword M w 1) 0 ∧ 0 ≤ gread M w) ∧ (¬ gword M w 0 = 0 → gword M w 1 = -1000004) ∧ (gword M w 0 = 1 → 0 ≤ gword M w 4 ∧ 0 ≤ gread M w ∧ (gword M w 4 ≤ 0 → gfam M (gword M w 3) 6 = w)) ∧ (¬ gword M w 0 = 0 → ¬ gword M w 0 = 1 → gread M w = -1000004 ∧ gword M w 2 = -1000004)
def WAc (M : am_M) (c : Int) : Prop := gchip M c 3 = aRow M c 6 ∧ aRow M c 6 + gchip M c 4 ≤ 6 ∧ (gchip M c 1 = 1 ∨ aRow M c 6 + gchip M c 4 = 0)
def WAn (M : am_M) (n l : Int) : Prop := gcnt M n l 7 = sumW (fun w => gword M w 5) (M 0 2).toNat ∧ gcnt M n l 9 = sumW (fun c => gchip M c 4) (M 0 0).toNat
theorem fstW_lo {p : Nat → Bool} {n : Nat} (h : fstW p 0 n ≤ 0) (hn : 0 < n) : p 0 = true := by
  obtain ⟨k, rfl⟩ : ∃ k, n = k + 1 := ⟨n - 1, by omega⟩
  simp only [fstW] at h
  by_cases q : p 0 = true
  · exact q
  · rw [if_neg q] at h
    have := fstW_b p (0 + 1) k
    omega
theorem aRow_c (M : am_M) (c : Int) (n : Nat) : aRow M c n = cntW (fun r => gchip M c 2 == 0 && !decide (grow M c r < 0)) n := by
  induction n with
  | zero => rfl
  | succ n ih =>
    simp only [aRow, cntW]
    rw [ih]
    congr 1
    by_cases a : gchip M c 2 = 0
    · by_cases b : grow M c n < 0
      · simp [a, b]
      · simp [a, b]
    · simp [a]
theorem aRow_b (M : am_M) (c : Int) (n : Nat) : 0 ≤ aRow M c n ∧ aRow M c n ≤ n := by
  rw [aRow_c]
  exact cntW_R _ n
section WAS
variable {M : am_M} {S : Nat → Int} {n : Int}
theorem WA_w (h : IW M S n) {w : Int} (hw : 0 ≤ w ∧ w < M 0 2) : WAw M w := by
  obtain ⟨⟨⟨⟨hx, hy⟩, hB, hn0⟩, hV⟩, hg, hk, hr⟩ := h
  have hC := hx.1
  have hM := hC.1.1
  have hX := hC.1.2
  have h8 := hX.1
  have h24 := hX.2.1
  obtain ⟨n0, n1, -, -⟩ := hC.2.1.1.1
  have hw1 : 0 ≤ w ∧ w < S 1 := by omega
  obtain ⟨w1, w2, w3, w4⟩ := hC.2.2.1.1.1 w hw1.1 hw1.2
  have hv := hV w hw.1 (by omega)
  have hst := CL_st hC hw1
  have hrd : gread M w = if yfate M w = 2 then -1000004 else rd M 9 w := by unfold gread; rw [if_pos hw]
  rw [WAw, gword_0 hw, gword_1 hw, gword_2 hw, gword_3 hw, gword_4 hw, hrd, ← w1]
  rcases hst with z | z | z
  · obtain ⟨e10, b0, b9⟩ := w2 z
    obtain ⟨e11, e12, e9⟩ := w3 (by omega)
    obtain ⟨hc, hr5, hkt⟩ := CL_k9 hC hw1 z
    obtain ⟨p1, p2, p3⟩ := hk w hw1.1 hw1.2 z
    have hng := CLg_no hC hw1 z
    have hc0 : 0 ≤ xwd S w 2 ∧ xwd S w 2 < M 0 0 := by omega
    obtain ⟨c1, c2, c3, c4, c5⟩ := hC.2.1.2.1.2 _ hc.1 hc.2
    have fam := hX.2.2.2.1 _ hc.1 hc.2
    have gd : ¬ rd M 5 (rd M 1 (xwd S w 2)) = xwd S w 2 := by
      rw [c1, (hC.2.1.2.2.1 _ fam.1 fam.2).1]
      exact hng
    refine ⟨fun _ => ?_, fun q => absurd z q, fun q => by omega, fun q => absurd z q⟩
    rw [z, if_pos rfl, if_neg (by decide), if_neg (by decide), if_neg (by decide), e10, e11, e12, e9, gchip_1 hc0, gchip_2 hc0, gchip_0 hc0]
    refine ⟨by rw [c3, if_pos p1], by rw [if_neg gd], ?_, by rw [c1]; exact p3, hv.1⟩
    unfold grow
    rw [if_pos hc0, if_pos hr5, if_pos (by rw [c3]; exact p1), if_neg (by rw [c4, p2]; decide), if_neg gd, hkt, if_neg (by omega)]
  · obtain ⟨e11, e12, e9⟩ := w3 (by omega)
    refine ⟨fun q => by omega, fun _ => by rw [z]; rfl, fun _ => ?_, fun _ q => absurd z q⟩
    rw [z, if_pos rfl, if_neg (by decide), if_neg (by decide), e9, e12]
    have hff := (hX.2.2.2.2 w hw1.1 (by omega)).1
    have hq := hC.2.2.2.1 _ hff
    obtain ⟨i, i0, i9, ie⟩ := hq.2.2.1 w hw1.1 hw1.2 z rfl
    refine ⟨?_, hv.1, fun q => ?_⟩
    · have := fstW_b (fun i => rd M 7 (rd M 12 w * 6 + i) == w) 0 (rd M 8 (rd M 12 w)).toNat
      unfold yah
      omega
    · unfold yah at q
      have hp := fstW_lo q (by rw [e12]; omega)
      simp only [beq_iff_eq] at hp
      rw [gfam_6 hff, if_neg (by omega)]
      rw [e12] at hp
      rw [show xwd S w 4 * 6 = xwd S w 4 * 6 + ((0 : Nat) : Int) by omega]
      exact hp
  · refine ⟨fun q => by omega, fun _ => by rw [z]; rfl, fun q => by omega, fun _ _ => ?_⟩
    rw [z]
    exact ⟨rfl, rfl⟩
theorem WA_c (h : IW M S n) {c : Int} (hc : 0 ≤ c ∧ c < M 0 0) : WAc M c := by
  obtain ⟨⟨⟨⟨hx, hy⟩, hB, hn0⟩, hV⟩, hg, hk, hr⟩ := h
  have hC := hx.1
  have hM := hC.1.1
  have hX := hC.1.2
  have h8 := hX.1
  have h24 := hX.2.1
  obtain ⟨n0, n1, -, -⟩ := hC.2.1.1.1
  have hc8 : 0 ≤ c ∧ c < 8 := by omega
  obtain ⟨c1, c2, c3, c4, c5⟩ := hC.2.1.2.1.2 c hc8.1 hc8.2
  have fam := hX.2.2.2.1 c hc8.1 hc8.2
  have gd := (hC.2.1.2.2.1 _ fam.1 fam.2).1
  have key : ∀ r : Nat, r < 6 → (gchip M c 2 == 0 && !decide (grow M c r < 0)) = decide (0 ≤ xkept S c r) := by
    intro r hr6
    have hkt := CL_kept hC hc8 (r := (r : Int)) (by omega)
    have hkb := (hC.2.2.1.2.1 c r hc8 (by omega)).1
    rw [gchip_2 hc, c1, gd]
    by_cases q : xgod S (xch S c 0) = c
    · rw [if_pos q]
      have := hC.2.1.2.2.2 c hc8.1 hc8.2 q r (by omega) (by omega)
      rw [hkt, this]
      rfl
    · rw [if_neg q]
      unfold grow
      rw [if_pos hc, if_pos (by omega)]
      by_cases z : 0 ≤ xkept S c r
      · have hw : 0 ≤ rd M 4 (c * 6 + r) ∧ rd M 4 (c * 6 + r) < S 1 := by omega
        have ka := ((hC.2.2.1.2.1 c r hc8 (by omega)).2 _ hw.1 hw.2).mpr rfl
        obtain ⟨p1, p2, p3⟩ := hk _ hw.1 hw.2 ka.1
        rw [ka.2.1] at p1 p2
        rw [ka.2.2] at p2
        rw [if_pos (by rw [c3]; exact p1), if_neg (by rw [c4, p2]; decide), c1, gd, if_neg q, if_neg (by omega), decide_eq_true z, decide_eq_false (by omega)]
        rfl
      · rw [decide_eq_false z]
        have e : rd M 4 (c * 6 + r) = -1 := by omega
        rw [c1, gd, if_neg q, e]
        by_cases y1 : bit (M 0 1) c = 1
        · by_cases y2 : bit (rd M 2 c) r = 1
          · rw [if_pos y1, if_pos y2]; rfl
          · rw [if_pos y1, if_neg y2]; rfl
        · rw [if_neg y1]; rfl
  have e1 : aRow M c 6 = xwords S c := by
    rw [aRow_c]
    exact cntW_congr key
  have e4 : gchip M c 4 = xpls S c := (gchip_4 hc).trans (CL_pls hC hc8)
  rw [WAc, e1, e4, gchip_3 hc, CL_kb hC hc8, gchip_1 hc, c3]
  have two : xwords S c + xpls S c ≤ 6 := by
    have : ∀ k : Nat, cntW (fun r => decide (0 ≤ xkept S c r)) k + cntW (fun r => xpl S c r) k ≤ k := by
      intro k
      induction k with
      | zero => exact Int.le_refl _
      | succ k ih =>
        simp only [cntW]
        by_cases z : xpl S c k = true
        · rw [if_pos z, if_neg (by rw [decide_eq_true_eq]; have := (xpl_lv z).2.2.1; omega)]
          omega
        · rw [if_neg z]
          split <;> omega
    exact this 6
  refine ⟨rfl, two, ?_⟩
  by_cases z : xch S c 2 = 1
  · rw [if_pos z]
    exact Or.inl rfl
  · refine Or.inr ?_
    have a : xwords S c = 0 := by
      refine cntW_0 (fun r hr6 => decide_eq_false (fun y => ?_))
      have hkt := CL_kept hC hc8 (r := (r : Int)) (by omega)
      have hkb := (hC.2.2.1.2.1 c r hc8 (by omega)).1
      have hw : 0 ≤ rd M 4 (c * 6 + r) ∧ rd M 4 (c * 6 + r) < S 1 := by omega
      have ka := ((hC.2.2.1.2.1 c r hc8 (by omega)).2 _ hw.1 hw.2).mpr rfl
      obtain ⟨p1, p2, p3⟩ := hk _ hw.1 hw.2 ka.1
      rw [ka.2.1] at p1
      exact z p1
    have b : xpls S c = 0 := by
      refine cntW_0 (fun r hr6 => ?_)
      by_cases y : xpl S c r = true
      · exact absurd (xpl_lv y).1 z
      · simpa using y
    omega
theorem WA_n (h : IW M S n) (a l : Int) : WAn M a l := by
  obtain ⟨⟨⟨⟨hx, hy⟩, hB, hn0⟩, hV⟩, hg, hk, hr⟩ := h
  have hC := hx.1
  obtain ⟨n0, n1, n2, n3⟩ := hC.2.1.1.1
  refine ⟨?_, ?_⟩
  · show M 0 4 = _
    rw [n3, hr, n1]
    refine sumW_congr (fun w hw => ?_)
    rw [gword_5 (by omega)]
    exact (hC.2.2.1.1.1 w (by omega) (by omega)).2.2.2.symm
  · show yall M (M 0 0).toNat = _
    unfold yall
    exact sumW_congr (fun c hc => (gchip_4 (by omega)).symm)
end WAS
section ANR
variable {M : am_M}
theorem cntW_Rn (p : Nat → Bool) {k : Int} (h : k ≤ 24) : am_R (cntW p k.toNat) := by
  have := cntW_R p k.toNat
  exact ⟨by omega, by omega⟩
theorem gchip_R (hR : ∀ j k, am_R (M j k)) (hM : WM M) (c k : Int) : am_R (gchip M c k) := by
  have h24 := hM.2.1
  unfold gchip
  (repeat' split) <;> first | exact hR _ _ | exact ⟨by decide, by decide⟩ | exact ybc_R _ | exact cntW_Rn _ (by omega)
theorem ysum_R (f r : Int) (n : Nat) : am_R (ysum M f r n) := by
  induction n with
  | zero => exact am_Rz
  | succ n ih =>
    simp only [ysum]
    (repeat' split) <;> first | exact ih | exact am_RT _
theorem grow_R (hR : ∀ j k, am_R (M j k)) (c r : Int) : am_R (grow M c r) := by
  unfold grow
  (repeat' split) <;> first | exact hR _ _ | exact ⟨by decide, by decide⟩ | exact ysum_R _ _ _
theorem gread_R (hR : ∀ j k, am_R (M j k)) (w : Int) : am_R (gread M w) := by
  unfold gread
  (repeat' split) <;> first | exact hR _ _ | exact ⟨by decide, by decide⟩
theorem yliv_R (f : Int) (n : Nat) : am_R (yliv M f n) := by
  induction n with
  | zero => exact am_Rz
  | succ n ih =>
    simp only [yliv]
    (repeat' split) <;> first | exact ih | exact am_RT _
theorem gfam_R (hR : ∀ j k, am_R (M j k)) (hM : WM M) (f k : Int) : am_R (gfam M f k) := by
  have h24 := hM.2.1
  have hgd : am_R (ygd M f) := by
    unfold ygd
    split
    · exact am_Rz
    · exact am_RT _
  unfold gfam
  (repeat' split) <;> first | exact hR _ _ | exact ⟨by decide, by decide⟩ | exact yliv_R _ _ | exact cntW_Rn _ (by omega) | exact hgd
theorem gword_R (hR : ∀ j k, am_R (M j k)) (hM : WM M) (w k : Int) : am_R (gword M w k) := by
  unfold gword
  by_cases hw : 0 ≤ w ∧ w < M 0 2
  · have h24 := hM.2.1
    have hf := (hM.2.2.2.2.2.1 w hw.1 (by omega)).1
    have h8 := hM.2.2.2.2.1 _ hf.1 hf.2
    have ha : am_R (yah M w) := by
      have := fstW_b (fun i => rd M 7 (rd M 12 w * 6 + i) == w) 0 (rd M 8 (rd M 12 w)).toNat
      unfold yah
      exact ⟨by omega, by omega⟩
    have hy : am_R (yfate M w) := ⟨by have := yfate_b M w; omega, by have := yfate_b M w; omega⟩
    rw [if_pos hw]
    (repeat' split) <;> first | exact hR _ _ | exact ⟨by decide, by decide⟩ | exact ha | exact hy
  · rw [if_neg hw]
    exact ⟨by decide, by decide⟩
theorem yall_b (M : am_M) (n : Nat) : 0 ≤ yall M n ∧ yall M n ≤ 63 * n := by
  induction n with
  | zero => exact ⟨Int.le_refl _, Int.le_refl _⟩
  | succ n ih =>
    have := ybc_b (yps M n)
    unfold yall at ih ⊢
    simp only [sumW]
    omega
theorem gcnt_R (hR : ∀ j k, am_R (M j k)) (hM : WM M) {a l : Int} (ha : am_R a) (hl : am_R l) (k : Int) : am_R (gcnt M a l k) := by
  have h24 := hM.2.1
  have h8 := hM.1
  have w1 := cntW_R (fun w => !(rd M 10 w == -1)) (M 0 2).toNat
  have w2 := yww_b hM
  have w3 := yall_b M (M 0 0).toNat
  have w4 := cntW_R (fun f => !(rd M 5 f == -1)) 3
  have e1 : ywk M = cntW (fun w => !(rd M 10 w == -1)) (M 0 2).toNat := rfl
  have e4 : ygf M = cntW (fun f => !(rd M 5 f == -1)) 3 := rfl
  rw [← e1] at w1
  rw [← e4] at w4
  unfold gcnt
  (repeat' split) <;> first | exact hR _ _ | exact ⟨by decide, by decide⟩ | exact ybc_R _ | assumption | exact ⟨by omega, by omega⟩
end ANR
