/-! ===== linked states read the same ===== -/
theorem CL_gub {M : am_M} {S : Nat → Int} (h : CL M S) {f : Int} (hf : 0 ≤ f ∧ f ≤ 2) : (0 ≤ ygd M f ∧ ygd M f < 64) ∧ ∀ r : Int, 0 ≤ r → r ≤ 5 → bit (ygd M f) r = if xgu S f r = true then 1 else 0 := by
  obtain ⟨⟨hM, hX⟩, ⟨hn, hc, hg, -⟩, -⟩ := h
  have h5 := hg f hf.1 hf.2
  have hb := hX.2.2.1 f hf.1 hf.2
  unfold ygd
  rw [h5.1]
  by_cases q : xgod S f = -1
  · rw [if_pos q]
    refine ⟨⟨by decide, by decide⟩, fun r h0 h5 => ?_⟩
    have e : xgu S f r = false := by
      unfold xgu
      rw [show decide (0 ≤ xgod S f) = false from decide_eq_false (by omega)]
      rfl
    rw [e]
    have := bt_0 ⟨r.toNat, by omega⟩
    simp only [show ((r.toNat : Nat) : Int) = r by omega] at this
    rw [this]
    rfl
  · rw [if_neg q]
    have hc2 := hc.2 (xgod S f) (by omega) (by omega)
    have hbr : 0 ≤ rd M 2 (xgod S f) ∧ rd M 2 (xgod S f) < 64 := hM.2.2.2.2.2.2 (xgod S f) (by omega) (by omega)
    obtain ⟨a, b⟩ := bi_not6 hbr
    refine ⟨a, fun r h0 h5 => ?_⟩
    rw [b r h0 h5, hc2.2.2.2.1]
    unfold xgu
    rw [show decide (0 ≤ xgod S f) = true from decide_eq_true (by omega), Bool.true_and]
    rcases bit01 (xch S (xgod S f) 3) r with z | z
    · rw [z]; rfl
    · rw [z]; rfl
theorem CL_gd {M : am_M} {S : Nat → Int} (h : CL M S) {f : Int} (hf : 0 ≤ f ∧ f ≤ 2) : ygd M f = xgd S f := by
  obtain ⟨a, b⟩ := CL_gub h hf
  obtain ⟨c, d⟩ := bi_orW (fun r => xgu S f r)
  refine bi_ext6 a c (fun k h0 h5 => ?_)
  rw [b k h0 h5]
  have := d k h0 h5
  simp only [show ((k.toNat : Nat) : Int) = k by omega] at this
  exact this.symm
theorem am_Rz : am_R 0 := ⟨by decide, by decide⟩
theorem orW_R (p : Nat → Bool) (n : Nat) : am_R (orW p n) := by
  cases n with
  | zero => exact am_Rz
  | succ n => exact am_R_or _ _
theorem yps_orW (M : am_M) (c f : Int) (n : Nat) (hn : n ≤ 6) : ypsN M c f n = orW (fun r => rd M 4 (c * 6 + r) == -1 && rd M 6 (f * 6 + r) == -1) n := by
  induction n with
  | zero => rfl
  | succ n ih =>
    simp only [ypsN, orW]
    rw [ih (by omega)]
    by_cases h1 : rd M 4 (c * 6 + n) = -1
    · by_cases h2 : rd M 6 (f * 6 + n) = -1
      · rw [if_pos h1, if_pos h2, if_pos (by simp [h1, h2])]
      · rw [if_pos h1, if_neg h2, if_neg (by rw [h1]; simp [h2])]
        exact (am_or_0 (orW_R _ _)).symm
    · rw [if_neg h1, if_neg (by simp [h1])]
      exact (am_or_0 (orW_R _ _)).symm
theorem CL_pl {M : am_M} {S : Nat → Int} (h : CL M S) {c : Int} (hc : 0 ≤ c ∧ c < 8) : (0 ≤ yps M c ∧ yps M c < 64) ∧ ∀ r : Int, 0 ≤ r → r ≤ 5 → bit (yps M c) r = if xpl S c r = true then 1 else 0 := by
  have h' := h
  obtain ⟨⟨hM, hX⟩, ⟨hn, hcc, hg, -⟩, -⟩ := h
  obtain ⟨e1, e3, eb, e2, -⟩ := hcc.2 c hc.1 hc.2
  have hf := hX.2.2.2.1 c hc.1 hc.2
  have hbr : 0 ≤ rd M 2 c ∧ rd M 2 c < 64 := hM.2.2.2.2.2.2 c hc.1 hc.2
  have z0 : ∀ r : Int, 0 ≤ r → r ≤ 5 → bit 0 r = 0 := fun r h0 h5 => by
    have := bt_0 ⟨r.toNat, by omega⟩
    simp only [show ((r.toNat : Nat) : Int) = r by omega] at this
    exact this
  unfold yps
  rw [eb, e1, (hg _ hf.1 hf.2).1]
  by_cases q1 : xch S c 2 = 0
  · rw [if_pos q1]
    refine ⟨⟨by decide, by decide⟩, fun r h0 h5 => ?_⟩
    rw [z0 r h0 h5, if_neg (by unfold xpl; simp [q1])]
  · rw [if_neg q1]
    have q1' : xch S c 2 = 1 := by
      rcases bit01 (M 0 1) c with z | z <;> omega
    by_cases q2 : xgod S (xch S c 0) = c
    · rw [if_pos q2]
      refine ⟨⟨by decide, by decide⟩, fun r h0 h5 => ?_⟩
      rw [z0 r h0 h5, if_neg (by unfold xpl xisg; simp [q2])]
    · rw [if_neg q2, yps_orW _ _ _ _ (by decide)]
      obtain ⟨a, b⟩ := bi_orW (fun r => rd M 4 (c * 6 + r) == -1 && rd M 6 (xch S c 0 * 6 + r) == -1)
      obtain ⟨a2, b2⟩ := bi_and6 a hbr
      refine ⟨a2, fun r h0 h5 => ?_⟩
      have hk := CL_kept h' hc ⟨h0, h5⟩
      have hw := CL_wait h' hf ⟨h0, h5⟩
      have kb := xkept_b hX c r
      have wb := xwait_b hX (xch S c 0) r
      rw [b2 r h0 h5, b r h0 h5]
      simp only [show ((r.toNat : Nat) : Int) = r by omega]
      rw [← hk, ← hw, e2]
      unfold xpl xisg
      rw [q1']
      have e4 : (xkept S c r == -1) = decide (xkept S c r < 0) := by
        by_cases z : xkept S c r = -1
        · rw [z]; rfl
        · rw [beq_eq_false_iff_ne.mpr z, decide_eq_false (by omega)]
      have e5 : (xwait S (xch S c 0) r == -1) = decide (xwait S (xch S c 0) r < 0) := by
        by_cases z : xwait S (xch S c 0) r = -1
        · rw [z]; rfl
        · rw [beq_eq_false_iff_ne.mpr z, decide_eq_false (by omega)]
      rw [e4, e5, beq_eq_false_iff_ne.mpr q2]
      rcases bit01 (xch S c 3) r with z | z
      · rw [z]
        simp
      · rw [z]
        simp
theorem CL_pls {M : am_M} {S : Nat → Int} (h : CL M S) {c : Int} (hc : 0 ≤ c ∧ c < 8) : ybc (yps M c) = xpls S c := by
  obtain ⟨a, b⟩ := CL_pl h hc
  unfold xpls
  rw [(bi_cnt6 a).1, cntW_sumW]
  exact sumW_congr (fun k hk => b k (by omega) (by omega))
theorem CL_low {M : am_M} {S : Nat → Int} (h : CL M S) {c : Int} (hc : 0 ≤ c ∧ c < 8) : ylow M c = xlow S c := by
  obtain ⟨a, b⟩ := CL_pl h hc
  unfold ylow xlow
  refine fstW_congr (fun k hk => ?_)
  rw [b k (by omega) (by omega)]
  cases xpl S c k <;> rfl
theorem CL_p0 {M : am_M} {S : Nat → Int} (h : CL M S) {c : Int} (hc : 0 ≤ c ∧ c < 8) : yps M c = 0 ↔ xpls S c = 0 := by
  obtain ⟨a, b⟩ := CL_pl h hc
  constructor
  · intro q
    rw [← CL_pls h hc, q]
    decide +kernel
  · intro q
    refine bi_ext6 a ⟨by decide, by decide⟩ (fun k h0 h5 => ?_)
    rw [b k h0 h5]
    have z0 : bit 0 k = 0 := by
      have := bt_0 ⟨k.toNat, by omega⟩
      simp only [show ((k.toNat : Nat) : Int) = k by omega] at this
      exact this
    rw [z0]
    by_cases z : xpl S c k = true
    · exfalso
      unfold xpls at q
      have := cntW_lt (p := fun _ => false) (q := fun r : Nat => xpl S c r) (n := 6) (a := k.toNat) (fun _ _ q => absurd q (by decide)) (by omega) (by decide) (by simp only [show ((k.toNat : Nat) : Int) = k by omega]; exact z)
      have h0 := cntW_R (fun _ => false) 6
      omega
    · rw [if_neg z]
/-- the chip to which a word comes: the class's one round and the reference's two -/
theorem CL_best {M : am_M} {S : Nat → Int} (h : CL M S) (f lo : Int) (n : Nat) (hn : (n : Int) ≤ S 0) :
    (-1 ≤ xbest S (xq S f lo true) (-1) n ∧ -1 ≤ xbest S (xq S f lo false) (-1) n) ∧
    ybest M f lo n = (if xbest S (xq S f lo true) (-1) n < 0 then xbest S (xq S f lo false) (-1) n else xbest S (xq S f lo true) (-1) n, if xbest S (xq S f lo true) (-1) n < 0 then (if xbest S (xq S f lo false) (-1) n < 0 then 0 else xpls S (xbest S (xq S f lo false) (-1) n)) else xpls S (xbest S (xq S f lo true) (-1) n) + 6) ∧
    (0 ≤ xbest S (xq S f lo true) (-1) n → 0 < xpls S (xbest S (xq S f lo true) (-1) n)) ∧ (0 ≤ xbest S (xq S f lo false) (-1) n → 0 < xpls S (xbest S (xq S f lo false) (-1) n)) := by
  have h0 := h.1.2.1
  induction n with
  | zero =>
    refine ⟨⟨Int.le_refl _, Int.le_refl _⟩, rfl, fun q => ?_, fun q => ?_⟩
    · exact absurd q (by show ¬ (0 : Int) ≤ -1; decide)
    · exact absurd q (by show ¬ (0 : Int) ≤ -1; decide)
  | succ n ih =>
    obtain ⟨⟨i1, i2⟩, i3, i4, i5⟩ := ih (by omega)
    have hc8 : (0 : Int) ≤ (n : Int) ∧ (n : Int) < 8 := ⟨by omega, by omega⟩
    have hpl := CL_pls h hc8
    have hfam := (h.2.1.2.1.2 n hc8.1 hc8.2).1
    have hpb := xpls_b S n
    have ha := xpls_b S (xbest S (xq S f lo true) (-1) n)
    have hb := xpls_b S (xbest S (xq S f lo false) (-1) n)
    obtain ⟨A, hA⟩ : ∃ A, xbest S (xq S f lo true) (-1) n = A := ⟨_, rfl⟩
    obtain ⟨B, hB⟩ : ∃ B, xbest S (xq S f lo false) (-1) n = B := ⟨_, rfl⟩
    have hA' : xbest S (xq S f lo true) (-1) (n + 1) = if (xq S f lo true n && (decide (A < 0) || decide (xpls S A < xpls S n))) = true then (n : Int) else A := by rw [← hA]; rfl
    have hB' : xbest S (xq S f lo false) (-1) (n + 1) = if (xq S f lo false n && (decide (B < 0) || decide (xpls S B < xpls S n))) = true then (n : Int) else B := by rw [← hB]; rfl
    rw [hA] at i1 i3 i4 ha
    rw [hB] at i2 i3 i5 hb
    have er : yrk M f n = (if xpls S n ≤ 0 then xpls S n else if xch S n 0 = f then xpls S n + 6 else xpls S n) := by unfold yrk; rw [hpl, hfam]
    have ey : ybest M f lo (n + 1) = (if yrk M f n ≤ (ybest M f lo n).2 then ybest M f lo n else if (n : Int) = lo then ybest M f lo n else ((n : Int), yrk M f n)) := rfl
    rw [hA', hB', ey, i3, er]
    dsimp only
    clear hA' hB' ey er i3 ih
    by_cases q1 : (n : Int) = lo
    · have eT : xq S f lo true n = false := by unfold xq; simp [q1]
      have eF : xq S f lo false n = false := by unfold xq; simp [q1]
      rw [eT, eF]
      simp only [Bool.false_and, Bool.false_eq_true, if_false, if_pos q1]
      exact ⟨⟨i1, i2⟩, ite_self _, i4, i5⟩
    · by_cases q2 : xpls S n ≤ 0
      · have eT : xq S f lo true n = false := by unfold xq; simp; intro _ _; omega
        have eF : xq S f lo false n = false := by unfold xq; simp; intro _ _; omega
        rw [eT, eF]
        simp only [Bool.false_and, Bool.false_eq_true, if_false, if_pos q2]
        refine ⟨⟨i1, i2⟩, ?_, i4, i5⟩
        rw [if_pos]
        (repeat' split) <;> omega
      · by_cases q3 : xch S n 0 = f
        · have eT : xq S f lo true n = true := by unfold xq; simp [q1, q3]; omega
          have eF : xq S f lo false n = false := by unfold xq; simp [q3]
          rw [eT, eF]
          simp only [Bool.false_and, Bool.true_and, Bool.false_eq_true, if_false, if_neg q2, if_pos q3, if_neg q1]
          by_cases q4 : A < 0
          · rw [if_pos (by simp [q4])]
            have hr : ¬ xpls S n + 6 ≤ (if A < 0 then (if B < 0 then 0 else xpls S B) else xpls S A + 6) := by
              rw [if_pos q4]; split <;> omega
            refine ⟨⟨by omega, i2⟩, ?_, fun _ => by omega, i5⟩
            rw [if_neg hr, if_neg (by omega), if_neg (by omega)]
          · by_cases q5 : xpls S A < xpls S n
            · rw [if_pos (by simp [q5])]
              have hr : ¬ xpls S n + 6 ≤ (if A < 0 then (if B < 0 then 0 else xpls S B) else xpls S A + 6) := by
                rw [if_neg q4]; omega
              refine ⟨⟨by omega, i2⟩, ?_, fun _ => by omega, i5⟩
              rw [if_neg hr, if_neg (by omega), if_neg (by omega)]
            · rw [if_neg (by simp; omega)]
              have hr : xpls S n + 6 ≤ (if A < 0 then (if B < 0 then 0 else xpls S B) else xpls S A + 6) := by
                rw [if_neg q4]; omega
              refine ⟨⟨i1, i2⟩, ?_, i4, i5⟩
              rw [if_pos hr]
        · have eT : xq S f lo true n = false := by unfold xq; simp [q3]
          have eF : xq S f lo false n = true := by unfold xq; simp [q1, q3]; omega
          rw [eT, eF]
          simp only [Bool.false_and, Bool.true_and, Bool.false_eq_true, if_false, if_neg q2, if_neg q3, if_neg q1]
          by_cases q4 : A < 0
          · by_cases q6 : B < 0
            · rw [if_pos (show (decide (B < 0) || decide (xpls S B < xpls S n)) = true by simp [q6])]
              have hr : ¬ xpls S n ≤ (if A < 0 then (if B < 0 then 0 else xpls S B) else xpls S A + 6) := by
                rw [if_pos q4, if_pos q6]; omega
              refine ⟨⟨i1, by omega⟩, ?_, i4, fun _ => by omega⟩
              rw [if_neg hr, if_pos q4, if_pos q4, if_neg (by omega)]
            · by_cases q5 : xpls S B < xpls S n
              · rw [if_pos (show (decide (B < 0) || decide (xpls S B < xpls S n)) = true by simp [q5])]
                have hr : ¬ xpls S n ≤ (if A < 0 then (if B < 0 then 0 else xpls S B) else xpls S A + 6) := by
                  rw [if_pos q4, if_neg q6]; omega
                refine ⟨⟨i1, by omega⟩, ?_, i4, fun _ => by omega⟩
                rw [if_neg hr, if_pos q4, if_pos q4, if_neg (by omega)]
              · rw [if_neg (show ¬ (decide (B < 0) || decide (xpls S B < xpls S n)) = true by simp; omega)]
                have hr : xpls S n ≤ (if A < 0 then (if B < 0 then 0 else xpls S B) else xpls S A + 6) := by
                  rw [if_pos q4, if_neg q6]; omega
                refine ⟨⟨i1, i2⟩, ?_, i4, i5⟩
                rw [if_pos hr]
          · have hr : xpls S n ≤ (if A < 0 then (if B < 0 then 0 else xpls S B) else xpls S A + 6) := by
              have := i4 (by omega)
              rw [if_neg q4]; omega
            rw [if_pos hr]
            refine ⟨⟨i1, ?_⟩, ?_, i4, ?_⟩
            · split <;> omega
            · simp only [if_neg q4]
            · split
              · exact fun _ => by omega
              · exact i5
theorem CL_target {M : am_M} {S : Nat → Int} (h : CL M S) (f lo : Int) : ychf M f lo = xtarget S f lo := by
  have h0 := h.1.2.1
  have e0 : M 0 0 = S 0 := h.2.1.1.1.1
  obtain ⟨⟨i1, i2⟩, i3, -, -⟩ := CL_best h f lo (S 0).toNat (by omega)
  unfold ychf xtarget
  rw [e0, i3]
  dsimp only
  by_cases q : xbest S (xq S f lo true) (-1) (S 0).toNat < 0
  · rw [if_pos q, if_pos q, show xbest S (xq S f lo true) (-1) (S 0).toNat = -1 by omega]
  · rw [if_neg q, if_neg q]
