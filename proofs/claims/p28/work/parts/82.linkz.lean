/-! ===== counts: what both tell ===== -/
theorem cntW_add {p q s : Nat → Bool} {n : Nat} (h : ∀ w, w < n → (if p w = true then (1 : Int) else 0) = (if q w = true then 1 else 0) + (if s w = true then 1 else 0)) : cntW p n = cntW q n + cntW s n := by
  induction n with
  | zero => rfl
  | succ n ih =>
    have a := ih (fun w hw => h w (by omega))
    have b := h n (by omega)
    show cntW p n + _ = (cntW q n + _) + (cntW s n + _)
    omega
theorem cntW_up {p q : Nat → Bool} {n a : Nat} (ha : a < n) (hp : p a = false) (hq : q a = true) (h : ∀ w, w < n → w ≠ a → q w = p w) : cntW q n = cntW p n + 1 := by
  rw [cntW_sumW, cntW_sumW]
  exact sumW_up (a := a) ha (fun k hk hn => by rw [h k hk hn]) (by rw [hp, hq]; rfl)
theorem cntW_0 {p : Nat → Bool} {n : Nat} (h : ∀ w, w < n → p w = false) : cntW p n = 0 := by
  induction n with
  | zero => rfl
  | succ n ih =>
    show cntW p n + (if p n = true then 1 else 0) = 0
    rw [ih (fun w hw => h w (by omega)), h n (by omega)]
    rfl
theorem cntW_1 (n : Nat) : cntW (fun _ => true) n = n := by
  induction n with
  | zero => rfl
  | succ n ih =>
    show cntW (fun _ => true) n + (if true = true then 1 else 0) = _
    rw [ih, if_pos rfl]
    omega
theorem xmany_1 (S : Nat → Int) (st : Int) : xmany S (-1) st false = cntW (fun w => xwd S w 1 == st) (S 1).toNat := by
  unfold xmany
  refine cntW_congr (fun w _ => ?_)
  simp
theorem xmany_f (S : Nat → Int) {f : Int} (st : Int) (hf : 0 ≤ f) : xmany S f st false = cntW (fun w => xwd S w 1 == st && xwd S w 4 == f) (S 1).toNat := by
  unfold xmany
  refine cntW_congr (fun w _ => ?_)
  rw [decide_eq_false (by omega), Bool.false_or, Bool.false_and]
  simp
theorem CL_st {M : am_M} {S : Nat → Int} (h : CL M S) {w : Int} (hw : 0 ≤ w ∧ w < S 1) : xwd S w 1 = 0 ∨ xwd S w 1 = 1 ∨ xwd S w 1 = 2 := by
  have e := (h.2.2.1.1.1 w hw.1 hw.2).1
  have := yfate_b M w
  omega
theorem CL_wk {M : am_M} {S : Nat → Int} (h : CL M S) : ywk M = xmany S (-1) 0 false := by
  have h24 := h.1.2.2.1
  have e : M 0 2 = S 1 := h.2.1.1.1.2.1
  rw [xmany_1]
  unfold ywk
  rw [e]
  refine cntW_congr (fun w hw => ?_)
  have := CL_st0 h (w := w) ⟨by omega, by omega⟩
  by_cases q : rd M 10 w = -1
  · rw [q, show (xwd S w 1 == 0) = false from beq_eq_false_iff_ne.mpr (fun z => this.mp z q)]
    rfl
  · rw [this.mpr q, show (rd M 10 w == -1) = false from beq_eq_false_iff_ne.mpr q]
    rfl
theorem CL_ww {M : am_M} {S : Nat → Int} (h : CL M S) : yww M = xmany S (-1) 1 false := by
  have hX := h.1.2
  have h24 := hX.2.1
  have a := CL_wc h (f := 0) (by decide)
  have b := CL_wc h (f := 1) (by decide)
  have c := CL_wc h (f := 2) (by decide)
  have e : yww M = 0 + rd M 8 0 + rd M 8 1 + rd M 8 2 := rfl
  rw [xmany_1]
  have k1 := cntW_add (p := fun w : Nat => xwd S w 1 == 1) (q := fun w => xwd S w 1 == 1 && xwd S w 4 == 0) (s := fun w => xwd S w 1 == 1 && !(xwd S w 4 == 0)) (n := (S 1).toNat) (fun w hw => by
    by_cases q : xwd S w 1 = 1
    · by_cases z : xwd S w 4 = 0 <;> simp [q, z]
    · simp [q])
  have k2 := cntW_add (p := fun w : Nat => xwd S w 1 == 1 && !(xwd S w 4 == 0)) (q := fun w => xwd S w 1 == 1 && xwd S w 4 == 1) (s := fun w => xwd S w 1 == 1 && xwd S w 4 == 2) (n := (S 1).toNat) (fun w hw => by
    have hb := (hX.2.2.2.2 w (by omega) (by omega)).1
    by_cases q : xwd S w 1 = 1
    · rcases (show xwd S w 4 = 0 ∨ xwd S w 4 = 1 ∨ xwd S w 4 = 2 by omega) with z | z | z <;> simp [q, z]
    · simp [q])
  omega
theorem CL_w2 {M : am_M} {S : Nat → Int} (h : CL M S) : M 0 2 - ywk M - yww M = xmany S (-1) 2 false := by
  have h24 := h.1.2.2.1
  have e : M 0 2 = S 1 := h.2.1.1.1.2.1
  rw [CL_wk h, CL_ww h, e, xmany_1, xmany_1, xmany_1]
  have k1 := cntW_add (p := fun _ => true) (q := fun w : Nat => xwd S w 1 == 0) (s := fun w => !(xwd S w 1 == 0)) (n := (S 1).toNat) (fun w hw => by
    by_cases q : xwd S w 1 = 0 <;> simp [q])
  have k2 := cntW_add (p := fun w : Nat => !(xwd S w 1 == 0)) (q := fun w => xwd S w 1 == 1) (s := fun w => xwd S w 1 == 2) (n := (S 1).toNat) (fun w hw => by
    rcases CL_st h (w := w) ⟨by omega, by omega⟩ with z | z | z <;> simp [z])
  rw [cntW_1] at k1
  omega
theorem CL_kin {M : am_M} {S : Nat → Int} (h : CL M S) {f : Int} (hf : 0 ≤ f ∧ f ≤ 2) (b : Bool) {rows : Int} (hr : ∀ r : Int, 0 ≤ r → r ≤ 5 → bit rows r = if (b && xgu S f r) = true then 0 else 1) : ykin M f rows = xmany S f 0 b := by
  have hX := h.1.2
  have h24 := hX.2.1
  have e : M 0 2 = S 1 := h.2.1.1.1.2.1
  unfold ykin xmany
  rw [e]
  refine cntW_congr (fun w hw => ?_)
  have hw' : 0 ≤ (w : Int) ∧ (w : Int) < S 1 := ⟨by omega, by omega⟩
  have hst := CL_st0 h hw'
  rw [decide_eq_false (show ¬ f < 0 by omega), Bool.false_or]
  by_cases q : xwd S w 1 = 0
  · obtain ⟨hY, e10, e11, e12, -⟩ := CL_at0 h hw' q
    have hb := (hX.2.2.2.2 w hw'.1 (by omega)).2
    rw [show (rd M 10 w == -1) = false from beq_eq_false_iff_ne.mpr (hst.mp q), e11, e12, q]
    by_cases z : xwd S w 4 = f
    · rw [z, hr _ hb.1 hb.2]
      cases (b && xgu S f (xwd S w 3)) <;> simp
    · rw [show (xwd S w 4 == f) = false from beq_eq_false_iff_ne.mpr z]
      simp
  · have : rd M 10 w = -1 := by
      by_cases z : rd M 10 w = -1
      · exact z
      · exact absurd (hst.mpr z) q
    rw [this]
    simp [q]
theorem bit63 {r : Int} (h0 : 0 ≤ r) (h5 : r ≤ 5) : bit 63 r = 1 := by
  have key : ∀ k : Fin 6, bit 63 (k.val : Int) = 1 := by decide +kernel
  have := key ⟨r.toNat, by omega⟩
  simp only [show ((r.toNat : Nat) : Int) = r by omega] at this
  exact this
theorem CL_kin0 {M : am_M} {S : Nat → Int} (h : CL M S) {f : Int} (hf : 0 ≤ f ∧ f ≤ 2) : ykin M f 63 = xmany S f 0 false := CL_kin h hf false (fun r h0 h5 => by rw [bit63 h0 h5]; rfl)
theorem CL_kin1 {M : am_M} {S : Nat → Int} (h : CL M S) {f : Int} (hf : 0 ≤ f ∧ f ≤ 2) : ykin M f (am_and 63 (am_xor (ygd M f) (-1))) = xmany S f 0 true := by
  obtain ⟨a, b⟩ := CL_gub h hf
  refine CL_kin h hf true (fun r h0 h5 => ?_)
  rw [(bi_not6 a).2 r h0 h5, b r h0 h5, Bool.true_and]
  split <;> rfl
theorem CL_gf {M : am_M} {S : Nat → Int} (h : CL M S) : ygf M = cntW (fun f => decide (0 ≤ xgod S f)) 3 := by
  unfold ygf
  refine cntW_congr (fun f hf => ?_)
  have e := (h.2.1.2.2.1 f (by omega) (by omega)).1
  have hb := h.1.2.2.2.1 f (by omega) (by omega)
  rw [e]
  by_cases q : xgod S f = -1
  · rw [q]; rfl
  · rw [show (xgod S f == -1) = false from beq_eq_false_iff_ne.mpr q, decide_eq_true (by omega)]; rfl
theorem CL_all {M : am_M} {S : Nat → Int} (h : CL M S) : yall M (M 0 0).toNat = sumW (fun c => xpls S c) (S 0).toNat := by
  have h8 := h.1.2.1
  have e : M 0 0 = S 0 := h.2.1.1.1.1
  unfold yall
  rw [e]
  exact sumW_congr (fun c hc => CL_pls h ⟨by omega, by omega⟩)
theorem xliv_R (S : Nat → Int) (f : Int) (n : Nat) : am_R (xliv S f n) := by
  cases n with
  | zero => exact am_Rz
  | succ n => exact am_R_or _ _
theorem CL_liv {M : am_M} {S : Nat → Int} (h : CL M S) (f : Int) (n : Nat) (hn : n ≤ 8) : yliv M f n = xliv S f n := by
  induction n with
  | zero => rfl
  | succ n ih =>
    obtain ⟨e1, -, eb, -⟩ := h.2.1.2.1.2 n (by omega) (by omega)
    simp only [yliv, xliv]
    rw [ih (by omega), e1, eb]
    by_cases q : xch S n 0 = f
    · rw [if_pos q, if_pos q]
      by_cases z : xch S n 2 = 1
      · rw [if_pos z, if_pos z]
      · rw [if_neg z, if_neg z]
        exact (am_or_0 (xliv_R _ _ _)).symm
    · rw [if_neg q, if_neg q]
      exact (am_or_0 (xliv_R _ _ _)).symm
theorem sumW_cut {g : Nat → Int} {m : Nat} (n : Nat) (h : ∀ k, m ≤ k → k < m + n → g k = 0) : sumW g (m + n) = sumW g m := by
  induction n with
  | zero => rfl
  | succ n ih =>
    show sumW g (m + n) + g (m + n) = _
    rw [ih (fun k a b => h k a (by omega)), h (m + n) (by omega) (by omega)]
    omega
theorem CL_alive {M : am_M} {S : Nat → Int} (h : CL M S) : ybc (M 0 1) = sumW (fun c => xch S c 2) (S 0).toNat := by
  have h8 := h.1.2.1
  obtain ⟨hb, hc⟩ := h.2.1.2.1
  rw [bi_cnt8 hb, ← sumW_cut (g := fun c : Nat => xch S c 2) (m := (S 0).toNat) (8 - (S 0).toNat) (fun k a b => ((hc k (by omega) (by omega)).2.2.2.2 (by omega)).1), show (S 0).toNat + (8 - (S 0).toNat) = 8 by omega]
  exact sumW_congr (fun k hk => (hc k (by omega) (by omega)).2.2.1)
theorem am_xor_0 {x : Int} (h : am_R x) : am_xor x 0 = x := by
  unfold am_xor
  rw [show Int32.ofInt 0 = 0 from rfl, Int32.xor_zero]
  exact am_toInt h
theorem xsum_R (S : Nat → Int) (f r : Int) (n : Nat) : am_R (xsum S f r n) := by
  cases n with
  | zero => exact am_Rz
  | succ n => exact am_RT _
theorem CL_sum {M : am_M} {S : Nat → Int} (h : CL M S) {f r : Int} (hr : 0 ≤ r) (n : Nat) (hn : (n : Int) ≤ S 1) : ysum M f r n = xsum S f r n := by
  induction n with
  | zero => rfl
  | succ n ih =>
    have hw : 0 ≤ (n : Int) ∧ (n : Int) < S 1 := ⟨by omega, by omega⟩
    obtain ⟨c1, c2, c3, c4⟩ := h.2.2.1.1.1 n hw.1 hw.2
    simp only [ysum, xsum]
    rw [ih (by omega)]
    by_cases q : xwd S n 1 = 2
    · have := CL_at2 h hw q
      rw [if_pos q, am_xor_0 (xsum_R _ _ _ _), if_neg (show ¬ rd M 11 n = r by omega)]
      split <;> rfl
    · obtain ⟨d11, d12, d9⟩ := c3 q
      rw [if_neg q, d11, d12, d9]
      by_cases z : xwd S n 4 = f
      · rw [if_pos z, if_pos z]
        by_cases y : xwd S n 3 = r
        · rw [if_pos y, if_pos y]
        · rw [if_neg y, if_neg y]
          exact (am_xor_0 (xsum_R _ _ _ _)).symm
      · rw [if_neg z, if_neg z]
        exact (am_xor_0 (xsum_R _ _ _ _)).symm
theorem fstW_u {p : Nat → Bool} {n v : Nat} (r : Nat) (hr : r ≤ v) (hv : v < r + n) (h : ∀ k, r ≤ k → k < v → p k = false) (hp : p v = true) : fstW p r n = v := by
  induction n generalizing r with
  | zero => omega
  | succ n ih =>
    simp only [fstW]
    by_cases q : r = v
    · subst q
      rw [if_pos hp]
    · rw [h r (Nat.le_refl _) (by omega), if_neg (by decide)]
      exact ih (r + 1) (by omega) (by omega) (fun k a b => h k (by omega) b)
/-- of a queue: how many are ahead of its i-th word -/
theorem CL_ahd {M : am_M} {S : Nat → Int} (h : CL M S) {f : Int} (hf : 0 ≤ f ∧ f ≤ 2) (i : Nat) (hi : (i : Int) < rd M 8 f) : cntW (fun u => xwd S u 1 == 1 && (xwd S u 4 == f && decide (xwd S u 5 < xwd S (rd M 7 (f * 6 + i)) 5))) (S 1).toNat = i := by
  have h24 := h.1.2.2.1
  obtain ⟨a, b, c, d⟩ := h.2.2.2.1 f hf
  induction i with
  | zero =>
    refine cntW_0 (fun u hu => ?_)
    by_cases q : xwd S u 1 = 1
    · by_cases z : xwd S u 4 = f
      · obtain ⟨j, j0, j9, je⟩ := c u (by omega) (by omega) q z
        have : ¬ xwd S u 5 < xwd S (rd M 7 (f * 6 + ((0 : Nat) : Int))) 5 := by
          by_cases y : j = 0
          · rw [← je, y]; exact Int.lt_irrefl _
          · have := d 0 j (by omega) (by omega) j9
            rw [je] at this
            show ¬ xwd S u 5 < xwd S (rd M 7 (f * 6 + 0)) 5
            omega
        rw [decide_eq_false this, Bool.and_false, Bool.and_false]
      · simp [z]
    · simp [q]
  | succ i ih =>
    have ih := ih (by omega)
    obtain ⟨b1, b2, b3⟩ := b i (by omega) (by omega)
    have hd := d i ((i + 1 : Nat) : Int) (by omega) (by omega) hi
    have e := cntW_up (p := fun u : Nat => xwd S u 1 == 1 && (xwd S u 4 == f && decide (xwd S u 5 < xwd S (rd M 7 (f * 6 + i)) 5))) (q := fun u : Nat => xwd S u 1 == 1 && (xwd S u 4 == f && decide (xwd S u 5 < xwd S (rd M 7 (f * 6 + ((i + 1 : Nat) : Int))) 5))) (n := (S 1).toNat) (a := (rd M 7 (f * 6 + i)).toNat) (by omega) (by
      rw [show (((rd M 7 (f * 6 + (i : Int))).toNat : Nat) : Int) = rd M 7 (f * 6 + i) by omega]
      rw [decide_eq_false (Int.lt_irrefl _), Bool.and_false, Bool.and_false]) (by
      rw [show (((rd M 7 (f * 6 + (i : Int))).toNat : Nat) : Int) = rd M 7 (f * 6 + i) by omega]
      rw [b2, b3, decide_eq_true hd]
      simp) (fun u hu un => by
      by_cases q : xwd S u 1 = 1
      · by_cases z : xwd S u 4 = f
        · obtain ⟨j, j0, j9, je⟩ := c u (by omega) (by omega) q z
          have hji : j ≠ i := fun y => un (by rw [y] at je; omega)
          have key : (xwd S u 5 < xwd S (rd M 7 (f * 6 + ((i + 1 : Nat) : Int))) 5) ↔ (xwd S u 5 < xwd S (rd M 7 (f * 6 + i)) 5) := by
            by_cases y : j < i
            · have := d j i j0 y (by omega)
              rw [je] at this
              exact ⟨fun _ => this, fun _ => by omega⟩
            · refine ⟨fun w => ?_, fun w => by omega⟩
              exfalso
              by_cases y2 : j = ((i + 1 : Nat) : Int)
              · rw [← je, y2] at w; exact Int.lt_irrefl _ w
              · have := d ((i + 1 : Nat) : Int) j (by omega) (by omega) j9
                rw [je] at this
                omega
          rw [decide_eq_decide.mpr key]
        · rw [show (xwd S u 4 == f) = false from beq_eq_false_iff_ne.mpr z, Bool.false_and, Bool.false_and]
      · rw [show (xwd S u 1 == 1) = false from beq_eq_false_iff_ne.mpr q, Bool.false_and, Bool.false_and])
    rw [e, ih]
    omega
theorem CL_ah {M : am_M} {S : Nat → Int} (h : CL M S) {w : Int} (hw : 0 ≤ w ∧ w < S 1) (hs : xwd S w 1 = 1) : yah M w = xahead S w := by
  have h24 := h.1.2.2.1
  obtain ⟨e10, e11, e12, e9, hf, hr, e6⟩ := CL_at1 h hw hs
  obtain ⟨a, b, c, d⟩ := h.2.2.2.1 _ hf
  obtain ⟨i, i0, i9, ie⟩ := c w hw.1 hw.2 hs rfl
  have key := CL_ahd h hf i.toNat (by omega)
  rw [show ((i.toNat : Nat) : Int) = i by omega, ie] at key
  unfold yah xahead
  rw [e12, key]
  have := fstW_u (p := fun k : Nat => rd M 7 (xwd S w 4 * 6 + k) == w) (n := (rd M 8 (xwd S w 4)).toNat) (v := i.toNat) 0 (by omega) (by omega) (fun k _ hk => ?_) ?_
  · rw [this]; omega
  · refine beq_eq_false_iff_ne.mpr (fun q => ?_)
    have := d k i (by omega) (by omega) i9
    rw [q, ie] at this
    omega
  · rw [show ((i.toNat : Nat) : Int) = i by omega, ie]
    exact beq_self_eq_true w
