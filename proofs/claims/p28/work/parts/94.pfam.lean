/-! ===== what families() asks, and why it is so ===== -/
def IW (M : am_M) (S : Nat → Int) (n : Int) : Prop := CW M S n ∧ PI S
def aSum (M : am_M) (f r : Int) : Nat → Int
  | 0 => 0
  | n + 1 => am_xor (aSum M f r n) (if gword M n 3 = f then (if gword M n 2 = r then gread M n else 0) else 0)
def aHere (M : am_M) (f r : Int) : Nat → Int
  | 0 => 0
  | n + 1 => aHere M f r n + (if gword M n 3 = f then (if gword M n 2 = r then (if gword M n 0 = 1 then 1 else 0) else 0) else 0)
def aHd (M : am_M) : Nat → Int
  | 0 => 0
  | n + 1 => aHd M n + (if gfam M n 0 < 0 then 0 else 1)
def FAf (M : am_M) (f : Int) : Prop := (gfam M f 0 < 0 → gfam M f 4 = 0 ∧ gfam M f 2 = 0) ∧ (0 ≤ gfam M f 0 → (bit (gfam M f 1) (gfam M f 0) = 1 ∧ gchip M (gfam M f 0) 2 = 1 ∧ gchip M (gfam M f 0) 3 = 0 ∧ gfam M f 4 = am_and 63 (am_xor (gchip M (gfam M f 0) 5) (-1))) ∧ ∀ r : Int, 0 ≤ r → r ≤ 5 → aHere M f r (M 0 2).toNat ≤ (if bit (gfam M f 4) r = 1 then 1 else 0) ∧ (bit (gfam M f 4) r = 0 ∨ grow M (gfam M f 0) r = aSum M f r (M 0 2).toNat)) ∧ (gfam M f 6 = -1000004 ↔ gfam M f 2 = 0) ∧ gfam M f 5 ≤ gfam M f 3
def FAc (M : am_M) (n l : Int) : Prop := gcnt M n l 8 = aHd M 3 ∧ gcnt M n l 4 = sumW (fun f => gfam M f 2) 3 ∧ gcnt M n l 3 = sumW (fun f => gfam M f 3) 3 ∧ gcnt M n l 1 = sumW (fun f => sumW (fun c => bit (gfam M f 1) c) 8) 3 ∧ gcnt M n l 3 + gcnt M n l 4 + gcnt M n l 5 = gcnt M n l 2
theorem gfam_0 {M : am_M} {f : Int} (hf : 0 ≤ f ∧ f ≤ 2) : gfam M f 0 = if rd M 5 f = -1 then -1000004 else rd M 5 f := by unfold gfam; rw [if_pos hf]; rfl
theorem gfam_1 {M : am_M} {f : Int} (hf : 0 ≤ f ∧ f ≤ 2) : gfam M f 1 = yliv M f (M 0 0).toNat := by unfold gfam; rw [if_pos hf]; rfl
theorem gfam_2 {M : am_M} {f : Int} (hf : 0 ≤ f ∧ f ≤ 2) : gfam M f 2 = rd M 8 f := by unfold gfam; rw [if_pos hf]; rfl
theorem gfam_3 {M : am_M} {f : Int} (hf : 0 ≤ f ∧ f ≤ 2) : gfam M f 3 = ykin M f 63 := by unfold gfam; rw [if_pos hf]; rfl
theorem gfam_4 {M : am_M} {f : Int} (hf : 0 ≤ f ∧ f ≤ 2) : gfam M f 4 = ygd M f := by unfold gfam; rw [if_pos hf]; rfl
theorem gfam_5 {M : am_M} {f : Int} (hf : 0 ≤ f ∧ f ≤ 2) : gfam M f 5 = ykin M f (am_and 63 (am_xor (ygd M f) (-1))) := by unfold gfam; rw [if_pos hf]; rfl
theorem gfam_6 {M : am_M} {f : Int} (hf : 0 ≤ f ∧ f ≤ 2) : gfam M f 6 = if rd M 8 f = 0 then -1000004 else rd M 7 (f * 6) := by unfold gfam; rw [if_pos hf]; rfl
theorem gchip_0 {M : am_M} {c : Int} (hc : 0 ≤ c ∧ c < M 0 0) : gchip M c 0 = rd M 1 c := by unfold gchip; rw [if_pos hc]; rfl
theorem gchip_1 {M : am_M} {c : Int} (hc : 0 ≤ c ∧ c < M 0 0) : gchip M c 1 = if bit (M 0 1) c = 1 then 1 else 0 := by unfold gchip; rw [if_pos hc]; rfl
theorem gchip_2 {M : am_M} {c : Int} (hc : 0 ≤ c ∧ c < M 0 0) : gchip M c 2 = if rd M 5 (rd M 1 c) = c then 1 else 0 := by unfold gchip; rw [if_pos hc]; rfl
theorem gchip_3 {M : am_M} {c : Int} (hc : 0 ≤ c ∧ c < M 0 0) : gchip M c 3 = ykb M c := by unfold gchip; rw [if_pos hc]; rfl
theorem gchip_4 {M : am_M} {c : Int} (hc : 0 ≤ c ∧ c < M 0 0) : gchip M c 4 = ybc (yps M c) := by unfold gchip; rw [if_pos hc]; rfl
theorem gchip_5 {M : am_M} {c : Int} (hc : 0 ≤ c ∧ c < M 0 0) : gchip M c 5 = rd M 2 c := by unfold gchip; rw [if_pos hc]; rfl
theorem gword_0 {M : am_M} {w : Int} (hw : 0 ≤ w ∧ w < M 0 2) : gword M w 0 = yfate M w := by unfold gword; rw [if_pos hw]; rfl
theorem gword_1 {M : am_M} {w : Int} (hw : 0 ≤ w ∧ w < M 0 2) : gword M w 1 = if yfate M w = 0 then rd M 10 w else -1000004 := by unfold gword; rw [if_pos hw]; rfl
theorem gword_2 {M : am_M} {w : Int} (hw : 0 ≤ w ∧ w < M 0 2) : gword M w 2 = if yfate M w = 2 then -1000004 else rd M 11 w := by unfold gword; rw [if_pos hw]; rfl
theorem gword_3 {M : am_M} {w : Int} (hw : 0 ≤ w ∧ w < M 0 2) : gword M w 3 = if yfate M w = 2 then -1000004 else rd M 12 w := by unfold gword; rw [if_pos hw]; rfl
theorem gword_4 {M : am_M} {w : Int} (hw : 0 ≤ w ∧ w < M 0 2) : gword M w 4 = if yfate M w = 1 then yah M w else -1000004 := by unfold gword; rw [if_pos hw]; rfl
theorem gword_5 {M : am_M} {w : Int} (hw : 0 ≤ w ∧ w < M 0 2) : gword M w 5 = rd M 13 w := by unfold gword; rw [if_pos hw]; rfl
theorem xliv_bit {S : Nat → Int} (f : Int) (n : Nat) (hn : n ≤ 8) : (0 ≤ xliv S f n ∧ xliv S f n < 256) ∧ ∀ c : Int, 0 ≤ c → c < 8 → bit (xliv S f n) c = if c < n ∧ xch S c 0 = f ∧ xch S c 2 = 1 then 1 else 0 := by
  induction n with
  | zero =>
    refine ⟨⟨Int.le_refl _, by show (0 : Int) < 256; decide⟩, fun c c0 c8 => ?_⟩
    rw [if_neg (by omega)]
    have := bt_0 ⟨c.toNat, by omega⟩
    simp only [show ((c.toNat : Nat) : Int) = c by omega] at this
    exact this
  | succ n ih =>
    obtain ⟨i1, i2⟩ := ih (by omega)
    simp only [xliv]
    by_cases q : xch S n 0 = f ∧ xch S n 2 = 1
    · rw [if_pos q.1, if_pos q.2]
      have ho := bi_or8 i1 (r := (n : Int)) (by omega)
      refine ⟨ho.1, fun c c0 c8 => ?_⟩
      rw [ho.2 c c0 c8]
      by_cases e : c = n
      · rw [if_pos e, if_pos ⟨by omega, by rw [e]; exact q.1, by rw [e]; exact q.2⟩]
      · rw [if_neg e, i2 c c0 c8]
        by_cases z : xch S c 0 = f ∧ xch S c 2 = 1
        · by_cases y : c < n
          · rw [if_pos ⟨y, z⟩, if_pos ⟨by omega, z⟩]
          · rw [if_neg (fun h => y h.1), if_neg (fun h => by omega)]
        · rw [if_neg (fun h => z h.2), if_neg (fun h => z h.2)]
    · have e0 : (if xch S n 0 = f then (if xch S n 2 = 1 then am_shl 1 n else 0) else 0) = 0 := by
        by_cases a : xch S n 0 = f
        · rw [if_pos a, if_neg (fun b => q ⟨a, b⟩)]
        · rw [if_neg a]
      rw [e0, am_or_0 ⟨by omega, by omega⟩]
      refine ⟨i1, fun c c0 c8 => ?_⟩
      rw [i2 c c0 c8]
      by_cases e : c = n
      · rw [if_neg (fun h => by omega), if_neg (fun h => q (by rw [← e]; exact h.2))]
      · by_cases z : xch S c 0 = f ∧ xch S c 2 = 1
        · by_cases y : c < n
          · rw [if_pos ⟨y, z⟩, if_pos ⟨by omega, z⟩]
          · rw [if_neg (fun h => y h.1), if_neg (fun h => by omega)]
        · rw [if_neg (fun h => z h.2), if_neg (fun h => z h.2)]
theorem aHere_c (M : am_M) (f r : Int) (n : Nat) : aHere M f r n = cntW (fun w => gword M w 3 == f && (gword M w 2 == r && gword M w 0 == 1)) n := by
  induction n with
  | zero => rfl
  | succ n ih =>
    simp only [aHere, cntW]
    rw [ih]
    congr 1
    by_cases a : gword M n 3 = f
    · by_cases b : gword M n 2 = r
      · by_cases c : gword M n 0 = 1
        · simp [a, b, c]
        · simp [a, b, c]
      · simp [a, b]
    · simp [a]
theorem aHere_b (M : am_M) (f r : Int) (n : Nat) : 0 ≤ aHere M f r n ∧ aHere M f r n ≤ n := by
  rw [aHere_c]
  exact cntW_R _ n
theorem aSum_R (M : am_M) (f r : Int) (n : Nat) : am_R (aSum M f r n) := by
  cases n with
  | zero => exact am_Rz
  | succ n => exact am_RT _
theorem cntW_fam {p : Nat → Bool} {q : Nat → Int} (n : Nat) (h : ∀ w, w < n → p w = true → 0 ≤ q w ∧ q w ≤ 2) : cntW p n = cntW (fun w => p w && q w == 0) n + cntW (fun w => p w && q w == 1) n + cntW (fun w => p w && q w == 2) n := by
  induction n with
  | zero => rfl
  | succ n ih =>
    simp only [cntW]
    rw [ih (fun w hw => h w (by omega))]
    by_cases hp : p n = true
    · have := h n (by omega) hp
      rcases (show q n = 0 ∨ q n = 1 ∨ q n = 2 by omega) with e | e | e <;> simp only [hp, e] <;> simp <;> omega
    · have hp : p n = false := by simpa using hp
      simp only [hp]
      simp
theorem sumW_3 (g : Nat → Int) : sumW g 3 = g 0 + g 1 + g 2 := by
  show 0 + g 0 + g 1 + g 2 = _
  omega
section FAS
variable {M : am_M} {S : Nat → Int} {n : Int}
theorem FA_f (h : IW M S n) (hR : ∀ j k, am_R (M j k)) {f : Int} (hf : 0 ≤ f ∧ f ≤ 2) : FAf M f := by
  obtain ⟨⟨⟨⟨hx, hy⟩, hB, hn0⟩, hV⟩, hg, hk, hr⟩ := h
  have hC := hx.1
  have hM := hC.1.1
  have hX := hC.1.2
  have h8 := hX.1
  have h24 := hX.2.1
  obtain ⟨n0, n1, -, -⟩ := hC.2.1.1.1
  obtain ⟨f1, f2⟩ := hC.2.1.2.2.1 f hf.1 hf.2
  have fb := hM.2.2.2.1 f hf.1 hf.2
  have hgu := (CL_gub hC hf).2
  have hwc := CL_wc hC hf
  rw [FAf, gfam_0 hf, gfam_1 hf, gfam_2 hf, gfam_3 hf, gfam_4 hf, gfam_5 hf, gfam_6 hf]
  refine ⟨fun q => ?_, fun q => ?_, ?_, ?_⟩
  · have e : rd M 5 f = -1 := by
      by_cases z : rd M 5 f = -1
      · exact z
      · rw [if_neg z] at q; omega
    refine ⟨by unfold ygd; rw [if_pos e], ?_⟩
    rw [hwc]
    refine cntW_0 (fun w hw => ?_)
    by_cases z : xwd S w 1 = 1 ∧ xwd S w 4 = f
    · exfalso
      have := hx.2 w (by omega) (by omega) z.1
      rw [z.2] at this
      unfold xgu at this
      simp only [Bool.and_eq_true, decide_eq_true_eq] at this
      omega
    · simp only [Bool.and_eq_false_iff, beq_eq_false_iff_ne]
      by_cases y : xwd S w 1 = 1
      · exact Or.inr (fun t => z ⟨y, t⟩)
      · exact Or.inl y
  · have e : ¬ rd M 5 f = -1 := by
      intro z
      rw [if_pos z] at q
      omega
    rw [if_neg e]
    have g0 : 0 ≤ xgod S f := by omega
    have gc : 0 ≤ rd M 5 f ∧ rd M 5 f < M 0 0 := by omega
    have g8 : 0 ≤ rd M 5 f ∧ rd M 5 f < 8 := by omega
    obtain ⟨c1, c2, c3, c4, c5⟩ := hC.2.1.2.1.2 _ g8.1 g8.2
    have gy : xch S (rd M 5 f) 0 = f := by rw [f1]; exact hy f hf.1 hf.2 g0
    have gl : xch S (rd M 5 f) 2 = 1 := by rw [f1]; exact hg f hf.1 hf.2 g0
    have gg : rd M 5 (rd M 1 (rd M 5 f)) = rd M 5 f := by rw [c1, gy]
    refine ⟨⟨?_, ?_, ?_, ?_⟩, fun r r0 r5 => ?_⟩
    · rw [CL_liv hC f _ (by omega), (xliv_bit f _ (by omega)).2 _ g8.1 g8.2, if_pos ⟨by omega, gy, gl⟩]
    · rw [gchip_2 gc, if_pos gg]
    · rw [gchip_3 gc, CL_kb hC g8]
      refine cntW_0 (fun r hr => ?_)
      rw [CL_kept hC g8 (by omega), hC.2.1.2.2.2 _ g8.1 g8.2 (by rw [gy, ← f1]) _ (by omega) (by omega)]
      rfl
    · rw [gchip_5 gc]
      unfold ygd
      rw [if_neg e]
    · have hwt := hC.2.2.1.2.2 f r hf ⟨r0, r5⟩
      have iff1 : ∀ w : Nat, w < (M 0 2).toNat → ((gword M w 3 == f && (gword M w 2 == r && gword M w 0 == 1)) = true ↔ wat S w f r) := by
        intro w hw
        have hw2 : 0 ≤ (w : Int) ∧ (w : Int) < M 0 2 := by omega
        obtain ⟨w1, w2, w3, w4⟩ := hC.2.2.1.1.1 w (by omega) (by omega)
        rw [gword_3 hw2, gword_2 hw2, gword_0 hw2]
        simp only [Bool.and_eq_true, beq_iff_eq]
        unfold wat
        rw [w1]
        constructor
        · rintro ⟨a, b, c⟩
          have := w3 (by rw [w1, c]; decide)
          rw [c, if_neg (by decide)] at a b
          exact ⟨c, this.2.1.symm.trans a, this.1.symm.trans b⟩
        · rintro ⟨a, b, c⟩
          have := w3 (by rw [w1, a]; decide)
          rw [a, if_neg (by decide), if_neg (by decide)]
          exact ⟨this.2.1.trans b, this.1.trans c, rfl⟩
      rw [aHere_c, hgu r r0 r5]
      refine ⟨?_, ?_⟩
      · by_cases u : xgu S f r = true
        · rw [if_pos u, if_pos rfl, cntW_one (v := rd M 6 (f * 6 + r)) (fun w hw => (iff1 w hw).trans ((hwt.2 w (by omega) (by omega)).trans eq_comm))]
          split <;> decide
        · rw [if_neg u, if_neg (by decide)]
          rw [cntW_0 (fun w hw => ?_)]
          · exact Int.le_refl _
          · by_cases z : (gword M w 3 == f && (gword M w 2 == r && gword M w 0 == 1)) = true
            · exfalso
              obtain ⟨a, b, c⟩ := (iff1 w hw).mp z
              have := hx.2 w (by omega) (by omega) a
              rw [b, c] at this
              exact u this
            · simpa using z
      · by_cases u : xgu S f r = true
        · rw [if_pos u]
          refine Or.inr ?_
          have ub : bit (xch S (xgod S f) 3) r = 0 := by
            unfold xgu at u
            simp only [Bool.and_eq_true, beq_iff_eq] at u
            exact u.2
          unfold grow
          rw [if_pos gc, if_pos ⟨r0, r5⟩, if_pos (by rw [c3]; exact gl), if_neg (by rw [c4, f1, ub]; decide), if_pos gg, c1, gy]
          have key : ∀ k : Nat, k ≤ (M 0 2).toNat → ysum M f r k = aSum M f r k := by
            intro k
            induction k with
            | zero => intro _; rfl
            | succ k ih =>
              intro hk
              have hk2 : 0 ≤ (k : Int) ∧ (k : Int) < M 0 2 := by omega
              have sR := aSum_R M f r k
              simp only [ysum, aSum]
              rw [ih (by omega), gword_3 hk2, gword_2 hk2]
              unfold gread
              rw [if_pos hk2]
              by_cases z : yfate M k = 2
              · have z11 : rd M 11 k = -1 := by
                  unfold yfate at z
                  by_cases a : rd M 10 k = -1
                  · by_cases b : rd M 11 k = -1
                    · exact b
                    · rw [if_pos a, if_neg b] at z; omega
                  · rw [if_neg a] at z; omega
                rw [if_pos z, if_neg (show ¬ (-1000004 : Int) = f by omega), am_xor_0 sR]
                by_cases a : rd M 12 k = f
                · rw [if_pos a, if_neg (by omega)]
                · rw [if_neg a]
              · rw [if_neg z, if_neg z, if_neg z]
                by_cases a : rd M 12 k = f
                · rw [if_pos a, if_pos a]
                  by_cases b : rd M 11 k = r
                  · rw [if_pos b, if_pos b]
                  · rw [if_neg b, if_neg b, am_xor_0 sR]
                · rw [if_neg a, if_neg a, am_xor_0 sR]
          exact key _ (Nat.le_refl _)
        · exact Or.inl (by rw [if_neg u])
  · have h8f := hM.2.2.2.2.1 f hf.1 hf.2
    by_cases z : rd M 8 f = 0
    · rw [if_pos z]
      exact ⟨fun _ => z, fun _ => rfl⟩
    · rw [if_neg z]
      have hq := ((hC.2.2.2.1 f hf).2.1 0 (by decide) (by omega)).1.1
      rw [show f * 6 + 0 = f * 6 by omega] at hq
      exact ⟨fun y => by omega, fun y => absurd y z⟩
  · rw [CL_kin1 hC hf, CL_kin0 hC hf]
    unfold xmany
    refine cntW_le (fun w hw z => ?_)
    simp only [Bool.and_eq_true] at z ⊢
    exact ⟨z.1, rfl⟩
theorem FA_c (h : IW M S n) (a l : Int) : FAc M a l := by
  obtain ⟨⟨⟨⟨hx, hy⟩, hB, hn0⟩, hV⟩, hg, hk, hr⟩ := h
  have hC := hx.1
  have hM := hC.1.1
  have hX := hC.1.2
  have h8 := hX.1
  have h24 := hX.2.1
  obtain ⟨n0, n1, -, -⟩ := hC.2.1.1.1
  have f3 : ∀ k : Nat, k < 3 → 0 ≤ (k : Int) ∧ (k : Int) ≤ 2 := fun k hk => by omega
  refine ⟨?_, ?_, ?_, ?_, ?_⟩
  · show ygf M = aHd M 3
    unfold ygf
    have key : ∀ k : Nat, k ≤ 3 → cntW (fun f => !(rd M 5 f == -1)) k = aHd M k := by
      intro k
      induction k with
      | zero => intro _; rfl
      | succ k ih =>
        intro hk
        have fb := hM.2.2.2.1 k (by omega) (by omega)
        simp only [cntW, aHd]
        rw [ih (by omega), gfam_0 (f3 k (by omega))]
        congr 1
        by_cases z : rd M 5 k = -1
        · simp [z]
        · rw [if_neg z, if_neg (show ¬ rd M 5 k < 0 by omega)]
          simp [z]
    exact key 3 (by decide)
  · show yww M = _
    unfold yww
    exact sumW_congr (fun k hk => (gfam_2 (f3 k hk)).symm)
  · show ywk M = _
    rw [CL_wk hC, xmany_1, sumW_3]
    rw [show gfam M ((0 : Nat) : Int) 3 = _ from (gfam_3 (f3 0 (by decide))).trans ((CL_kin0 hC (f3 0 (by decide))).trans (xmany_f S 0 (by decide))), show gfam M ((1 : Nat) : Int) 3 = _ from (gfam_3 (f3 1 (by decide))).trans ((CL_kin0 hC (f3 1 (by decide))).trans (xmany_f S 0 (by decide))), show gfam M ((2 : Nat) : Int) 3 = _ from (gfam_3 (f3 2 (by decide))).trans ((CL_kin0 hC (f3 2 (by decide))).trans (xmany_f S 0 (by decide)))]
    exact cntW_fam _ (fun w hw _ => (hX.2.2.2.2 w (by omega) (by omega)).1)
  · show ybc (M 0 1) = _
    rw [bi_cnt8 hC.2.1.2.1.1, sumW_3, ← sumW_add, ← sumW_add]
    refine sumW_congr (fun c hc => ?_)
    obtain ⟨c1, c2, c3, c4, c5⟩ := hC.2.1.2.1.2 c (by omega) (by omega)
    have hb : ∀ f : Nat, f < 3 → bit (gfam M f 1) c = if (c : Int) < (M 0 0).toNat ∧ xch S c 0 = f ∧ xch S c 2 = 1 then 1 else 0 := fun f hf => by
      rw [gfam_1 (f3 f hf), CL_liv hC f _ (by omega), (xliv_bit f _ (by omega)).2 _ (by omega) (by omega)]
    rw [hb 0 (by decide), hb 1 (by decide), hb 2 (by decide), c3]
    have fam := hX.2.2.2.1 c (by omega) (by omega)
    by_cases z : xch S c 2 = 1
    · have hlt : (c : Int) < (M 0 0).toNat := by
        by_cases y : S 0 ≤ c
        · have := (c5 y).1; omega
        · omega
      rcases (show xch S c 0 = 0 ∨ xch S c 0 = 1 ∨ xch S c 0 = 2 by omega) with e | e | e
      · rw [if_pos ⟨hlt, e, z⟩, if_neg (fun y => by have := y.2.1; omega), if_neg (fun y => by have := y.2.1; omega)]; omega
      · rw [if_neg (fun y => by have := y.2.1; omega), if_pos ⟨hlt, e, z⟩, if_neg (fun y => by have := y.2.1; omega)]; omega
      · rw [if_neg (fun y => by have := y.2.1; omega), if_neg (fun y => by have := y.2.1; omega), if_pos ⟨hlt, e, z⟩]; omega
    · rw [if_neg (fun y => z y.2.2), if_neg (fun y => z y.2.2), if_neg (fun y => z y.2.2)]
      have b2 : xch S c 2 = 0 ∨ xch S c 2 = 1 := by
        rw [← c3]
        exact bit01 _ _
      omega
  · show ywk M + yww M + (M 0 2 - ywk M - yww M) = M 0 2
    omega
end FAS
