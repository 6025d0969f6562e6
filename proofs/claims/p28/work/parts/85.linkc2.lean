/-! ===== what would be: the same answers ===== -/
theorem CZ_glR {M : am_M} {S : Nat → Int} {n : Int} (h : CZ M S n) {a b : Int} (hb : b = -1 ∨ 0 ≤ b) : glR M a b = xlossOf S a b := by
  have e1 := (CX_kills h.1.1 a).1
  have h2 := CZ_kills h a
  have e2 := (CX_kills h2.1.1 b).1
  unfold glR xlossOf
  rcases hb with hb | hb
  · rw [if_pos hb, if_pos (by omega), e1]
    omega
  · rw [if_neg (by omega), if_neg (by omega), e1, e2]
theorem CL_lv {M : am_M} {S : Nat → Int} (h : CL M S) {c : Int} (hc : 0 ≤ c ∧ c < 8) : bit (M 0 1) c = xch S c 2 := (h.2.1.2.1.2 c hc.1 hc.2).2.2.1
theorem CZ_loss {M : am_M} {S : Nat → Int} {n : Int} (h : CZ M S n) (a b : Int) : gloR M a b = xloss S a b := by
  have h8 := h.1.1.1.1.2.1
  have e0 : M 0 0 = S 0 := h.1.1.1.2.1.1.1.1
  unfold gloR gloC xloss xlossG
  rw [e0]
  by_cases q1 : 0 ≤ a ∧ a < S 0
  · rw [if_pos q1, if_pos (show 0 ≤ a ∧ a ≤ S 0 - 1 by omega), CL_lv h.1.1.1 (c := a) (by omega)]
    by_cases q2 : a = b
    · rw [if_pos q2, if_neg (by decide), if_pos q2]
      (repeat' split) <;> rfl
    · rw [if_neg q2, if_neg q2]
      by_cases q3 : b = -1
      · rw [if_pos q3, if_pos q3, if_pos (show b < 0 by omega)]
        by_cases q4 : xch S a 2 = 1
        · rw [if_pos q4, if_pos q4, if_pos rfl]
          exact CZ_glR h (Or.inl q3)
        · rw [if_neg q4, if_neg q4, if_neg (by decide)]
      · rw [if_neg q3, if_neg q3]
        by_cases q5 : 0 ≤ b ∧ b < S 0
        · rw [if_pos q5, if_pos (show 0 ≤ b ∧ b ≤ S 0 - 1 by omega), if_neg (show ¬ b < 0 by omega), CL_lv h.1.1.1 (c := b) (by omega)]
          by_cases q4 : xch S a 2 = 1
          · rw [if_pos q4, if_pos q4]
            by_cases q6 : xch S b 2 = 1
            · rw [if_pos q6, if_pos q6, if_pos rfl]
              exact CZ_glR h (Or.inr q5.1)
            · rw [if_neg q6, if_neg q6, if_neg (by decide)]
          · rw [if_neg q4, if_neg q4, if_neg (by decide)]
        · rw [if_neg q5, if_neg (show ¬ (0 ≤ b ∧ b ≤ S 0 - 1) by omega), if_neg (by decide)]
  · rw [if_neg q1, if_neg (by decide), if_neg (by omega)]
theorem xsafe_R (S : Nat → Int) (n : Nat) : am_R (xsafe S n) := by
  cases n with
  | zero => exact am_Rz
  | succ n => exact am_R_or _ _
theorem CZ_safe {M Z : am_M} {S : Nat → Int} {m : Int} (h : CZ M S m) (n : Nat) (hn : n ≤ 8) : (gsf M Z n).1 = xsafe S n := by
  induction n with
  | zero => rfl
  | succ n ih =>
    have i := ih (by omega)
    have el := CL_lv h.1.1.1 (c := (n : Int)) (by omega)
    have eg := CZ_glR h (a := (n : Int)) (b := -1) (Or.inl rfl)
    simp only [gsf, xsafe]
    rw [el, eg, ← i]
    have hR : am_R (gsf M Z n).1 := by rw [i]; exact xsafe_R S n
    by_cases q1 : xch S n 2 = 1
    · rw [if_pos q1, if_pos q1]
      by_cases q2 : xlossOf S n (-1) = 0
      · rw [if_pos q2, if_pos q2]
      · rw [if_neg q2, if_neg q2]
        exact (am_or_0 hR).symm
    · rw [if_neg q1, if_neg q1]
      exact (am_or_0 hR).symm
def wk (g : Int × Int × am_M) (x : Int × Int × am_M) : Prop := g.1 = x.2.1 ∧ -1 ≤ g.1 ∧ (g.1 = -1 → x.1 = -1000004) ∧ (g.1 ≠ -1 → g.2.1 = x.1)
theorem CZ_wi {M : am_M} {S : Nat → Int} {m : Int} (h : CZ M S m) {a : Nat} (ha : a < 8) {g x : Int × Int × am_M} (hg : wk g x) (n : Nat) (hn : n ≤ 8) : wk (gwi M a g n) (xwi S a x n) := by
  induction n with
  | zero => exact hg
  | succ n ih =>
    obtain ⟨i1, i2, i3, i4⟩ := ih (by omega)
    have el := CL_lv h.1.1.1 (c := (n : Int)) (by omega)
    have el2 := CL_lv h.1.1.1 (c := (a : Int)) (by omega)
    have eg := CZ_glR h (a := (a : Int)) (b := (n : Int)) (Or.inr (by omega))
    simp only [gwi, xwi]
    rw [el, el2, eg]
    unfold xwc
    by_cases q1 : (a : Int) = n
    · rw [if_pos q1, if_pos q1, if_pos q1, if_pos (show (-1 : Int) ≤ (xwi S a x n).2.1 by omega), if_pos (show (-1 : Int) ≤ (xwi S a x n).2.1 by omega)]
      exact ⟨i1, i2, i3, i4⟩
    · rw [if_neg q1, if_neg q1, if_neg q1]
      by_cases q2 : xch S a 2 = 1
      · rw [if_pos q2, if_pos q2, if_pos q2]
        by_cases q3 : xch S n 2 = 1
        · rw [if_pos q3, if_pos q3, if_pos q3, i1]
          by_cases q4 : xlossOf S a n ≤ (xwi S a x n).2.1
          · rw [if_pos q4, if_pos q4, if_pos q4]
            exact ⟨rfl, by omega, fun z => i3 (by omega), fun z => i4 (by omega)⟩
          · rw [if_neg q4, if_neg q4, if_neg q4]
            exact ⟨rfl, by show -1 ≤ xlossOf S a n; omega, fun z => by have z : xlossOf S a n = -1 := z; omega, fun _ => rfl⟩
        · rw [if_neg q3, if_neg q3, if_neg q3, if_pos (show (-1 : Int) ≤ (xwi S a x n).2.1 by omega), if_pos (show (-1 : Int) ≤ (xwi S a x n).2.1 by omega)]
          exact ⟨i1, i2, i3, i4⟩
      · rw [if_neg q2, if_neg q2, if_neg q2, if_pos (show (-1 : Int) ≤ (xwi S a x n).2.1 by omega), if_pos (show (-1 : Int) ≤ (xwi S a x n).2.1 by omega)]
        exact ⟨i1, i2, i3, i4⟩
theorem CZ_wo {M Z X : am_M} {S : Nat → Int} {m : Int} (h : CZ M S m) (n : Nat) (hn : n ≤ 8) : wk (gwo M Z n) (xwo S X n) := by
  have h8 := h.1.1.1.1.2.1
  have e0 : M 0 0 = S 0 := h.1.1.1.2.1.1.1.1
  induction n with
  | zero => exact ⟨rfl, by show (-1 : Int) ≤ -1; omega, fun _ => rfl, fun z => absurd rfl z⟩
  | succ n ih =>
    simp only [gwo, xwo]
    rw [e0]
    exact CZ_wi h (by omega) (ih (by omega)) _ (by omega)
theorem CZ_worst {M : am_M} (Z X : am_M) {S : Nat → Int} {m : Int} (h : CZ M S m) (k : Int) : gwR M Z k = xworst S X k := by
  have h8 := h.1.1.1.1.2.1
  have e0 : M 0 0 = S 0 := h.1.1.1.2.1.1.1.1
  obtain ⟨i1, i2, i3, i4⟩ := CZ_wo (Z := Z) (X := X) h (S 0).toNat (by omega)
  unfold gwR xworst
  rw [e0]
  by_cases q : k = 0 ∨ k = 1
  · rw [if_pos q, if_pos (show 0 ≤ k ∧ k ≤ 1 by omega)]
    by_cases q2 : (gwo M Z (S 0).toNat).1 = -1
    · rw [if_pos q2, if_pos (show (xwo S X (S 0).toNat).2.1 < 0 by omega), i3 q2]
      split <;> rfl
    · rw [if_neg q2, i4 q2, if_neg (show ¬ (xwo S X (S 0).toNat).2.1 < 0 by omega), i1]
  · rw [if_neg q, if_neg (by omega)]
theorem xticks_1 {S : Nat → Int} (hX : WX S) {k : Nat} (hk : k ≤ 25) : xticks (am_u1 (xtF S k) 2 k) 1 = (xt1n (xtF S k), am_u1 (xtF S (k + 1)) 2 ((k + 1 : Nat) : Int)) := by
  have hXk := WX_tF hX k
  obtain ⟨a, b⟩ := tm_t0 hXk (k : Int)
  have e2 : am_u1 (xtF S k) 2 (k : Int) 2 = k := am_u1_at _ _ _
  unfold xticks
  rw [if_pos (by decide), e2, if_pos (by omega)]
  show (0 + xt1n (am_u1 (xtF S k) 2 k), xt1 (am_u1 (xtF S k) 2 k)) = _
  rw [b, xt1_0, a, am_u1_u1, am_u1_at, Int.zero_add]
  show (xt1n (xtF S k), am_u1 (xt0 (xtF S k)) 2 ((k : Int) + 1)) = _
  rfl
theorem CZ_calm0 {M : am_M} {S : Nat → Int} {n : Int} (h : CZ M S n) (hn : n ≤ 500000000) (k : Nat) (hk : k ≤ 25) : CX (gcZ M k) (am_u1 (xtF S k) 2 k) := by
  have hX := h.1.1.1.1.2
  induction k with
  | zero => exact CX_n2 h.1.1 ⟨Int.le_refl _, by omega⟩
  | succ k ih =>
    have i := ih (by omega)
    have hXk := WX_tF hX k
    have hB : BX (am_u1 (xtF S k) 2 k) (n + 1000) := BX_n (BX_mono (BX_tF hX h.2.1 k) (by omega)) (by decide) (by have := h.2.2; omega)
    have := (CX_ticks i hB (by have := h.2.2; omega) (by omega) 1).2.1
    rw [xticks_1 hX (by omega)] at this
    exact this
theorem CZ_gcZ {M : am_M} {S : Nat → Int} {n : Int} (h : CZ M S n) (hn : n ≤ 500000000) (k : Nat) (hk : k ≤ 25) : CZ (gcZ M k) (am_u1 (xtF S k) 2 k) (n + 1000) := by
  have hX := h.1.1.1.1.2
  refine ⟨⟨CZ_calm0 h hn k hk, ?_⟩, BX_n (BX_mono (BX_tF hX h.2.1 k) (by omega)) (by decide) (by have := h.2.2; omega), by have := h.2.2; omega⟩
  refine CLy_c h.1.2 hX (fun i a b d => ?_)
  rw [am_u1_ne _ _ (by omega)]
  exact xtF_lo hX b (by omega) k
theorem xmany_2 {S : Nat → Int} (x : Int) : xmany (am_u1 S 2 x) (-1) 1 false = xmany S (-1) 1 false := by
  rw [xmany_1, xmany_1, tm_lo (by decide)]
  refine cntW_congr (fun w _ => ?_)
  rw [tm_wd (by omega) (by decide)]
theorem CZ_cl {M : am_M} {S : Nat → Int} {n : Int} (h : CZ M S n) (hn : n ≤ 500000000) (m : Nat) : ∀ k : Nat, m + k = 25 → xwt (xtS S k) (S 1).toNat ≤ 24 - k → (gcl m k (gcZ M k)).1 = xcalmN S m k := by
  have hX := h.1.1.1.1.2
  induction m with
  | zero =>
    intro k hk hw
    exfalso
    have := (cntW_R (fun w => xwd (xtS S k) w 1 == 1) (S 1).toNat).1
    unfold xwt at hw
    omega
  | succ m ih =>
    intro k hk hw
    have hc := CZ_gcZ h hn k (by omega)
    obtain ⟨e, -⟩ := xtS_F hX k
    have hXk := WX_tF hX k
    have hXs := WX_tS hX k
    have eww := CL_ww hc.1.1.1
    have et := (CX_ticks hc.1.1 hc.2.1 hc.2.2 (by omega) 1).1
    rw [xmany_2] at eww
    rw [xticks_1 hX (by omega)] at et
    have em : xmany (xtS S k) (-1) 1 false = xmany (xtF S k) (-1) 1 false := by rw [e, xmany_2]
    have en : xt1n (xtS S k) = xt1n (xtF S k) := by rw [e, (tm_t0 hXk _).2]
    have hm0 : 0 ≤ xmany (xtF S k) (-1) 1 false := by
      rw [xmany_1]
      exact (cntW_R _ _).1
    have hn0 := xt1n_b (xtF S k)
    simp only [gcl, xcalmN]
    rw [eww, et, em, en]
    by_cases q1 : xmany (xtF S k) (-1) 1 false = 0
    · rw [if_pos q1, if_pos (by omega)]
    · rw [if_neg q1, if_neg (show ¬ xmany (xtF S k) (-1) 1 false ≤ 0 by omega)]
      by_cases q2 : xt1n (xtF S k) ≤ 0
      · rw [if_pos q2, if_pos q2]
      · rw [if_neg q2, if_neg q2]
        have := xt1_wt hXs
        rw [(xtS_1 hX k).1, en] at this
        have i := ih (k + 1) (by omega) (by
          show xwt (xt1 (xtS S k)) (S 1).toNat ≤ _
          omega)
        exact i
theorem CZ_calm {M : am_M} {S : Nat → Int} {n : Int} (h : CZ M S n) (hn : n ≤ 500000000) : (gcl 25 0 (gcZ M 0)).1 = xcalm S := by
  have h24 := h.1.1.1.1.2.2.1
  refine CZ_cl h hn 25 0 rfl ?_
  have := (cntW_R (fun w => xwd (xtS S 0) w 1 == 1) (S 1).toNat).2
  unfold xwt
  omega
theorem CZ_hr {M Z X : am_M} {S : Nat → Int} {m : Int} (h : CZ M S m) (f : Int) (n : Nat) (hn : (n : Int) ≤ S 0) : (ghr M Z f n).1 = (xheX S f X n).1 ∧ ((ghr M Z f n).1 < 0 → (ghr M Z f n).1 = -1000004 ∧ (ghr M Z f n).2.1 = 7) ∧ (0 ≤ (ghr M Z f n).1 → (ghr M Z f n).2.1 = xwords S (ghr M Z f n).1) := by
  have h8 := h.1.1.1.1.2.1
  have e0 : M 0 0 = S 0 := h.1.1.1.2.1.1.1.1
  induction n with
  | zero => exact ⟨rfl, fun _ => ⟨rfl, rfl⟩, fun z => absurd z (by show ¬ (0 : Int) ≤ -1000004; decide)⟩
  | succ n ih =>
    obtain ⟨i1, i2, i3⟩ := ih (by omega)
    have hc : 0 ≤ (n : Int) ∧ (n : Int) < 8 := by omega
    obtain ⟨e1, e3, eb, e2, -⟩ := h.1.1.1.2.1.2.1.2 n hc.1 hc.2
    have ekb := CL_kb h.1.1.1 hc
    have hw6 := xwords_b S n
    have ee := (CX_empt h.1.1 n).1
    simp only [ghr, xheX]
    rw [e1, ekb, ee, ← i1]
    by_cases q1 : xch S n 0 = f
    · rw [if_pos q1, if_pos q1]
      by_cases q0 : xch S n 2 = 1
      · rw [if_pos q0]
        have hlt : (xwords S n < (ghr M Z f n).2.1) ↔ ((ghr M Z f n).1 < 0 ∨ xwords S n < xwords S (ghr M Z f n).1) := by
          by_cases z : (ghr M Z f n).1 < 0
          · have := (i2 z).2
            exact ⟨fun _ => Or.inl z, fun _ => by omega⟩
          · have := i3 (by omega)
            rw [this]
            exact ⟨fun y => Or.inr y, fun y => by rcases y with y | y; exact absurd y z; exact y⟩
        by_cases q2 : (xempt S n).1 < 0
        · rw [if_pos q2, if_pos q2]
          refine ⟨?_, ?_, ?_⟩
          · (repeat' split) <;> first | rfl | exact i1
          · split
            · exact i2
            · exact i2
          · split
            · exact i3
            · exact i3
        · rw [if_neg q2, if_neg q2]
          by_cases q3 : xwords S n < (ghr M Z f n).2.1
          · rw [if_pos q3]
            refine ⟨?_, fun z => absurd z (by show ¬ (n : Int) < 0; omega), fun _ => rfl⟩
            rcases hlt.mp q3 with y | y
            · rw [if_pos y]
            · by_cases z : (ghr M Z f n).1 < 0
              · rw [if_pos z]
              · rw [if_neg z, if_pos y]
          · have hno := fun y => q3 (hlt.mpr y)
            rw [if_neg q3, if_neg (fun y => hno (Or.inl y)), if_neg (fun y => hno (Or.inr y))]
            exact ⟨i1, i2, i3⟩
      · have em : (xempt S n).1 < 0 := by
          unfold xempt
          rw [if_neg q0]
          split
          · exact (by decide : (-1000002 : Int) < 0)
          · exact (by decide : (-1000001 : Int) < 0)
        rw [if_neg q0, if_pos em]
        refine ⟨?_, ?_, ?_⟩
        · split
          · exact i1
          · exact i1
        · split
          · exact i2
          · exact i2
        · split
          · exact i3
          · exact i3
    · rw [if_neg q1, if_neg q1]
      refine ⟨?_, i2, i3⟩
      split
      · exact i1
      · exact i1
theorem CZ_heir {M : am_M} (Z X : am_M) {S : Nat → Int} {m : Int} (h : CZ M S m) (f : Int) : ghR M Z f = xheir S f X := by
  have h8 := h.1.1.1.1.2.1
  have e0 : M 0 0 = S 0 := h.1.1.1.2.1.1.1.1
  unfold ghR xheir
  by_cases q : 0 ≤ f ∧ f ≤ 2
  · have hg := (h.1.1.1.2.1.2.2.1 f q.1 q.2).1
    have hb := h.1.1.1.1.2.2.2.1 f q.1 q.2
    rw [if_pos q, if_pos q, hg]
    by_cases z : xgod S f = -1
    · rw [if_pos z, if_pos (by omega), e0]
      exact (CZ_hr h f _ (by omega)).1
    · rw [if_neg z, if_neg (by omega)]
  · rw [if_neg q, if_neg q]
