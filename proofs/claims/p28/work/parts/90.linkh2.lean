/-! ===== the calls, one by one: what both leave ===== -/
theorem RR_act {h : am_H} {X Y M' : am_M} {S S' : Nat → Int} {n n' a : Int} (hR : RR h X S n) (hno : a < 0 → S' = S ∧ a ≤ -1000001) (hC : 0 ≤ a → CW M' S' n') (hn : n ≤ n') (hY : XE Y X) (hY3 : Y 3 = S) : RR (gset (am_U h (h.2 1) M') a) (xact Y a) S' n' := by
  by_cases q : a < 0
  · obtain ⟨e1, e2⟩ := hno q
    have eg : gset (am_U h (h.2 1) M') a = am_U h (h.2 1) M' := by unfold gset; rw [if_pos q]
    have ex : xact Y a = Y := by unfold xact; rw [if_pos e2]
    rw [eg, ex, e1]
    exact RR_X (RR_tr (RR_mono hR hn) M') hY
  · exact RR_set hR (hC (by omega)) hn (by omega) hY hY3
theorem RR_alt {h : am_H} {X X' M' : am_M} {S S' : Nat → Int} {n n' a : Int} (hR : RR h X S n) (hn : n ≤ n') (hA : (a < 0 ∧ X' = X ∧ S' = S) ∨ (0 ≤ a ∧ X' = xact (am_u3 X 3 S) a ∧ CW M' S' n')) : RR (gset (am_U h (h.2 1) M') a) X' S' n' := by
  rcases hA with ⟨q, e1, e2⟩ | ⟨q, e1, hC⟩
  · have eg : gset (am_U h (h.2 1) M') a = am_U h (h.2 1) M' := by unfold gset; rw [if_pos q]
    rw [eg, e1, e2]
    exact RR_tr (RR_mono hR hn) M'
  · rw [e1]
    exact RR_set hR hC hn q ⟨by rw [am_u3_ne _ _ (by decide)], by rw [am_u3_ne _ _ (by decide)], am_u3_ne _ _ (by decide), am_u3_ne _ _ (by decide)⟩ (am_u3_at _ _ _)
theorem XE_3 (X : am_M) (S : Nat → Int) : XE (am_u3 X 3 S) X := ⟨by rw [am_u3_ne _ _ (by decide)], by rw [am_u3_ne _ _ (by decide)], am_u3_ne _ _ (by decide), am_u3_ne _ _ (by decide)⟩
theorem XE_4 (X : am_M) (S : Nat → Int) : XE (am_u3 X 4 S) X := ⟨by rw [am_u3_ne _ _ (by decide)], by rw [am_u3_ne _ _ (by decide)], am_u3_ne _ _ (by decide), am_u3_ne _ _ (by decide)⟩
theorem XE_5 (X : am_M) (S : Nat → Int) : XE (am_u3 X 5 S) X := ⟨by rw [am_u3_ne _ _ (by decide)], by rw [am_u3_ne _ _ (by decide)], am_u3_ne _ _ (by decide), am_u3_ne _ _ (by decide)⟩
theorem XE_r (X : am_M) : XE X X := ⟨rfl, rfl, rfl, rfl⟩
theorem XE_t {X Y Z : am_M} (h : XE Z Y) (h2 : XE Y X) : XE Z X := ⟨h.1.trans h2.1, h.2.1.trans h2.2.1, h.2.2.1.trans h2.2.2.1, h.2.2.2.trans h2.2.2.2⟩
theorem XE_8 (X : am_M) {k : Nat} (x : Int) (h5 : (5 : Nat) ≠ k) (h7 : (7 : Nat) ≠ k) : XE (am_u2 X 0 k x) X := ⟨am_u2_rd _ _ (Or.inr h5), am_u2_rd _ _ (Or.inr h7), am_u2_ne _ _ _ (by decide), am_u2_ne _ _ _ (by decide)⟩
theorem XE_em (X : am_M) (S : Nat → Int) (c : Int) : XE (xemX X S c) X := by
  unfold xemX
  (repeat' split) <;> first | exact XE_r X | exact XE_5 X S
theorem XE_loss (X : am_M) (S : Nat → Int) (a b : Int) : XE (xlossX X S a b) X := by
  unfold xlossX xlossG
  (repeat' split) <;> first | exact XE_r X | exact XE_4 X S
theorem XE_saf (X : am_M) (S : Nat → Int) (n : Nat) : XE (xsafX X S n) X := by
  induction n with
  | zero => exact XE_r X
  | succ n ih =>
    simp only [xsafX]
    split
    · exact XE_t (XE_4 _ S) ih
    · exact ih
theorem XE_wi (S : Nat → Int) (one : Nat) (st : Int × Int × am_M) (n : Nat) : XE (xwi S one st n).2.2 st.2.2 := by
  induction n with
  | zero => exact XE_r _
  | succ n ih =>
    simp only [xwi]
    unfold xwc
    (repeat' split) <;> first | exact ih | exact XE_t (XE_4 _ S) ih
theorem XE_wo (S : Nat → Int) (X : am_M) (n : Nat) : XE (xwo S X n).2.2 X := by
  induction n with
  | zero => exact XE_r X
  | succ n ih => exact XE_t (XE_wi S n (xwo S X n) (S 0).toNat) ih
theorem XE_worst (S : Nat → Int) (X : am_M) (k : Int) : XE (xworstX S X k) X := by
  unfold xworstX
  split
  · exact XE_wo S X _
  · exact XE_r X
theorem XE_he (S : Nat → Int) (f : Int) (X : am_M) (n : Nat) : XE (xheX S f X n).2 X := by
  induction n with
  | zero => exact XE_r X
  | succ n ih =>
    simp only [xheX]
    (repeat' split) <;> first | exact ih | exact XE_t (XE_em _ S n) (XE_t (XE_4 _ S) ih)
theorem XE_heir (S : Nat → Int) (f : Int) (X : am_M) : XE (xheirX S f X) X := by
  unfold xheirX
  (repeat' split) <;> first | exact XE_r X | exact XE_he S f X _
theorem XE_fl (k : Nat) (fd : Int) (X : am_M) (S : Nat → Int) : XE (xfl k (fd, X, S)).2.1 X := by
  obtain ⟨a, b, c⟩ := xfl_5 k fd X S
  exact ⟨a, b, c 2 ⟨by decide, by decide, by decide⟩, c 6 ⟨by decide, by decide, by decide⟩⟩
theorem XE_flt (X : am_M) (S : Nat → Int) : XE (xflt X S).2.1 X := XE_t (XE_fl 61 _ _ S) (XE_t (XE_8 _ 0 (by decide) (by decide)) (XE_4 X S))
theorem XE_fault (X : am_M) (S : Nat → Int) (k : Int) : XE (xfaultX X S k) X := by
  unfold xfaultX
  split
  · exact XE_flt X S
  · exact XE_r X
theorem XE_nY (X : am_M) (S : Nat → Int) : XE (xnY X S) X := ⟨xnY_5 X S, xnY_7 X S, xnY_q ⟨by decide, by decide, by decide⟩ X S, xnY_q ⟨by decide, by decide, by decide⟩ X S⟩
theorem XE_pl1 (k : Nat) : ∀ (m : Int) (X : am_M) (S : Nat → Int), XE (xpl1 k (m, X, S)).2.1 X ∧ (xpl1 k (m, X, S)).2.1 3 = X 3 := by
  induction k with
  | zero => exact fun m X S => ⟨XE_r X, rfl⟩
  | succ k ih =>
    intro m X S
    simp only [xpl1]
    split
    · obtain ⟨a, b⟩ := ih (if xnR X S = 0 then m + 1 else m + 0) (xnY X S) (xnS X S)
      exact ⟨XE_t a (XE_nY X S), b.trans (xnY_q ⟨by decide, by decide, by decide⟩ X S)⟩
    · exact ⟨XE_r X, rfl⟩
theorem XE_plS (X : am_M) (S : Nat → Int) : XE (xplS X S).2.1 X ∧ (xplS X S).2.1 3 = S := by
  obtain ⟨a, b⟩ := XE_pl1 61 0 (am_u2 (am_u3 (xflt X S).2.1 3 S) 0 8 0) S
  refine ⟨XE_t a (XE_t (XE_8 _ 0 (by decide) (by decide)) (XE_t (XE_3 _ S) (XE_flt X S))), b.trans ?_⟩
  rw [am_u2_ne _ _ _ (by decide), am_u3_at]
theorem xelects_no (S : Nat → Int) (c : Int) (h : (xelects S c).1 < 0) : (xelects S c).2 = S ∧ (xelects S c).1 ≤ -1000001 := by
  revert h
  unfold xelects
  (repeat' split) <;> intro h <;> first | (refine ⟨rfl, ?_⟩; dsimp only; decide) | skip
  exfalso
  have := xones_b (xgd (am_u1 S (5 + xch S c 0).toNat c) (xch (am_u1 S (5 + xch S c 0).toNat c) c 0))
  dsimp only at h
  omega
theorem xputs_no {S : Nat → Int} (hX : WX S) (c v : Int) (h : (xputs S c v).1 < 0) : (xputs S c v).2 = S ∧ (xputs S c v).1 ≤ -1000001 := by
  have := hX.2.1
  revert h
  unfold xputs
  (repeat' split) <;> intro h <;> first | (refine ⟨rfl, ?_⟩; dsimp only; decide) | (exfalso; dsimp only at h; omega)
theorem xticks_no (S : Nat → Int) (t : Int) (h : (xticks S t).1 < 0) : (xticks S t).2 = S ∧ (xticks S t).1 ≤ -1000001 := by
  have := xtn_b S t.toNat
  revert h
  unfold xticks
  (repeat' split) <;> intro h <;> first | (refine ⟨rfl, ?_⟩; dsimp only; decide) | (exfalso; dsimp only at h; omega)
theorem xempt_no (S : Nat → Int) (c : Int) (h : (xempt S c).1 < 0) : (xempt S c).2 = S ∧ (xempt S c).1 ≤ -1000001 := by
  have := xemS_n S c 6
  revert h
  unfold xempt
  (repeat' split) <;> intro h <;> first | (refine ⟨rfl, ?_⟩; dsimp only; decide) | (exfalso; dsimp only at h; omega)
theorem xkills_no {M : am_M} {S : Nat → Int} (hx : CX M S) (c : Int) (h : (xkills S c).1 < 0) : (xkills S c).2 = S ∧ (xkills S c).1 ≤ -1000001 := by
  have h8 := hx.1.1.2.1
  have e0 : M 0 0 = S 0 := hx.1.2.1.1.1.1
  have e := (CX_kills hx c).1
  have h1 := yhd_b M (rd M 1 c) 6
  have h2 := yld_b M c 6
  revert h
  by_cases q1 : 0 ≤ c ∧ c ≤ S 0 - 1
  · by_cases q2 : xch S c 2 = 1
    · intro h
      exfalso
      rw [← e] at h
      unfold ydie at h
      rw [if_pos (show 0 ≤ c ∧ c < M 0 0 by omega), CL_lv hx.1 (c := c) (by omega), if_pos q2] at h
      revert h
      split <;> intro h <;> (dsimp only at h; omega)
    · unfold xkills
      rw [if_pos q1, if_neg q2]
      exact fun _ => ⟨rfl, by dsimp only; decide⟩
  · unfold xkills
    rw [if_neg q1]
    exact fun _ => ⟨rfl, by dsimp only; decide⟩
theorem xbreaks_no {M : am_M} {S : Nat → Int} (hx : CX M S) (hy : CLy S) (c r : Int) (h : (xbreaks S c r).1 < 0) : (xbreaks S c r).2 = S ∧ (xbreaks S c r).1 ≤ -1000001 := by
  have h8 := hx.1.1.2.1
  have e0 : M 0 0 = S 0 := hx.1.2.1.1.1.1
  have e := (CX_breaks hx hy c r).1
  have h7 := ylwR_b (ybr0 M c r) (rd M 1 c) r
  have h9 := ylsR_b (ybr0 M c r) (ybrw M c r)
  revert h
  by_cases q1 : 0 ≤ c ∧ c ≤ S 0 - 1
  · by_cases q0 : 0 ≤ r ∧ r ≤ 5
    · by_cases q2 : xch S c 2 = 1
      · by_cases q3 : bit (xch S c 3) r = 0
        · intro h
          exfalso
          rw [← e] at h
          unfold ybreak at h
          have e2 := (hx.1.2.1.2.1.2 c (by omega) (by omega)).2.2.2.1
          rw [if_pos (show 0 ≤ c ∧ c < M 0 0 by omega), if_pos q0, CL_lv hx.1 (c := c) (by omega), if_pos q2, e2, q3, if_neg (by decide)] at h
          revert h
          split <;> intro h <;> (dsimp only at h; omega)
        · unfold xbreaks
          rw [if_pos q1, if_pos q0, if_pos q2, if_neg q3]
          exact fun _ => ⟨rfl, by dsimp only; decide⟩
      · unfold xbreaks
        rw [if_pos q1, if_pos q0, if_neg q2]
        exact fun _ => ⟨rfl, by dsimp only; decide⟩
    · unfold xbreaks
      rw [if_pos q1, if_neg q0]
      exact fun _ => ⟨rfl, by dsimp only; decide⟩
  · unfold xbreaks
    rw [if_neg q1]
    exact fun _ => ⟨rfl, by dsimp only; decide⟩
theorem oall_21 (k : Nat) : ∀ (i : Int) (M O : am_M), TO O → (oall k (i, M, O)).2.2 2 1 = O 2 1 := by
  induction k with
  | zero => exact fun _ _ _ _ => rfl
  | succ k ih =>
    intro i M O hT
    by_cases hlt : O 2 4 < O 2 1
    · obtain ⟨t1, t2', t3, t4, t5, t6⟩ := oq_at hT hlt
      by_cases hz : oR M O = 0
      · rw [oall_go hlt hz, oR_0 hz, ih _ _ _ t1]
        exact t3
      · rw [oall_stop hlt hz]
        show oO M O 2 1 = _
        unfold oO
        rw [if_neg hz, am_u2_rd _ _ (Or.inr (by decide))]
        exact t3
    · rw [oall_end hlt]
/-- what the class's calls do to the reference's unit: nothing -/
theorem gset_7 {h : am_H} (hG : AG h) (a : Int) : (gset h a).1 7 = h.1 7 := by
  unfold gset
  split
  · rfl
  · show (am_U (gr2 h) 6 (am_u2 ((gr1 h).1 6) 0 4 ((gr1 h).1 6 0 4 + 1))).1 7 = _
    rw [am_U_ne _ _ (by decide)]
    show (am_U (gr1 h) ((gr1 h).2 (2 + ((gr1 h).1 6 0 4).toNat)) ((gr1 h).1 (h.2 0))).1 7 = _
    rw [am_U_ne _ _ (by have := gr1_6 hG (2 + ((gr1 h).1 6 0 4).toNat); omega)]
    exact gr1_1 (by decide)
theorem tr_7 {h : am_H} (hG : AG h) (Z : am_M) : (am_U h (h.2 1) Z).1 7 = h.1 7 := am_U_ne _ _ (by have := hG.2.2 1; omega)
theorem xh_eta (h : am_H) : xh h (h.1 7) (h.1 7 1) = h := by
  unfold xh
  rw [am_u3_id, am_U_id]
def RH (h : am_H) (n : Int) : Prop := RR h (h.1 7) (h.1 7 1) n
theorem RH_xh {h : am_H} {X : am_M} {S : Nat → Int} {n : Int} (hR : RR h X S n) : RH (xh h X S) n := by
  obtain ⟨a, b, c, d, e⟩ := hR
  have u : ∀ i, (xh h X S).1 (h.2 i) = h.1 (h.2 i) := fun i => am_U_ne _ _ (by have := a.2.2 i; omega)
  have e6 : (xh h X S).1 6 = h.1 6 := am_U_ne _ _ (by decide)
  have e7 : (xh h X S).1 7 = am_u3 X 1 S := am_U_at _ _ _
  unfold RH RR
  rw [e7, e6, am_u3_at, am_u3_ne _ _ (show (0 : Nat) ≠ 1 by decide), am_u3_ne _ _ (show (2 : Nat) ≠ 1 by decide), am_u3_ne _ _ (show (6 : Nat) ≠ 1 by decide)]
  refine ⟨⟨a.1, by rw [e6]; exact a.2.1, a.2.2⟩, b, c, ?_, fun k hk => ?_⟩
  · show CW ((xh h X S).1 (h.2 0)) S n
    rw [u 0]
    exact d
  · show CW ((xh h X S).1 (h.2 (2 + k))) _ n
    rw [u (2 + k)]
    exact e k hk
