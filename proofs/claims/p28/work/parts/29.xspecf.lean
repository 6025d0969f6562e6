/-! ===== worstTwo, calm, heir, count, undo of the reference ===== -/
def xwc {α : Type} (S : Nat → Int) (a b : Nat) (x z : α) : α := if (a : Int) = b then z else if xch S a 2 = 1 then (if xch S b 2 = 1 then x else z) else z
def xwi (S : Nat → Int) (one : Nat) (st : Int × Int × am_M) : Nat → Int × Int × am_M
  | 0 => st
  | two + 1 => (if xwc S one two (xlossOf S one two) (-1) ≤ (xwi S one st two).2.1 then (xwi S one st two).1 else 10 * one + two, if xwc S one two (xlossOf S one two) (-1) ≤ (xwi S one st two).2.1 then (xwi S one st two).2.1 else xwc S one two (xlossOf S one two) (-1), xwc S one two (am_u3 (xwi S one st two).2.2 4 S) (xwi S one st two).2.2)
def xwo (S : Nat → Int) (X : am_M) : Nat → Int × Int × am_M
  | 0 => (-1000004, -1, X)
  | one + 1 => xwi S one (xwo S X one) (S 0).toNat
def xworst (S : Nat → Int) (X : am_M) (k : Int) : Int := if 0 ≤ k ∧ k ≤ 1 then (if k = 0 then (xwo S X (S 0).toNat).1 else if (xwo S X (S 0).toNat).2.1 < 0 then (xwo S X (S 0).toNat).1 else (xwo S X (S 0).toNat).2.1) else -1000001
def xworstX (S : Nat → Int) (X : am_M) (k : Int) : am_M := if 0 ≤ k ∧ k ≤ 1 then (xwo S X (S 0).toNat).2.2 else X
theorem xwi_b {S : Nat → Int} {one : Nat} {st : Int × Int × am_M} (hW : WX S) (h : -1 ≤ st.2.1 ∧ st.2.1 ≤ 48) (n : Nat) : -1 ≤ (xwi S one st n).2.1 ∧ (xwi S one st n).2.1 ≤ 48 := by
  induction n with
  | zero => exact h
  | succ n ih =>
    have hl := xlossOf_b (a := one) (b := n) hW
    have hc : -3000000 ≤ xwc S one n (xlossOf S one n) (-1) ∧ xwc S one n (xlossOf S one n) (-1) ≤ 48 := by
      unfold xwc
      (repeat' split) <;> omega
    show -1 ≤ (if xwc S one n (xlossOf S one n) (-1) ≤ (xwi S one st n).2.1 then (xwi S one st n).2.1 else xwc S one n (xlossOf S one n) (-1)) ∧ (if xwc S one n (xlossOf S one n) (-1) ≤ (xwi S one st n).2.1 then (xwi S one st n).2.1 else xwc S one n (xlossOf S one n) (-1)) ≤ 48
    split <;> omega
theorem xwo_b {S : Nat → Int} {X : am_M} (hW : WX S) (n : Nat) : -1 ≤ (xwo S X n).2.1 ∧ (xwo S X n).2.1 ≤ 48 := by
  induction n with
  | zero => exact ⟨by show (-1 : Int) ≤ -1; omega, by show (-1 : Int) ≤ 48; omega⟩
  | succ n ih => exact xwi_b hW ih _
/-- the words that wait grow fewer by a tick that raises one -/
def xwt (S : Nat → Int) : Nat → Int := fun n => cntW (fun w => xwd S w 1 == 1) n
theorem cntW_le {p q : Nat → Bool} {n : Nat} (h : ∀ w, w < n → p w = true → q w = true) : cntW p n ≤ cntW q n := by
  induction n with
  | zero => exact Int.le_refl _
  | succ n ih =>
    have h1 := ih (fun w hw => h w (by omega))
    have h2 := h n (by omega)
    show cntW p n + _ ≤ cntW q n + _
    by_cases hp : p n = true
    · rw [if_pos hp, if_pos (h2 hp)]; omega
    · rw [if_neg hp]; split <;> omega
theorem cntW_lt {p q : Nat → Bool} {n a : Nat} (h : ∀ w, w < n → p w = true → q w = true) (ha : a < n) (hp : ¬ p a = true) (hq : q a = true) : cntW p n < cntW q n := by
  induction n with
  | zero => omega
  | succ n ih =>
    show cntW p n + _ < cntW q n + _
    by_cases hn : a = n
    · subst hn
      have h1 := cntW_le (fun w hw => h w (by omega)) (n := a)
      rw [if_neg hp, if_pos hq]; omega
    · have h1 := ih (fun w hw => h w (by omega)) (by omega)
      by_cases hpn : p n = true
      · rw [if_pos hpn, if_pos (h n (by omega) hpn)]; omega
      · rw [if_neg hpn]; split <;> omega
theorem cntW_congr {p q : Nat → Bool} {n : Nat} (h : ∀ w, w < n → p w = q w) : cntW p n = cntW q n := by
  induction n with
  | zero => rfl
  | succ n ih =>
    show cntW p n + _ = cntW q n + _
    rw [ih (fun w hw => h w (by omega)), h n (by omega)]
theorem xfirstN_w {S : Nat → Int} {f : Int} {n : Nat} (h : 0 ≤ xfirstN S f n) : xwd S (xfirstN S f n) 1 = 1 ∧ xwd S (xfirstN S f n) 4 = f := by
  induction n with
  | zero =>
    have h : (0 : Int) ≤ -1 := h
    omega
  | succ n ih =>
    unfold xfirstN at h ⊢
    split
    · rename_i hc
      simp only [Bool.and_eq_true, beq_iff_eq] at hc
      exact ⟨hc.1, hc.2.1⟩
    · rename_i hc
      rw [if_neg hc] at h
      exact ih h
theorem xra_wt {S : Nat → Int} {f : Int} (hW : WX S) : xwt (xra S f) (S 1).toNat ≤ xwt S (S 1).toNat - (if xraB S f = true then 1 else 0) ∧ xra S f 1 = S 1 ∧ xra S f 0 = S 0 := by
  have hb := xfirst_b hW f
  unfold xra xraB
  by_cases h0 : xfirst S f < 0
  · rw [if_pos h0]
    refine ⟨?_, rfl, rfl⟩
    rw [if_neg (by simp; intro q; omega)]
    omega
  · rw [if_neg h0]
    have hw : xwd S (xfirst S f) 1 = 1 ∧ _ := xfirstN_w (S := S) (f := f) (n := (S 1).toNat) (by show 0 ≤ xfirst S f; omega)
    by_cases ht : xtarget (xlay S (xfirst S f) 1 2) f (-1) < 0
    · rw [if_pos ht]
      refine ⟨?_, by rw [xlay_lo (by omega) (by decide) (by decide), xlay_lo (by omega) (by decide) (by decide)], by rw [xlay_lo (by omega) (by decide) (by decide), xlay_lo (by omega) (by decide) (by decide)]⟩
      rw [if_neg (by simp; intro q; omega)]
      have : xwt (xlay (xlay S (xfirst S f) 1 2) (xfirst S f) 1 1) (S 1).toNat = xwt S (S 1).toNat := by
        unfold xwt
        refine cntW_congr (fun w hw2 => ?_)
        by_cases hwf : (w : Int) = xfirst S f
        · rw [hwf, xlay_at, hw.1]
        · rw [xlay_ne ⟨by omega, by decide, by decide⟩ ⟨by omega, by decide, by decide⟩ (Or.inl hwf), xlay_ne ⟨by omega, by decide, by decide⟩ ⟨by omega, by decide, by decide⟩ (Or.inl hwf)]
      omega
    · rw [if_neg ht]
      have h1 : WX (xlay S (xfirst S f) 1 2) := WX_lay hW (by omega) (by decide) (by omega) (by omega)
      have lo : ∀ m : Nat, m < 40 → xraS S f m = S m := fun m hm => by
        unfold xraS
        rw [xlay_lo (by omega) (by decide) hm, xsits_lo (by omega) hm, xlay_lo (by omega) (by decide) hm]
      refine ⟨?_, by rw [am_u1_ne _ _ (by decide), lo 1 (by decide)], by rw [am_u1_ne _ _ (by decide), lo 0 (by decide)]⟩
      rw [if_pos (by simp; omega)]
      have : xwt (am_u1 (xraS S f) 3 (xraS S f 3 + 1)) (S 1).toNat < xwt S (S 1).toNat := by
        have key : ∀ w : Nat, w < 24 → xwd (am_u1 (xraS S f) 3 (xraS S f 3 + 1)) w 1 = if (w : Int) = xfirst S f then 0 else xwd S w 1 := by
          intro w hw9
          have e1 : xwd (am_u1 (xraS S f) 3 (xraS S f 3 + 1)) w 1 = xwd (xraS S f) w 1 := by
            unfold xwd
            rw [am_u1_ne _ _ (by omega)]
          rw [e1]
          unfold xraS
          rw [xlay_ne ⟨by omega, by decide, by decide⟩ ⟨by omega, by decide, by decide⟩ (Or.inr (by decide))]
          by_cases hwf : (w : Int) = xfirst S f
          · rw [if_pos hwf, hwf]
            unfold xsits
            rw [xlay_ne ⟨by omega, by decide, by decide⟩ ⟨by omega, by decide, by decide⟩ (Or.inr (by decide)), xlay_ne ⟨by omega, by decide, by decide⟩ ⟨by omega, by decide, by decide⟩ (Or.inr (by decide)), xlay_ne ⟨by omega, by decide, by decide⟩ ⟨by omega, by decide, by decide⟩ (Or.inr (by decide)), xlay_at]
          · rw [if_neg hwf, xsits_wn (by omega) (by omega) (by decide) hwf, xlay_ne ⟨by omega, by decide, by decide⟩ ⟨by omega, by decide, by decide⟩ (Or.inl hwf)]
        have h1' := hW.2.1
        refine cntW_lt (a := (xfirst S f).toNat) (fun w hw2 hp => ?_) (by omega) ?_ ?_
        · rw [key w (by omega)] at hp
          by_cases hwf : (w : Int) = xfirst S f
          · rw [if_pos hwf] at hp; exact absurd hp (by decide)
          · rwa [if_neg hwf] at hp
        · rw [key _ (by omega), if_pos (by omega)]; decide
        · rw [show (((xfirst S f).toNat : Nat) : Int) = xfirst S f by omega, hw.1]; rfl
      omega
theorem xt1_wt {S : Nat → Int} (hW : WX S) : xwt (xt1 S) (S 1).toNat ≤ xwt S (S 1).toNat - xt1n S ∧ xt1 S 1 = S 1 ∧ xt1 S 0 = S 0 := by
  obtain ⟨a1, a2, a3⟩ := xra_wt (f := 0) hW
  obtain ⟨b1, b2, b3⟩ := xra_wt (f := 1) (WX_ra (f := 0) hW)
  obtain ⟨c1, c2, c3⟩ := xra_wt (f := 2) (WX_ra (f := 1) (WX_ra (f := 0) hW))
  rw [a2] at b1 b2
  rw [b2] at c1 c2
  refine ⟨?_, by unfold xt1; rw [am_u1_ne _ _ (by decide), c2], by unfold xt1; rw [am_u1_ne _ _ (by decide), c3, b3, a3]⟩
  have e : xwt (xt1 S) (S 1).toNat = xwt (xra (xra (xra S 0) 1) 2) (S 1).toNat := by
    unfold xwt
    refine cntW_congr (fun w _ => ?_)
    unfold xt1 xwd
    rw [am_u1_ne _ _ (by omega)]
  rw [e]
  unfold xt1n
  omega
theorem xmany_wt {S : Nat → Int} : xmany S (-1) 1 false = xwt S (S 1).toNat := by
  unfold xmany xwt
  refine cntW_congr (fun w _ => ?_)
  simp
theorem xtS_1 {S : Nat → Int} (hW : WX S) (n : Nat) : xtS S n 1 = S 1 ∧ xtS S n 0 = S 0 := by
  induction n with
  | zero => exact ⟨rfl, rfl⟩
  | succ n ih =>
    have h := xt1_wt (WX_tS hW n)
    exact ⟨h.2.1.trans ih.1, h.2.2.trans ih.2⟩
/-- ticks until none waits, or none is raised -/
def xcalmN (S : Nat → Int) : Nat → Nat → Int
  | 0, k => k
  | m + 1, k => if xmany (xtS S k) (-1) 1 false ≤ 0 then k else if xt1n (xtS S k) ≤ 0 then -1000004 else xcalmN S m (k + 1)
def xcalm (S : Nat → Int) : Int := xcalmN S 25 0
def xheX (S : Nat → Int) (f : Int) (X : am_M) : Nat → Int × am_M
  | 0 => (-1000004, X)
  | n + 1 => if xch S n 2 = 1 then (if xch S n 0 = f then (if (xheX S f X n).1 < 0 then (if (xempt S n).1 < 0 then (xheX S f X n).1 else (n : Int), xemX (am_u3 (xheX S f X n).2 4 S) S n) else if xwords S n < xwords S (xheX S f X n).1 then (if (xempt S n).1 < 0 then (xheX S f X n).1 else (n : Int), xemX (am_u3 (xheX S f X n).2 4 S) S n) else xheX S f X n) else xheX S f X n) else xheX S f X n
def xheir (S : Nat → Int) (f : Int) (X : am_M) : Int := if 0 ≤ f ∧ f ≤ 2 then (if xgod S f < 0 then (xheX S f X (S 0).toNat).1 else -1000002) else -1000001
def xheirX (S : Nat → Int) (f : Int) (X : am_M) : am_M := if 0 ≤ f ∧ f ≤ 2 then (if xgod S f < 0 then (xheX S f X (S 0).toNat).2 else X) else X
theorem xheX_b (S : Nat → Int) (f : Int) (X : am_M) (n : Nat) : -1000004 ≤ (xheX S f X n).1 ∧ (xheX S f X n).1 < n ∧ (xheX S f X n).2 1 = X 1 := by
  induction n with
  | zero => exact ⟨by show (-1000004 : Int) ≤ -1000004; omega, by show (-1000004 : Int) < ((0 : Nat) : Int); omega, rfl⟩
  | succ n ih =>
    have e4 : xemX (am_u3 (xheX S f X n).2 4 S) S n 1 = X 1 := by
      unfold xemX
      (repeat' split) <;> simp only [am_u3_ne _ _ (show (1 : Nat) ≠ 5 by decide), am_u3_ne _ _ (show (1 : Nat) ≠ 4 by decide)] <;> exact ih.2.2
    unfold xheX
    (repeat' split) <;> first | (refine ⟨?_, ?_, ?_⟩ <;> first | omega | exact ih.2.2 | exact e4 | (dsimp only; omega))
def xcount (X : am_M) (S : Nat → Int) (k : Int) : Int := if k = 0 then S 0 else if k = 1 then sumW (fun c => xch S c 2) (S 0).toNat else if k = 2 then S 1 else if k = 3 then xmany S (-1) 0 false else if k = 4 then xmany S (-1) 1 false else if k = 5 then xmany S (-1) 2 false else if k = 6 then S 2 else if k = 7 then S 3 else if k = 8 then cntW (fun f => decide (0 ≤ xgod S f)) 3 else if k = 9 then sumW (fun c => xpls S c) (S 0).toNat else if k = 10 then X 0 5 else if k = 11 then X 0 7 else -1000001
theorem cntW_t {p : Nat → Bool} {g : Int} {n : Nat} (hg : g = cntW p n) (hp : p n = true) : g + 1 = cntW p (n + 1) := by
  show g + 1 = cntW p n + (if p n = true then 1 else 0)
  rw [if_pos hp, hg]
theorem cntW_f {p : Nat → Bool} {g : Int} {n : Nat} (hg : g = cntW p n) (hp : p n = false) : g + 0 = cntW p (n + 1) := by
  show g + 0 = cntW p n + (if p n = true then 1 else 0)
  rw [hp, hg]
  rfl
