/-! ===== bounds, ticks, emptying, history: the reference's words ===== -/
def BX (S : Nat → Int) (n : Int) : Prop := S 2 ≤ n ∧ S 3 ≤ n ∧ S 4 ≤ n ∧ ∀ w : Int, 0 ≤ w → w < 24 → xwd S w 6 ≤ n
theorem xsits_6 {S : Nat → Int} {w c row a : Int} (hw : 0 ≤ w) (ha : 0 ≤ a) : xwd (xsits S w c row) a 6 = xwd S a 6 := by
  unfold xsits
  rw [xlay_ne ⟨hw, by decide, by decide⟩ ⟨ha, by decide, by decide⟩ (Or.inr (by decide)), xlay_ne ⟨hw, by decide, by decide⟩ ⟨ha, by decide, by decide⟩ (Or.inr (by decide)), xlay_ne ⟨hw, by decide, by decide⟩ ⟨ha, by decide, by decide⟩ (Or.inr (by decide)), xlay_ne ⟨hw, by decide, by decide⟩ ⟨ha, by decide, by decide⟩ (Or.inr (by decide))]
theorem xsits_lo {S : Nat → Int} {w c row : Int} {m : Nat} (hw : 0 ≤ w) (hm : m < 40) : xsits S w c row m = S m := by
  unfold xsits
  rw [xlay_lo hw (by decide) hm, xlay_lo hw (by decide) hm, xlay_lo hw (by decide) hm, xlay_lo hw (by decide) hm]
theorem xsits_wn {S : Nat → Int} {w c row a k : Int} (hw : 0 ≤ w) (ha : 0 ≤ a) (hk : 0 ≤ k ∧ k < 7) (hne : a ≠ w) : xwd (xsits S w c row) a k = xwd S a k := by
  unfold xsits
  rw [xlay_ne ⟨hw, by decide, by decide⟩ ⟨ha, hk⟩ (Or.inl hne), xlay_ne ⟨hw, by decide, by decide⟩ ⟨ha, hk⟩ (Or.inl hne), xlay_ne ⟨hw, by decide, by decide⟩ ⟨ha, hk⟩ (Or.inl hne), xlay_ne ⟨hw, by decide, by decide⟩ ⟨ha, hk⟩ (Or.inl hne)]
theorem BX_lay {S : Nat → Int} {w k v n : Int} (hB : BX S n) (hw : 0 ≤ w) (hk : 0 ≤ k ∧ k < 7) (h6 : k = 6 → v ≤ n) : BX (xlay S w k v) n := by
  obtain ⟨h2, h3, h4, hh⟩ := hB
  refine ⟨by rw [xlay_lo hw hk.1 (by decide)]; exact h2, by rw [xlay_lo hw hk.1 (by decide)]; exact h3, by rw [xlay_lo hw hk.1 (by decide)]; exact h4, fun a h0 h9 => ?_⟩
  by_cases h : a ≠ w ∨ (6 : Int) ≠ k
  · rw [xlay_ne ⟨hw, hk⟩ ⟨h0, by decide⟩ h]; exact hh a h0 h9
  · have ha : a = w := by omega
    have hk6 : k = 6 := by omega
    subst ha; subst hk6
    rw [xlay_at]; exact h6 rfl
theorem BX_sits {S : Nat → Int} {w c row n : Int} (hB : BX S n) (hw : 0 ≤ w) : BX (xsits S w c row) n :=
  BX_lay (BX_lay (BX_lay (BX_lay hB hw (by decide) (by omega)) hw (by decide) (by omega)) hw (by decide) (by omega)) hw (by decide) (by omega)
theorem BX_mono {S : Nat → Int} {m n : Int} (hB : BX S m) (h : m ≤ n) : BX S n := ⟨by have := hB.1; omega, by have := hB.2.1; omega, by have := hB.2.2.1; omega, fun w h0 h9 => by have := hB.2.2.2 w h0 h9; omega⟩
theorem BX_n {S : Nat → Int} {v n : Int} {m : Nat} (hB : BX S n) (hm : m < 40) (hv : v ≤ n) : BX (am_u1 S m v) n := by
  obtain ⟨h2, h3, h4, hh⟩ := hB
  have key : ∀ i, S i ≤ n → am_u1 S m v i ≤ n := by
    intro i hi
    unfold am_u1
    split
    · exact hv
    · exact hi
  exact ⟨key _ h2, key _ h3, key _ h4, fun w h0 h9 => key _ (hh w h0 h9)⟩
theorem WX_ra {S : Nat → Int} {f : Int} (hW : WX S) : WX (xra S f) := by
  have hb := xfirst_b hW f
  unfold xra
  split
  · exact hW
  · have h1 : WX (xlay S (xfirst S f) 1 2) := WX_lay hW (by omega) (by decide) (by omega) (by omega)
    have ht := xtarget_b h1 f (-1)
    split
    · exact WX_lay h1 (by omega) (by decide) (by omega) (by omega)
    · have hp := xtarget_pl (S := xlay S (xfirst S f) 1 2) (f := f) (wt := -1) (by omega)
      have hl := xlow_lt hp.1
      have hl0 := xlow_0 (xlay S (xfirst S f) 1 2) (xtarget (xlay S (xfirst S f) 1 2) f (-1))
      exact WX_n (WX_lay (WX_sits h1 (by omega) (by omega) (by omega)) (by omega) (by decide) (by omega) (by omega)) (by omega)
theorem BX_ra {S : Nat → Int} {f n : Int} (hW : WX S) (hB : BX S n) : BX (xra S f) (n + 1) := by
  have hb := xfirst_b hW f
  have hB1 := BX_mono hB (show n ≤ n + 1 by omega)
  unfold xra
  split
  · exact hB1
  · split
    · exact BX_lay (BX_lay hB1 (by omega) (by decide) (by omega)) (by omega) (by decide) (by omega)
    · have h6 : xwd (xsits (xlay S (xfirst S f) 1 2) (xfirst S f) (xtarget (xlay S (xfirst S f) 1 2) f (-1)) (xlow (xlay S (xfirst S f) 1 2) (xtarget (xlay S (xfirst S f) 1 2) f (-1)))) (xfirst S f) 6 ≤ n := by
        rw [xsits_6 (by omega) (by omega), xlay_ne ⟨by omega, by decide, by decide⟩ ⟨by omega, by decide, by decide⟩ (Or.inr (by decide))]
        exact hB.2.2.2 _ (by omega) (by omega)
      have h3 : xraS S f 3 = S 3 := by
        unfold xraS
        rw [xlay_lo (by omega) (by decide) (by decide), xsits_lo (by omega) (by decide), xlay_lo (by omega) (by decide) (by decide)]
      refine BX_n (BX_lay (BX_sits (BX_lay hB1 (by omega) (by decide) (by omega)) (by omega)) (by omega) (by decide) (fun _ => by omega)) (by decide) ?_
      rw [h3]
      have := hB.2.1
      omega
theorem WX_t1 {S : Nat → Int} (hW : WX S) : WX (xt1 S) := WX_n (WX_ra (WX_ra (WX_ra hW))) (by omega)
theorem BX_t1 {S : Nat → Int} {n : Int} (hW : WX S) (hB : BX S n) : BX (xt1 S) (n + 4) := by
  have h3 : BX (xra (xra (xra S 0) 1) 2) (n + 1 + 1 + 1) := BX_ra (WX_ra (WX_ra hW)) (BX_ra (WX_ra hW) (BX_ra hW hB))
  refine BX_n (BX_mono h3 (by omega)) (by decide) ?_
  have := h3.1
  omega
theorem WX_tS {S : Nat → Int} (hW : WX S) (n : Nat) : WX (xtS S n) := by
  induction n with
  | zero => exact hW
  | succ n ih => exact WX_t1 ih
theorem BX_tS {S : Nat → Int} {b : Int} (hW : WX S) (hB : BX S b) (n : Nat) : BX (xtS S n) (b + 4 * n) := by
  induction n with
  | zero => exact BX_mono hB (by omega)
  | succ n ih => exact BX_mono (BX_t1 (WX_tS hW n) ih) (by omega)
theorem xt1n_b (S : Nat → Int) : 0 ≤ xt1n S ∧ xt1n S ≤ 3 := by
  unfold xt1n
  (repeat' split) <;> omega
theorem xtn_b (S : Nat → Int) (n : Nat) : 0 ≤ xtn S n ∧ xtn S n ≤ 3 * n := by
  induction n with
  | zero => exact ⟨Int.le_refl _, by show (0 : Int) ≤ 3 * ((0 : Nat) : Int); omega⟩
  | succ n ih =>
    have := xt1n_b (xtS S n)
    show 0 ≤ xtn S n + xt1n (xtS S n) ∧ xtn S n + xt1n (xtS S n) ≤ _
    omega
/-- emptying a chip, row by row -/
def xemS (S : Nat → Int) (c : Int) : Nat → (Nat → Int) × Int × Bool
  | 0 => (S, 0, true)
  | r + 1 => if (xemS S c r).2.2 = true then (if xkept (xemS S c r).1 c r < 0 then xemS S c r else if xtarget (xemS S c r).1 (xch (xemS S c r).1 c 0) c < 0 then ((xemS S c r).1, (xemS S c r).2.1, false) else (xsits (xemS S c r).1 (xkept (xemS S c r).1 c r) (xtarget (xemS S c r).1 (xch (xemS S c r).1 c 0) c) (xlow (xemS S c r).1 (xtarget (xemS S c r).1 (xch (xemS S c r).1 c 0) c)), (xemS S c r).2.1 + 1, true)) else xemS S c r
def xempt (S : Nat → Int) (c : Int) : Int × (Nat → Int) := if 0 ≤ c ∧ c ≤ S 0 - 1 then (if xch S c 2 = 1 then (if xisg S c = true then (-1000002, S) else (if (xemS S c 6).2.2 = true then ((xemS S c 6).2.1, (xemS S c 6).1) else (-1000002, S))) else (-1000002, S)) else (-1000001, S)
def xemX (X : am_M) (S : Nat → Int) (c : Int) : am_M := if 0 ≤ c ∧ c ≤ S 0 - 1 then (if xch S c 2 = 1 then (if xisg S c = true then X else am_u3 X 5 S) else X) else X
def xemR (b : Bool) (S T : Nat → Int) (k : Nat) : Nat → Int := if b = true then T else am_mix S T k
theorem WX_emS {S : Nat → Int} {c : Int} (hW : WX S) (n : Nat) : WX (xemS S c n).1 ∧ (xemS S c n).1 0 = S 0 ∧ (xemS S c n).1 1 = S 1 := by
  induction n with
  | zero => exact ⟨hW, rfl, rfl⟩
  | succ n ih =>
    obtain ⟨hw, h0, h1⟩ := ih
    have hk := xkept_b hw c n
    have ht := xtarget_b hw (xch (xemS S c n).1 c 0) c
    unfold xemS
    split
    · split
      · exact ⟨hw, h0, h1⟩
      · split
        · exact ⟨hw, h0, h1⟩
        · have hp := xtarget_pl (S := (xemS S c n).1) (f := xch (xemS S c n).1 c 0) (wt := c) (by omega)
          have hl := xlow_lt hp.1
          have hl0 := xlow_0 (xemS S c n).1 (xtarget (xemS S c n).1 (xch (xemS S c n).1 c 0) c)
          exact ⟨WX_sits hw (by omega) (by omega) (by omega), (xsits_lo (by omega) (by decide)).trans h0, (xsits_lo (by omega) (by decide)).trans h1⟩
    · exact ⟨hw, h0, h1⟩
def xshk (W : Nat → Int) (k : Nat) : Nat → Int := fun i => if i < k then W (i + 208) else W i
def xcpk (W B : Nat → Int) (n k : Nat) : Nat → Int := fun i => if 208 * n ≤ i ∧ i < 208 * n + k then B (i - 208 * n) else W i
theorem xshk_s (W : Nat → Int) (k : Nat) : am_u1 (xshk W k) k (xshk W k (k + 208)) = xshk W (k + 1) := by
  funext i
  unfold am_u1 xshk
  by_cases h : i = k
  · subst h; simp; intro h; omega
  · rw [if_neg h]
    by_cases h2 : i < k
    · rw [if_pos h2, if_pos (by omega)]
    · rw [if_neg h2, if_neg (by omega)]
theorem xcpk_s (W B : Nat → Int) (n k : Nat) : am_u1 (xcpk W B n k) (208 * n + k) (B k) = xcpk W B n (k + 1) := by
  funext i
  unfold am_u1 xcpk
  by_cases h : i = 208 * n + k
  · subst h
    rw [if_pos rfl, if_pos ⟨by omega, by omega⟩]
    congr 1
    omega
  · rw [if_neg h]
    by_cases h2 : 208 * n ≤ i ∧ i < 208 * n + k
    · rw [if_pos h2, if_pos ⟨h2.1, by omega⟩]
    · rw [if_neg h2, if_neg (by omega)]
def xac1 (X : am_M) : am_M := if X 0 5 = 4 then am_u2 (am_u3 X 2 (xshk (X 2) 624)) 0 5 3 else X
def xac2 (X : am_M) : am_M := am_u2 (am_u3 X 2 (xcpk (X 2) (X 3) (X 0 5).toNat 208)) 0 5 (X 0 5 + 1)
def xact (X : am_M) (r : Int) : am_M := if r ≤ -1000001 then X else xac2 (xac1 X)
