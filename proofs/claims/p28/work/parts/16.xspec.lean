/-! ===== the reference's words for its row s ===== -/
def lastW (p : Nat → Bool) : Nat → Int
  | 0 => -1
  | n + 1 => if p n = true then (n : Int) else lastW p n
def cntW (p : Nat → Bool) : Nat → Int
  | 0 => 0
  | n + 1 => cntW p n + (if p n = true then 1 else 0)
def bit (b r : Int) : Int := am_and (am_shr b r) 1
def xch (S : Nat → Int) (c k : Int) : Int := S (8 + 4 * c + k).toNat
def xwd (S : Nat → Int) (w k : Int) : Int := S (40 + 7 * w + k).toNat
def xkept (S : Nat → Int) (c row : Int) : Int := lastW (fun w => xwd S w 1 == 0 && xwd S w 2 == c && xwd S w 3 == row) (S 1).toNat
def xwait (S : Nat → Int) (f row : Int) : Int := lastW (fun w => xwd S w 1 == 1 && xwd S w 4 == f && xwd S w 3 == row) (S 1).toNat
theorem lastW_R (p : Nat → Bool) (n : Nat) (hn : n ≤ 1000) : -1 ≤ lastW p n ∧ lastW p n < n ∨ lastW p n = -1 := by
  induction n with
  | zero => exact Or.inr rfl
  | succ n ih =>
    unfold lastW
    have := ih (by omega)
    split <;> omega
theorem cntW_R (p : Nat → Bool) (n : Nat) : 0 ≤ cntW p n ∧ cntW p n ≤ n := by
  induction n with
  | zero => exact ⟨Int.le_refl _, Int.le_refl _⟩
  | succ n ih =>
    unfold cntW
    split <;> omega
def fstW (p : Nat → Bool) : Nat → Nat → Int
  | r, 0 => r
  | r, n + 1 => if p r = true then r else fstW p (r + 1) n
def xgod (S : Nat → Int) (f : Int) : Int := S (5 + f).toNat
def xgu (S : Nat → Int) (f row : Int) : Bool := decide (0 ≤ xgod S f) && bit (xch S (xgod S f) 3) row == 0
def xisg (S : Nat → Int) (c : Int) : Bool := xgod S (xch S c 0) == c
def xpl (S : Nat → Int) (c row : Int) : Bool := xch S c 2 == 1 && (!xisg S c && (bit (xch S c 3) row == 0 && (decide (xkept S c row < 0) && decide (xwait S (xch S c 0) row < 0))))
def xpls (S : Nat → Int) (c : Int) : Int := cntW (fun r => xpl S c r) 6
def xlow (S : Nat → Int) (c : Int) : Int := fstW (fun r => xpl S c r) 0 6
/-- what is always so of the row's shape -/
def WX (S : Nat → Int) : Prop := (0 ≤ S 0 ∧ S 0 ≤ 8) ∧ (0 ≤ S 1 ∧ S 1 ≤ 24) ∧ (∀ f : Int, 0 ≤ f → f ≤ 2 → -1 ≤ xgod S f ∧ xgod S f < 8) ∧ (∀ c : Int, 0 ≤ c → c < 8 → 0 ≤ xch S c 0 ∧ xch S c 0 ≤ 2) ∧ (∀ w : Int, 0 ≤ w → w < 24 → (0 ≤ xwd S w 4 ∧ xwd S w 4 ≤ 2) ∧ 0 ≤ xwd S w 3 ∧ xwd S w 3 ≤ 5)
theorem lastW_b (p : Nat → Bool) (n : Nat) : -1 ≤ lastW p n ∧ lastW p n < n := by
  induction n with
  | zero => exact ⟨Int.le_refl _, by show (-1 : Int) < 0; decide⟩
  | succ n ih =>
    unfold lastW
    split <;> omega
theorem lastW_RR {p : Nat → Bool} {n : Int} (hn : n ≤ 24) (hn0 : 0 ≤ n) : am_R (lastW p n.toNat) := by
  have := lastW_b p n.toNat
  exact ⟨by omega, by omega⟩
theorem xkept_b {S : Nat → Int} (hW : WX S) (c row : Int) : -1 ≤ xkept S c row ∧ xkept S c row < S 1 ∧ xkept S c row < 24 := by
  have h := lastW_b (fun w => xwd S w 1 == 0 && xwd S w 2 == c && xwd S w 3 == row) (S 1).toNat
  have h1 := hW.2.1
  unfold xkept
  omega
theorem xwait_b {S : Nat → Int} (hW : WX S) (c row : Int) : -1 ≤ xwait S c row ∧ xwait S c row < S 1 ∧ xwait S c row < 24 := by
  have h := lastW_b (fun w => xwd S w 1 == 1 && xwd S w 4 == c && xwd S w 3 == row) (S 1).toNat
  have h1 := hW.2.1
  unfold xwait
  omega
theorem xpls_b (S : Nat → Int) (c : Int) : 0 ≤ xpls S c ∧ xpls S c ≤ 6 := cntW_R _ 6
theorem xpls_R (S : Nat → Int) (c : Int) : am_R (xpls S c) := by
  have := xpls_b S c
  exact ⟨by omega, by omega⟩
theorem xkept_R {S : Nat → Int} (hW : WX S) (c row : Int) : am_R (xkept S c row) := by
  have := xkept_b hW c row
  exact ⟨by omega, by omega⟩
theorem xwait_R {S : Nat → Int} (hW : WX S) (c row : Int) : am_R (xwait S c row) := by
  have := xwait_b hW c row
  exact ⟨by omega, by omega⟩
theorem fstW_b (p : Nat → Bool) (r n : Nat) : r ≤ fstW p r n ∧ fstW p r n ≤ r + n := by
  induction n generalizing r with
  | zero => exact ⟨Int.le_refl _, by show (r : Int) ≤ r + 0; omega⟩
  | succ n ih =>
    unfold fstW
    have := ih (r + 1)
    split <;> omega
def sumW (g : Nat → Int) : Nat → Int
  | 0 => 0
  | n + 1 => sumW g n + g n
def orW (p : Nat → Bool) : Nat → Int
  | 0 => 0
  | n + 1 => am_or (orW p n) (if p n = true then am_shl 1 n else 0)
def xones (b : Int) : Int := sumW (fun k => bit b k) 8
def xlost (S : Nat → Int) : Int := cntW (fun w => xwd S w 1 == 2) (S 1).toNat
def xwords (S : Nat → Int) (c : Int) : Int := cntW (fun r => decide (0 ≤ xkept S c r)) 6
def xgd (S : Nat → Int) (f : Int) : Int := orW (fun r => xgu S f r) 6
def xlay (S : Nat → Int) (w k v : Int) : Nat → Int := am_u1 S (40 + 7 * w + k).toNat v
theorem xwd_R {S : Nat → Int} (h : ∀ m, am_R (S m)) (w k : Int) : am_R (xwd S w k) := h _
theorem xch_R {S : Nat → Int} (h : ∀ m, am_R (S m)) (w k : Int) : am_R (xch S w k) := h _
theorem bit_R (b r : Int) : am_R (bit b r) := am_RT _
