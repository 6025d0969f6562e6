/-! ===== the reference's calls ===== -/
theorem bit01 (b r : Int) : bit b r = 0 ∨ bit b r = 1 := by
  have key : ∀ x : Int32, (x &&& 1).toInt = 0 ∨ (x &&& 1).toInt = 1 := by
    intro x
    have e : (x &&& 1).toBitVec = BitVec.setWidth 32 (BitVec.ofBool (x.toBitVec.getLsbD 0)) := by
      rw [← BitVec.and_one_eq_setWidth_ofBool_getLsbD]
      rfl
    have e2 : (x &&& 1) = Int32.ofBitVec (BitVec.setWidth 32 (BitVec.ofBool (x.toBitVec.getLsbD 0))) := by
      rw [← e]
      rfl
    rw [e2]
    cases x.toBitVec.getLsbD 0
    · exact Or.inl rfl
    · exact Or.inr rfl
  unfold bit am_and
  rw [show Int32.ofInt 1 = 1 from rfl]
  exact key _
theorem sumW_b {g : Nat → Int} (h : ∀ k, 0 ≤ g k ∧ g k ≤ 1) (n : Nat) : 0 ≤ sumW g n ∧ sumW g n ≤ n := by
  induction n with
  | zero => exact ⟨Int.le_refl _, Int.le_refl _⟩
  | succ n ih =>
    have := h n
    show 0 ≤ sumW g n + g n ∧ sumW g n + g n ≤ ((n + 1 : Nat) : Int)
    omega
theorem xones_b (b : Int) : 0 ≤ xones b ∧ xones b ≤ 8 := sumW_b (fun k => by rcases bit01 b k with h | h <;> omega) 8
theorem xelects_R (S : Nat → Int) (c : Int) : am_R (xelects S c).1 := by
  unfold xelects
  (repeat' split) <;> first | (refine ⟨?_, ?_⟩ <;> (simp; done)) | skip
  have := xones_b (xgd (am_u1 S (5 + xch S c 0).toNat c) (xch (am_u1 S (5 + xch S c 0).toNat c) c 0))
  exact ⟨by show -2147483648 ≤ xones _; omega, by show xones _ ≤ 2147483647; omega⟩
theorem WX_killS {S : Nat → Int} {c : Int} (hW : WX S) (hc : 0 ≤ c ∧ c < 8) : WX (xkillS S c) := by
  have hf := hW.2.2.2.1 c hc.1 hc.2
  have h1 : WX (xkrows (am_u1 S (8 + 4 * c + 2).toNat 0) c (xch S c 0) (xisg S c) 6) := WX_krows (WX_chip hW hc (by decide)) 6
  exact WX_god h1 hf (by split <;> first | omega | exact h1.2.2.1 _ hf.1 hf.2)
theorem WX_kills {S : Nat → Int} {c : Int} (hW : WX S) : WX (xkills S c).2 := by
  have h0 := hW.1
  unfold xkills
  (repeat' split) <;> first | exact hW | exact WX_killS hW (by omega)
theorem xkills_4 {S : Nat → Int} {c : Int} (hW : WX S) : (xkills S c).2 4 ≤ S 4 + 6 := by
  have h0 := hW.1
  unfold xkills
  split
  · split
    · have hc : 0 ≤ c ∧ c < 8 := by omega
      have hf := hW.2.2.2.1 c hc.1 hc.2
      have h6 := (xkrows_4 (c := c) (f := xch S c 0) (hd := xisg S c) (WX_chip (v := 0) hW hc (k := 2) (by decide)) 6).2
      show xkillS S c 4 ≤ _
      unfold xkillS
      rw [am_u1_ne _ _ (by omega)]
      rw [am_u1_ne S _ (show 4 ≠ (8 + 4 * c + 2).toNat by omega)] at h6
      omega
    · show S 4 ≤ _; omega
  · show S 4 ≤ _; omega
theorem xkills_b {S : Nat → Int} {c : Int} (hW : WX S) : -1000002 ≤ (xkills S c).1 ∧ (xkills S c).1 ≤ 24 := by
  have h0 := hW.1
  unfold xkills
  split
  · split
    · have h1 := xlost_b hW
      have h2 := xlost_b (WX_killS hW (c := c) (by omega))
      show -1000002 ≤ xlost (xkillS S c) - xlost S ∧ xlost (xkillS S c) - xlost S ≤ 24
      omega
    · (refine ⟨?_, ?_⟩ <;> (simp; done))
  · (refine ⟨?_, ?_⟩ <;> (simp; done))
theorem WX_breaks {S : Nat → Int} {c row : Int} (hW : WX S) : WX (xbreaks S c row).2 := by
  have h0 := hW.1
  unfold xbreaks
  (repeat' split) <;> first | exact hW | exact WX_brS hW (by omega)
theorem xbreaks_b {S : Nat → Int} {c row : Int} (hW : WX S) : -1000002 ≤ (xbreaks S c row).1 ∧ (xbreaks S c row).1 ≤ 24 := by
  have h0 := hW.1
  unfold xbreaks
  (repeat' split) <;> first | (refine ⟨?_, ?_⟩ <;> (simp; done)) | skip
  have h1 := xlost_b hW
  have h2 := xlost_b (WX_brS (row := row) hW (c := c) (by omega))
  show -1000002 ≤ xlost (xbrS S c row) - xlost S ∧ xlost (xbrS S c row) - xlost S ≤ 24
  omega
theorem xputs_b {S : Nat → Int} {c v : Int} (hW : WX S) : -1000003 ≤ (xputs S c v).1 ∧ (xputs S c v).1 ≤ 24 := by
  have h1 := hW.2.1
  unfold xputs
  (repeat' split) <;> first | (refine ⟨?_, ?_⟩ <;> (simp; done)) | (show -1000003 ≤ S 1 ∧ S 1 ≤ 24; omega)
theorem xemS_n (S : Nat → Int) (c : Int) (n : Nat) : 0 ≤ (xemS S c n).2.1 ∧ (xemS S c n).2.1 ≤ n := by
  induction n with
  | zero => exact ⟨Int.le_refl _, Int.le_refl _⟩
  | succ n ih =>
    unfold xemS
    (repeat' split) <;> first | omega | (dsimp only; omega)
theorem xempt_b (S : Nat → Int) (c : Int) : -1000002 ≤ (xempt S c).1 ∧ (xempt S c).1 ≤ 6 := by
  have := xemS_n S c 6
  unfold xempt
  (repeat' split) <;> first | (refine ⟨?_, ?_⟩ <;> (simp; done)) | (show -1000002 ≤ (xemS S c 6).2.1 ∧ (xemS S c 6).2.1 ≤ 6; omega)
theorem xticks_b (S : Nat → Int) (n : Int) : -1000003 ≤ (xticks S n).1 ∧ (xticks S n).1 ≤ 300 := by
  unfold xticks
  split
  · have := xtn_b S n.toNat
    split
    · show -1000003 ≤ xtn S n.toNat ∧ xtn S n.toNat ≤ 300; omega
    · (refine ⟨?_, ?_⟩ <;> (simp; done))
  · (refine ⟨?_, ?_⟩ <;> (simp; done))
def xaddc (S : Nat → Int) (f sp : Int) : Nat → Int := am_u1 (am_u1 (am_u1 (am_u1 (am_u1 S (8 + 4 * S 0).toNat f) (8 + 4 * S 0 + 1).toNat sp) (8 + 4 * S 0 + 2).toNat 1) (8 + 4 * S 0 + 3).toNat 0) 0 (am_u1 (am_u1 (am_u1 (am_u1 S (8 + 4 * S 0).toNat f) (8 + 4 * S 0 + 1).toNat sp) (8 + 4 * S 0 + 2).toNat 1) (8 + 4 * S 0 + 3).toNat 0 0 + 1)
def xchipR (S : Nat → Int) (f sp : Int) : Int := if 0 ≤ f ∧ f ≤ 2 then (if 0 ≤ sp ∧ sp ≤ 2 then (if S 0 = 8 then -1000003 else S 0) else -1000001) else -1000001
def xchipS (S : Nat → Int) (f sp : Int) : Nat → Int := if 0 ≤ f ∧ f ≤ 2 then (if 0 ≤ sp ∧ sp ≤ 2 then (if S 0 = 8 then S else xaddc S f sp) else S) else S
def xchipX (X : am_M) (S : Nat → Int) (f sp : Int) : am_M := if 0 ≤ f ∧ f ≤ 2 then (if 0 ≤ sp ∧ sp ≤ 2 then (if S 0 = 8 then X else xact (am_u3 X 3 S) (S 0)) else X) else X
def xchipOf (S : Nat → Int) (c k : Int) : Int := if 0 ≤ c ∧ c ≤ S 0 - 1 then (if 0 ≤ k ∧ k ≤ 6 then (if k = 0 then xch S c 0 else if k = 1 then xch S c 2 else if k = 2 then (if xisg S c = true then 1 else 0) else if k = 3 then xwords S c else if k = 4 then xpls S c else if k = 5 then xch S c 3 else xch S c 1) else -1000001) else -1000001
def xrowOf (S : Nat → Int) (c row : Int) : Int := if 0 ≤ c ∧ c ≤ S 0 - 1 then (if 0 ≤ row ∧ row ≤ 5 then (if xch S c 2 = 1 then (if bit (xch S c 3) row = 0 then (if xisg S c = true then xsum S (xch S c 0) row (S 1).toNat else if xkept S c row < 0 then -1000004 else xkept S c row) else -1000002) else -1000002) else -1000001) else -1000001
def xwriteR (S : Nat → Int) (w v : Int) : Int := if 0 ≤ w ∧ w ≤ S 1 - 1 then (if 0 ≤ v ∧ v ≤ 255 then (if xwd S w 1 = 0 then xwd S w 0 else -1000002) else -1000001) else -1000001
def xwriteS (S : Nat → Int) (w v : Int) : Nat → Int := if 0 ≤ w ∧ w ≤ S 1 - 1 then (if 0 ≤ v ∧ v ≤ 255 then (if xwd S w 1 = 0 then xlay S w 0 v else S) else S) else S
def xwriteX (X : am_M) (S : Nat → Int) (w v : Int) : am_M := if 0 ≤ w ∧ w ≤ S 1 - 1 then (if 0 ≤ v ∧ v ≤ 255 then (if xwd S w 1 = 0 then xact (am_u3 X 3 S) (xwd S w 0) else X) else X) else X
def xread (S : Nat → Int) (w : Int) : Int := if 0 ≤ w ∧ w ≤ S 1 - 1 then (if xwd S w 1 = 2 then -1000004 else xwd S w 0) else -1000001
def xcarC (S : Nat → Int) (w c : Int) : Bool := decide (xwd S w 1 = 0) && (!(decide (xwd S w 2 = c)) && !(decide (xpls S c = 0)))
def xcarR (S : Nat → Int) (w c : Int) : Int := if 0 ≤ w ∧ w ≤ S 1 - 1 then (if 0 ≤ c ∧ c ≤ S 0 - 1 then (if xcarC S w c = true then xlow S c else -1000002) else -1000001) else -1000001
def xcarS (S : Nat → Int) (w c : Int) : Nat → Int := if 0 ≤ w ∧ w ≤ S 1 - 1 then (if 0 ≤ c ∧ c ≤ S 0 - 1 then (if xcarC S w c = true then xsits S w c (xlow S c) else S) else S) else S
def xcarX (X : am_M) (S : Nat → Int) (w c : Int) : am_M := if 0 ≤ w ∧ w ≤ S 1 - 1 then (if 0 ≤ c ∧ c ≤ S 0 - 1 then (if xcarC S w c = true then xact (am_u3 X 3 S) (xlow S c) else X) else X) else X
def xwordOf (S : Nat → Int) (w k : Int) : Int := if 0 ≤ w ∧ w ≤ S 1 - 1 then (if 0 ≤ k ∧ k ≤ 5 then (if k = 0 then xwd S w 1 else if k = 1 then (if xwd S w 1 = 0 then xwd S w 2 else -1000004) else if k = 2 then (if xwd S w 1 = 2 then -1000004 else xwd S w 3) else if k = 3 then (if xwd S w 1 = 2 then -1000004 else xwd S w 4) else if k = 4 then (if xwd S w 1 = 1 then xahead S w else -1000004) else xwd S w 6) else -1000001) else -1000001
def xliv (S : Nat → Int) (f : Int) : Nat → Int
  | 0 => 0
  | n + 1 => am_or (xliv S f n) (if xch S n 0 = f then (if xch S n 2 = 1 then am_shl 1 n else 0) else 0)
def xfamOf (S : Nat → Int) (f k : Int) : Int := if 0 ≤ f ∧ f ≤ 2 then (if 0 ≤ k ∧ k ≤ 6 then (if k = 0 then (if xgod S f < 0 then -1000004 else xgod S f) else if k = 1 then xliv S f (S 0).toNat else if k = 2 then xmany S f 1 false else if k = 3 then xmany S f 0 false else if k = 4 then xgd S f else if k = 5 then xmany S f 0 true else (if xfirst S f < 0 then -1000004 else xfirst S f)) else -1000001) else -1000001
def xlossOf (S : Nat → Int) (a b : Int) : Int := (xkills S a).1 + (if b < 0 then 0 else (xkills (xkills S a).2 b).1)
def xlossG {α : Type} (S : Nat → Int) (a b : Int) (e l q : α) : α := if 0 ≤ a ∧ a ≤ S 0 - 1 then (if b = -1 then (if a = b then e else if xch S a 2 = 1 then (if b < 0 then l else if xch S b 2 = 1 then l else q) else q) else (if 0 ≤ b ∧ b ≤ S 0 - 1 then (if a = b then e else if xch S a 2 = 1 then (if b < 0 then l else if xch S b 2 = 1 then l else q) else q) else e)) else e
def xloss (S : Nat → Int) (a b : Int) : Int := xlossG S a b (-1000001) (xlossOf S a b) (-1000002)
def xlossX (X : am_M) (S : Nat → Int) (a b : Int) : am_M := xlossG S a b X (am_u3 X 4 S) X
def xsafX (X : am_M) (S : Nat → Int) : Nat → am_M
  | 0 => X
  | n + 1 => if xch S n 2 = 1 then am_u3 (xsafX X S n) 4 S else xsafX X S n
def xsafe (S : Nat → Int) : Nat → Int
  | 0 => 0
  | n + 1 => am_or (xsafe S n) (if xch S n 2 = 1 then (if xlossOf S n (-1) = 0 then am_shl 1 n else 0) else 0)
theorem xlossOf_b {S : Nat → Int} {a b : Int} (hW : WX S) : -3000000 ≤ xlossOf S a b ∧ xlossOf S a b ≤ 48 := by
  have h1 := xkills_b (c := a) hW
  have h2 := xkills_b (c := b) (WX_kills (c := a) hW)
  unfold xlossOf
  split <;> omega
