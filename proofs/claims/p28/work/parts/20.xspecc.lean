/-! ===== more of the reference's words ===== -/
theorem xfalls_lo {S : Nat → Int} {w b : Int} {m : Nat} (hW : WX S) (hw : 0 ≤ w ∧ w < 24) (hm : m < 40) (h4 : m ≠ 4) : xfalls S w b m = S m := by
  have hb := xwait_b hW (xwd S w 4) (xwd S w 3)
  unfold xfalls
  split
  · split
    · split
      · unfold xwn
        rw [am_u1_ne _ _ h4, xlay_lo hw.1 (by decide) hm, xlay_lo hw.1 (by decide) hm]
      · rfl
    · rw [xlay_lo (by omega) (by decide) hm, xlay_lo hw.1 (by decide) hm]
  · rw [xlay_lo hw.1 (by decide) hm]
def xbr1 (S : Nat → Int) (c row : Int) : Nat → Int :=
  if xisg S c = true then (if xwait S (xch S c 0) row < 0 then S else xlay S (xwait S (xch S c 0) row) 1 2)
  else (if xkept S c row < 0 then S else xfalls S (xkept S c row) (if xch S c 1 ≤ 0 then 0 else 1))
def xbr2 (S : Nat → Int) (c row : Int) : Nat → Int := am_u1 (xbr1 S c row) (8 + 4 * c + 1).toNat (xbr1 S c row (8 + 4 * c + 1).toNat - (if xch S c 1 ≤ 0 then 0 else 1))
def xbrS (S : Nat → Int) (c row : Int) : Nat → Int := am_u1 (xbr2 S c row) (8 + 4 * c + 3).toNat (am_or (xbr2 S c row (8 + 4 * c + 3).toNat) (if xch S c 1 ≤ 0 then am_shl 1 row else 0))
def xbreaks (S : Nat → Int) (c row : Int) : Int × (Nat → Int) := if 0 ≤ c ∧ c ≤ S 0 - 1 then (if 0 ≤ row ∧ row ≤ 5 then (if xch S c 2 = 1 then (if bit (xch S c 3) row = 0 then (xlost (xbrS S c row) - xlost S, xbrS S c row) else (-1000002, S)) else (-1000002, S)) else (-1000001, S)) else (-1000001, S)
theorem xbr1_lo {S : Nat → Int} {c row : Int} {m : Nat} (hW : WX S) (hm : m < 40) (h4 : m ≠ 4) : xbr1 S c row m = S m := by
  have hb := xwait_b hW (xch S c 0) row
  have hk := xkept_b hW c row
  unfold xbr1
  split
  · split
    · rfl
    · rw [xlay_lo (by omega) (by decide) hm]
  · split
    · rfl
    · exact xfalls_lo hW (by omega) hm h4
theorem WX_br1 {S : Nat → Int} {c row : Int} (hW : WX S) : WX (xbr1 S c row) := by
  have hb := xwait_b hW (xch S c 0) row
  have hk := xkept_b hW c row
  unfold xbr1
  split
  · split
    · exact hW
    · exact WX_lay hW (by omega) (by decide) (by omega) (by omega)
  · split
    · exact hW
    · exact WX_falls hW (by omega)
theorem WX_brS {S : Nat → Int} {c row : Int} (hW : WX S) (hc : 0 ≤ c ∧ c < 8) : WX (xbrS S c row) := WX_chip (WX_chip (WX_br1 hW) hc (by decide)) hc (by decide)
theorem fstW_lt (p : Nat → Bool) (r n k : Nat) (h1 : r ≤ k) (h2 : k < r + n) (hp : p k = true) : fstW p r n < r + n := by
  induction n generalizing r with
  | zero => omega
  | succ n ih =>
    unfold fstW
    split
    · omega
    · have hrk : r ≠ k := by intro h; subst h; contradiction
      have := ih (r + 1) (by omega) (by omega)
      omega
theorem cntW_ex (p : Nat → Bool) (n : Nat) (h : cntW p n ≠ 0) : ∃ k, k < n ∧ p k = true := by
  induction n with
  | zero => exact absurd rfl h
  | succ n ih =>
    by_cases hp : p n = true
    · exact ⟨n, by omega, hp⟩
    · have : cntW p n ≠ 0 := by
        intro h0
        apply h
        show cntW p n + (if p n = true then 1 else 0) = 0
        rw [if_neg hp, h0]; rfl
      obtain ⟨k, hk, hpk⟩ := ih this
      exact ⟨k, by omega, hpk⟩
theorem xlow_lt {S : Nat → Int} {c : Int} (h : xpls S c ≠ 0) : xlow S c < 6 := by
  obtain ⟨k, hk, hp⟩ := cntW_ex _ _ h
  exact fstW_lt _ 0 6 k (by omega) (by omega) hp
theorem xlow_0 (S : Nat → Int) (c : Int) : 0 ≤ xlow S c ∧ xlow S c ≤ 6 := by
  have := fstW_b (fun r => xpl S c r) 0 6
  unfold xlow
  omega
def xputS (S : Nat → Int) (c v : Int) : Nat → Int := xsits (xlay (xlay (xlay (am_u1 S 1 (S 1 + 1)) (S 1) 0 v) (S 1) 5 0) (S 1) 6 0) (S 1) c (xlow S c)
def xputs (S : Nat → Int) (c v : Int) : Int × (Nat → Int) := if 0 ≤ c ∧ c ≤ S 0 - 1 then (if 0 ≤ v ∧ v ≤ 255 then (if xpls S c = 0 then (-1000002, S) else (if S 1 = 24 then (-1000003, S) else (S 1, xputS S c v))) else (-1000001, S)) else (-1000001, S)
def xahead (S : Nat → Int) (word : Int) : Int := cntW (fun w => xwd S w 1 == 1 && (xwd S w 4 == xwd S word 4 && decide (xwd S w 5 < xwd S word 5))) (S 1).toNat
def xfirstN (S : Nat → Int) (f : Int) : Nat → Int
  | 0 => -1
  | n + 1 => if (xwd S n 1 == 1 && (xwd S n 4 == f && (decide (xfirstN S f n < 0) || decide (xwd S n 5 < xwd S (xfirstN S f n) 5)))) = true then (n : Int) else xfirstN S f n
def xfirst (S : Nat → Int) (f : Int) : Int := xfirstN S f (S 1).toNat
def xmany (S : Nat → Int) (f st : Int) (bare : Bool) : Int := cntW (fun w => (xwd S w 1 == st && (decide (f < 0) || xwd S w 4 == f)) && !(bare && xgu S (xwd S w 4) (xwd S w 3))) (S 1).toNat
theorem xfirstN_b (S : Nat → Int) (f : Int) (n : Nat) : -1 ≤ xfirstN S f n ∧ xfirstN S f n < n := by
  induction n with
  | zero => exact ⟨Int.le_refl _, by show (-1 : Int) < 0; decide⟩
  | succ n ih =>
    unfold xfirstN
    split <;> omega
theorem xfirst_b {S : Nat → Int} (hW : WX S) (f : Int) : -1 ≤ xfirst S f ∧ xfirst S f < S 1 ∧ xfirst S f < 24 := by
  have := xfirstN_b S f (S 1).toNat
  have h1 := hW.2.1
  unfold xfirst
  omega
theorem xfirstN_y {S : Nat → Int} {f g : Int} {n : Nat} (hf : g = xfirstN S f n) (h1 : xwd S n 1 = 1) (h4 : xwd S n 4 = f) (h : g < 0 ∨ xwd S n 5 < xwd S g 5) : (n : Int) = xfirstN S f (n + 1) := by
  subst hf
  unfold xfirstN
  rw [if_pos]
  rw [h1, h4]
  simpa using h
theorem xfirstN_n {S : Nat → Int} {f g : Int} {n : Nat} (hf : g = xfirstN S f n) (h : ¬ xwd S n 1 = 1 ∨ ¬ xwd S n 4 = f ∨ (0 ≤ g ∧ xwd S g 5 ≤ xwd S n 5)) : g = xfirstN S f (n + 1) := by
  subst hf
  conv => rhs; unfold xfirstN
  rw [if_neg]
  rcases h with h | h | h
  · simp [h]
  · simp [h]
  · simp
    intro _ _
    omega
def xsum (S : Nat → Int) (f row : Int) : Nat → Int
  | 0 => 0
  | n + 1 => am_xor (xsum S f row n) (if xwd S n 1 = 2 then 0 else if xwd S n 4 = f then (if xwd S n 3 = row then xwd S n 0 else 0) else 0)
/-- what a family's tick does -/
def xraS (S : Nat → Int) (f : Int) : Nat → Int := xlay (xsits (xlay S (xfirst S f) 1 2) (xfirst S f) (xtarget (xlay S (xfirst S f) 1 2) f (-1)) (xlow (xlay S (xfirst S f) 1 2) (xtarget (xlay S (xfirst S f) 1 2) f (-1)))) (xfirst S f) 6 (xwd (xsits (xlay S (xfirst S f) 1 2) (xfirst S f) (xtarget (xlay S (xfirst S f) 1 2) f (-1)) (xlow (xlay S (xfirst S f) 1 2) (xtarget (xlay S (xfirst S f) 1 2) f (-1)))) (xfirst S f) 6 + 1)
def xraB (S : Nat → Int) (f : Int) : Bool := decide (0 ≤ xfirst S f) && decide (0 ≤ xtarget (xlay S (xfirst S f) 1 2) f (-1))
def xra (S : Nat → Int) (f : Int) : Nat → Int := if xfirst S f < 0 then S else if xtarget (xlay S (xfirst S f) 1 2) f (-1) < 0 then xlay (xlay S (xfirst S f) 1 2) (xfirst S f) 1 1 else am_u1 (xraS S f) 3 (xraS S f 3 + 1)
def xt1 (S : Nat → Int) : Nat → Int := am_u1 (xra (xra (xra S 0) 1) 2) 2 (xra (xra (xra S 0) 1) 2 2 + 1)
def xt1n (S : Nat → Int) : Int := (if xraB S 0 = true then 1 else 0) + (if xraB (xra S 0) 1 = true then 1 else 0) + (if xraB (xra (xra S 0) 1) 2 = true then 1 else 0)
def xtS (S : Nat → Int) : Nat → Nat → Int
  | 0 => S
  | n + 1 => xt1 (xtS S n)
def xtn (S : Nat → Int) : Nat → Int
  | 0 => 0
  | n + 1 => xtn S n + xt1n (xtS S n)
def xticks (S : Nat → Int) (n : Int) : Int × (Nat → Int) := if 1 ≤ n ∧ n ≤ 100 then (if S 2 + n ≤ 100000 then (xtn S n.toNat, xtS S n.toNat) else (-1000003, S)) else (-1000001, S)
theorem xbest_q {S : Nat → Int} {q : Nat → Bool} {g0 : Int} {n : Nat} (hg : xbest S q g0 n ≠ g0) : ∃ c : Nat, c < n ∧ xbest S q g0 n = c ∧ q c = true := by
  induction n with
  | zero => exact absurd rfl hg
  | succ n ih =>
    unfold xbest at hg ⊢
    split
    · rename_i h
      simp only [Bool.and_eq_true] at h
      exact ⟨n, by omega, rfl, h.1⟩
    · rename_i h
      rw [if_neg h] at hg
      obtain ⟨c, h1, h2, h3⟩ := ih hg
      exact ⟨c, by omega, h2, h3⟩
theorem xtarget_pl {S : Nat → Int} {f wt : Int} (h : 0 ≤ xtarget S f wt) : xpls S (xtarget S f wt) ≠ 0 ∧ xtarget S f wt < S 0 ∧ xtarget S f wt ≠ wt := by
  have key : ∀ (b : Bool) (g0 : Int), g0 < 0 → 0 ≤ xbest S (xq S f wt b) g0 (S 0).toNat → xpls S (xbest S (xq S f wt b) g0 (S 0).toNat) ≠ 0 ∧ xbest S (xq S f wt b) g0 (S 0).toNat < S 0 ∧ xbest S (xq S f wt b) g0 (S 0).toNat ≠ wt := by
    intro b g0 hg h0
    obtain ⟨c, h1, h2, h3⟩ := xbest_q (S := S) (q := xq S f wt b) (g0 := g0) (n := (S 0).toNat) (by omega)
    rw [h2]
    unfold xq at h3
    simp at h3
    refine ⟨?_, ?_, ?_⟩
    · have := h3.2.2; omega
    · omega
    · exact h3.1
  unfold xtarget at h ⊢
  split
  · rename_i hlt
    rw [if_pos hlt] at h
    exact key false _ hlt h
  · rename_i hge
    exact key true (-1) (by decide) (by omega)
/-- copies of a row up to a place -/
def am_mix (a b : Nat → Int) (k : Nat) : Nat → Int := fun i => if i < k then a i else b i
theorem am_mix_0 (a b : Nat → Int) : am_mix a b 0 = b := by
  funext i; simp [am_mix]
theorem am_mix_s (a b : Nat → Int) (k : Nat) : am_u1 (am_mix a b k) k (a k) = am_mix a b (k + 1) := by
  funext i
  unfold am_u1 am_mix
  by_cases h : i = k
  · subst h; simp
  · rw [if_neg h]
    by_cases h2 : i < k
    · rw [if_pos h2, if_pos (by omega)]
    · rw [if_neg h2, if_neg (by omega)]
section XM
variable {d : Nat} {y : am_Y} {h1 : am_H} {r : Option am_V} {pc : Nat} {ls : List (Option am_V)} {st : List am_V} {h0 : am_H} {X : am_M} {S : Nat → Int}
end XM
