/-! ===== the reference's changes of its row s ===== -/
def xsits (S : Nat → Int) (w c row : Int) : Nat → Int := xlay (xlay (xlay (xlay S w 1 0) w 2 c) w 3 row) w 4 (xch (xlay (xlay (xlay S w 1 0) w 2 c) w 3 row) c 0)
def xwn (S : Nat → Int) (w : Int) : Nat → Int := am_u1 (xlay (xlay S w 1 1) w 5 (xlay S w 1 1 4)) 4 (xlay (xlay S w 1 1) w 5 (xlay S w 1 1 4) 4 + 1)
def xfalls (S : Nat → Int) (w b : Int) : Nat → Int := if xgu S (xwd S w 4) (xwd S w 3) = true then (if xwait S (xwd S w 4) (xwd S w 3) < 0 then (if b = 0 then xwn S w else S) else xlay (xlay S w 1 2) (xwait S (xwd S w 4) (xwd S w 3)) 1 2) else xlay S w 1 2
def xq (S : Nat → Int) (f wo : Int) (b : Bool) (c : Nat) : Bool := !((c : Int) == wo) && (((xch S c 0 == f) == b) && decide (0 < xpls S c))
def xbest (S : Nat → Int) (q : Nat → Bool) (g0 : Int) : Nat → Int
  | 0 => g0
  | n + 1 => if (q n && (decide (xbest S q g0 n < 0) || decide (xpls S (xbest S q g0 n) < xpls S n))) = true then (n : Int) else xbest S q g0 n
def xtarget (S : Nat → Int) (f wo : Int) : Int := if xbest S (xq S f wo true) (-1) (S 0).toNat < 0 then xbest S (xq S f wo false) (xbest S (xq S f wo true) (-1) (S 0).toNat) (S 0).toNat else xbest S (xq S f wo true) (-1) (S 0).toNat
def xelects (S : Nat → Int) (c : Int) : Int × (Nat → Int) := if 0 ≤ c ∧ c ≤ S 0 - 1 then (if xch S c 2 = 1 then (if xgod S (xch S c 0) < 0 then (if xwords S c ≤ 0 then (xones (xgd (am_u1 S (5 + xch S c 0).toNat c) (xch (am_u1 S (5 + xch S c 0).toNat c) c 0)), am_u1 S (5 + xch S c 0).toNat c) else (-1000002, S)) else (-1000002, S)) else (-1000002, S)) else (-1000001, S)
def xkrow (S : Nat → Int) (c f : Int) (hd : Bool) (row : Int) : Nat → Int :=
  if xkept S c row < 0 then (if hd = true then (if xwait S f row < 0 then S else xlay S (xwait S f row) 1 2) else S)
  else (if hd = true then (if xwait (xfalls S (xkept S c row) 0) f row < 0 then xfalls S (xkept S c row) 0 else xlay (xfalls S (xkept S c row) 0) (xwait (xfalls S (xkept S c row) 0) f row) 1 2) else xfalls S (xkept S c row) 0)
def xkrows (S : Nat → Int) (c f : Int) (hd : Bool) : Nat → Nat → Int
  | 0 => S
  | n + 1 => xkrow (xkrows S c f hd n) c f hd n
def xkillS (S : Nat → Int) (c : Int) : Nat → Int := am_u1 (xkrows (am_u1 S (8 + 4 * c + 2).toNat 0) c (xch S c 0) (xisg S c) 6) (5 + xch S c 0).toNat (if xisg S c = true then -1 else xkrows (am_u1 S (8 + 4 * c + 2).toNat 0) c (xch S c 0) (xisg S c) 6 (5 + xch S c 0).toNat)
def xkills (S : Nat → Int) (c : Int) : Int × (Nat → Int) := if 0 ≤ c ∧ c ≤ S 0 - 1 then (if xch S c 2 = 1 then (xlost (xkillS S c) - xlost S, xkillS S c) else (-1000002, S)) else (-1000001, S)
theorem xlay_lo {S : Nat → Int} {w k v : Int} {m : Nat} (hw : 0 ≤ w) (hk : 0 ≤ k) (hm : m < 40) : xlay S w k v m = S m := by
  unfold xlay
  rw [am_u1_ne]
  omega
theorem xlay_ch {S : Nat → Int} {w k v c j : Int} (hw : 0 ≤ w) (hk : 0 ≤ k) (hc : 0 ≤ c ∧ c < 8) (hj : 0 ≤ j ∧ j < 4) : xch (xlay S w k v) c j = xch S c j := by
  unfold xch
  exact xlay_lo hw hk (by omega)
theorem xlay_god {S : Nat → Int} {w k v f : Int} (hw : 0 ≤ w) (hk : 0 ≤ k) (hf : 0 ≤ f ∧ f ≤ 2) : xgod (xlay S w k v) f = xgod S f := by
  unfold xgod
  exact xlay_lo hw hk (by omega)
theorem xlay_at {S : Nat → Int} {w k v : Int} : xwd (xlay S w k v) w k = v := by
  unfold xwd xlay
  rw [am_u1_at]
theorem xlay_ne {S : Nat → Int} {w k v w2 k2 : Int} (hw : 0 ≤ w ∧ 0 ≤ k ∧ k < 7) (hw2 : 0 ≤ w2 ∧ 0 ≤ k2 ∧ k2 < 7) (hne : w2 ≠ w ∨ k2 ≠ k) : xwd (xlay S w k v) w2 k2 = xwd S w2 k2 := by
  unfold xwd xlay
  rw [am_u1_ne]
  omega
theorem WX_lay {S : Nat → Int} {w k v : Int} (hW : WX S) (hw : 0 ≤ w ∧ w < 24) (hk : 0 ≤ k ∧ k < 7) (h3 : k = 3 → 0 ≤ v ∧ v ≤ 5) (h4 : k = 4 → 0 ≤ v ∧ v ≤ 2) : WX (xlay S w k v) := by
  obtain ⟨w0, w1, wg, wf, wo⟩ := hW
  refine ⟨by rw [xlay_lo hw.1 hk.1 (by decide)]; exact w0, by rw [xlay_lo hw.1 hk.1 (by decide)]; exact w1, fun f h0 h2 => by rw [xlay_god hw.1 hk.1 ⟨h0, h2⟩]; exact wg f h0 h2, fun c h0 h8 => by rw [xlay_ch hw.1 hk.1 ⟨h0, h8⟩ (by decide)]; exact wf c h0 h8, fun a h0 h9 => ⟨?_, ?_⟩⟩
  · by_cases h : a ≠ w ∨ (4 : Int) ≠ k
    · rw [xlay_ne ⟨hw.1, hk.1, hk.2⟩ ⟨h0, by decide⟩ h]; exact (wo a h0 h9).1
    · have ha : a = w := by omega
      have hk4 : k = 4 := by omega
      subst ha; subst hk4
      rw [xlay_at]; exact h4 rfl
  · by_cases h : a ≠ w ∨ (3 : Int) ≠ k
    · rw [xlay_ne ⟨hw.1, hk.1, hk.2⟩ ⟨h0, by decide⟩ h]; exact (wo a h0 h9).2
    · have ha : a = w := by omega
      have hk4 : k = 3 := by omega
      subst ha; subst hk4
      rw [xlay_at]; exact h3 rfl
theorem WX_n {S : Nat → Int} {v : Int} {m : Nat} (hW : WX S) (hm : m = 2 ∨ m = 3 ∨ m = 4) : WX (am_u1 S m v) := by
  obtain ⟨w0, w1, wg, wf, wo⟩ := hW
  refine ⟨by rw [am_u1_ne _ _ (by omega)]; exact w0, by rw [am_u1_ne _ _ (by omega)]; exact w1, fun f h0 h2 => ?_, fun c h0 h8 => ?_, fun a h0 h9 => ?_⟩
  · unfold xgod; rw [am_u1_ne _ _ (by omega)]; exact wg f h0 h2
  · unfold xch; rw [am_u1_ne _ _ (by omega)]; exact wf c h0 h8
  · unfold xwd; rw [am_u1_ne _ _ (by omega), am_u1_ne _ _ (by omega)]; exact wo a h0 h9
theorem WX_sits {S : Nat → Int} {w c row : Int} (hW : WX S) (hw : 0 ≤ w ∧ w < 24) (hc : 0 ≤ c ∧ c < 8) (hr : 0 ≤ row ∧ row ≤ 5) : WX (xsits S w c row) := by
  have h1 : WX (xlay S w 1 0) := WX_lay hW hw (by decide) (by omega) (by omega)
  have h2 : WX (xlay (xlay S w 1 0) w 2 c) := WX_lay h1 hw (by decide) (by omega) (by omega)
  have h3 : WX (xlay (xlay (xlay S w 1 0) w 2 c) w 3 row) := WX_lay h2 hw (by decide) (fun _ => hr) (by omega)
  exact WX_lay h3 hw (by decide) (by omega) (fun _ => h3.2.2.2.1 c hc.1 hc.2)
theorem WX_wn {S : Nat → Int} {w : Int} (hW : WX S) (hw : 0 ≤ w ∧ w < 24) : WX (xwn S w) := WX_n (WX_lay (WX_lay hW hw (by decide) (by omega) (by omega)) hw (by decide) (by omega) (by omega)) (by omega)
theorem WX_falls {S : Nat → Int} {w b : Int} (hW : WX S) (hw : 0 ≤ w ∧ w < 24) : WX (xfalls S w b) := by
  have h1 : WX (xlay S w 1 2) := WX_lay hW hw (by decide) (by omega) (by omega)
  have hb := xwait_b hW (xwd S w 4) (xwd S w 3)
  unfold xfalls
  split
  · split
    · split
      · exact WX_wn hW hw
      · exact hW
    · exact WX_lay h1 (by omega) (by decide) (by omega) (by omega)
  · exact h1
theorem WX_krow {S : Nat → Int} {c f : Int} {hd : Bool} {row : Int} (hW : WX S) : WX (xkrow S c f hd row) := by
  have hk := xkept_b hW c row
  have hb := xwait_b hW f row
  unfold xkrow
  split
  · split
    · split
      · exact hW
      · exact WX_lay hW (by omega) (by decide) (by omega) (by omega)
    · exact hW
  · have h2 : WX (xfalls S (xkept S c row) 0) := WX_falls hW (by omega)
    have hb2 := xwait_b h2 f row
    split
    · split
      · exact h2
      · exact WX_lay h2 (by omega) (by decide) (by omega) (by omega)
    · exact h2
theorem WX_krows {S : Nat → Int} {c f : Int} {hd : Bool} (hW : WX S) (n : Nat) : WX (xkrows S c f hd n) := by
  induction n with
  | zero => exact hW
  | succ n ih => exact WX_krow ih
theorem WX_chip {S : Nat → Int} {c k v : Int} (hW : WX S) (hc : 0 ≤ c ∧ c < 8) (hk : 1 ≤ k ∧ k < 4) : WX (am_u1 S (8 + 4 * c + k).toNat v) := by
  obtain ⟨w0, w1, wg, wf, wo⟩ := hW
  refine ⟨by rw [am_u1_ne _ _ (by omega)]; exact w0, by rw [am_u1_ne _ _ (by omega)]; exact w1, fun f h0 h2 => ?_, fun a h0 h8 => ?_, fun a h0 h9 => ?_⟩
  · unfold xgod; rw [am_u1_ne _ _ (by omega)]; exact wg f h0 h2
  · unfold xch; rw [am_u1_ne _ _ (by omega)]; exact wf a h0 h8
  · unfold xwd; rw [am_u1_ne _ _ (by omega), am_u1_ne _ _ (by omega)]; exact wo a h0 h9
theorem WX_god {S : Nat → Int} {f v : Int} (hW : WX S) (hf : 0 ≤ f ∧ f ≤ 2) (hv : -1 ≤ v ∧ v < 8) : WX (am_u1 S (5 + f).toNat v) := by
  obtain ⟨w0, w1, wg, wf, wo⟩ := hW
  refine ⟨by rw [am_u1_ne _ _ (by omega)]; exact w0, by rw [am_u1_ne _ _ (by omega)]; exact w1, fun g h0 h2 => ?_, fun a h0 h8 => ?_, fun a h0 h9 => ?_⟩
  · unfold xgod
    by_cases h : (5 + g).toNat = (5 + f).toNat
    · rw [h, am_u1_at]; exact hv
    · rw [am_u1_ne _ _ h]; exact wg g h0 h2
  · unfold xch; rw [am_u1_ne _ _ (by omega)]; exact wf a h0 h8
  · unfold xwd; rw [am_u1_ne _ _ (by omega), am_u1_ne _ _ (by omega)]; exact wo a h0 h9
theorem xbest_b {S : Nat → Int} {q : Nat → Bool} {g0 : Int} {n : Nat} {N : Int} (hg : -1 ≤ g0 ∧ g0 < N) (hn : (n : Int) ≤ N) : -1 ≤ xbest S q g0 n ∧ xbest S q g0 n < N := by
  induction n with
  | zero => exact hg
  | succ n ih =>
    unfold xbest
    split
    · omega
    · exact ih (by omega)
theorem xtarget_b {S : Nat → Int} (hW : WX S) (f wo : Int) : -1 ≤ xtarget S f wo ∧ xtarget S f wo < 8 := by
  have h0 := hW.1
  have h1 : -1 ≤ xbest S (xq S f wo true) (-1) (S 0).toNat ∧ _ < (8 : Int) := xbest_b (by decide) (by omega)
  unfold xtarget
  split
  · exact xbest_b h1 (by omega)
  · exact h1
theorem xwn_4 {S : Nat → Int} {w : Int} (hw : 0 ≤ w) : xwn S w 4 = S 4 + 1 := by
  unfold xwn
  rw [am_u1_at, xlay_lo hw (by decide) (by decide), xlay_lo hw (by decide) (by decide)]
theorem xfalls_4 {S : Nat → Int} {w b : Int} (hW : WX S) (hw : 0 ≤ w ∧ w < 24) : S 4 ≤ xfalls S w b 4 ∧ xfalls S w b 4 ≤ S 4 + 1 := by
  have hb := xwait_b hW (xwd S w 4) (xwd S w 3)
  unfold xfalls
  split
  · split
    · split
      · rw [xwn_4 hw.1]; omega
      · omega
    · rw [xlay_lo (by omega) (by decide) (by decide), xlay_lo hw.1 (by decide) (by decide)]; omega
  · rw [xlay_lo hw.1 (by decide) (by decide)]; omega
theorem xkrow_4 {S : Nat → Int} {c f : Int} {hd : Bool} {row : Int} (hW : WX S) : S 4 ≤ xkrow S c f hd row 4 ∧ xkrow S c f hd row 4 ≤ S 4 + 1 := by
  have hk := xkept_b hW c row
  have hb := xwait_b hW f row
  unfold xkrow
  split
  · split
    · split
      · omega
      · rw [xlay_lo (by omega) (by decide) (by decide)]; omega
    · omega
  · have h2 : WX (xfalls S (xkept S c row) 0) := WX_falls hW (by omega)
    have h4 := xfalls_4 (b := 0) hW (w := xkept S c row) (by omega)
    have hb2 := xwait_b h2 f row
    split
    · split
      · exact h4
      · rw [xlay_lo (by omega) (by decide) (by decide)]; exact h4
    · exact h4
theorem xkrows_4 {S : Nat → Int} {c f : Int} {hd : Bool} (hW : WX S) (n : Nat) : S 4 ≤ xkrows S c f hd n 4 ∧ xkrows S c f hd n 4 ≤ S 4 + n := by
  induction n with
  | zero => exact ⟨Int.le_refl _, by show S 4 ≤ S 4 + 0; omega⟩
  | succ n ih =>
    have := xkrow_4 (c := c) (f := f) (hd := hd) (row := n) (WX_krows (c := c) (f := f) (hd := hd) hW n)
    show S 4 ≤ xkrow _ c f hd n 4 ∧ xkrow _ c f hd n 4 ≤ _
    omega
theorem cntW_RR {p : Nat → Bool} {n : Nat} (hn : n ≤ 1000) : am_R (cntW p n) := by
  have := cntW_R p n
  exact ⟨by omega, by omega⟩
theorem xlost_b {S : Nat → Int} (hW : WX S) : 0 ≤ xlost S ∧ xlost S ≤ 24 := by
  have := cntW_R (fun w => xwd S w 1 == 2) (S 1).toNat
  have h1 := hW.2.1
  unfold xlost
  omega
theorem xwords_b (S : Nat → Int) (c : Int) : 0 ≤ xwords S c ∧ xwords S c ≤ 6 := cntW_R _ 6
theorem xwords_R (S : Nat → Int) (c : Int) : am_R (xwords S c) := by
  have := xwords_b S c
  exact ⟨by omega, by omega⟩
theorem xbest_y {S : Nat → Int} {q : Nat → Bool} {g0 g : Int} {c : Nat} (hf : g = xbest S q g0 c) (hq : q c = true) (h : g < 0 ∨ xpls S g < xpls S c) : (c : Int) = xbest S q g0 (c + 1) := by
  subst hf
  show (c : Int) = if (q c && (decide (xbest S q g0 c < 0) || decide (xpls S (xbest S q g0 c) < xpls S c))) = true then (c : Int) else xbest S q g0 c
  rw [if_pos]
  rw [hq]
  simpa using h
theorem xbest_n {S : Nat → Int} {q : Nat → Bool} {g0 g : Int} {c : Nat} (hf : g = xbest S q g0 c) (h : q c = false ∨ (0 ≤ g ∧ xpls S c ≤ xpls S g)) : g = xbest S q g0 (c + 1) := by
  subst hf
  show xbest S q g0 c = if (q c && (decide (xbest S q g0 c < 0) || decide (xpls S (xbest S q g0 c) < xpls S c))) = true then (c : Int) else xbest S q g0 c
  rw [if_neg]
  rcases h with h | ⟨h1, h2⟩
  · rw [h]; simp
  · simp
    intro _
    omega
