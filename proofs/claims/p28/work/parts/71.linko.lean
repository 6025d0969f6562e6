/-! ===== a godfather is of its own family; falls and a chip's other cells ===== -/
def CLy (S : Nat → Int) : Prop := ∀ f : Int, 0 ≤ f → f ≤ 2 → 0 ≤ xgod S f → xch S (xgod S f) 0 = f
theorem CLy_LO {S S2 : Nat → Int} (h : CLy S) (hX : WX S) (hL : LO S S2) : CLy S2 := by
  intro f f0 f2 g0
  have hg := hX.2.2.1 f f0 f2
  rw [LO_god hL ⟨f0, f2⟩] at g0 ⊢
  rw [LO_ch hL (by omega) (by decide)]
  exact h f f0 f2 g0
theorem CLy_no {S : Nat → Int} (h : CLy S) {c : Int} (hc : 0 ≤ c) (hng : ¬ xgod S (xch S c 0) = c) : ∀ f : Int, 0 ≤ f → f ≤ 2 → ¬ xgod S f = c := by
  intro f f0 f2 q
  have := h f f0 f2 (by omega)
  rw [q] at this
  exact hng (by rw [this]; exact q)
section SDM
variable {S : Nat → Int} {k : Nat} {x : Int}
theorem dm_wd (hk : 8 ≤ k ∧ k < 40) {v j : Int} (hv : 0 ≤ v) (hj : 0 ≤ j) : xwd (am_u1 S k x) v j = xwd S v j := by
  unfold xwd
  exact am_u1_ne _ _ (by omega)
theorem dm_god (hk : 8 ≤ k ∧ k < 40) {f : Int} (hf : 0 ≤ f ∧ f ≤ 2) : xgod (am_u1 S k x) f = xgod S f := by
  unfold xgod
  exact am_u1_ne _ _ (by omega)
theorem dm_gu (hk : 8 ≤ k ∧ k < 40) (hg : ∀ f : Int, 0 ≤ f → f ≤ 2 → 0 ≤ xgod S f → (8 + 4 * xgod S f + 3).toNat ≠ k) {f r : Int} (hf : 0 ≤ f ∧ f ≤ 2) : xgu (am_u1 S k x) f r = xgu S f r := by
  unfold xgu
  rw [dm_god hk hf]
  by_cases q : 0 ≤ xgod S f
  · rw [show xch (am_u1 S k x) (xgod S f) 3 = xch S (xgod S f) 3 from am_u1_ne _ _ (hg f hf.1 hf.2 q)]
  · rw [decide_eq_false q, Bool.false_and, Bool.false_and]
theorem dm_wait (hk : 8 ≤ k ∧ k < 40) (c r : Int) : xwait (am_u1 S k x) c r = xwait S c r := by
  unfold xwait
  rw [am_u1_ne S x (show 1 ≠ k by omega)]
  congr 1
  funext w
  rw [dm_wd hk (by omega) (by decide), dm_wd hk (by omega) (by decide), dm_wd hk (by omega) (by decide)]
theorem dm_lay (hk : 8 ≤ k ∧ k < 40) {w j v : Int} (hw : 0 ≤ w) (hj : 0 ≤ j) : xlay (am_u1 S k x) w j v = am_u1 (xlay S w j v) k x := by
  unfold xlay
  exact dl_comm S _ _ (by omega)
theorem dm_wn (hk : 8 ≤ k ∧ k < 40) {w : Int} (hw : 0 ≤ w) : xwn (am_u1 S k x) w = am_u1 (xwn S w) k x := by
  unfold xwn
  rw [dm_lay hk hw (by decide), dm_lay hk hw (by decide), am_u1_ne _ x (show 4 ≠ k by omega), am_u1_ne _ x (show 4 ≠ k by omega)]
  exact dl_comm _ _ _ (by omega)
theorem dm_falls (hk : 8 ≤ k ∧ k < 40) (hg : ∀ f : Int, 0 ≤ f → f ≤ 2 → 0 ≤ xgod S f → (8 + 4 * xgod S f + 3).toNat ≠ k) (hX : WX S) {w b : Int} (hw : 0 ≤ w ∧ w < 24) : xfalls (am_u1 S k x) w b = am_u1 (xfalls S w b) k x := by
  have ho := (hX.2.2.2.2 w hw.1 hw.2).1
  have hwb := xwait_b hX (xwd S w 4) (xwd S w 3)
  unfold xfalls
  rw [dm_wd hk hw.1 (by decide), dm_wd hk hw.1 (by decide), dm_gu hk hg ho, dm_wait hk]
  by_cases g : xgu S (xwd S w 4) (xwd S w 3) = true
  · rw [if_pos g, if_pos g]
    by_cases z : xwait S (xwd S w 4) (xwd S w 3) < 0
    · rw [if_pos z, if_pos z]
      by_cases b0 : b = 0
      · rw [if_pos b0, if_pos b0]
        exact dm_wn hk hw.1
      · rw [if_neg b0, if_neg b0]
    · rw [if_neg z, if_neg z, dm_lay hk hw.1 (by decide), dm_lay hk (by omega) (by decide)]
  · rw [if_neg g, if_neg g]
    exact dm_lay hk hw.1 (by decide)
theorem dm_lost (hk : 8 ≤ k ∧ k < 40) : xlost (am_u1 S k x) = xlost S := by
  unfold xlost
  rw [am_u1_ne S x (show 1 ≠ k by omega)]
  congr 1
  funext w
  rw [dm_wd hk (by omega) (by decide)]
end SDM
/-- the cells of a chip that is no godfather: the link stays whole -/
theorem CX_cell {M : am_M} {S : Nat → Int} (h : CX M S) {c r : Int} (hc : 0 ≤ c ∧ c < S 0) (hr : 0 ≤ r ∧ r ≤ 5) (hng : ∀ f : Int, 0 ≤ f → f ≤ 2 → ¬ xgod S f = c) : CX (ybr0 M c r) (xbc S c r) := by
  have hX := h.1.1.2
  have h8 := hX.1
  have h24 := hX.2.1
  have hc8 : 0 ≤ c ∧ c < 8 := by omega
  refine ⟨CL_cell h.1 hc hr, fun w w0 w1 s1 => ?_⟩
  rw [xbc_l S hc8 (by omega)] at w1
  have wd : ∀ j : Int, 0 ≤ j → xwd (xbc S c r) w j = xwd S w j := fun j j0 => xbc_l S hc8 (by omega)
  rw [wd 1 (by decide)] at s1
  have hb := (hX.2.2.2.2 w w0 (by omega)).1
  have old := h.2 w w0 w1 s1
  have hgb := hX.2.2.1 _ hb.1 hb.2
  rw [wd 4 (by decide), wd 3 (by decide)]
  unfold xgu at old ⊢
  rw [show xgod (xbc S c r) (xwd S w 4) = xgod S (xwd S w 4) from xbc_l S hc8 (by omega)]
  by_cases q : 0 ≤ xgod S (xwd S w 4)
  · rw [xbc_ch S hc8 q (by decide) (Or.inl (hng _ hb.1 hb.2))]
    exact old
  · rw [decide_eq_false q, Bool.false_and] at old
    exact absurd old (by decide)
