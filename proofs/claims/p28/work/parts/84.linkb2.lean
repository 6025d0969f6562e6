/-! ===== a godfather stays of its own family; what an order needs ===== -/
theorem CLy_c {S S2 : Nat → Int} (h : CLy S) (hX : WX S) (hL : ∀ k : Nat, 5 ≤ k → k < 40 → (k < 8 ∨ k % 4 = 0) → S2 k = S k) : CLy S2 := by
  intro f f0 f2 g0
  have hg := hX.2.2.1 f f0 f2
  have e : xgod S2 f = xgod S f := hL _ (by omega) (by omega) (by omega)
  rw [e] at g0 ⊢
  have e2 : xch S2 (xgod S f) 0 = xch S (xgod S f) 0 := hL _ (by omega) (by omega) (by omega)
  rw [e2]
  exact h f f0 f2 g0
theorem xkrow_lo {S : Nat → Int} {c f : Int} {hd : Bool} {row : Int} {m : Nat} (hW : WX S) (hm : m < 40) (h4 : m ≠ 4) : xkrow S c f hd row m = S m := by
  have hk := xkept_b hW c row
  have hb := xwait_b hW f row
  unfold xkrow
  split
  · split
    · split
      · rfl
      · exact xlay_lo (by omega) (by decide) hm
    · rfl
  · have h2 : WX (xfalls S (xkept S c row) 0) := WX_falls hW (by omega)
    have e : xfalls S (xkept S c row) 0 m = S m := xfalls_lo hW (by omega) hm h4
    have hb2 := xwait_b h2 f row
    split
    · split
      · exact e
      · rw [xlay_lo (by omega) (by decide) hm]; exact e
    · exact e
theorem xkrows_lo {S : Nat → Int} {c f : Int} {hd : Bool} {m : Nat} (hW : WX S) (hm : m < 40) (h4 : m ≠ 4) (n : Nat) : xkrows S c f hd n m = S m := by
  induction n with
  | zero => rfl
  | succ n ih => exact (xkrow_lo (WX_krows hW n) hm h4).trans ih
theorem CLy_kills {S : Nat → Int} (h : CLy S) (hX : WX S) (c : Int) : CLy (xkills S c).2 := by
  have h8 := hX.1
  unfold xkills
  by_cases q1 : 0 ≤ c ∧ c ≤ S 0 - 1
  · have hc : 0 ≤ c ∧ c < 8 := by omega
    have hf := hX.2.2.2.1 c hc.1 hc.2
    have hW1 : WX (am_u1 S (8 + 4 * c + 2).toNat 0) := WX_chip hX hc (by decide)
    rw [if_pos q1]
    by_cases q2 : xch S c 2 = 1
    · rw [if_pos q2]
      have h1 : CLy (am_u1 S (8 + 4 * c + 2).toNat 0) := CLy_c h hX (fun k a b d => am_u1_ne _ _ (by omega))
      have h2 : CLy (xkrows (am_u1 S (8 + 4 * c + 2).toNat 0) c (xch S c 0) (xisg S c) 6) := CLy_c h1 hW1 (fun k a b d => xkrows_lo hW1 b (by omega) 6)
      have hW2 : WX (xkrows (am_u1 S (8 + 4 * c + 2).toNat 0) c (xch S c 0) (xisg S c) 6) := WX_krows hW1 6
      show CLy (xkillS S c)
      unfold xkillS
      by_cases z : xisg S c = true
      · rw [if_pos z]
        intro g g0 g2 y0
        by_cases e : g = xch S c 0
        · exfalso
          have : xgod (am_u1 (xkrows (am_u1 S (8 + 4 * c + 2).toNat 0) c (xch S c 0) (xisg S c) 6) (5 + xch S c 0).toNat (-1)) g = -1 := by
            rw [e]
            exact am_u1_at _ _ _
          omega
        · have e1 : xgod (am_u1 (xkrows (am_u1 S (8 + 4 * c + 2).toNat 0) c (xch S c 0) (xisg S c) 6) (5 + xch S c 0).toNat (-1)) g = xgod (xkrows (am_u1 S (8 + 4 * c + 2).toNat 0) c (xch S c 0) (xisg S c) 6) g := am_u1_ne _ _ (by omega)
          rw [e1] at y0 ⊢
          have e2 : xch (am_u1 (xkrows (am_u1 S (8 + 4 * c + 2).toNat 0) c (xch S c 0) (xisg S c) 6) (5 + xch S c 0).toNat (-1)) (xgod (xkrows (am_u1 S (8 + 4 * c + 2).toNat 0) c (xch S c 0) (xisg S c) 6) g) 0 = xch (xkrows (am_u1 S (8 + 4 * c + 2).toNat 0) c (xch S c 0) (xisg S c) 6) (xgod (xkrows (am_u1 S (8 + 4 * c + 2).toNat 0) c (xch S c 0) (xisg S c) 6) g) 0 := am_u1_ne _ _ (by omega)
          rw [e2]
          exact h2 g g0 g2 y0
      · rw [if_neg z, am_u1_self]
        exact h2
    · rw [if_neg q2]
      exact h
  · rw [if_neg q1]
    exact h
theorem CLy_elects {S : Nat → Int} (h : CLy S) (hX : WX S) (c : Int) : CLy (xelects S c).2 := by
  have h8 := hX.1
  unfold xelects
  by_cases q1 : 0 ≤ c ∧ c ≤ S 0 - 1
  · have hc : 0 ≤ c ∧ c < 8 := by omega
    have hf := hX.2.2.2.1 c hc.1 hc.2
    rw [if_pos q1]
    (repeat' split) <;> first | exact h | skip
    intro g g0 g2 y0
    dsimp only at y0 ⊢
    by_cases e : g = xch S c 0
    · have e1 : xgod (am_u1 S (5 + xch S c 0).toNat c) g = c := by
        rw [e]
        exact am_u1_at _ _ _
      rw [e1, e]
      exact am_u1_ne _ _ (by omega)
    · have e1 : xgod (am_u1 S (5 + xch S c 0).toNat c) g = xgod S g := am_u1_ne _ _ (by omega)
      rw [e1] at y0 ⊢
      have e2 : xch (am_u1 S (5 + xch S c 0).toNat c) (xgod S g) 0 = xch S (xgod S g) 0 := am_u1_ne _ _ (by omega)
      rw [e2]
      exact h g g0 g2 y0
  · rw [if_neg q1]
    exact h
theorem CLy_breaks {S : Nat → Int} (h : CLy S) (hX : WX S) (c r : Int) : CLy (xbreaks S c r).2 := by
  have h8 := hX.1
  unfold xbreaks
  (repeat' split) <;> first | exact h | skip
  refine CLy_c h hX (fun k a b d => ?_)
  show xbrS S c r k = S k
  unfold xbrS xbr2
  rw [am_u1_ne _ _ (by omega), am_u1_ne _ _ (by omega)]
  exact xbr1_lo hX b (by omega)
theorem CLy_puts {S : Nat → Int} (h : CLy S) (hX : WX S) (c v : Int) : CLy (xputs S c v).2 := by
  have h24 := hX.2.1
  unfold xputs
  (repeat' split) <;> first | exact h | skip
  refine CLy_c h hX (fun k a b d => ?_)
  show xputS S c v k = S k
  unfold xputS
  rw [xsits_lo h24.1 b, xlay_lo h24.1 (by decide) b, xlay_lo h24.1 (by decide) b, xlay_lo h24.1 (by decide) b, am_u1_ne _ _ (by omega)]
theorem CLy_emS {S : Nat → Int} (h : CLy S) (hX : WX S) (c : Int) (n : Nat) : CLy (xemS S c n).1 := by
  induction n with
  | zero => exact h
  | succ n ih =>
    have hw := (WX_emS (c := c) hX n).1
    have hk := xkept_b hw c n
    unfold xemS
    (repeat' split) <;> first | exact ih | exact CLy_c ih hw (fun k a b d => xsits_lo (by omega) b)
theorem CLy_empt {S : Nat → Int} (h : CLy S) (hX : WX S) (c : Int) : CLy (xempt S c).2 := by
  unfold xempt
  (repeat' split) <;> first | exact h | exact CLy_emS h hX c 6
theorem xra_lo {S : Nat → Int} (hX : WX S) (f : Int) {m : Nat} (hm : m < 40) (h3 : m ≠ 3) : xra S f m = S m := by
  have hb := xfirst_b hX f
  unfold xra
  split
  · rfl
  · split
    · rw [xlay_lo (by omega) (by decide) hm, xlay_lo (by omega) (by decide) hm]
    · unfold xraS
      rw [am_u1_ne _ _ h3, xlay_lo (by omega) (by decide) hm, xsits_lo (by omega) hm, xlay_lo (by omega) (by decide) hm]
theorem xtF_lo {S : Nat → Int} (hX : WX S) {m : Nat} (hm : m < 40) (h3 : m ≠ 3) (n : Nat) : xtF S n m = S m := by
  induction n with
  | zero => rfl
  | succ n ih =>
    have hw := WX_tF hX n
    show xra (xra (xra (xtF S n) 0) 1) 2 m = S m
    rw [xra_lo (WX_ra (WX_ra hw)) _ hm h3, xra_lo (WX_ra hw) _ hm h3, xra_lo hw _ hm h3]
    exact ih
theorem CLy_tS {S : Nat → Int} (h : CLy S) (hX : WX S) (n : Nat) : CLy (xtS S n) := by
  refine CLy_c h hX (fun k a b d => ?_)
  rw [(xtS_F hX n).1, am_u1_ne _ _ (by omega)]
  exact xtF_lo hX b (by omega) n
theorem CLy_ticks {S : Nat → Int} (h : CLy S) (hX : WX S) (t : Int) : CLy (xticks S t).2 := by
  unfold xticks
  (repeat' split) <;> first | exact h | exact CLy_tS h hX _
/-- both states, linked and bounded -/
def CZ (M : am_M) (S : Nat → Int) (n : Int) : Prop := (CX M S ∧ CLy S) ∧ BX S n ∧ 0 ≤ n
theorem CZ_mono {M : am_M} {S : Nat → Int} {m n : Int} (h : CZ M S m) (hn : m ≤ n) : CZ M S n := ⟨h.1, BX_mono h.2.1 hn, by have := h.2.2; omega⟩
theorem YS_of {M : am_M} {S : Nat → Int} {n : Int} (h : CZ M S n) (hn : n ≤ 900000000) : YS M := by
  obtain ⟨⟨hx, hy⟩, hB, hn0⟩ := h
  obtain ⟨⟨n0, n1, n2, n3⟩, t0, t9⟩ := hx.1.2.1.1
  exact ⟨hx.1.1.1, by rw [n2]; exact ⟨t0, t9⟩, fun c => (CX_kills hx c).2.2, fun t => (CX_ticks hx hB hn0 hn t).2.2, fun c => (CX_empt hx c).2.2.2, fun c r => (CX_breaks hx hy c r).2.2, fun w hw => (CX_carry hx w 0).2.2 hw⟩
theorem CZ_kills {M : am_M} {S : Nat → Int} {n : Int} (h : CZ M S n) (c : Int) : CZ (ydie M c).2 (xkills S c).2 (n + 6) := by
  obtain ⟨⟨hx, hy⟩, hB, hn0⟩ := h
  exact ⟨⟨(CX_kills hx c).2.1, CLy_kills hy hx.1.1.2 c⟩, BX_kills hx.1.1.2 hB, by omega⟩
theorem CZ_ticks {M : am_M} {S : Nat → Int} {n : Int} (h : CZ M S n) (hn : n ≤ 900000000) (t : Int) : CZ (ytick M t).2 (xticks S t).2 (n + 400) := by
  obtain ⟨⟨hx, hy⟩, hB, hn0⟩ := h
  exact ⟨⟨(CX_ticks hx hB hn0 hn t).2.1, CLy_ticks hy hx.1.1.2 t⟩, BX_ticks hx.1.1.2 hB, by omega⟩
theorem CZ_elects {M : am_M} {S : Nat → Int} {n : Int} (h : CZ M S n) (c : Int) : CZ (yelect M c).2 (xelects S c).2 n := by
  obtain ⟨⟨hx, hy⟩, hB, hn0⟩ := h
  exact ⟨⟨(CX_elects hx c).2, CLy_elects hy hx.1.1.2 c⟩, BX_elects hx.1.1.2 hB, hn0⟩
theorem CZ_puts {M : am_M} {S : Nat → Int} {n : Int} (h : CZ M S n) (c v : Int) : CZ (yput M c v).2 (xputs S c v).2 n := by
  obtain ⟨⟨hx, hy⟩, hB, hn0⟩ := h
  exact ⟨⟨(CX_puts hx c v).2, CLy_puts hy hx.1.1.2 c v⟩, BX_puts hx.1.1.2 hB hn0, hn0⟩
theorem CZ_breaks {M : am_M} {S : Nat → Int} {n : Int} (h : CZ M S n) (c r : Int) : CZ (ybreak M c r).2 (xbreaks S c r).2 (n + 1) := by
  obtain ⟨⟨hx, hy⟩, hB, hn0⟩ := h
  exact ⟨⟨(CX_breaks hx hy c r).2.1, CLy_breaks hy hx.1.1.2 c r⟩, BX_breaks hx.1.1.2 hB, by omega⟩
theorem CZ_empt {M : am_M} {S : Nat → Int} {n : Int} (h : CZ M S n) (c : Int) : (0 ≤ (yempty M c).1 → CZ (yempty M c).2 (xempt S c).2 n) ∧ ∃ T, CZ (yempty M c).2 T n := by
  obtain ⟨⟨hx, hy⟩, hB, hn0⟩ := h
  obtain ⟨-, a, ⟨T, b, c'⟩, -⟩ := CX_empt hx c
  refine ⟨fun z => ⟨⟨a z, CLy_empt hy hx.1.1.2 c⟩, BX_empt hx.1.1.2 hB, hn0⟩, T, ⟨b, ?_⟩, ?_, hn0⟩
  · rcases c' with rfl | rfl
    · exact hy
    · exact CLy_emS hy hx.1.1.2 c 6
  · rcases c' with rfl | rfl
    · exact hB
    · exact BX_emS hx.1.1.2 hB 6
theorem CZ_write {M : am_M} {S : Nat → Int} {n : Int} (h : CZ M S n) (w v : Int) : CZ (ywrite M w v).2 (xwriteS S w v) n := by
  obtain ⟨⟨hx, hy⟩, hB, hn0⟩ := h
  refine ⟨⟨(CX_write hx w v).2, ?_⟩, ?_, hn0⟩
  · unfold xwriteS
    (repeat' split) <;> first | exact hy | exact CLy_c hy hx.1.1.2 (fun k a b d => xlay_lo (by omega) (by decide) b)
  · unfold xwriteS
    (repeat' split) <;> first | exact hB | exact BX_lay hB (by omega) (by decide) (by omega)
theorem CZ_carry {M : am_M} {S : Nat → Int} {n : Int} (h : CZ M S n) (w c : Int) : CZ (ycarry M w c).2 (xcarS S w c) n := by
  obtain ⟨⟨hx, hy⟩, hB, hn0⟩ := h
  refine ⟨⟨(CX_carry hx w c).2.1, ?_⟩, ?_, hn0⟩
  · unfold xcarS
    (repeat' split) <;> first | exact hy | exact CLy_c hy hx.1.1.2 (fun k a b d => xsits_lo (by omega) b)
  · unfold xcarS
    (repeat' split) <;> first | exact hB | exact BX_sits hB (by omega)
theorem CZ_chip {M : am_M} {S : Nat → Int} {n : Int} (h : CZ M S n) (f sp : Int) : CZ (yadM M f sp) (xchipS S f sp) n := by
  obtain ⟨⟨hx, hy⟩, hB, hn0⟩ := h
  obtain ⟨a, b, c⟩ := CX_chip hx f sp
  refine ⟨⟨b, c hy⟩, ?_, hn0⟩
  have h0 := hx.1.1.2.1
  unfold xchipS
  (repeat' split) <;> first | exact hB | skip
  obtain ⟨-, t1, -⟩ := xaddc_c (f := f) (sp := sp) h0.1
  obtain ⟨h2, h3, h4, hh⟩ := hB
  exact ⟨by rw [t1 2 (by decide) (by omega)]; exact h2, by rw [t1 3 (by decide) (by omega)]; exact h3, by rw [t1 4 (by decide) (by omega)]; exact h4, fun w w0 w9 => by unfold xwd; rw [t1 _ (by omega) (by omega)]; exact hh w w0 w9⟩
