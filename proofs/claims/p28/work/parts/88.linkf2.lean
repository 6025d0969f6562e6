/-! ===== values; a state is its 208 cells ===== -/
def VX (S : Nat → Int) : Prop := ∀ w : Int, 0 ≤ w → w < 24 → 0 ≤ xwd S w 0 ∧ xwd S w 0 ≤ 255
theorem VX_lay {S : Nat → Int} {w k v : Int} (h : VX S) (hw : 0 ≤ w) (hk : 0 ≤ k ∧ k < 7) (h0 : k = 0 → 0 ≤ v ∧ v ≤ 255) : VX (xlay S w k v) := by
  intro a a0 a9
  by_cases q : a ≠ w ∨ (0 : Int) ≠ k
  · rw [xlay_ne ⟨hw, hk⟩ ⟨a0, by decide⟩ q]
    exact h a a0 a9
  · have ha : a = w := by omega
    have hk0 : k = 0 := by omega
    subst ha; subst hk0
    rw [xlay_at]
    exact h0 rfl
theorem VX_lo {S : Nat → Int} {m : Nat} {v : Int} (h : VX S) (hm : m < 40) : VX (am_u1 S m v) := by
  intro a a0 a9
  have e : xwd (am_u1 S m v) a 0 = xwd S a 0 := am_u1_ne _ _ (by omega)
  rw [e]
  exact h a a0 a9
theorem VX_sits {S : Nat → Int} {w c r : Int} (h : VX S) (hw : 0 ≤ w) : VX (xsits S w c r) :=
  VX_lay (VX_lay (VX_lay (VX_lay h hw (by decide) (by omega)) hw (by decide) (by omega)) hw (by decide) (by omega)) hw (by decide) (by omega)
theorem VX_wn {S : Nat → Int} {w : Int} (h : VX S) (hw : 0 ≤ w) : VX (xwn S w) := VX_lo (VX_lay (VX_lay h hw (by decide) (by omega)) hw (by decide) (by omega)) (by decide)
theorem VX_falls {S : Nat → Int} {w b : Int} (hW : WX S) (h : VX S) (hw : 0 ≤ w ∧ w < 24) : VX (xfalls S w b) := by
  have hb := xwait_b hW (xwd S w 4) (xwd S w 3)
  have h1 : VX (xlay S w 1 2) := VX_lay h hw.1 (by decide) (by omega)
  unfold xfalls
  split
  · split
    · split
      · exact VX_wn h hw.1
      · exact h
    · exact VX_lay h1 (by omega) (by decide) (by omega)
  · exact h1
theorem VX_krow {S : Nat → Int} {c f : Int} {hd : Bool} {row : Int} (hW : WX S) (h : VX S) : VX (xkrow S c f hd row) := by
  have hk := xkept_b hW c row
  have hb := xwait_b hW f row
  unfold xkrow
  split
  · split
    · split
      · exact h
      · exact VX_lay h (by omega) (by decide) (by omega)
    · exact h
  · have h2 : WX (xfalls S (xkept S c row) 0) := WX_falls hW (by omega)
    have hB2 : VX (xfalls S (xkept S c row) 0) := VX_falls hW h (by omega)
    have hb2 := xwait_b h2 f row
    split
    · split
      · exact hB2
      · exact VX_lay hB2 (by omega) (by decide) (by omega)
    · exact hB2
theorem VX_krows {S : Nat → Int} {c f : Int} {hd : Bool} (hW : WX S) (h : VX S) (n : Nat) : VX (xkrows S c f hd n) := by
  induction n with
  | zero => exact h
  | succ n ih => exact VX_krow (WX_krows hW n) ih
theorem VX_kills {S : Nat → Int} (hW : WX S) (h : VX S) (c : Int) : VX (xkills S c).2 := by
  have h0 := hW.1
  unfold xkills
  split
  · split
    · have hc : 0 ≤ c ∧ c < 8 := by omega
      have hf := hW.2.2.2.1 c hc.1 hc.2
      exact VX_lo (VX_krows (WX_chip hW hc (by decide)) (VX_lo h (by omega)) 6) (by omega)
    · exact h
  · exact h
theorem VX_elects {S : Nat → Int} (hW : WX S) (h : VX S) (c : Int) : VX (xelects S c).2 := by
  have h0 := hW.1
  unfold xelects
  split
  · have hf := hW.2.2.2.1 c (by omega) (by omega)
    (repeat' split) <;> first | exact h | exact VX_lo h (by omega)
  · exact h
theorem VX_breaks {S : Nat → Int} (hW : WX S) (h : VX S) (c row : Int) : VX (xbreaks S c row).2 := by
  have h0 := hW.1
  have hb := xwait_b hW (xch S c 0) row
  have hk := xkept_b hW c row
  have h1 : VX (xbr1 S c row) := by
    unfold xbr1
    split
    · split
      · exact h
      · exact VX_lay h (by omega) (by decide) (by omega)
    · split
      · exact h
      · exact VX_falls hW h (by omega)
  unfold xbreaks
  (repeat' split) <;> first | exact h | exact VX_lo (VX_lo h1 (by omega)) (by omega)
theorem VX_puts {S : Nat → Int} (hW : WX S) (h : VX S) (c v : Int) : VX (xputs S c v).2 := by
  have h1 := hW.2.1
  unfold xputs
  split
  · split
    · rename_i hv
      (repeat' split) <;> first | exact h | exact VX_sits (VX_lay (VX_lay (VX_lay (VX_lo h (by omega)) (by omega) (by decide) (fun _ => hv)) (by omega) (by decide) (by omega)) (by omega) (by decide) (by omega)) (by omega)
    · exact h
  · exact h
theorem VX_emS {S : Nat → Int} (hW : WX S) (h : VX S) (c : Int) (n : Nat) : VX (xemS S c n).1 := by
  induction n with
  | zero => exact h
  | succ n ih =>
    have hw := (WX_emS (c := c) hW n).1
    have hk := xkept_b hw c n
    unfold xemS
    (repeat' split) <;> first | exact ih | exact VX_sits ih (by omega)
theorem VX_empt {S : Nat → Int} (hW : WX S) (h : VX S) (c : Int) : VX (xempt S c).2 := by
  unfold xempt
  (repeat' split) <;> first | exact h | exact VX_emS hW h c 6
theorem VX_ra {S : Nat → Int} (hW : WX S) (h : VX S) (f : Int) : VX (xra S f) := by
  have hb := xfirst_b hW f
  unfold xra
  split
  · exact h
  · split
    · exact VX_lay (VX_lay h (by omega) (by decide) (by omega)) (by omega) (by decide) (by omega)
    · exact VX_lo (VX_lay (VX_sits (VX_lay h (by omega) (by decide) (by omega)) (by omega)) (by omega) (by decide) (by omega)) (by decide)
theorem VX_tS {S : Nat → Int} (hW : WX S) (h : VX S) (n : Nat) : VX (xtS S n) := by
  induction n with
  | zero => exact h
  | succ n ih =>
    have hw := WX_tS hW n
    exact VX_lo (VX_ra (WX_ra (WX_ra hw)) (VX_ra (WX_ra hw) (VX_ra hw ih 0) 1) 2) (by decide)
theorem VX_ticks {S : Nat → Int} (hW : WX S) (h : VX S) (t : Int) : VX (xticks S t).2 := by
  unfold xticks
  (repeat' split) <;> first | exact h | exact VX_tS hW h _
theorem VX_write {S : Nat → Int} (h : VX S) (w v : Int) : VX (xwriteS S w v) := by
  unfold xwriteS
  split
  · split
    · rename_i hv
      split
      · exact VX_lay h (by omega) (by decide) (fun _ => hv)
      · exact h
    · exact h
  · exact h
theorem VX_carry {S : Nat → Int} (h : VX S) (w c : Int) : VX (xcarS S w c) := by
  unfold xcarS
  (repeat' split) <;> first | exact h | exact VX_sits h (by omega)
theorem VX_chip {S : Nat → Int} (hW : WX S) (h : VX S) (f sp : Int) : VX (xchipS S f sp) := by
  have h0 := hW.1
  unfold xchipS
  (repeat' split) <;> first | exact h | exact VX_lo (VX_lo (VX_lo (VX_lo (VX_lo h (by omega)) (by omega)) (by omega)) (by omega)) (by decide)
theorem VX_nS {X : am_M} {S : Nat → Int} (hW : WX S) (h : VX S) : VX (xnS X S) := by
  unfold xnS xnG xdoS
  (repeat' split) <;> first | exact h | exact VX_kills hW h _ | exact VX_ticks hW h _ | exact VX_elects hW h _ | exact VX_empt hW h _ | exact VX_puts hW h _ _ | exact VX_breaks hW h _ _
theorem VX_pl1 (k : Nat) : ∀ (m : Int) (X : am_M) (S : Nat → Int), WX S → VX S → VX (xpl1 k (m, X, S)).2.2 := by
  induction k with
  | zero => exact fun _ _ _ _ h => h
  | succ k ih =>
    intro m X S hW h
    simp only [xpl1]
    split
    · exact ih _ _ _ (WX_nS hW) (VX_nS hW h)
    · exact h
section CG
variable {M : am_M} {S T : Nat → Int}
theorem cg_wd (e : ∀ i : Nat, i < 208 → T i = S i) {w k : Int} (hw : 0 ≤ w ∧ w < 24) (hk : 0 ≤ k ∧ k < 7) : xwd T w k = xwd S w k := e _ (by omega)
theorem cg_ch (e : ∀ i : Nat, i < 208 → T i = S i) {c k : Int} (hc : 0 ≤ c ∧ c < 8) (hk : 0 ≤ k ∧ k < 4) : xch T c k = xch S c k := e _ (by omega)
theorem cg_god (e : ∀ i : Nat, i < 208 → T i = S i) {f : Int} (hf : 0 ≤ f ∧ f ≤ 2) : xgod T f = xgod S f := e _ (by omega)
theorem cg_CX (e : ∀ i : Nat, i < 208 → T i = S i) (h : CX M S) : CX M T := by
  obtain ⟨⟨⟨hM, hX⟩, ⟨hn, hcc, hff, hg⟩, ⟨hcw, hck, hct⟩, hq, hss⟩, hx⟩ := h
  have h24 := hX.2.1
  have e0 := e 0 (by decide)
  have e1 := e 1 (by decide)
  have e2 := e 2 (by decide)
  have e3 := e 3 (by decide)
  have e4 := e 4 (by decide)
  have wd : ∀ w k : Int, 0 ≤ w → w < S 1 → 0 ≤ k → k < 7 → xwd T w k = xwd S w k := fun w k w0 w1 k0 k7 => cg_wd e ⟨w0, by omega⟩ ⟨k0, k7⟩
  have hX2 : WX T := by
    refine ⟨by rw [e0]; exact hX.1, by rw [e1]; exact h24, fun f f0 f2 => by rw [cg_god e ⟨f0, f2⟩]; exact hX.2.2.1 f f0 f2, fun a a0 a8 => by rw [cg_ch e ⟨a0, a8⟩ (by decide)]; exact hX.2.2.2.1 a a0 a8, fun w w0 w9 => by rw [cg_wd e ⟨w0, w9⟩ (by decide), cg_wd e ⟨w0, w9⟩ (by decide)]; exact hX.2.2.2.2 w w0 w9⟩
  refine ⟨⟨⟨hM, hX2⟩, ⟨?_, ?_, ?_, ?_⟩, ⟨?_, ?_, ?_⟩, ?_, ?_⟩, ?_⟩
  · unfold CLn at hn ⊢
    rw [e0, e1, e2, e3]
    exact hn
  · refine ⟨hcc.1, fun a a0 a8 => ?_⟩
    rw [cg_ch e ⟨a0, a8⟩ (by decide), cg_ch e ⟨a0, a8⟩ (by decide), cg_ch e ⟨a0, a8⟩ (by decide), cg_ch e ⟨a0, a8⟩ (by decide), e0]
    exact hcc.2 a a0 a8
  · intro f f0 f2
    rw [cg_god e ⟨f0, f2⟩, e0]
    exact hff f f0 f2
  · intro a a0 a8 q b b0 b5
    have hf' := hX.2.2.2.1 a a0 a8
    rw [cg_ch e ⟨a0, a8⟩ (by decide), cg_god e hf'] at q
    exact hg a a0 a8 q b b0 b5
  · unfold CLw at hcw ⊢
    rw [e0, e1]
    refine ⟨fun w w0 w1 => ?_, hcw.2⟩
    rw [wd w 0 w0 w1 (by decide) (by decide), wd w 1 w0 w1 (by decide) (by decide), wd w 2 w0 w1 (by decide) (by decide), wd w 3 w0 w1 (by decide) (by decide), wd w 4 w0 w1 (by decide) (by decide), wd w 6 w0 w1 (by decide) (by decide)]
    exact hcw.1 w w0 w1
  · intro a b ha hb
    rw [e1]
    refine ⟨(hck a b ha hb).1, fun w w0 w1 => ?_⟩
    unfold kat
    rw [wd w 1 w0 w1 (by decide) (by decide), wd w 2 w0 w1 (by decide) (by decide), wd w 3 w0 w1 (by decide) (by decide)]
    exact (hck a b ha hb).2 w w0 w1
  · intro a b ha hb
    rw [e1]
    refine ⟨(hct a b ha hb).1, fun w w0 w1 => ?_⟩
    unfold wat
    rw [wd w 1 w0 w1 (by decide) (by decide), wd w 4 w0 w1 (by decide) (by decide), wd w 3 w0 w1 (by decide) (by decide)]
    exact (hct a b ha hb).2 w w0 w1
  · intro g hgg
    obtain ⟨a, b, c', d⟩ := hq g hgg
    rw [e1]
    refine ⟨a, fun i i0 i9 => ?_, fun w w0 w1 s1 s4 => ?_, fun i j i0 ij j9 => ?_⟩
    · have z := b i i0 i9
      rw [wd _ 1 z.1.1 z.1.2 (by decide) (by decide), wd _ 4 z.1.1 z.1.2 (by decide) (by decide)]
      exact z
    · rw [wd w 1 w0 w1 (by decide) (by decide)] at s1
      rw [wd w 4 w0 w1 (by decide) (by decide)] at s4
      exact c' w w0 w1 s1 s4
    · have zi := (b i i0 (by omega)).1
      have zj := (b j (by omega) j9).1
      rw [wd _ 5 zi.1 zi.2 (by decide) (by decide), wd _ 5 zj.1 zj.2 (by decide) (by decide)]
      exact d i j i0 ij j9
  · intro w w0 w1 s1
    rw [e1] at w1
    rw [wd w 1 w0 w1 (by decide) (by decide)] at s1
    rw [wd w 5 w0 w1 (by decide) (by decide), e4]
    exact hss w w0 w1 s1
  · intro w w0 w1 s1
    rw [e1] at w1
    rw [wd w 1 w0 w1 (by decide) (by decide)] at s1
    have hb := (hX.2.2.2.2 w w0 (by omega)).1
    have hgb := hX.2.2.1 _ hb.1 hb.2
    have old := hx w w0 w1 s1
    rw [wd w 4 w0 w1 (by decide) (by decide), wd w 3 w0 w1 (by decide) (by decide)]
    unfold xgu at old ⊢
    rw [cg_god e hb]
    by_cases q : 0 ≤ xgod S (xwd S w 4)
    · rw [cg_ch e ⟨q, hgb.2⟩ (by decide)]
      exact old
    · rw [decide_eq_false q, Bool.false_and] at old
      exact absurd old (by decide)
/-- linked, bounded, with values in range -/
def CW (M : am_M) (S : Nat → Int) (n : Int) : Prop := CZ M S n ∧ VX S
theorem cg_CW (e : ∀ i : Nat, i < 208 → T i = S i) {n : Int} (h : CW M S n) : CW M T n := by
  obtain ⟨⟨⟨hx, hy⟩, hB, hn⟩, hV⟩ := h
  have hX := hx.1.1.2
  refine ⟨⟨⟨cg_CX e hx, fun f f0 f2 g0 => ?_⟩, ⟨by rw [e 2 (by decide)]; exact hB.1, by rw [e 3 (by decide)]; exact hB.2.1, by rw [e 4 (by decide)]; exact hB.2.2.1, fun w w0 w9 => by rw [cg_wd e ⟨w0, w9⟩ (by decide)]; exact hB.2.2.2 w w0 w9⟩, hn⟩, fun w w0 w9 => by rw [cg_wd e ⟨w0, w9⟩ (by decide)]; exact hV w w0 w9⟩
  rw [cg_god e ⟨f0, f2⟩] at g0 ⊢
  rw [cg_ch e ⟨g0, (hX.2.2.1 f f0 f2).2⟩ (by decide)]
  exact hy f f0 f2 g0
end CG
