/-! ===== orders ===== -/
theorem BX_wn {S : Nat → Int} {w n : Int} (hB : BX S n) (hw : 0 ≤ w) : BX (xwn S w) (n + 1) := by
  have h1 : BX (xlay (xlay S w 1 1) w 5 (xlay S w 1 1 4)) n := BX_lay (BX_lay hB hw (by decide) (by omega)) hw (by decide) (by omega)
  refine BX_n (BX_mono h1 (by omega)) (by decide) ?_
  have := h1.2.2.1
  omega
theorem BX_falls {S : Nat → Int} {w b n : Int} (hW : WX S) (hB : BX S n) (hw : 0 ≤ w ∧ w < 24) : BX (xfalls S w b) (n + 1) := by
  have hb := xwait_b hW (xwd S w 4) (xwd S w 3)
  have hB1 := BX_mono hB (show n ≤ n + 1 by omega)
  have h1 : BX (xlay S w 1 2) (n + 1) := BX_lay hB1 hw.1 (by decide) (by omega)
  unfold xfalls
  split
  · split
    · split
      · exact BX_wn hB hw.1
      · exact hB1
    · exact BX_lay h1 (by omega) (by decide) (by omega)
  · exact h1
theorem BX_krow {S : Nat → Int} {c f : Int} {hd : Bool} {row n : Int} (hW : WX S) (hB : BX S n) : BX (xkrow S c f hd row) (n + 1) := by
  have hk := xkept_b hW c row
  have hb := xwait_b hW f row
  have hB1 := BX_mono hB (show n ≤ n + 1 by omega)
  unfold xkrow
  split
  · split
    · split
      · exact hB1
      · exact BX_lay hB1 (by omega) (by decide) (by omega)
    · exact hB1
  · have h2 : WX (xfalls S (xkept S c row) 0) := WX_falls hW (by omega)
    have hB2 : BX (xfalls S (xkept S c row) 0) (n + 1) := BX_falls hW hB (by omega)
    have hb2 := xwait_b h2 f row
    split
    · split
      · exact hB2
      · exact BX_lay hB2 (by omega) (by decide) (by omega)
    · exact hB2
theorem BX_krows {S : Nat → Int} {c f : Int} {hd : Bool} {n : Int} (hW : WX S) (hB : BX S n) (k : Nat) : BX (xkrows S c f hd k) (n + k) := by
  induction k with
  | zero => exact BX_mono hB (by omega)
  | succ k ih => exact BX_mono (BX_krow (row := k) (WX_krows hW k) ih) (by omega)
theorem BX_lo {S : Nat → Int} {v n : Int} {m : Nat} (hB : BX S n) (hm : 5 ≤ m) (hm2 : m < 40) : BX (am_u1 S m v) n := by
  obtain ⟨h2, h3, h4, hh⟩ := hB
  refine ⟨by rw [am_u1_ne _ _ (by omega)]; exact h2, by rw [am_u1_ne _ _ (by omega)]; exact h3, by rw [am_u1_ne _ _ (by omega)]; exact h4, fun w h0 h9 => ?_⟩
  unfold xwd
  rw [am_u1_ne _ _ (by omega)]
  exact hh w h0 h9
theorem BX_kills {S : Nat → Int} {c n : Int} (hW : WX S) (hB : BX S n) : BX (xkills S c).2 (n + 6) := by
  have h0 := hW.1
  have hB6 := BX_mono hB (show n ≤ n + 6 by omega)
  unfold xkills
  split
  · split
    · have hc : 0 ≤ c ∧ c < 8 := by omega
      have hf := hW.2.2.2.1 c hc.1 hc.2
      have hW1 : WX (am_u1 S (8 + 4 * c + 2).toNat 0) := WX_chip hW hc (by decide)
      exact BX_lo (BX_krows hW1 (BX_lo hB (by omega) (by omega)) 6) (by omega) (by omega)
    · exact hB6
  · exact hB6
theorem WX_elects {S : Nat → Int} {c : Int} (hW : WX S) : WX (xelects S c).2 := by
  have h0 := hW.1
  unfold xelects
  (repeat' split) <;> first | exact hW | exact WX_god hW (hW.2.2.2.1 c (by omega) (by omega)) (by omega)
theorem BX_elects {S : Nat → Int} {c n : Int} (hW : WX S) (hB : BX S n) : BX (xelects S c).2 n := by
  have h0 := hW.1
  unfold xelects
  split
  · have hf := hW.2.2.2.1 c (by omega) (by omega)
    (repeat' split) <;> first | exact hB | exact BX_lo hB (by omega) (by omega)
  · exact hB
theorem WX_ticks {S : Nat → Int} {t : Int} (hW : WX S) : WX (xticks S t).2 := by
  unfold xticks
  (repeat' split) <;> first | exact hW | exact WX_tS hW _
theorem BX_ticks {S : Nat → Int} {t n : Int} (hW : WX S) (hB : BX S n) : BX (xticks S t).2 (n + 400) := by
  have hB6 := BX_mono hB (show n ≤ n + 400 by omega)
  unfold xticks
  (repeat' split) <;> first | exact hB6 | exact BX_mono (BX_tS hW hB _) (by omega)
theorem WX_empt {S : Nat → Int} {c : Int} (hW : WX S) : WX (xempt S c).2 := by
  unfold xempt
  (repeat' split) <;> first | exact hW | exact (WX_emS hW 6).1
theorem BX_emS {S : Nat → Int} {c n : Int} (hW : WX S) (hB : BX S n) (k : Nat) : BX (xemS S c k).1 n := by
  induction k with
  | zero => exact hB
  | succ k ih =>
    have hw := (WX_emS (c := c) hW k).1
    have hk := xkept_b hw c k
    unfold xemS
    (repeat' split) <;> first | exact ih | exact BX_sits ih (by omega)
theorem BX_empt {S : Nat → Int} {c n : Int} (hW : WX S) (hB : BX S n) : BX (xempt S c).2 n := by
  unfold xempt
  (repeat' split) <;> first | exact hB | exact BX_emS hW hB 6
theorem WX_w1 {S : Nat → Int} (hW : WX S) (h : S 1 < 24) : WX (am_u1 S 1 (S 1 + 1)) := by
  obtain ⟨w0, w1, wg, wf, wo⟩ := hW
  refine ⟨by rw [am_u1_ne _ _ (by decide)]; exact w0, by rw [am_u1_at]; omega, fun f h0 h2 => ?_, fun c h0 h8 => ?_, fun a h0 h9 => ?_⟩
  · unfold xgod; rw [am_u1_ne _ _ (by omega)]; exact wg f h0 h2
  · unfold xch; rw [am_u1_ne _ _ (by omega)]; exact wf c h0 h8
  · unfold xwd; rw [am_u1_ne _ _ (by omega), am_u1_ne _ _ (by omega)]; exact wo a h0 h9
theorem WX_putS {S : Nat → Int} {c v : Int} (hW : WX S) (h : S 1 < 24) (hc : 0 ≤ c ∧ c < 8) (hp : xpls S c ≠ 0) : WX (xputS S c v) := by
  have h1 := hW.2.1
  have hl := xlow_lt hp
  have hl0 := xlow_0 S c
  exact WX_sits (WX_lay (WX_lay (WX_lay (WX_w1 hW h) (by omega) (by decide) (by omega) (by omega)) (by omega) (by decide) (by omega) (by omega)) (by omega) (by decide) (by omega) (by omega)) (by omega) hc (by omega)
theorem WX_puts {S : Nat → Int} {c v : Int} (hW : WX S) : WX (xputs S c v).2 := by
  have h0 := hW.1
  have h1 := hW.2.1
  unfold xputs
  (repeat' split) <;> first | exact hW | exact WX_putS hW (by omega) (by omega) (by assumption)
theorem BX_puts {S : Nat → Int} {c v n : Int} (hW : WX S) (hB : BX S n) (hn : 0 ≤ n) : BX (xputs S c v).2 n := by
  have h1 := hW.2.1
  have hq : BX (am_u1 S 1 (S 1 + 1)) n := by
    obtain ⟨h2, h3, h4, hh⟩ := hB
    refine ⟨by rw [am_u1_ne _ _ (by omega)]; exact h2, by rw [am_u1_ne _ _ (by omega)]; exact h3, by rw [am_u1_ne _ _ (by omega)]; exact h4, fun w h0 h9 => ?_⟩
    unfold xwd
    rw [am_u1_ne _ _ (by omega)]
    exact hh w h0 h9
  unfold xputs
  (repeat' split) <;> first | exact hB | exact BX_sits (BX_lay (BX_lay (BX_lay hq (by omega) (by decide) (by omega)) (by omega) (by decide) (by omega)) (by omega) (by decide) (by omega)) (by omega)
theorem BX_breaks {S : Nat → Int} {c row n : Int} (hW : WX S) (hB : BX S n) : BX (xbreaks S c row).2 (n + 1) := by
  have h0 := hW.1
  have hB6 := BX_mono hB (show n ≤ n + 1 by omega)
  have hb := xwait_b hW (xch S c 0) row
  have hk := xkept_b hW c row
  have h1 : BX (xbr1 S c row) (n + 1) := by
    unfold xbr1
    split
    · split
      · exact hB6
      · exact BX_lay hB6 (by omega) (by decide) (by omega)
    · split
      · exact hB6
      · exact BX_falls hW hB (by omega)
  unfold xbreaks
  (repeat' split) <;> first | exact hB6 | exact BX_lo (BX_lo h1 (by omega) (by omega)) (by omega) (by omega)
def xdoR (X : am_M) (S : Nat → Int) (L : Int) : Int := if L = 107 then (xkills S (X 7 0)).1 else if L = 116 then (xticks S (X 7 0)).1 else if L = 101 then (xelects S (X 7 0)).1 else if L = 118 then (xempt S (X 7 0)).1 else if L = 112 then (xputs S (X 7 0) (X 7 1)).1 else (xbreaks S (X 7 0) (X 7 1)).1
def xdoS (X : am_M) (S : Nat → Int) (L : Int) : Nat → Int := if L = 107 then (xkills S (X 7 0)).2 else if L = 116 then (xticks S (X 7 0)).2 else if L = 101 then (xelects S (X 7 0)).2 else if L = 118 then (xempt S (X 7 0)).2 else if L = 112 then (xputs S (X 7 0) (X 7 1)).2 else (xbreaks S (X 7 0) (X 7 1)).2
def xdoX (X : am_M) (S : Nat → Int) (L : Int) : am_M := if L = 118 then xemX X S (X 7 0) else X
theorem WX_do {X : am_M} {S : Nat → Int} {L : Int} (hW : WX S) : WX (xdoS X S L) := by
  unfold xdoS
  (repeat' split) <;> first | exact WX_kills hW | exact WX_ticks hW | exact WX_elects hW | exact WX_empt hW | exact WX_puts hW | exact WX_breaks hW
theorem BX_do {X : am_M} {S : Nat → Int} {L n : Int} (hW : WX S) (hB : BX S n) (hn : 0 ≤ n) : BX (xdoS X S L) (n + 400) := by
  unfold xdoS
  (repeat' split) <;> first | exact BX_mono (BX_kills hW hB) (by omega) | exact BX_ticks hW hB | exact BX_mono (BX_elects hW hB) (by omega) | exact BX_mono (BX_empt hW hB) (by omega) | exact BX_mono (BX_puts hW hB hn) (by omega) | exact BX_mono (BX_breaks hW hB) (by omega)
theorem xelects_b (S : Nat → Int) (c : Int) : -1000002 ≤ (xelects S c).1 ∧ (xelects S c).1 ≤ 8 := by
  unfold xelects
  (repeat' split) <;> first | (refine ⟨?_, ?_⟩ <;> (simp; done)) | skip
  have := xones_b (xgd (am_u1 S (5 + xch S c 0).toNat c) (xch (am_u1 S (5 + xch S c 0).toNat c) c 0))
  exact ⟨by show -1000002 ≤ xones _; omega, by show xones _ ≤ 8; omega⟩
theorem xdoR_b {X : am_M} {S : Nat → Int} {L : Int} (hW : WX S) : -1000003 ≤ xdoR X S L ∧ xdoR X S L ≤ 300 := by
  have h1 := xkills_b (c := X 7 0) hW
  have h2 := xticks_b S (X 7 0)
  have h3 := xelects_b S (X 7 0)
  have h4 := xempt_b S (X 7 0)
  have h5 := xputs_b (c := X 7 0) (v := X 7 1) hW
  have h6 := xbreaks_b (c := X 7 0) (row := X 7 1) hW
  unfold xdoR
  (repeat' split) <;> omega
theorem xemX_rd {X : am_M} {S : Nat → Int} {c : Int} {j : Nat} (h : j ≠ 5) : xemX X S c j = X j := by
  unfold xemX
  (repeat' split) <;> first | rfl | exact am_u3_ne _ _ h
theorem xdoX_rd {X : am_M} {S : Nat → Int} {L : Int} {j : Nat} (h : j ≠ 5) : xdoX X S L j = X j := by
  unfold xdoX
  split
  · exact xemX_rd h
  · rfl
/-- an order's reading: the heap behind it -/
def xnX (X : am_M) : am_M := (xrf (am_u2 X 0 8 (X 0 8 + 1)) (X 6 (X 0 8).toNat)).2
def xnF (X : am_M) : Bool := (xrf (am_u2 X 0 8 (X 0 8 + 1)) (X 6 (X 0 8).toNat)).1
def xnL (X : am_M) : Int := X 6 (X 0 8).toNat
/-- why the next order can't be done, 0 if it can -/
def xnR (X : am_M) (S : Nat → Int) : Int := if xnF X = true then (if xnL X = 116 then (if xdoR (xnX X) S (xnL X) ≤ -1000001 then 3 else 0) else (if 0 ≤ xnX X 7 0 ∧ xnX X 7 0 ≤ S 0 - 1 then (if xdoR (xnX X) S (xnL X) ≤ -1000001 then 3 else 0) else 2)) else 1
def xnG {α : Type} (X : am_M) (S : Nat → Int) (a z : α) : α := if xnF X = true then (if xnL X = 116 then a else (if 0 ≤ xnX X 7 0 ∧ xnX X 7 0 ≤ S 0 - 1 then a else z)) else z
def xnS (X : am_M) (S : Nat → Int) : Nat → Int := xnG X S (xdoS (xnX X) S (xnL X)) S
def xnY (X : am_M) (S : Nat → Int) : am_M := xnG X S (xdoX (xnX X) S (xnL X)) (xnX X)
theorem TX_n1 {X : am_M} (hT : TX X) (h : X 0 8 < X 0 7) : TX (am_u2 X 0 8 (X 0 8 + 1)) := by
  obtain ⟨h1, h2, h3, h4⟩ := hT
  unfold TX
  rw [am_u2_hit, am_u2_rd _ _ (Or.inr (by decide))]
  omega
theorem TX_nX {X : am_M} (hT : TX X) (h : X 0 8 < X 0 7) : TX (xnX X) ∧ X 0 8 + 1 ≤ xnX X 0 8 ∧ xnX X 0 7 = X 0 7 ∧ xnX X 6 = X 6 := by
  obtain ⟨a, b, c, e⟩ := TX_rf (L := X 6 (X 0 8).toNat) (TX_n1 hT h)
  refine ⟨a, ?_, ?_, ?_⟩
  · rw [am_u2_hit] at b; exact b
  · rw [am_u2_rd _ _ (Or.inr (by decide))] at c; exact c
  · rw [am_u2_ne _ _ _ (by decide)] at e; exact e
theorem xnY_rd {X : am_M} {S : Nat → Int} {j : Nat} (h : j ≠ 5) : xnY X S j = xnX X j := by
  unfold xnY xnG
  (repeat' split) <;> first | rfl | exact xdoX_rd h
theorem TX_nY {X : am_M} {S : Nat → Int} (hT : TX X) (h : X 0 8 < X 0 7) : TX (xnY X S) ∧ X 0 8 + 1 ≤ xnY X S 0 8 ∧ xnY X S 0 7 = X 0 7 ∧ xnY X S 6 = X 6 := by
  have e0 : xnY X S 0 = xnX X 0 := xnY_rd (by decide)
  have e6 : xnY X S 6 = xnX X 6 := xnY_rd (by decide)
  have := TX_nX hT h
  unfold TX at this ⊢
  rw [e0, e6]
  exact this
theorem WX_nS {X : am_M} {S : Nat → Int} (hW : WX S) : WX (xnS X S) := by
  unfold xnS xnG
  (repeat' split) <;> first | exact hW | exact WX_do hW
theorem BX_nS {X : am_M} {S : Nat → Int} {n : Int} (hW : WX S) (hB : BX S n) (hn : 0 ≤ n) : BX (xnS X S) (n + 400) := by
  unfold xnS xnG
  (repeat' split) <;> first | exact BX_mono hB (by omega) | exact BX_do hW hB hn
/-- the text's orders, one behind another, up to the first that can't be done: (fault's place or -1000004, heap, row) -/
def xfl : Nat → Int × am_M × (Nat → Int) → Int × am_M × (Nat → Int)
  | 0, st => st
  | k + 1, (fd, X, S) => if X 0 8 < X 0 7 then (if fd = -1000004 then xfl k ((if xnR X S ≤ 0 then fd else X 0 8), am_u2 (xnY X S) 0 9 (xnR X S), xnS X S) else (fd, X, S)) else (fd, X, S)
def xflt (X : am_M) (S : Nat → Int) : Int × am_M × (Nat → Int) := xfl 61 (-1000004, am_u2 (am_u3 X 4 S) 0 8 0, S)
def xfault (X : am_M) (S : Nat → Int) (k : Int) : Int := if 0 ≤ k ∧ k ≤ 1 then (if (xflt X S).1 = -1000004 then -1000004 else if k = 0 then (xflt X S).1 else (xflt X S).2.1 0 9) else -1000001
def xfaultX (X : am_M) (S : Nat → Int) (k : Int) : am_M := if 0 ≤ k ∧ k ≤ 1 then (xflt X S).2.1 else X
def xpl1 : Nat → Int × am_M × (Nat → Int) → Int × am_M × (Nat → Int)
  | 0, st => st
  | k + 1, (m, X, S) => if X 0 8 < X 0 7 then xpl1 k ((if xnR X S = 0 then m + 1 else m + 0), xnY X S, xnS X S) else (m, X, S)
def xplS (X : am_M) (S : Nat → Int) : Int × am_M × (Nat → Int) := xpl1 61 (0, am_u2 (am_u3 (xflt X S).2.1 3 S) 0 8 0, S)
def xplayR (X : am_M) (S : Nat → Int) : Int := if (xflt X S).1 = -1000004 then (xplS X S).1 else -1000002
def xplayX (X : am_M) (S : Nat → Int) : am_M := if (xflt X S).1 = -1000004 then xact (xplS X S).2.1 (xplS X S).1 else (xflt X S).2.1
def xplayS (X : am_M) (S : Nat → Int) : Nat → Int := if (xflt X S).1 = -1000004 then (xplS X S).2.2 else S
theorem xnR_b (X : am_M) (S : Nat → Int) : 0 ≤ xnR X S ∧ xnR X S ≤ 3 := by
  unfold xnR
  (repeat' split) <;> omega
theorem xnumX_4 (X : am_M) (k : Int) : xnumX X k 4 = X 4 := by
  unfold xnumX
  rw [am_u2_ne _ _ _ (by decide), am_u2_ne _ _ _ (by decide)]
theorem xhasX_4 (X : am_M) (c : Int) : xhasX X c 4 = X 4 := by
  unfold xhasX
  rw [am_u2_ne _ _ _ (by decide)]
theorem xrf_4 (X : am_M) (L : Int) : (xrf X L).2 4 = X 4 := by
  unfold xrf
  (repeat' split) <;> dsimp only <;> simp only [xnumX_4, xhasX_4]
theorem xnY_4 {Y : am_M} {Z S : Nat → Int} (h : Y 4 = S) : xnY Y Z 4 = S := by
  rw [xnY_rd (by decide)]
  unfold xnX
  rw [xrf_4, am_u2_ne _ _ _ (by decide)]
  exact h
theorem xnumX_5 (X : am_M) (k : Int) : xnumX X k 0 5 = X 0 5 := by
  unfold xnumX
  rw [am_u2_rd _ _ (Or.inr (by decide)), am_u2_rd _ _ (Or.inl (by decide))]
theorem xhasX_5 (X : am_M) (c : Int) : xhasX X c 0 5 = X 0 5 := by
  unfold xhasX
  rw [am_u2_rd _ _ (Or.inr (by decide))]
theorem xrf_5 (X : am_M) (L : Int) : (xrf X L).2 0 5 = X 0 5 := by
  unfold xrf
  (repeat' split) <;> dsimp only <;> simp only [xnumX_5, xhasX_5]
theorem xnY_5 (Y : am_M) (Z : Nat → Int) : xnY Y Z 0 5 = Y 0 5 := by
  rw [xnY_rd (by decide)]
  unfold xnX
  rw [xrf_5, am_u2_rd _ _ (Or.inr (by decide))]
theorem xnumX_7 (X : am_M) (k : Int) : xnumX X k 0 7 = X 0 7 := (xnumX_at X k).2.1
theorem xhasX_7 (X : am_M) (k : Int) : xhasX X k 0 7 = X 0 7 := (xhasX_at X k).2.1
theorem xrf_7 (X : am_M) (L : Int) : (xrf X L).2 0 7 = X 0 7 := by
  unfold xrf
  (repeat' split) <;> dsimp only <;> simp only [xnumX_7, xhasX_7]
theorem xnY_7 (Y : am_M) (Z : Nat → Int) : xnY Y Z 0 7 = Y 0 7 := by
  rw [xnY_rd (by decide)]
  unfold xnX
  rw [xrf_7, am_u2_rd _ _ (Or.inr (by decide))]
/-- rows that reading and doing orders leave as they are -/
def xq6 (j : Nat) : Prop := j ≠ 0 ∧ j ≠ 5 ∧ j ≠ 7
theorem xnumX_q {j : Nat} (h : xq6 j) (X : am_M) (k : Int) : xnumX X k j = X j := by
  unfold xnumX
  rw [am_u2_ne _ _ _ h.1, am_u2_ne _ _ _ h.2.2]
theorem xhasX_q {j : Nat} (h : xq6 j) (X : am_M) (k : Int) : xhasX X k j = X j := by
  unfold xhasX
  rw [am_u2_ne _ _ _ h.1]
theorem xrf_q {j : Nat} (h : xq6 j) (X : am_M) (L : Int) : (xrf X L).2 j = X j := by
  unfold xrf
  (repeat' split) <;> dsimp only <;> simp only [xnumX_q h, xhasX_q h]
theorem xnY_q {j : Nat} (h : xq6 j) (Y : am_M) (Z : Nat → Int) : xnY Y Z j = Y j := by
  rw [xnY_rd h.2.1]
  unfold xnX
  rw [xrf_q h, am_u2_ne _ _ _ h.1]
theorem xfl_5 (k : Nat) : ∀ (fd : Int) (X : am_M) (S : Nat → Int), (xfl k (fd, X, S)).2.1 0 5 = X 0 5 ∧ (xfl k (fd, X, S)).2.1 0 7 = X 0 7 ∧ ∀ j, xq6 j → (xfl k (fd, X, S)).2.1 j = X j := by
  induction k with
  | zero => exact fun fd X S => ⟨rfl, rfl, fun _ _ => rfl⟩
  | succ k ih =>
    intro fd X S
    simp only [xfl]
    split
    · split
      · obtain ⟨a, b, c⟩ := ih (if xnR X S ≤ 0 then fd else X 0 8) (am_u2 (xnY X S) 0 9 (xnR X S)) (xnS X S)
        refine ⟨?_, ?_, fun j hj => ?_⟩
        · rw [a, am_u2_rd _ _ (Or.inr (by decide)), xnY_5]
        · rw [b, am_u2_rd _ _ (Or.inr (by decide)), xnY_7]
        · rw [c j hj, am_u2_ne _ _ _ hj.1, xnY_q hj]
      · exact ⟨rfl, rfl, fun _ _ => rfl⟩
    · exact ⟨rfl, rfl, fun _ _ => rfl⟩
theorem xflt_5 (X : am_M) (S : Nat → Int) : (xflt X S).2.1 0 5 = X 0 5 := by
  unfold xflt
  rw [(xfl_5 61 _ _ _).1, am_u2_rd _ _ (Or.inr (by decide)), am_u3_ne _ _ (by decide)]
theorem xflt_7 (X : am_M) (S : Nat → Int) : (xflt X S).2.1 0 7 = X 0 7 := by
  unfold xflt
  rw [(xfl_5 61 _ _ _).2.1, am_u2_rd _ _ (Or.inr (by decide)), am_u3_ne _ _ (by decide)]
