/-! ===== what is always so of a state, beyond the link: godfathers live; kept words lie in whole rows of living chips, of the chip's family; raises are counted ===== -/
def PIg (S : Nat → Int) : Prop := ∀ f : Int, 0 ≤ f → f ≤ 2 → 0 ≤ xgod S f → xch S (xgod S f) 2 = 1
def PIk (S : Nat → Int) : Prop := ∀ w : Int, 0 ≤ w → w < S 1 → xwd S w 1 = 0 → xch S (xwd S w 2) 2 = 1 ∧ bit (xch S (xwd S w 2) 3) (xwd S w 3) = 0 ∧ xwd S w 4 = xch S (xwd S w 2) 0
def PIr (S : Nat → Int) : Prop := S 3 = sumW (fun w => xwd S w 6) (S 1).toNat
def PI (S : Nat → Int) : Prop := PIg S ∧ PIk S ∧ PIr S
/-- the kept words of T are kept in S alike -/
def KS (S T : Nat → Int) : Prop := T 1 = S 1 ∧ T 3 = S 3 ∧ ∀ w : Int, 0 ≤ w → w < S 1 → xwd T w 6 = xwd S w 6 ∧ (xwd T w 1 = 0 → xwd S w 1 = 0 ∧ xwd T w 2 = xwd S w 2 ∧ xwd T w 3 = xwd S w 3 ∧ xwd T w 4 = xwd S w 4)
theorem KS_refl (S : Nat → Int) : KS S S := ⟨rfl, rfl, fun _ _ _ => ⟨rfl, fun h => ⟨h, rfl, rfl, rfl⟩⟩⟩
theorem KS_trans {S T U : Nat → Int} (h : KS S T) (h2 : KS T U) : KS S U := by
  obtain ⟨a1, a3, a⟩ := h
  obtain ⟨b1, b3, b⟩ := h2
  refine ⟨b1.trans a1, b3.trans a3, fun w w0 w9 => ⟨(b w w0 (by omega)).1.trans (a w w0 w9).1, fun z => ?_⟩⟩
  obtain ⟨c1, c2, c3, c4⟩ := (b w w0 (by omega)).2 z
  obtain ⟨d1, d2, d3, d4⟩ := (a w w0 w9).2 c1
  exact ⟨d1, c2.trans d2, c3.trans d3, c4.trans d4⟩
theorem KS_lay {S : Nat → Int} {w v : Int} (hw : 0 ≤ w) (hv : v ≠ 0) : KS S (xlay S w 1 v) := by
  refine ⟨xlay_lo hw (by decide) (by decide), xlay_lo hw (by decide) (by decide), fun u u0 u9 => ?_⟩
  have e : ∀ k : Int, 0 ≤ k → k < 7 → k ≠ 1 → xwd (xlay S w 1 v) u k = xwd S u k := fun k k0 k7 k1 => xlay_ne ⟨hw, by decide, by decide⟩ ⟨u0, k0, k7⟩ (Or.inr k1)
  refine ⟨e 6 (by decide) (by decide) (by decide), fun z => ?_⟩
  by_cases q : u = w
  · subst q
    rw [xlay_at] at z
    exact absurd z hv
  · rw [xlay_ne ⟨hw, by decide, by decide⟩ ⟨u0, by decide, by decide⟩ (Or.inl q)] at z
    exact ⟨z, e 2 (by decide) (by decide) (by decide), e 3 (by decide) (by decide) (by decide), e 4 (by decide) (by decide) (by decide)⟩
theorem KS_lay2 {S : Nat → Int} {w k v : Int} (hw : 0 ≤ w) (hk : k = 0 ∨ k = 5) : KS S (xlay S w k v) := by
  refine ⟨xlay_lo hw (by omega) (by decide), xlay_lo hw (by omega) (by decide), fun u u0 u9 => ?_⟩
  have e : ∀ j : Int, 0 ≤ j → j < 7 → j ≠ k → xwd (xlay S w k v) u j = xwd S u j := fun j j0 j7 j1 => xlay_ne ⟨hw, by omega, by omega⟩ ⟨u0, j0, j7⟩ (Or.inr j1)
  refine ⟨e 6 (by decide) (by decide) (by omega), fun z => ?_⟩
  rw [e 1 (by decide) (by decide) (by omega)] at z
  exact ⟨z, e 2 (by decide) (by decide) (by omega), e 3 (by decide) (by decide) (by omega), e 4 (by decide) (by decide) (by omega)⟩
theorem KS_u {S : Nat → Int} {k : Nat} {x : Int} (hk : k < 40) (h1 : k ≠ 1) (h3 : k ≠ 3) : KS S (am_u1 S k x) := by
  have e : ∀ w j : Int, 0 ≤ w → 0 ≤ j → xwd (am_u1 S k x) w j = xwd S w j := fun w j w0 j0 => am_u1_ne _ _ (by omega)
  refine ⟨am_u1_ne _ _ (Ne.symm h1), am_u1_ne _ _ (Ne.symm h3), fun w w0 w9 => ⟨e w 6 w0 (by decide), fun z => ?_⟩⟩
  rw [e w 1 w0 (by decide)] at z
  exact ⟨z, e w 2 w0 (by decide), e w 3 w0 (by decide), e w 4 w0 (by decide)⟩
theorem KS_wn {S : Nat → Int} {w : Int} (hw : 0 ≤ w) : KS S (xwn S w) :=
  KS_trans (KS_trans (KS_lay hw (by decide)) (KS_lay2 hw (Or.inr rfl))) (KS_u (by decide) (by decide) (by decide))
theorem KS_falls {S : Nat → Int} {w b : Int} (hX : WX S) (hw : 0 ≤ w ∧ w < 24) : KS S (xfalls S w b) := by
  have hb := xwait_b hX (xwd S w 4) (xwd S w 3)
  unfold xfalls
  split
  · split
    · split
      · exact KS_wn hw.1
      · exact KS_refl S
    · exact KS_trans (KS_lay hw.1 (by decide)) (KS_lay (by omega) (by decide))
  · exact KS_lay hw.1 (by decide)
theorem xfalls_st {S : Nat → Int} {w : Int} (hX : WX S) (hw : 0 ≤ w ∧ w < 24) : xwd (xfalls S w 0) w 1 ≠ 0 := by
  have hb := xwait_b hX (xwd S w 4) (xwd S w 3)
  unfold xfalls
  split
  · split
    · rw [if_pos rfl]
      unfold xwn
      have e : ∀ (T : Nat → Int) (x : Int), xwd (am_u1 T 4 x) w 1 = xwd T w 1 := fun T x => am_u1_ne _ _ (by omega)
      rw [e, xlay_ne ⟨hw.1, by decide, by decide⟩ ⟨hw.1, by decide, by decide⟩ (Or.inr (by decide)), xlay_at]
      decide
    · by_cases q : w = xwait S (xwd S w 4) (xwd S w 3)
      · rw [← q, xlay_at]
        decide
      · rw [xlay_ne ⟨by omega, by decide, by decide⟩ ⟨hw.1, by decide, by decide⟩ (Or.inl q), xlay_at]
        decide
  · rw [xlay_at]
    decide
theorem KS_krow {S : Nat → Int} {c f : Int} {hd : Bool} {row : Int} (hX : WX S) : KS S (xkrow S c f hd row) := by
  have hk := xkept_b hX c row
  have hb := xwait_b hX f row
  unfold xkrow
  split
  · split
    · split
      · exact KS_refl S
      · exact KS_lay (by omega) (by decide)
    · exact KS_refl S
  · have h2 : WX (xfalls S (xkept S c row) 0) := WX_falls hX (by omega)
    have k1 : KS S (xfalls S (xkept S c row) 0) := KS_falls hX (by omega)
    have hb2 := xwait_b h2 f row
    split
    · split
      · exact k1
      · exact KS_trans k1 (KS_lay (by omega) (by decide))
    · exact k1
theorem KS_krows {S : Nat → Int} {c f : Int} {hd : Bool} (hX : WX S) (n : Nat) : KS S (xkrows S c f hd n) := by
  induction n with
  | zero => exact KS_refl S
  | succ n ih => exact KS_trans ih (KS_krow (WX_krows hX n))
theorem lastW_t {p : Nat → Bool} {n w : Nat} (hw : w < n) (hp : p w = true) : (w : Int) ≤ lastW p n ∧ p (lastW p n).toNat = true := by
  induction n with
  | zero => omega
  | succ n ih =>
    simp only [lastW]
    by_cases q : p n = true
    · rw [if_pos q]
      exact ⟨by omega, q⟩
    · rw [if_neg q]
      have hne : w ≠ n := fun z => q (by rw [← z]; exact hp)
      exact ih (by omega)
/-- a kept word is the one that its row keeps -/
theorem KS_kept {S T : Nat → Int} {w c r : Int} (hK : KS S T) (hu : ∀ u v : Int, (0 ≤ u ∧ u < S 1) → (0 ≤ v ∧ v < S 1) → kat S u c r → kat S v c r → u = v) (hn : S 1 ≤ 24) (hw : 0 ≤ w ∧ w < S 1) (hk : kat T w c r) : xkept T c r = w := by
  obtain ⟨k1, k3, k⟩ := hK
  have hp : (fun v : Nat => xwd T v 1 == 0 && xwd T v 2 == c && xwd T v 3 == r) w.toNat = true := by
    simp only [show ((w.toNat : Nat) : Int) = w by omega, Bool.and_eq_true, beq_iff_eq]
    exact ⟨⟨hk.1, hk.2.1⟩, hk.2.2⟩
  have h1 := lastW_t (p := fun v : Nat => xwd T v 1 == 0 && xwd T v 2 == c && xwd T v 3 == r) (n := (T 1).toNat) (w := w.toNat) (by omega) hp
  have h2 := lastW_b (fun v : Nat => xwd T v 1 == 0 && xwd T v 2 == c && xwd T v 3 == r) (T 1).toNat
  have e : xkept T c r = lastW (fun v : Nat => xwd T v 1 == 0 && xwd T v 2 == c && xwd T v 3 == r) (T 1).toNat := rfl
  rw [← e] at h1 h2
  obtain ⟨h3, h4⟩ := h1
  simp only [show (((xkept T c r).toNat : Nat) : Int) = xkept T c r by omega, Bool.and_eq_true, beq_iff_eq] at h4
  obtain ⟨a1, a2, a3, -⟩ := (k w hw.1 hw.2).2 hk.1
  obtain ⟨b1, b2, b3, -⟩ := (k (xkept T c r) (by omega) (by omega)).2 h4.1.1
  exact hu _ _ (by omega) hw ⟨b1, b2.symm.trans h4.1.2, b3.symm.trans h4.2⟩ ⟨a1, a2.symm.trans hk.2.1, a3.symm.trans hk.2.2⟩
theorem CL_uniq {M : am_M} {S : Nat → Int} (h : CL M S) {c r : Int} (hc : 0 ≤ c ∧ c < 8) (hr : 0 ≤ r ∧ r ≤ 5) : ∀ u v : Int, (0 ≤ u ∧ u < S 1) → (0 ≤ v ∧ v < S 1) → kat S u c r → kat S v c r → u = v := by
  intro u v hu hv ku kv
  have hk := (h.2.2.1.2.1 c r hc hr).2
  exact ((hk u hu.1 hu.2).mp ku).symm.trans ((hk v hv.1 hv.2).mp kv)
theorem PIr_KS {S T : Nat → Int} (h : PIr S) (hK : KS S T) : PIr T := by
  obtain ⟨k1, k3, k⟩ := hK
  unfold PIr at h ⊢
  rw [k3, k1, h]
  exact sumW_congr (fun w hw => ((k w (by omega) (by omega)).1).symm)
theorem PIg_c {S T : Nat → Int} (h : PIg S) (hX : WX S) (hL : ∀ k : Nat, 5 ≤ k → k < 40 → (k < 8 ∨ k % 4 = 2) → T k = S k) : PIg T := by
  intro f f0 f2 g0
  have hg := hX.2.2.1 f f0 f2
  have e : xgod T f = xgod S f := hL _ (by omega) (by omega) (by omega)
  rw [e] at g0 ⊢
  have e2 : xch T (xgod S f) 2 = xch S (xgod S f) 2 := hL _ (by omega) (by omega) (by omega)
  rw [e2]
  exact h f f0 f2 g0
theorem CX_kc {M : am_M} {S : Nat → Int} (h : CX M S) {w : Int} (hw : 0 ≤ w ∧ w < S 1) (hs : xwd S w 1 = 0) : 0 ≤ xwd S w 2 ∧ xwd S w 2 < S 0 := ((h.1.2.2.1.1.1 w hw.1 hw.2).2.1 hs).2
theorem PIk_t {M : am_M} {S T : Nat → Int} (h : PIk S) (hx : CX M S) (hK : KS S T) (hc : ∀ c : Int, 0 ≤ c → c < S 0 → xch T c 0 = xch S c 0 ∧ xch T c 2 = xch S c 2 ∧ xch T c 3 = xch S c 3) : PIk T := by
  intro w w0 w9 s
  obtain ⟨k1, k3, k⟩ := hK
  rw [k1] at w9
  obtain ⟨a1, a2, a3, a4⟩ := (k w w0 w9).2 s
  have hb := CX_kc hx ⟨w0, w9⟩ a1
  obtain ⟨c0, c2, c3⟩ := hc _ hb.1 hb.2
  obtain ⟨p1, p2, p3⟩ := h w w0 w9 a1
  rw [a2, a3, a4, c0, c2, c3]
  exact ⟨p1, p2, p3⟩
theorem LO_ch3 {S T : Nat → Int} (h : LO S T) (h8 : S 0 ≤ 8) : ∀ c : Int, 0 ≤ c → c < S 0 → xch T c 0 = xch S c 0 ∧ xch T c 2 = xch S c 2 ∧ xch T c 3 = xch S c 3 := fun c c0 c9 => ⟨LO_ch h (by omega) (by decide), LO_ch h (by omega) (by decide), LO_ch h (by omega) (by decide)⟩
theorem PIg_LO {S T : Nat → Int} (h : PIg S) (hX : WX S) (hL : LO S T) : PIg T := PIg_c h hX (fun k a b _ => hL k b (by omega))
/-- a word sits on a place -/
theorem PIk_sits {M : am_M} {S : Nat → Int} (h : PIk S) (hx : CX M S) {w c r : Int} (hw : 0 ≤ w ∧ w < S 1) (hc : 0 ≤ c ∧ c < 8) (hl : xch S c 2 = 1) (hb : bit (xch S c 3) r = 0) : PIk (xsits S w c r) := by
  have h24 := hx.1.1.2.2.1
  have h8 := hx.1.1.2.1
  have lo : ∀ m : Nat, m < 40 → xsits S w c r m = S m := fun m hm => xsits_lo hw.1 hm
  have ch : ∀ a k : Int, 0 ≤ a → a < 8 → 0 ≤ k → k < 4 → xch (xsits S w c r) a k = xch S a k := fun a k a0 a8 k0 k4 => lo _ (by omega)
  intro u u0 u9 s
  rw [lo 1 (by decide)] at u9
  by_cases q : u = w
  · subst q
    have e2 : xwd (xsits S u c r) u 2 = c := by
      unfold xsits
      rw [xlay_ne ⟨hw.1, by decide, by decide⟩ ⟨hw.1, by decide, by decide⟩ (Or.inr (by decide)), xlay_ne ⟨hw.1, by decide, by decide⟩ ⟨hw.1, by decide, by decide⟩ (Or.inr (by decide)), xlay_at]
    have e3 : xwd (xsits S u c r) u 3 = r := by
      unfold xsits
      rw [xlay_ne ⟨hw.1, by decide, by decide⟩ ⟨hw.1, by decide, by decide⟩ (Or.inr (by decide)), xlay_at]
    have e4 : xwd (xsits S u c r) u 4 = xch S c 0 := by
      unfold xsits
      rw [xlay_at, xlay_ch hw.1 (by decide) hc (by decide), xlay_ch hw.1 (by decide) hc (by decide), xlay_ch hw.1 (by decide) hc (by decide)]
    rw [e2, e3, e4, ch c 2 hc.1 hc.2 (by decide) (by decide), ch c 3 hc.1 hc.2 (by decide) (by decide), ch c 0 hc.1 hc.2 (by decide) (by decide)]
    exact ⟨hl, hb, rfl⟩
  · have e : ∀ k : Int, 0 ≤ k → k < 7 → xwd (xsits S w c r) u k = xwd S u k := fun k k0 k7 => xsits_wn hw.1 u0 ⟨k0, k7⟩ q
    rw [e 1 (by decide) (by decide)] at s
    have hb := CX_kc hx ⟨u0, u9⟩ s
    rw [e 2 (by decide) (by decide), e 3 (by decide) (by decide), e 4 (by decide) (by decide), ch _ 2 hb.1 (by omega) (by decide) (by decide), ch _ 3 hb.1 (by omega) (by decide) (by decide), ch _ 0 hb.1 (by omega) (by decide) (by decide)]
    exact h u u0 u9 s
theorem PIr_sits {S : Nat → Int} (h : PIr S) {w c r : Int} (hw : 0 ≤ w) : PIr (xsits S w c r) := by
  unfold PIr at h ⊢
  rw [xsits_lo hw (by decide), xsits_lo hw (by decide), h]
  exact sumW_congr (fun u hu => (xsits_6 hw (by omega)).symm)
theorem PIg_sits {S : Nat → Int} (h : PIg S) (hX : WX S) {w c r : Int} (hw : 0 ≤ w) : PIg (xsits S w c r) := PIg_c h hX (fun k a b _ => xsits_lo hw b)
theorem xpl_lv {S : Nat → Int} {c r : Int} (h : xpl S c r = true) : xch S c 2 = 1 ∧ bit (xch S c 3) r = 0 ∧ xkept S c r < 0 ∧ xwait S (xch S c 0) r < 0 := by
  unfold xpl at h
  simp only [Bool.and_eq_true, beq_iff_eq, decide_eq_true_eq] at h
  exact ⟨h.1, h.2.2.1, h.2.2.2.1, h.2.2.2.2⟩
theorem PI_sits {M : am_M} {S : Nat → Int} (h : PI S) (hx : CX M S) {w c : Int} (hw : 0 ≤ w ∧ w < S 1) (hc : 0 ≤ c ∧ c < 8) (hp : xpls S c ≠ 0) : PI (xsits S w c (xlow S c)) := by
  have hl := xpl_lv (xlow_pl hp)
  exact ⟨PIg_sits h.1 hx.1.1.2 hw.1, PIk_sits h.2.1 hx hw hc hl.1 hl.2.1, PIr_sits h.2.2 hw.1⟩
