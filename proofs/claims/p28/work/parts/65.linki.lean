/-! ===== a chip dies ===== -/
def DL (k : Nat) : Prop := 8 ≤ k ∧ k < 40 ∧ k % 4 = 2
theorem DL_of {c : Int} (hc : 0 ≤ c ∧ c < 8) : DL (8 + 4 * c + 2).toNat := ⟨by omega, by omega, by omega⟩
section SDL
variable {S : Nat → Int} {k : Nat} {x : Int}
theorem dl_wd (hk : DL k) {v j : Int} (hv : 0 ≤ v) (hj : 0 ≤ j) : xwd (am_u1 S k x) v j = xwd S v j := by
  unfold xwd
  exact am_u1_ne _ _ (by have := hk.2.1; omega)
theorem dl_lo (hk : DL k) {m : Nat} (hm : m < 8) : am_u1 S k x m = S m := am_u1_ne _ _ (by have := hk.1; omega)
theorem dl_god (hk : DL k) {f : Int} (hf : 0 ≤ f ∧ f ≤ 2) : xgod (am_u1 S k x) f = xgod S f := by
  unfold xgod
  exact am_u1_ne _ _ (by have := hk.1; omega)
theorem dl_ch (hk : DL k) {c j : Int} (hc : 0 ≤ c) (hj : j = 0 ∨ j = 1 ∨ j = 3) : xch (am_u1 S k x) c j = xch S c j := by
  unfold xch
  exact am_u1_ne _ _ (by have := hk.2.2; omega)
theorem dl_gu (hk : DL k) {f r : Int} (hf : 0 ≤ f ∧ f ≤ 2) : xgu (am_u1 S k x) f r = xgu S f r := by
  unfold xgu
  rw [dl_god hk hf]
  by_cases q : 0 ≤ xgod S f
  · rw [dl_ch hk q (Or.inr (Or.inr rfl))]
  · rw [decide_eq_false q, Bool.false_and, Bool.false_and]
theorem dl_kept (hk : DL k) (c r : Int) : xkept (am_u1 S k x) c r = xkept S c r := by
  unfold xkept
  rw [dl_lo hk (by decide)]
  congr 1
  funext w
  rw [dl_wd hk (by omega) (by decide), dl_wd hk (by omega) (by decide), dl_wd hk (by omega) (by decide)]
theorem dl_wait (hk : DL k) (c r : Int) : xwait (am_u1 S k x) c r = xwait S c r := by
  unfold xwait
  rw [dl_lo hk (by decide)]
  congr 1
  funext w
  rw [dl_wd hk (by omega) (by decide), dl_wd hk (by omega) (by decide), dl_wd hk (by omega) (by decide)]
theorem dl_comm (S : Nat → Int) {a b : Nat} (x z : Int) (h : a ≠ b) : am_u1 (am_u1 S a x) b z = am_u1 (am_u1 S b z) a x := by
  funext c
  unfold am_u1
  by_cases h1 : c = a
  · subst h1
    simp [h]
  · simp [h1]
theorem dl_lay (hk : DL k) {w j v : Int} (hw : 0 ≤ w) (hj : 0 ≤ j) : xlay (am_u1 S k x) w j v = am_u1 (xlay S w j v) k x := by
  unfold xlay
  exact dl_comm S _ _ (by have := hk.2.1; omega)
theorem dl_wn (hk : DL k) {w : Int} (hw : 0 ≤ w) : xwn (am_u1 S k x) w = am_u1 (xwn S w) k x := by
  unfold xwn
  rw [dl_lay hk hw (by decide), dl_lay hk hw (by decide), dl_lo hk (by decide), dl_lo hk (by decide)]
  exact dl_comm _ _ _ (by have := hk.1; omega)
theorem dl_falls (hk : DL k) (hX : WX S) {w b : Int} (hw : 0 ≤ w ∧ w < 24) : xfalls (am_u1 S k x) w b = am_u1 (xfalls S w b) k x := by
  have ho := (hX.2.2.2.2 w hw.1 hw.2).1
  have hwb := xwait_b hX (xwd S w 4) (xwd S w 3)
  unfold xfalls
  rw [dl_wd hk hw.1 (by decide), dl_wd hk hw.1 (by decide), dl_gu hk ho, dl_wait hk]
  by_cases g : xgu S (xwd S w 4) (xwd S w 3) = true
  · rw [if_pos g, if_pos g]
    by_cases z : xwait S (xwd S w 4) (xwd S w 3) < 0
    · rw [if_pos z, if_pos z]
      by_cases b0 : b = 0
      · rw [if_pos b0, if_pos b0]
        exact dl_wn hk hw.1
      · rw [if_neg b0, if_neg b0]
    · rw [if_neg z, if_neg z, dl_lay hk hw.1 (by decide), dl_lay hk (by omega) (by decide)]
  · rw [if_neg g, if_neg g]
    exact dl_lay hk hw.1 (by decide)
theorem dl_krow (hk : DL k) (hX : WX S) {c f row : Int} {hd : Bool} : xkrow (am_u1 S k x) c f hd row = am_u1 (xkrow S c f hd row) k x := by
  have hkb := xkept_b hX c row
  have hwb := xwait_b hX f row
  unfold xkrow
  rw [dl_kept hk, dl_wait hk]
  by_cases q : xkept S c row < 0
  · rw [if_pos q, if_pos q]
    cases hd with
    | false => rfl
    | true =>
      rw [if_pos rfl, if_pos rfl]
      by_cases z : xwait S f row < 0
      · rw [if_pos z, if_pos z]
      · rw [if_neg z, if_neg z]
        exact dl_lay hk (by omega) (by decide)
  · rw [if_neg q, if_neg q, dl_falls hk hX (by omega), dl_wait hk]
    cases hd with
    | false => rfl
    | true =>
      rw [if_pos rfl, if_pos rfl]
      have h2 : WX (xfalls S (xkept S c row) 0) := WX_falls hX (by omega)
      have hwb2 := xwait_b h2 f row
      by_cases z : xwait (xfalls S (xkept S c row) 0) f row < 0
      · rw [if_pos z, if_pos z]
      · rw [if_neg z, if_neg z]
        exact dl_lay hk (by omega) (by decide)
theorem dl_krows (hk : DL k) (hX : WX S) {c f : Int} {hd : Bool} (n : Nat) : xkrows (am_u1 S k x) c f hd n = am_u1 (xkrows S c f hd n) k x := by
  induction n with
  | zero => rfl
  | succ n ih =>
    show xkrow (xkrows (am_u1 S k x) c f hd n) c f hd n = _
    rw [ih, dl_krow hk (WX_krows hX n)]
    rfl
theorem dl_lost (hk : DL k) : xlost (am_u1 S k x) = xlost S := by
  unfold xlost
  rw [dl_lo hk (by decide)]
  congr 1
  funext w
  rw [dl_wd hk (by omega) (by decide)]
end SDL
theorem CX_live {M : am_M} {S : Nat → Int} (h : CX M S) {c : Int} (hc : 0 ≤ c ∧ c < S 0) : CX (ylvg M c) (am_u1 S (8 + 4 * c + 2).toNat 0) := by
  obtain ⟨⟨⟨hM, hX⟩, ⟨hn, hcc, hff, hg⟩, ⟨hcw, hck, hct⟩, hq, hss⟩, hx⟩ := h
  have h8 := hX.1
  have hc8 : 0 ≤ c ∧ c < 8 := by omega
  have hk := DL_of hc8
  have r : ∀ j, j ≠ 0 → ylvg M c j = M j := fun j hj => am_u2_ne _ _ _ hj
  have r0 : ∀ k, k ≠ 1 → ylvg M c 0 k = M 0 k := fun k hk => am_u2_rd _ _ (Or.inr hk)
  have r01 : ylvg M c 0 1 = am_and (M 0 1) (am_xor (am_shl 1 c) (-1)) := am_u2_hit _ _ _ _
  obtain ⟨b1, b2⟩ := bi_clr8 hcc.1 hc8
  have hX2 : WX (am_u1 S (8 + 4 * c + 2).toNat 0) := WX_chip hX hc8 (by decide)
  refine ⟨⟨⟨WM_0 hM (fun q => absurd q (by decide)) (fun q => absurd q (by decide)), hX2⟩, ⟨?_, ?_, ?_, ?_⟩, ⟨?_, ?_, ?_⟩, ?_, ?_⟩, ?_⟩
  · unfold CLn at hn ⊢
    rw [r0 0 (by decide), r0 2 (by decide), r0 3 (by decide), r0 4 (by decide), dl_lo hk (by decide), dl_lo hk (by decide), dl_lo hk (by decide), dl_lo hk (by decide)]
    exact hn
  · refine ⟨by rw [r01]; exact b1, fun a a0 a8 => ?_⟩
    obtain ⟨z1, z2, z3, z4, z5⟩ := hcc.2 a a0 a8
    rw [r01, b2 a a0 a8, dl_ch hk a0 (Or.inl rfl), dl_ch hk a0 (Or.inr (Or.inl rfl)), dl_ch hk a0 (Or.inr (Or.inr rfl)), dl_lo hk (by decide)]
    unfold rd at z1 z2 z4 ⊢
    rw [r 1 (by decide), r 2 (by decide), r 3 (by decide)]
    by_cases ac : a = c
    · subst ac
      rw [if_pos rfl, show xch (am_u1 S (8 + 4 * a + 2).toNat 0) a 2 = 0 from am_u1_at _ _ _]
      exact ⟨z1, z2, rfl, z4, fun q => ⟨rfl, (z5 q).2⟩⟩
    · rw [if_neg ac, show xch (am_u1 S (8 + 4 * c + 2).toNat 0) a 2 = xch S a 2 from am_u1_ne _ _ (by omega)]
      exact ⟨z1, z2, z3, z4, z5⟩
  · intro f f0 f2
    rw [dl_god hk ⟨f0, f2⟩, dl_lo hk (by decide)]
    unfold rd
    rw [r 5 (by decide)]
    exact hff f f0 f2
  · intro a a0 a8 q b b0 b5
    have hf := hX.2.2.2.1 a a0 a8
    rw [dl_ch hk a0 (Or.inl rfl), dl_god hk hf] at q
    unfold rd
    rw [r 4 (by decide)]
    exact hg a a0 a8 q b b0 b5
  · unfold CLw at hcw ⊢
    rw [dl_lo hk (by decide), dl_lo hk (by decide)]
    refine ⟨fun w w0 w1 => ?_, fun w w0 w1 => ?_⟩
    · rw [dl_wd hk w0 (by decide), dl_wd hk w0 (by decide), dl_wd hk w0 (by decide), dl_wd hk w0 (by decide), dl_wd hk w0 (by decide), dl_wd hk w0 (by decide)]
      exact hcw.1 w w0 w1
    · exact hcw.2 w w0 w1
  · intro a b ha hb
    rw [dl_lo hk (by decide)]
    unfold rd
    rw [r 4 (by decide)]
    refine ⟨(hck a b ha hb).1, fun w w0 w1 => ?_⟩
    unfold kat
    rw [dl_wd hk w0 (by decide), dl_wd hk w0 (by decide), dl_wd hk w0 (by decide)]
    exact (hck a b ha hb).2 w w0 w1
  · intro a b ha hb
    rw [dl_lo hk (by decide)]
    unfold rd
    rw [r 6 (by decide)]
    refine ⟨(hct a b ha hb).1, fun w w0 w1 => ?_⟩
    unfold wat
    rw [dl_wd hk w0 (by decide), dl_wd hk w0 (by decide), dl_wd hk w0 (by decide)]
    exact (hct a b ha hb).2 w w0 w1
  · intro f hf
    obtain ⟨a, b, c', d⟩ := hq f hf
    have e8 : rd (ylvg M c) 8 f = rd M 8 f := congrFun (r 8 (by decide)) _
    have e7 : ∀ i, rd (ylvg M c) 7 i = rd M 7 i := fun i => congrFun (r 7 (by decide)) _
    have e6 : ∀ i, rd (ylvg M c) 6 i = rd M 6 i := fun i => congrFun (r 6 (by decide)) _
    rw [e8, dl_lo hk (by decide)]
    refine ⟨?_, fun i i0 i9 => ?_, fun w w0 w1 s1 s4 => ?_, fun i j i0 ij j9 => ?_⟩
    · rw [a]
      exact sumW_congr (fun k hk => by rw [e6])
    · have z := b i i0 i9
      rw [e7, dl_wd hk z.1.1 (by decide), dl_wd hk z.1.1 (by decide)]
      exact z
    · rw [dl_wd hk w0 (by decide)] at s1 s4
      obtain ⟨i, i0, i9, i2⟩ := c' w w0 w1 s1 s4
      exact ⟨i, i0, i9, by rw [e7]; exact i2⟩
    · rw [e7, e7, dl_wd hk (b i i0 (by omega)).1.1 (by decide), dl_wd hk (b j (by omega) j9).1.1 (by decide)]
      exact d i j i0 ij j9
  · intro w w0 w1 s1
    rw [dl_lo hk (by decide)] at w1
    rw [dl_wd hk w0 (by decide)] at s1
    rw [dl_wd hk w0 (by decide), dl_lo hk (by decide)]
    exact hss w w0 w1 s1
  · intro w w0 w1 s1
    rw [dl_lo hk (by decide)] at w1
    rw [dl_wd hk w0 (by decide)] at s1
    have h24 := hX.2.1
    rw [dl_wd hk w0 (by decide), dl_wd hk w0 (by decide), dl_gu hk (hX.2.2.2.2 w w0 (by omega)).1]
    exact hx w w0 w1 s1
