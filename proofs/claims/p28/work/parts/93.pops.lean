/-! ===== every change keeps it; what is lost ===== -/
theorem CL_k9 {M : am_M} {S : Nat → Int} (h : CL M S) {w : Int} (hw : 0 ≤ w ∧ w < S 1) (hs : xwd S w 1 = 0) : (0 ≤ xwd S w 2 ∧ xwd S w 2 < 8) ∧ (0 ≤ xwd S w 3 ∧ xwd S w 3 ≤ 5) ∧ rd M 4 (xwd S w 2 * 6 + xwd S w 3) = w := by
  have h24 := h.1.2.2.1
  have h8 := h.1.2.1
  have hb := ((h.2.2.1.1.1 w hw.1 hw.2).2.1 hs).2
  have hr := (h.1.2.2.2.2.2 w hw.1 (by omega)).2
  have hc : 0 ≤ xwd S w 2 ∧ xwd S w 2 < 8 := by omega
  exact ⟨hc, hr, ((h.2.2.1.2.1 _ _ hc hr).2 w hw.1 hw.2).mp ⟨hs, rfl, rfl⟩⟩
theorem CLg_no {M : am_M} {S : Nat → Int} (h : CL M S) {w : Int} (hw : 0 ≤ w ∧ w < S 1) (hs : xwd S w 1 = 0) : ¬ xgod S (xch S (xwd S w 2) 0) = xwd S w 2 := by
  intro q
  obtain ⟨hc, hr, e⟩ := CL_k9 h hw hs
  have := h.2.1.2.2.2 _ hc.1 hc.2 q _ hr.1 hr.2
  omega
theorem KR {M : am_M} {S0 : Nat → Int} (hX : WX S0) {c f : Int} (hu : ∀ r : Int, 0 ≤ r → r ≤ 5 → ∀ u v : Int, (0 ≤ u ∧ u < S0 1) → (0 ≤ v ∧ v < S0 1) → kat S0 u c r → kat S0 v c r → u = v) (n : Nat) (hn : n ≤ 6) : ∀ w : Int, 0 ≤ w → w < S0 1 → xwd (xkrows S0 c f false n) w 1 = 0 → ¬ (xwd S0 w 2 = c ∧ xwd S0 w 3 < n) := by
  induction n with
  | zero =>
    intro w w0 w9 _ q
    have hr := (hX.2.2.2.2 w w0 (by have := hX.2.1; omega)).2
    omega
  | succ n ih =>
    intro w w0 w9 s q
    have h24 := hX.2.1
    have hT : WX (xkrows S0 c f false n) := WX_krows hX n
    have hK : KS S0 (xkrows S0 c f false n) := KS_krows hX n
    have hK1 : KS (xkrows S0 c f false n) (xkrow (xkrows S0 c f false n) c f false n) := KS_krow hT
    have s : xwd (xkrow (xkrows S0 c f false n) c f false n) w 1 = 0 := s
    obtain ⟨b1, b2, b3, b4⟩ := (hK1.2.2 w w0 (by rw [hK.1]; exact w9)).2 s
    obtain ⟨a1, a2, a3, a4⟩ := (hK.2.2 w w0 w9).2 b1
    by_cases e : xwd S0 w 3 < n
    · exact ih (by omega) w w0 w9 b1 ⟨q.1, e⟩
    · have e3 : xwd S0 w 3 = n := by omega
      have hk : xkept (xkrows S0 c f false n) c n = w := KS_kept hK (hu n (by omega) (by omega)) h24.2 ⟨w0, w9⟩ ⟨b1, a2.trans q.1, a3.trans e3⟩
      unfold xkrow at s
      rw [hk, if_neg (by omega), if_neg (by decide)] at s
      exact xfalls_st hT ⟨w0, by omega⟩ s
theorem PI_kills {M : am_M} {S : Nat → Int} (h : PI S) (hx : CX M S) (hy : CLy S) (c : Int) : PI (xkills S c).2 := by
  have hX := hx.1.1.2
  have h8 := hX.1
  have h24 := hX.2.1
  unfold xkills
  by_cases q1 : 0 ≤ c ∧ c ≤ S 0 - 1
  · have hc : 0 ≤ c ∧ c < 8 := by omega
    have hf := hX.2.2.2.1 c hc.1 hc.2
    have hW1 : WX (am_u1 S (8 + 4 * c + 2).toNat 0) := WX_chip hX hc (by decide)
    rw [if_pos q1]
    by_cases q2 : xch S c 2 = 1
    · rw [if_pos q2]
      show PI (xkillS S c)
      have k0 : KS S (am_u1 S (8 + 4 * c + 2).toNat 0) := KS_u (by omega) (by omega) (by omega)
      have k1 : KS (am_u1 S (8 + 4 * c + 2).toNat 0) (xkrows (am_u1 S (8 + 4 * c + 2).toNat 0) c (xch S c 0) (xisg S c) 6) := KS_krows hW1 6
      have k2 : KS (xkrows (am_u1 S (8 + 4 * c + 2).toNat 0) c (xch S c 0) (xisg S c) 6) (xkillS S c) := KS_u (by omega) (by omega) (by omega)
      have kk : KS S (xkillS S c) := KS_trans k0 (KS_trans k1 k2)
      have lo : ∀ m : Nat, m < 40 → m ≠ 4 → m ≠ (5 + xch S c 0).toNat → m ≠ (8 + 4 * c + 2).toNat → xkillS S c m = S m := fun m m40 m4 m5 m8 => by
        unfold xkillS
        rw [am_u1_ne _ _ m5, xkrows_lo hW1 m40 m4, am_u1_ne _ _ m8]
      have wd : ∀ w k : Int, 0 ≤ w → 0 ≤ k → xwd (xkillS S c) w k = xwd (xkrows (am_u1 S (8 + 4 * c + 2).toNat 0) c (xch S c 0) (xisg S c) 6) w k := fun w k w0 k0 => am_u1_ne _ _ (by omega)
      have w1 : ∀ w k : Int, 0 ≤ w → 0 ≤ k → xwd (am_u1 S (8 + 4 * c + 2).toNat 0) w k = xwd S w k := fun w k w0 k0 => am_u1_ne _ _ (by omega)
      have e1 : am_u1 S (8 + 4 * c + 2).toNat 0 1 = S 1 := am_u1_ne _ _ (by omega)
      refine ⟨?_, ?_, PIr_KS h.2.2 kk⟩
      · intro g g0 g2 y0
        have hgb := hX.2.2.1 g g0 g2
        by_cases e : g = xch S c 0
        · by_cases z : xisg S c = true
          · exfalso
            have : xgod (xkillS S c) g = -1 := by
              unfold xkillS xgod
              rw [e, am_u1_at, if_pos z]
            omega
          · have hng : ¬ xgod S (xch S c 0) = c := by
              intro q
              apply z
              unfold xisg
              rw [q]
              exact beq_self_eq_true c
            have e5 : xgod (xkillS S c) g = xgod S g := by
              unfold xkillS xgod
              rw [e, am_u1_at, if_neg z, xkrows_lo hW1 (by omega) (by omega), am_u1_ne _ _ (by omega)]
            rw [e5] at y0 ⊢
            have hne := CLy_no hy hc.1 hng g g0 g2
            rw [show xch (xkillS S c) (xgod S g) 2 = xch S (xgod S g) 2 from lo _ (by omega) (by omega) (by omega) (by omega)]
            exact h.1 g g0 g2 y0
        · have e5 : xgod (xkillS S c) g = xgod S g := lo _ (by omega) (by omega) (by omega) (by omega)
          rw [e5] at y0 ⊢
          have hne : xgod S g ≠ c := by
            intro q
            have := hy g g0 g2 y0
            rw [q] at this
            exact e this.symm
          rw [show xch (xkillS S c) (xgod S g) 2 = xch S (xgod S g) 2 from lo _ (by omega) (by omega) (by omega) (by omega)]
          exact h.1 g g0 g2 y0
      · intro w w0 w9 s
        rw [kk.1] at w9
        obtain ⟨a1, a2, a3, a4⟩ := (kk.2.2 w w0 w9).2 s
        obtain ⟨b2, b3, -⟩ := CL_k9 hx.1 ⟨w0, w9⟩ a1
        have hne : xwd S w 2 ≠ c := by
          intro q
          by_cases z : xisg S c = true
          · refine CLg_no hx.1 ⟨w0, w9⟩ a1 ?_
            rw [q]
            unfold xisg at z
            exact eq_of_beq z
          · have z : xisg S c = false := by cases zz : xisg S c with
              | true => exact absurd zz z
              | false => rfl
            rw [wd w 1 w0 (by decide), z] at s
            refine KR (M := M) hW1 (fun r r0 r5 u v hu hv ku kv => ?_) 6 (by decide) w w0 (by rw [e1]; exact w9) s ?_
            · rw [e1] at hu hv
              unfold kat at ku kv
              rw [w1 u 1 hu.1 (by decide), w1 u 2 hu.1 (by decide), w1 u 3 hu.1 (by decide)] at ku
              rw [w1 v 1 hv.1 (by decide), w1 v 2 hv.1 (by decide), w1 v 3 hv.1 (by decide)] at kv
              exact CL_uniq hx.1 hc ⟨r0, r5⟩ u v hu hv ku kv
            · rw [w1 w 2 w0 (by decide), w1 w 3 w0 (by decide)]
              exact ⟨q, by omega⟩
        rw [a2, a3, a4, show xch (xkillS S c) (xwd S w 2) 2 = xch S (xwd S w 2) 2 from lo _ (by omega) (by omega) (by omega) (by omega), show xch (xkillS S c) (xwd S w 2) 3 = xch S (xwd S w 2) 3 from lo _ (by omega) (by omega) (by omega) (by omega), show xch (xkillS S c) (xwd S w 2) 0 = xch S (xwd S w 2) 0 from lo _ (by omega) (by omega) (by omega) (by omega)]
        exact h.2.1 w w0 w9 a1
    · rw [if_neg q2]
      exact h
  · rw [if_neg q1]
    exact h
theorem KS_br1 {S : Nat → Int} {c row : Int} (hX : WX S) : KS S (xbr1 S c row) := by
  have hb := xwait_b hX (xch S c 0) row
  have hk := xkept_b hX c row
  unfold xbr1
  split
  · split
    · exact KS_refl S
    · exact KS_lay (by omega) (by decide)
  · split
    · exact KS_refl S
    · exact KS_falls hX (by omega)
theorem CL_b3 {M : am_M} {S : Nat → Int} (h : CL M S) {c : Int} (hc : 0 ≤ c ∧ c < 8) : 0 ≤ xch S c 3 ∧ xch S c 3 < 64 := by
  have := h.1.1.2.2.2.2.2.2 c hc.1 hc.2
  rwa [(h.2.1.2.1.2 c hc.1 hc.2).2.2.2.1] at this
theorem PI_breaks {M : am_M} {S : Nat → Int} (h : PI S) (hx : CX M S) (c r : Int) : PI (xbreaks S c r).2 := by
  have hX := hx.1.1.2
  have h8 := hX.1
  have h24 := hX.2.1
  unfold xbreaks
  by_cases q1 : 0 ≤ c ∧ c ≤ S 0 - 1
  · by_cases q2 : 0 ≤ r ∧ r ≤ 5
    · rw [if_pos q1, if_pos q2]
      (repeat' split) <;> first | exact h | skip
      show PI (xbrS S c r)
      have hc : 0 ≤ c ∧ c < 8 := by omega
      have k1 : KS S (xbr1 S c r) := KS_br1 hX
      have kk : KS S (xbrS S c r) := KS_trans k1 (KS_trans (KS_u (k := (8 + 4 * c + 1).toNat) (by omega) (by omega) (by omega)) (KS_u (k := (8 + 4 * c + 3).toNat) (by omega) (by omega) (by omega)))
      have lo : ∀ m : Nat, m < 40 → m ≠ 4 → m ≠ (8 + 4 * c + 1).toNat → m ≠ (8 + 4 * c + 3).toNat → xbrS S c r m = S m := fun m m40 m4 m5 m8 => by
        unfold xbrS xbr2
        rw [am_u1_ne _ _ m8, am_u1_ne _ _ m5, xbr1_lo hX m40 m4]
      refine ⟨PIg_c h.1 hX (fun k a b d => lo k b (by omega) (by omega) (by omega)), ?_, PIr_KS h.2.2 kk⟩
      intro w w0 w9 s
      rw [kk.1] at w9
      obtain ⟨a1, a2, a3, a4⟩ := (kk.2.2 w w0 w9).2 s
      obtain ⟨b2, b3, -⟩ := CL_k9 hx.1 ⟨w0, w9⟩ a1
      obtain ⟨p1, p2, p3⟩ := h.2.1 w w0 w9 a1
      rw [a2, a3, a4, show xch (xbrS S c r) (xwd S w 2) 2 = xch S (xwd S w 2) 2 from lo _ (by omega) (by omega) (by omega) (by omega), show xch (xbrS S c r) (xwd S w 2) 0 = xch S (xwd S w 2) 0 from lo _ (by omega) (by omega) (by omega) (by omega)]
      refine ⟨p1, ?_, p3⟩
      by_cases e : xwd S w 2 = c
      · have e3 : xch (xbrS S c r) c 3 = am_or (xch S c 3) (if xch S c 1 ≤ 0 then am_shl 1 r else 0) := by
          unfold xbrS xch
          rw [am_u1_at]
          unfold xbr2
          rw [am_u1_ne _ _ (by omega), xbr1_lo hX (by omega) (by omega)]
        have hb := CL_b3 hx.1 hc
        rw [e] at p2
        rw [e, e3]
        by_cases sp : xch S c 1 ≤ 0
        · rw [if_pos sp, bi_or6 hb q2 b3]
          have hne : xwd S w 3 ≠ r := by
            intro z
            have hk : xkept S c r = w := KS_kept (KS_refl S) (CL_uniq hx.1 hc q2) h24.2 ⟨w0, w9⟩ ⟨a1, e, z⟩
            have s1 : xwd (xbr1 S c r) w 1 = 0 := by
              have e4 : xwd (xbrS S c r) w 1 = xwd (xbr1 S c r) w 1 := by
                unfold xbrS xbr2 xwd
                rw [am_u1_ne _ _ (by omega), am_u1_ne _ _ (by omega)]
              rwa [e4] at s
            have hng : ¬ xisg S c = true := by
              intro y
              refine CLg_no hx.1 ⟨w0, w9⟩ a1 ?_
              rw [e]
              exact eq_of_beq y
            unfold xbr1 at s1
            rw [if_neg hng, hk, if_neg (by omega), if_pos sp] at s1
            exact xfalls_st hX ⟨w0, by omega⟩ s1
          rw [if_neg hne]
          exact p2
        · rw [if_neg sp, am_or_0 ⟨by omega, by omega⟩]
          exact p2
      · rw [show xch (xbrS S c r) (xwd S w 2) 3 = xch S (xwd S w 2) 3 from lo _ (by omega) (by omega) (by omega) (by omega)]
        exact p2
    · rw [if_pos q1, if_neg q2]
      exact h
  · rw [if_neg q1]
    exact h
theorem PI_puts {M : am_M} {S : Nat → Int} (h : PI S) (hx : CX M S) (c v : Int) : PI (xputs S c v).2 := by
  have hX := hx.1.1.2
  have h8 := hX.1
  have h24 := hX.2.1
  unfold xputs
  (repeat' split) <;> first | exact h | skip
  rename_i q1 q2 q3 q4
  show PI (xputS S c v)
  have hc : 0 ≤ c ∧ c < 8 := by omega
  obtain ⟨p1, p2, -, -⟩ := xpl_lv (xlow_pl q3)
  have lo : ∀ m : Nat, m < 40 → m ≠ 1 → xputS S c v m = S m := fun m hm h1 => by
    unfold xputS
    rw [xsits_lo h24.1 hm, xlay_lo h24.1 (by decide) hm, xlay_lo h24.1 (by decide) hm, xlay_lo h24.1 (by decide) hm, am_u1_ne _ _ h1]
  have e1 : xputS S c v 1 = S 1 + 1 := by
    unfold xputS
    rw [xsits_lo h24.1 (by decide), xlay_lo h24.1 (by decide) (by decide), xlay_lo h24.1 (by decide) (by decide), xlay_lo h24.1 (by decide) (by decide), am_u1_at]
  have wn : ∀ w k : Int, 0 ≤ w → w ≠ S 1 → 0 ≤ k → k < 7 → xwd (xputS S c v) w k = xwd S w k := fun w k w0 hw k0 k7 => by
    unfold xputS
    rw [xsits_wn h24.1 w0 ⟨k0, k7⟩ hw, xlay_ne ⟨h24.1, by decide, by decide⟩ ⟨w0, k0, k7⟩ (Or.inl hw), xlay_ne ⟨h24.1, by decide, by decide⟩ ⟨w0, k0, k7⟩ (Or.inl hw), xlay_ne ⟨h24.1, by decide, by decide⟩ ⟨w0, k0, k7⟩ (Or.inl hw)]
    unfold xwd
    rw [am_u1_ne _ _ (by omega)]
  have ch : ∀ k : Int, 0 ≤ k → k < 4 → xch (xputS S c v) c k = xch S c k := fun k k0 k4 => lo _ (by omega) (by omega)
  refine ⟨PIg_c h.1 hX (fun k a b d => lo k b (by omega)), ?_, ?_⟩
  · intro w w0 w9 s
    rw [e1] at w9
    by_cases e : w = S 1
    · have e2 : xwd (xputS S c v) w 2 = c := by
        rw [e]
        unfold xputS xsits
        rw [xlay_ne ⟨h24.1, by decide, by decide⟩ ⟨h24.1, by decide, by decide⟩ (Or.inr (by decide)), xlay_ne ⟨h24.1, by decide, by decide⟩ ⟨h24.1, by decide, by decide⟩ (Or.inr (by decide)), xlay_at]
      have e3 : xwd (xputS S c v) w 3 = xlow S c := by
        rw [e]
        unfold xputS xsits
        rw [xlay_ne ⟨h24.1, by decide, by decide⟩ ⟨h24.1, by decide, by decide⟩ (Or.inr (by decide)), xlay_at]
      have e4 : xwd (xputS S c v) w 4 = xch S c 0 := by
        rw [e]
        unfold xputS xsits
        rw [xlay_at, xlay_ch h24.1 (by decide) hc (by decide), xlay_ch h24.1 (by decide) hc (by decide), xlay_ch h24.1 (by decide) hc (by decide), xlay_ch h24.1 (by decide) hc (by decide), xlay_ch h24.1 (by decide) hc (by decide), xlay_ch h24.1 (by decide) hc (by decide)]
        exact am_u1_ne _ _ (by omega)
      rw [e2, e3, e4, ch 2 (by decide) (by decide), ch 3 (by decide) (by decide), ch 0 (by decide) (by decide)]
      exact ⟨p1, p2, rfl⟩
    · rw [wn w 1 w0 e (by decide) (by decide)] at s
      have hb := CX_kc hx ⟨w0, by omega⟩ s
      rw [wn w 2 w0 e (by decide) (by decide), wn w 3 w0 e (by decide) (by decide), wn w 4 w0 e (by decide) (by decide), show xch (xputS S c v) (xwd S w 2) 2 = xch S (xwd S w 2) 2 from lo _ (by omega) (by omega), show xch (xputS S c v) (xwd S w 2) 3 = xch S (xwd S w 2) 3 from lo _ (by omega) (by omega), show xch (xputS S c v) (xwd S w 2) 0 = xch S (xwd S w 2) 0 from lo _ (by omega) (by omega)]
      exact h.2.1 w w0 (by omega) s
  · have hr := h.2.2
    unfold PIr at hr ⊢
    rw [e1, lo 3 (by decide) (by decide), hr, show (S 1 + 1).toNat = (S 1).toNat + 1 by omega]
    simp only [sumW]
    have e6 : xwd (xputS S c v) ((S 1).toNat : Int) 6 = 0 := by
      rw [show (((S 1).toNat : Nat) : Int) = S 1 by omega]
      unfold xputS
      rw [xsits_6 h24.1 h24.1, xlay_at]
    rw [e6, sumW_congr (fun k hk => wn (k : Int) 6 (by omega) (by omega) (by decide) (by decide))]
    omega
theorem PI_write {M : am_M} {S : Nat → Int} (h : PI S) (hx : CX M S) (w v : Int) : PI (xwriteS S w v) := by
  have hX := hx.1.1.2
  have h8 := hX.1
  unfold xwriteS
  (repeat' split) <;> first | exact h | skip
  rename_i q1 q2 q3
  have lo : ∀ m : Nat, m < 40 → xlay S w 0 v m = S m := fun m hm => xlay_lo (by omega) (by decide) hm
  have hK : KS S (xlay S w 0 v) := KS_lay2 (by omega) (Or.inl rfl)
  exact ⟨PIg_c h.1 hX (fun k a b _ => lo k b), PIk_t h.2.1 hx hK (fun c c0 c9 => ⟨lo _ (by omega), lo _ (by omega), lo _ (by omega)⟩), PIr_KS h.2.2 hK⟩
theorem PI_carry {M : am_M} {S : Nat → Int} (h : PI S) (hx : CX M S) (w c : Int) : PI (xcarS S w c) ∧ xlost (xcarS S w c) = xlost S := by
  have h8 := hx.1.1.2.1
  unfold xcarS
  (repeat' split) <;> first | exact ⟨h, rfl⟩ | skip
  rename_i q1 q2 q3
  unfold xcarC at q3
  simp only [Bool.and_eq_true, decide_eq_true_eq, Bool.not_eq_true', decide_eq_false_iff_not] at q3
  refine ⟨PI_sits h hx (by omega) (by omega) q3.2.2, ?_⟩
  have hS : SW S (xsits S w c (xlow S c)) w := ⟨fun k hk _ => xsits_lo q1.1 hk, fun u k u0 hu k0 k7 => xsits_wn q1.1 u0 ⟨k0, k7⟩ hu⟩
  rw [xlost_up hS (by omega), q3.1]
  have e : xwd (xsits S w c (xlow S c)) w 1 = 0 := by
    unfold xsits
    rw [xlay_ne ⟨q1.1, by decide, by decide⟩ ⟨q1.1, by decide, by decide⟩ (Or.inr (by decide)), xlay_ne ⟨q1.1, by decide, by decide⟩ ⟨q1.1, by decide, by decide⟩ (Or.inr (by decide)), xlay_ne ⟨q1.1, by decide, by decide⟩ ⟨q1.1, by decide, by decide⟩ (Or.inr (by decide)), xlay_at]
  rw [e, if_neg (by decide)]
  omega
theorem xsits_1 {S : Nat → Int} {w c r : Int} (hw : 0 ≤ w) : xwd (xsits S w c r) w 1 = 0 := by
  unfold xsits
  rw [xlay_ne ⟨hw, by decide, by decide⟩ ⟨hw, by decide, by decide⟩ (Or.inr (by decide)), xlay_ne ⟨hw, by decide, by decide⟩ ⟨hw, by decide, by decide⟩ (Or.inr (by decide)), xlay_ne ⟨hw, by decide, by decide⟩ ⟨hw, by decide, by decide⟩ (Or.inr (by decide)), xlay_at]
theorem SW_sits {S : Nat → Int} {w c r : Int} (hw : 0 ≤ w) : SW S (xsits S w c r) w := ⟨fun k hk _ => xsits_lo hw hk, fun u k u0 hu k0 k7 => xsits_wn hw u0 ⟨k0, k7⟩ hu⟩
theorem PI_em {M : am_M} {S : Nat → Int} (h : PI S) (hx : CX M S) {c : Int} (hc : 0 ≤ c ∧ c < 8) (n : Nat) (hn : n ≤ 6) : PI (xemS S c n).1 ∧ xlost (xemS S c n).1 = xlost S := by
  induction n with
  | zero => exact ⟨h, rfl⟩
  | succ n ih =>
    obtain ⟨i1, i2⟩ := ih (by omega)
    have hxn := (CX_em hx hc n (by omega)).1
    have hX := hxn.1.1.2
    have h8 := hX.1
    have hk := xkept_b hX c n
    unfold xemS
    (repeat' split) <;> first | exact ⟨i1, i2⟩ | skip
    rename_i q1 q2 q3
    have ht := xtarget_b hX (xch (xemS S c n).1 c 0) c
    obtain ⟨p1, p2, p3⟩ := xtarget_pl (S := (xemS S c n).1) (f := xch (xemS S c n).1 c 0) (wt := c) (by omega)
    have hw : 0 ≤ xkept (xemS S c n).1 c n ∧ xkept (xemS S c n).1 c n < (xemS S c n).1 1 := by omega
    refine ⟨PI_sits i1 hxn hw (by omega) p1, ?_⟩
    have hka := ((hxn.1.2.2.1.2.1 c n hc (by omega)).2 _ hw.1 hw.2).mpr (CL_kept hxn.1 hc (r := (n : Int)) (by omega)).symm
    dsimp only
    rw [xlost_up (SW_sits hw.1) hw, xsits_1 hw.1, hka.1, i2, if_neg (by decide)]
    omega
theorem PI_empt {M : am_M} {S : Nat → Int} (h : PI S) (hx : CX M S) (c : Int) : PI (xempt S c).2 ∧ xlost (xempt S c).2 = xlost S := by
  have h8 := hx.1.1.2.1
  unfold xempt
  (repeat' split) <;> first | exact ⟨h, rfl⟩ | exact PI_em h hx (by omega) 6 (by decide)
theorem xlost_u {S : Nat → Int} {k : Nat} {x : Int} (hk : k < 40) (h1 : k ≠ 1) : xlost (am_u1 S k x) = xlost S := by
  unfold xlost
  rw [am_u1_ne S x (Ne.symm h1)]
  congr 1
  funext w
  rw [show xwd (am_u1 S k x) w 1 = xwd S w 1 from am_u1_ne _ _ (by omega)]
theorem PI_ra {M : am_M} {S : Nat → Int} (h : PI S) (hx : CX M S) {f : Int} (hf : 0 ≤ f ∧ f ≤ 2) : PI (xra S f) ∧ xlost (xra S f) = xlost S := by
  have hX := hx.1.1.2
  have h8 := hX.1
  have h24 := hX.2.1
  have hb := xfirst_b hX f
  unfold xra
  by_cases q1 : xfirst S f < 0
  · rw [if_pos q1]
    exact ⟨h, rfl⟩
  · rw [if_neg q1]
    have hw : 0 ≤ xfirst S f ∧ xfirst S f < S 1 := by omega
    have hs : xwd S (xfirst S f) 1 = 1 := (xfirstN_w (S := S) (f := f) (n := (S 1).toNat) (by show 0 ≤ xfirst S f; omega)).1
    have lo : ∀ m : Nat, m < 40 → xlay S (xfirst S f) 1 2 m = S m := fun m hm => xlay_lo hw.1 (by decide) hm
    by_cases q2 : xtarget (xlay S (xfirst S f) 1 2) f (-1) < 0
    · rw [if_pos q2, xlay_xlay]
      have lo2 : ∀ m : Nat, m < 40 → xlay S (xfirst S f) 1 1 m = S m := fun m hm => xlay_lo hw.1 (by decide) hm
      have hK : KS S (xlay S (xfirst S f) 1 1) := KS_lay hw.1 (by decide)
      refine ⟨⟨PIg_c h.1 hX (fun k a b _ => lo2 k b), PIk_t h.2.1 hx hK (fun c c0 c9 => ⟨lo2 _ (by omega), lo2 _ (by omega), lo2 _ (by omega)⟩), PIr_KS h.2.2 hK⟩, ?_⟩
      rw [xlost_up (SW_lay hw.1 (by decide)) hw, xlay_at, hs]
      omega
    · rw [if_neg q2]
      have hK : KS S (xlay S (xfirst S f) 1 2) := KS_lay hw.1 (by decide)
      have ht := xtarget_b (WX_lay hX (by omega) (by decide) (by omega) (by omega) : WX (xlay S (xfirst S f) 1 2)) f (-1)
      obtain ⟨p1, p2, p3⟩ := xtarget_pl (S := xlay S (xfirst S f) 1 2) (f := f) (wt := -1) (by omega)
      obtain ⟨l1, l2, -, -⟩ := xpl_lv (xlow_pl p1)
      generalize ec : xtarget (xlay S (xfirst S f) 1 2) f (-1) = c at *
      generalize er : xlow (xlay S (xfirst S f) 1 2) c = r at *
      have e0 : xraS S f = xlay (xsits S (xfirst S f) c r) (xfirst S f) 6 (xwd S (xfirst S f) 6 + 1) := by
        unfold xraS
        rw [ec, er, xsits_lay, xsits_6 hw.1 hw.1]
      have cc : ∀ k : Int, 0 ≤ k → k < 4 → xch (xlay S (xfirst S f) 1 2) c k = xch S c k := fun k k0 k4 => lo _ (by omega)
      rw [cc 2 (by decide) (by decide)] at l1
      rw [cc 3 (by decide) (by decide)] at l2
      have s1 := PIk_sits (r := r) h.2.1 hx hw (c := c) ⟨by omega, by omega⟩ l1 l2
      rw [e0]
      generalize eT : xlay (xsits S (xfirst S f) c r) (xfirst S f) 6 (xwd S (xfirst S f) 6 + 1) = T
      have tlo : ∀ m : Nat, m < 40 → T m = S m := fun m hm => by rw [← eT, xlay_lo hw.1 (by decide) hm, xsits_lo hw.1 hm]
      have twd : ∀ w k : Int, 0 ≤ w → 0 ≤ k → k < 6 → xwd T w k = xwd (xsits S (xfirst S f) c r) w k := fun w k w0 k0 k6 => by rw [← eT, xlay_ne ⟨hw.1, by decide, by decide⟩ ⟨w0, k0, by omega⟩ (Or.inr (by omega))]
      have U : ∀ x w k : Int, 0 ≤ w → 0 ≤ k → xwd (am_u1 T 3 x) w k = xwd T w k := fun x w k w0 k0 => am_u1_ne _ _ (by omega)
      refine ⟨⟨PIg_c h.1 hX (fun k a b _ => by rw [am_u1_ne _ _ (by omega)]; exact tlo k b), ?_, ?_⟩, ?_⟩
      · intro w w0 w9 s
        rw [am_u1_ne _ _ (by decide), tlo 1 (by decide)] at w9
        rw [U _ w 1 w0 (by decide), twd w 1 w0 (by decide) (by decide)] at s
        rw [U _ w 2 w0 (by decide), twd w 2 w0 (by decide) (by decide), U _ w 3 w0 (by decide), twd w 3 w0 (by decide) (by decide), U _ w 4 w0 (by decide), twd w 4 w0 (by decide) (by decide)]
        have hz : xsits S (xfirst S f) c r 1 = S 1 := xsits_lo hw.1 (by decide)
        have p := s1 w w0 (by rw [hz]; exact w9) s
        have hb2 : 0 ≤ xwd (xsits S (xfirst S f) c r) w 2 ∧ xwd (xsits S (xfirst S f) c r) w 2 < 8 := by
          by_cases e : w = xfirst S f
          · have : xwd (xsits S (xfirst S f) c r) w 2 = c := by
              rw [e]
              unfold xsits
              rw [xlay_ne ⟨hw.1, by decide, by decide⟩ ⟨hw.1, by decide, by decide⟩ (Or.inr (by decide)), xlay_ne ⟨hw.1, by decide, by decide⟩ ⟨hw.1, by decide, by decide⟩ (Or.inr (by decide)), xlay_at]
            omega
          · rw [xsits_wn hw.1 w0 (by decide) e] at s ⊢
            have := CX_kc hx ⟨w0, w9⟩ s
            omega
        have ec2 : ∀ k : Int, 0 ≤ k → k < 4 → xch (am_u1 T 3 (T 3 + 1)) (xwd (xsits S (xfirst S f) c r) w 2) k = xch (xsits S (xfirst S f) c r) (xwd (xsits S (xfirst S f) c r) w 2) k := fun k k0 k4 => by
          unfold xch
          rw [am_u1_ne _ _ (by omega), tlo _ (by omega), xsits_lo hw.1 (by omega)]
        rw [ec2 2 (by decide) (by decide), ec2 3 (by decide) (by decide), ec2 0 (by decide) (by decide)]
        exact p
      · have hr := h.2.2
        unfold PIr at hr ⊢
        rw [am_u1_at, am_u1_ne _ _ (show (1 : Nat) ≠ 3 by decide), tlo 1 (by decide), tlo 3 (by decide), hr]
        refine (sumW_up (a := (xfirst S f).toNat) (by omega) (fun k hk hn => ?_) ?_).symm
        · rw [U _ k 6 (by omega) (by decide), ← eT, xlay_ne ⟨hw.1, by decide, by decide⟩ ⟨by omega, by decide, by decide⟩ (Or.inl (by omega)), xsits_6 hw.1 (by omega)]
        · rw [show (((xfirst S f).toNat : Nat) : Int) = xfirst S f by omega, U _ _ 6 hw.1 (by decide), ← eT, xlay_at]
      · rw [xlost_u (by decide) (by decide)]
        have hS : SW S T (xfirst S f) := by rw [← eT]; exact SW_trans (SW_sits hw.1) (SW_lay hw.1 (by decide))
        rw [xlost_up hS hw, twd _ 1 hw.1 (by decide) (by decide), xsits_1 hw.1, hs]
        omega
theorem PI_2 {M : am_M} {S : Nat → Int} (h : PI S) (hx : CX M S) (x : Int) : PI (am_u1 S 2 x) := by
  have hX := hx.1.1.2
  have h8 := hX.1
  have hK : KS S (am_u1 S 2 x) := KS_u (by decide) (by decide) (by decide)
  exact ⟨PIg_c h.1 hX (fun k a b _ => am_u1_ne _ _ (by omega)), PIk_t h.2.1 hx hK (fun c c0 c9 => ⟨am_u1_ne _ _ (by omega), am_u1_ne _ _ (by omega), am_u1_ne _ _ (by omega)⟩), PIr_KS h.2.2 hK⟩
theorem PI_tF {M : am_M} {S : Nat → Int} (h : PI S) (hx : CX M S) (n : Nat) : PI (xtF S n) ∧ xlost (xtF S n) = xlost S := by
  induction n with
  | zero => exact ⟨h, rfl⟩
  | succ n ih =>
    have c0 := CX_tI hx n
    have c1 := CX_raise c0 (f := 0) (by decide)
    have c2 := CX_raise c1 (f := 1) (by decide)
    obtain ⟨a1, a2⟩ := PI_ra ih.1 c0 (f := 0) (by decide)
    obtain ⟨b1, b2⟩ := PI_ra a1 c1 (f := 1) (by decide)
    obtain ⟨d1, d2⟩ := PI_ra b1 c2 (f := 2) (by decide)
    exact ⟨d1, d2.trans (b2.trans (a2.trans ih.2))⟩
theorem PI_ticks {M : am_M} {S : Nat → Int} (h : PI S) (hx : CX M S) (t : Int) : PI (xticks S t).2 ∧ xlost (xticks S t).2 = xlost S := by
  have hX := hx.1.1.2
  unfold xticks
  (repeat' split) <;> first | exact ⟨h, rfl⟩ | skip
  show PI (xtS S t.toNat) ∧ xlost (xtS S t.toNat) = xlost S
  obtain ⟨a, b⟩ := PI_tF h hx t.toNat
  rw [(xtS_F hX t.toNat).1]
  exact ⟨PI_2 a (CX_tI hx t.toNat) _, (xlost_u (by decide) (by decide)).trans b⟩
theorem PI_elects {M : am_M} {S : Nat → Int} (h : PI S) (hx : CX M S) (c : Int) : PI (xelects S c).2 ∧ xlost (xelects S c).2 = xlost S := by
  have hX := hx.1.1.2
  have h8 := hX.1
  unfold xelects
  (repeat' split) <;> first | exact ⟨h, rfl⟩ | skip
  rename_i q1 q2 q3 q4
  have hc : 0 ≤ c ∧ c < 8 := by omega
  have hf := hX.2.2.2.1 c hc.1 hc.2
  have hK : KS S (am_u1 S (5 + xch S c 0).toNat c) := KS_u (by omega) (by omega) (by omega)
  have ch : ∀ a k : Int, 0 ≤ a → 0 ≤ k → xch (am_u1 S (5 + xch S c 0).toNat c) a k = xch S a k := fun a k a0 k0 => am_u1_ne _ _ (by omega)
  refine ⟨⟨?_, PIk_t h.2.1 hx hK (fun a a0 a9 => ⟨ch a 0 a0 (by decide), ch a 2 a0 (by decide), ch a 3 a0 (by decide)⟩), PIr_KS h.2.2 hK⟩, xlost_u (by omega) (by omega)⟩
  intro g g0 g2 y0
  dsimp only at y0 ⊢
  by_cases e : g = xch S c 0
  · have e1 : xgod (am_u1 S (5 + xch S c 0).toNat c) g = c := by
      rw [e]
      exact am_u1_at _ _ _
    rw [e1, ch c 2 hc.1 (by decide)]
    exact q2
  · have e1 : xgod (am_u1 S (5 + xch S c 0).toNat c) g = xgod S g := am_u1_ne _ _ (by omega)
    rw [e1] at y0 ⊢
    rw [ch _ 2 y0 (by decide)]
    exact h.1 g g0 g2 y0
theorem PI_chip {M : am_M} {S : Nat → Int} (h : PI S) (hx : CX M S) (f sp : Int) : PI (xchipS S f sp) := by
  have hX := hx.1.1.2
  have h8 := hX.1
  unfold xchipS
  (repeat' split) <;> first | exact h | skip
  rename_i q1 q2 q3
  obtain ⟨-, t1, -⟩ := xaddc_c (f := f) (sp := sp) h8.1
  have wd : ∀ w k : Int, 0 ≤ w → 0 ≤ k → xwd (xaddc S f sp) w k = xwd S w k := fun w k w0 k0 => t1 _ (by omega) (by omega)
  have hK : KS S (xaddc S f sp) := by
    refine ⟨t1 1 (by decide) (by omega), t1 3 (by decide) (by omega), fun w w0 w9 => ⟨wd w 6 w0 (by decide), fun z => ?_⟩⟩
    rw [wd w 1 w0 (by decide)] at z
    exact ⟨z, wd w 2 w0 (by decide), wd w 3 w0 (by decide), wd w 4 w0 (by decide)⟩
  have ch : ∀ c k : Int, 0 ≤ c → c < S 0 → 0 ≤ k → k < 4 → xch (xaddc S f sp) c k = xch S c k := fun c k c0 c9 k0 k4 => t1 _ (by omega) (by omega)
  refine ⟨?_, PIk_t h.2.1 hx hK (fun c c0 c9 => ⟨ch c 0 c0 c9 (by decide) (by decide), ch c 2 c0 c9 (by decide) (by decide), ch c 3 c0 c9 (by decide) (by decide)⟩), PIr_KS h.2.2 hK⟩
  intro g g0 g2 y0
  have e1 : xgod (xaddc S f sp) g = xgod S g := t1 _ (by omega) (by omega)
  rw [e1] at y0 ⊢
  have hl := (hx.1.2.1.2.2.1 g g0 g2).2
  rw [ch _ 2 y0 hl (by decide) (by decide)]
  exact h.1 g g0 g2 y0
