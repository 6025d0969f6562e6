/-! ===== what acts() asks of each change ===== -/
theorem PH_S {h : am_H} {S : Nat → Int} {n : Int} (hP : PH h S n) : gP h 0 0 = S 0 ∧ gP h 0 2 = S 1 ∧ gP h 0 3 = S 2 ∧ gP h 0 4 = S 3 := (PH_CX hP).1.2.1.1.1
theorem gcnt_5 {h : am_H} {S : Nat → Int} {n : Int} (hP : PH h S n) (a l : Int) : gcnt (gP h) a l 5 = xlost S := by
  show gP h 0 2 - ywk (gP h) - yww (gP h) = _
  rw [CL_w2 (PH_CX hP).1, xmany_1]
  rfl
theorem PH_act {h : am_H} {S S' : Nat → Int} {M' : am_M} {n n' a : Int} (hP : PH h S n) (hno : a < 0 → S' = S) (hC : 0 ≤ a → IW M' S' n') (hn : n ≤ n') : PH (gset (am_U h (h.2 1) M') a) S' n' := by
  by_cases ha : a < 0
  · rw [hno ha]
    exact PH_mono (PH_no hP ha) hn
  · exact PH_set hP.1 (hC (by omega)) (by omega)
theorem lastW_congr {p q : Nat → Bool} {n : Nat} (h : ∀ k, k < n → p k = q k) : lastW p n = lastW q n := by
  induction n with
  | zero => rfl
  | succ n ih =>
    simp only [lastW]
    rw [h n (by omega), ih (fun k hk => h k (by omega))]
section XPUT
variable {S : Nat → Int} {c v : Int}
theorem xputS_lo (h1 : 0 ≤ S 1) {m : Nat} (hm : m < 40) (hm1 : m ≠ 1) : xputS S c v m = S m := by
  unfold xputS
  rw [xsits_lo h1 hm, xlay_lo h1 (by decide) hm, xlay_lo h1 (by decide) hm, xlay_lo h1 (by decide) hm, am_u1_ne _ _ hm1]
theorem xputS_1 (h1 : 0 ≤ S 1) : xputS S c v 1 = S 1 + 1 := by
  unfold xputS
  rw [xsits_lo h1 (by decide), xlay_lo h1 (by decide) (by decide), xlay_lo h1 (by decide) (by decide), xlay_lo h1 (by decide) (by decide), am_u1_at]
theorem xputS_wn (h1 : 0 ≤ S 1) {w k : Int} (w0 : 0 ≤ w) (hw : w ≠ S 1) (k0 : 0 ≤ k) (k7 : k < 7) : xwd (xputS S c v) w k = xwd S w k := by
  unfold xputS
  rw [xsits_wn h1 w0 ⟨k0, k7⟩ hw, xlay_ne ⟨h1, by decide, by decide⟩ ⟨w0, k0, k7⟩ (Or.inl hw), xlay_ne ⟨h1, by decide, by decide⟩ ⟨w0, k0, k7⟩ (Or.inl hw), xlay_ne ⟨h1, by decide, by decide⟩ ⟨w0, k0, k7⟩ (Or.inl hw)]
  unfold xwd
  rw [am_u1_ne _ _ (by omega)]
theorem xputS_at (h1 : 0 ≤ S 1) : xwd (xputS S c v) (S 1) 1 = 0 ∧ xwd (xputS S c v) (S 1) 2 = c ∧ xwd (xputS S c v) (S 1) 3 = xlow S c ∧ xwd (xputS S c v) (S 1) 0 = v := by
  refine ⟨xsits_1 h1, ?_, ?_, ?_⟩
  · unfold xputS xsits
    rw [xlay_ne ⟨h1, by decide, by decide⟩ ⟨h1, by decide, by decide⟩ (Or.inr (by decide)), xlay_ne ⟨h1, by decide, by decide⟩ ⟨h1, by decide, by decide⟩ (Or.inr (by decide)), xlay_at]
  · unfold xputS xsits
    rw [xlay_ne ⟨h1, by decide, by decide⟩ ⟨h1, by decide, by decide⟩ (Or.inr (by decide)), xlay_at]
  · unfold xputS xsits
    rw [xlay_ne ⟨h1, by decide, by decide⟩ ⟨h1, by decide, by decide⟩ (Or.inr (by decide)), xlay_ne ⟨h1, by decide, by decide⟩ ⟨h1, by decide, by decide⟩ (Or.inr (by decide)), xlay_ne ⟨h1, by decide, by decide⟩ ⟨h1, by decide, by decide⟩ (Or.inr (by decide)), xlay_ne ⟨h1, by decide, by decide⟩ ⟨h1, by decide, by decide⟩ (Or.inr (by decide)), xlay_ne ⟨h1, by decide, by decide⟩ ⟨h1, by decide, by decide⟩ (Or.inr (by decide)), xlay_ne ⟨h1, by decide, by decide⟩ ⟨h1, by decide, by decide⟩ (Or.inr (by decide)), xlay_at]
theorem xputS_pls (hX : WX S) (hc : 0 ≤ c ∧ c < 8) (hp : xpls S c ≠ 0) : xpls (xputS S c v) c = xpls S c - 1 := by
  have h1 := hX.2.1
  have hl6 := xlow_lt hp
  have hl0 := xlow_0 S c
  have hpl := xlow_pl hp
  have ch : ∀ k : Int, 0 ≤ k → k < 4 → xch (xputS S c v) c k = xch S c k := fun k k0 k4 => xputS_lo h1.1 (by omega) (by omega)
  obtain ⟨a1, a2, a3, a0⟩ := xputS_at (c := c) (v := v) h1.1
  have e1 : (xputS S c v 1).toNat = (S 1).toNat + 1 := by rw [xputS_1 h1.1]; omega
  have hf := hX.2.2.2.1 c hc.1 hc.2
  have eg : xisg (xputS S c v) c = xisg S c := by
    unfold xisg
    rw [ch 0 (by decide) (by decide), show xgod (xputS S c v) (xch S c 0) = xgod S (xch S c 0) from xputS_lo h1.1 (by omega) (by omega)]
  have hs : ∀ p : Nat → Bool, lastW p ((S 1).toNat + 1) = if p (S 1).toNat = true then S 1 else lastW p (S 1).toNat := by
    intro p
    show (if p (S 1).toNat = true then (((S 1).toNat : Nat) : Int) else lastW p (S 1).toNat) = _
    rw [show (((S 1).toNat : Nat) : Int) = S 1 by omega]
  have ek : ∀ r : Int, xkept (xputS S c v) c r = if r = xlow S c then S 1 else xkept S c r := by
    intro r
    unfold xkept
    have c1 : (fun u : Nat => xwd (xputS S c v) u 1 == 0 && xwd (xputS S c v) u 2 == c && xwd (xputS S c v) u 3 == r) (S 1).toNat = decide (r = xlow S c) := by
      simp only [show (((S 1).toNat : Nat) : Int) = S 1 by omega, a1, a2, a3]
      by_cases q : r = xlow S c
      · rw [q]; simp
      · rw [decide_eq_false q]; simp; exact fun z => q z.symm
    dsimp only at c1
    rw [e1, hs, c1]
    by_cases q : r = xlow S c
    · rw [if_pos q, if_pos (decide_eq_true q)]
    · rw [if_neg q, if_neg (by rw [decide_eq_false q]; decide)]
      exact lastW_congr (fun k hk => by rw [xputS_wn h1.1 (by omega) (by omega) (by decide) (by decide), xputS_wn h1.1 (by omega) (by omega) (by decide) (by decide), xputS_wn h1.1 (by omega) (by omega) (by decide) (by decide)])
  have ew : ∀ f r : Int, xwait (xputS S c v) f r = xwait S f r := by
    intro f r
    unfold xwait
    have c1 : (fun u : Nat => xwd (xputS S c v) u 1 == 1 && xwd (xputS S c v) u 4 == f && xwd (xputS S c v) u 3 == r) (S 1).toNat = false := by
      simp only [show (((S 1).toNat : Nat) : Int) = S 1 by omega, a1]
      simp
    dsimp only at c1
    rw [e1, hs, c1, if_neg (by decide)]
    exact lastW_congr (fun k hk => by rw [xputS_wn h1.1 (by omega) (by omega) (by decide) (by decide), xputS_wn h1.1 (by omega) (by omega) (by decide) (by decide), xputS_wn h1.1 (by omega) (by omega) (by decide) (by decide)])
  have key : ∀ r : Int, xpl (xputS S c v) c r = if r = xlow S c then false else xpl S c r := by
    intro r
    unfold xpl
    rw [eg, ch 2 (by decide) (by decide), ch 3 (by decide) (by decide), ch 0 (by decide) (by decide), ek, ew]
    by_cases q : r = xlow S c
    · rw [if_pos q, if_pos q, decide_eq_false (show ¬ S 1 < 0 by omega)]
      simp
    · rw [if_neg q, if_neg q]
  have hu : cntW (fun r => xpl S c r) 6 = cntW (fun r => xpl (xputS S c v) c r) 6 + 1 := by
    refine cntW_up (a := (xlow S c).toNat) (by omega) ?_ ?_ (fun w hw hn => ?_)
    · rw [key, if_pos (by omega)]
    · rw [show (((xlow S c).toNat : Nat) : Int) = xlow S c by omega]
      exact hpl
    · rw [key, if_neg (by omega)]
  unfold xpls
  omega
end XPUT
section FACTS
variable {h : am_H} {S : Nat → Int} {n : Int}
theorem F_put (hP : PH h S n) {c v : Int} (hc : 0 ≤ c ∧ c < gP h 0 0) (hv : 0 ≤ v ∧ v ≤ 255) : ∃ (G : am_H) (S1 : Nat → Int), G = gset (am_U h (h.2 1) (yput (gP h) c v).2) (yput (gP h) c v).1 ∧ PH G S1 n ∧ gP G 0 0 = gP h 0 0 ∧ gP G 0 3 = gP h 0 3 ∧ am_R (yput (gP h) c v).1 ∧
    ((yput (gP h) c v).1 < 0 → (gchip (gP h) c 4 = 0 → (yput (gP h) c v).1 = -1000002) ∧ (¬ gchip (gP h) c 4 = 0 → (yput (gP h) c v).1 = -1000003)) ∧ (0 ≤ (yput (gP h) c v).1 → (yput (gP h) c v).1 = gP h 0 2 ∧ gread (gP G) (yput (gP h) c v).1 = v ∧ gchip (gP G) c 4 = gchip (gP h) c 4 - 1) := by
  have hx := PH_CX hP
  have hX := hx.1.1.2
  have h8 := hX.1
  have h24 := hX.2.1
  obtain ⟨s0, s1, s2, s3⟩ := PH_S hP
  obtain ⟨e1, hx1⟩ := CX_puts hx c v
  have hc8 : 0 ≤ c ∧ c < 8 := by omega
  have ep : gchip (gP h) c 4 = xpls S c := (gchip_4 hc).trans (CL_pls hx.1 hc8)
  have hPG : PH (gset (am_U h (h.2 1) (yput (gP h) c v).2) (yput (gP h) c v).1) (xputs S c v).2 n := PH_act hP (fun q => (xputs_no hX c v (by rw [← e1]; exact q)).1) (fun _ => ⟨⟨CZ_puts (PH_CZ hP) c v, VX_puts hX hP.2.1.2 c v⟩, PI_puts hP.2.2 hx c v⟩) (Int.le_refl _)
  have ev : xputs S c v = if xpls S c = 0 then (-1000002, S) else if S 1 = 24 then (-1000003, S) else (S 1, xputS S c v) := by
    unfold xputs
    rw [if_pos (by omega), if_pos hv]
  obtain ⟨g0, g1, g2, g3⟩ := PH_S hPG
  refine ⟨_, _, rfl, hPG, ?_, ?_, ?_, ?_, ?_⟩
  · rw [g0, s0, ev]
    (repeat' split) <;> first | rfl | exact xputS_lo h24.1 (by decide) (by decide)
  · rw [g2, s2, ev]
    (repeat' split) <;> first | rfl | exact xputS_lo h24.1 (by decide) (by decide)
  · rw [e1, ev]
    (repeat' split) <;> exact ⟨by first | decide | (dsimp only; omega), by first | decide | (dsimp only; omega)⟩
  · rw [e1, ep, ev]
    intro q
    refine ⟨fun z => by rw [if_pos z], fun z => ?_⟩
    rw [if_neg z] at q ⊢
    by_cases y : S 1 = 24
    · rw [if_pos y]
    · rw [if_neg y] at q
      dsimp only at q
      omega
  · intro q
    have q1 := q
    rw [e1, ev] at q1
    have z : ¬ xpls S c = 0 := by
      intro z
      rw [if_pos z] at q1
      dsimp only at q1
      omega
    rw [if_neg z] at q1
    have y : ¬ S 1 = 24 := by
      intro y
      rw [if_pos y] at q1
      dsimp only at q1
      omega
    have ea : (yput (gP h) c v).1 = S 1 := by rw [e1, ev, if_neg z, if_neg y]
    have eS : (xputs S c v).2 = xputS S c v := by rw [ev, if_neg z, if_neg y]
    refine ⟨by rw [ea, s1], ?_, ?_⟩
    · rw [CL_gread (PH_CX hPG).1, ea, eS]
      obtain ⟨a1, a2, a3, a0⟩ := xputS_at (c := c) (v := v) h24.1
      unfold xread
      rw [xputS_1 h24.1, if_pos (by omega), a1, if_neg (by decide), a0]
    · rw [gchip_4 (by rw [g0, eS, xputS_lo h24.1 (by decide) (by decide)]; omega), CL_pls (PH_CX hPG).1 hc8, eS, ep, xputS_pls hX hc8 z]
theorem xkillS_lo {S : Nat → Int} (hX : WX S) {c : Int} (hc : 0 ≤ c ∧ c < 8) {m : Nat} (hm : m < 5) (h4 : m ≠ 4) : xkillS S c m = S m := by
  have hf := hX.2.2.2.1 c hc.1 hc.2
  unfold xkillS
  rw [am_u1_ne _ _ (by omega), xkrows_lo (WX_chip hX hc (by decide)) (by omega) h4, am_u1_ne _ _ (by omega)]
theorem xkills_0 {M : am_M} {S : Nat → Int} (hx : CX M S) {c : Int} (hc : 0 ≤ c ∧ c < S 0) : (xch S c 2 = 1 → 0 ≤ (xkills S c).1 ∧ (xkills S c).1 ≤ 24 ∧ xlost (xkills S c).2 = xlost S + (xkills S c).1 ∧ xch (xkills S c).2 c 2 = 0) ∧ (¬ xch S c 2 = 1 → (xkills S c).1 = -1000002 ∧ (xkills S c).2 = S) ∧ (xkills S c).2 0 = S 0 ∧ (xkills S c).2 2 = S 2 := by
  have hX := hx.1.1.2
  have h8 := hX.1
  have hc8 : 0 ≤ c ∧ c < 8 := by omega
  have hno := xkills_no hx c
  have hb := xlost_b hX
  have hb2 := xlost_b (WX_kills (c := c) hX)
  have hf := hX.2.2.2.1 c hc8.1 hc8.2
  by_cases q : xch S c 2 = 1
  · have e : xkills S c = (xlost (xkillS S c) - xlost S, xkillS S c) := by
      unfold xkills
      rw [if_pos (by omega), if_pos q]
    rw [e] at hno hb2 ⊢
    dsimp only at hno hb2 ⊢
    have hp : 0 ≤ xlost (xkillS S c) - xlost S := by
      by_cases z : xlost (xkillS S c) - xlost S < 0
      · have := (hno z).2
        omega
      · omega
    refine ⟨fun _ => ⟨hp, by omega, by omega, ?_⟩, fun z => absurd q z, xkillS_lo hX hc8 (by decide) (by decide), xkillS_lo hX hc8 (by decide) (by decide)⟩
    show xkillS S c (8 + 4 * c + 2).toNat = 0
    unfold xkillS
    rw [am_u1_ne _ _ (by omega), xkrows_lo (WX_chip hX hc8 (by decide)) (by omega) (by omega), am_u1_at]
  · have e : xkills S c = (-1000002, S) := by
      unfold xkills
      rw [if_pos (by omega), if_neg q]
    rw [e]
    exact ⟨fun z => absurd z q, fun _ => ⟨rfl, rfl⟩, rfl, rfl⟩
theorem F_kill (hP : PH h S n) {c : Int} (hc : 0 ≤ c ∧ c < gP h 0 0) : ∃ (G : am_H) (S1 : Nat → Int), G = gset (am_U h (h.2 1) (ydie (gP h) c).2) (ydie (gP h) c).1 ∧ PH G S1 (n + 6) ∧ gP G 0 0 = gP h 0 0 ∧ gP G 0 3 = gP h 0 3 ∧ am_R (ydie (gP h) c).1 ∧ (gchip (gP h) c 1 = 0 → (ydie (gP h) c).1 = -1000002) ∧
    (¬ gchip (gP h) c 1 = 0 → (∀ a l b k : Int, gcnt (gP G) a l 5 = gcnt (gP h) b k 5 + (ydie (gP h) c).1) ∧ gchip (gP G) c 1 = 0 ∧ gloR (gP h) c (-1) = (ydie (gP h) c).1 ∧ 0 ≤ (ydie (gP h) c).1 ∧ ∀ Z : am_M, bit (gsf (gP h) Z (gP h 0 0).toNat).1 c = if (ydie (gP h) c).1 = 0 then 1 else 0) := by
  have hx := PH_CX hP
  have hX := hx.1.1.2
  have h8 := hX.1
  obtain ⟨s0, s1, s2, s3⟩ := PH_S hP
  obtain ⟨e1, hx1, -⟩ := CX_kills hx c
  have hc8 : 0 ≤ c ∧ c < 8 := by omega
  obtain ⟨k1, k2, k3, k4⟩ := xkills_0 hx (c := c) (by omega)
  have hPG : PH (gset (am_U h (h.2 1) (ydie (gP h) c).2) (ydie (gP h) c).1) (xkills S c).2 (n + 6) := PH_act hP (fun q => (xkills_no hx c (by rw [← e1]; exact q)).1) (fun _ => ⟨⟨CZ_kills (PH_CZ hP) c, VX_kills hX hP.2.1.2 c⟩, PI_kills hP.2.2 hx hP.2.1.1.1.2 c⟩) (by omega)
  obtain ⟨g0, g1, g2, g3⟩ := PH_S hPG
  obtain ⟨c1, c2, c3, c4, c5⟩ := hx.1.2.1.2.1.2 c hc8.1 hc8.2
  have el : gchip (gP h) c 1 = if xch S c 2 = 1 then 1 else 0 := by rw [gchip_1 hc, c3]
  refine ⟨_, _, rfl, hPG, by rw [g0, k3, s0], by rw [g2, k4, s2], ?_, fun q => ?_, fun q => ?_⟩
  · rw [e1]
    by_cases z : xch S c 2 = 1
    · have := k1 z
      exact ⟨by omega, by omega⟩
    · rw [(k2 z).1]
      exact ⟨by decide, by decide⟩
  · rw [e1]
    refine (k2 (fun z => ?_)).1
    rw [el, if_pos z] at q
    omega
  · have z : xch S c 2 = 1 := by
      by_cases z : xch S c 2 = 1
      · exact z
      · rw [el, if_neg z] at q
        exact absurd rfl q
    obtain ⟨l1, l2, l3, l4⟩ := k1 z
    have eL : xlossOf S c (-1) = (xkills S c).1 := by
      unfold xlossOf
      rw [if_pos (by decide)]
      omega
    refine ⟨fun a l b k => ?_, ?_, ?_, by rw [e1]; exact l1, fun Z => ?_⟩
    · rw [gcnt_5 hPG, gcnt_5 hP, l3, e1]
    · rw [gchip_1 (by rw [g0, k3]; omega), ((PH_CX hPG).1.2.1.2.1.2 c hc8.1 hc8.2).2.2.1, l4, if_neg (by decide)]
    · rw [CZ_loss (PH_CZ hP), e1, ← eL]
      unfold xloss xlossG
      rw [if_pos (by omega), if_pos rfl, if_neg (by omega), if_pos z, if_pos (by decide)]
    · rw [CZ_safe (PH_CZ hP) _ (by omega), e1, ← eL]
      have key : ∀ k : Nat, k ≤ 8 → (0 ≤ xsafe S k ∧ xsafe S k < 256) ∧ ∀ a : Int, 0 ≤ a → a < 8 → bit (xsafe S k) a = if a < k ∧ xch S a 2 = 1 ∧ xlossOf S a (-1) = 0 then 1 else 0 := by
        intro k
        induction k with
        | zero =>
          intro _
          refine ⟨⟨Int.le_refl _, by show (0 : Int) < 256; decide⟩, fun a a0 a8 => ?_⟩
          rw [if_neg (by omega)]
          have := bt_0 ⟨a.toNat, by omega⟩
          simp only [show ((a.toNat : Nat) : Int) = a by omega] at this
          exact this
        | succ k ih =>
          intro hk
          obtain ⟨i1, i2⟩ := ih (by omega)
          simp only [xsafe]
          by_cases t : xch S k 2 = 1 ∧ xlossOf S k (-1) = 0
          · rw [if_pos t.1, if_pos t.2]
            have ho := bi_or8 i1 (r := (k : Int)) (by omega)
            refine ⟨ho.1, fun a a0 a8 => ?_⟩
            rw [ho.2 a a0 a8]
            by_cases e : a = k
            · rw [if_pos e, if_pos ⟨by omega, by rw [e]; exact t.1, by rw [e]; exact t.2⟩]
            · rw [if_neg e, i2 a a0 a8]
              by_cases u : xch S a 2 = 1 ∧ xlossOf S a (-1) = 0
              · by_cases y : a < k
                · rw [if_pos ⟨y, u⟩, if_pos ⟨by omega, u⟩]
                · rw [if_neg (fun w => y w.1), if_neg (fun w => by omega)]
              · rw [if_neg (fun w => u w.2), if_neg (fun w => u w.2)]
          · have e0 : (if xch S k 2 = 1 then (if xlossOf S k (-1) = 0 then am_shl 1 k else 0) else 0) = 0 := by
              by_cases a : xch S k 2 = 1
              · rw [if_pos a, if_neg (fun b => t ⟨a, b⟩)]
              · rw [if_neg a]
            rw [e0, am_or_0 ⟨by omega, by omega⟩]
            refine ⟨i1, fun a a0 a8 => ?_⟩
            rw [i2 a a0 a8]
            by_cases e : a = k
            · rw [if_neg (fun w => by omega), if_neg (fun w => t (by rw [← e]; exact w.2))]
            · by_cases u : xch S a 2 = 1 ∧ xlossOf S a (-1) = 0
              · by_cases y : a < k
                · rw [if_pos ⟨y, u⟩, if_pos ⟨by omega, u⟩]
                · rw [if_neg (fun w => y w.1), if_neg (fun w => by omega)]
              · rw [if_neg (fun w => u w.2), if_neg (fun w => u w.2)]
      rw [(key _ (by omega)).2 c hc8.1 hc8.2]
      by_cases w : xlossOf S c (-1) = 0
      · rw [if_pos w, if_pos ⟨by omega, z, w⟩]
      · rw [if_neg w, if_neg (fun t => w t.2.2)]
theorem F_breaks (hP : PH h S n) {c r : Int} (hc : 0 ≤ c ∧ c < gP h 0 0) (hr : 0 ≤ r ∧ r ≤ 5) : ∃ (G : am_H) (S1 : Nat → Int), G = gset (am_U h (h.2 1) (ybreak (gP h) c r).2) (ybreak (gP h) c r).1 ∧ PH G S1 (n + 1) ∧ gP G 0 0 = gP h 0 0 ∧ gP G 0 3 = gP h 0 3 ∧ am_R (ybreak (gP h) c r).1 ∧ ((ybreak (gP h) c r).1 = -1000002 → ∀ a l b k : Int, gcnt (gP G) a l 5 = gcnt (gP h) b k 5) ∧ (¬ (ybreak (gP h) c r).1 = -1000002 → ∀ a l b k : Int, gcnt (gP G) a l 5 = gcnt (gP h) b k 5 + (ybreak (gP h) c r).1) := by
  have hx := PH_CX hP
  have hy := hP.2.1.1.1.2
  have hX := hx.1.1.2
  have h8 := hX.1
  obtain ⟨s0, s1, s2, s3⟩ := PH_S hP
  obtain ⟨e1, hx1, -⟩ := CX_breaks hx hy c r
  have hc8 : 0 ≤ c ∧ c < 8 := by omega
  have hno := xbreaks_no hx hy c r
  have hPG : PH (gset (am_U h (h.2 1) (ybreak (gP h) c r).2) (ybreak (gP h) c r).1) (xbreaks S c r).2 (n + 1) := PH_act hP (fun q => (hno (by rw [← e1]; exact q)).1) (fun _ => ⟨⟨CZ_breaks (PH_CZ hP) c r, VX_breaks hX hP.2.1.2 c r⟩, PI_breaks hP.2.2 hx c r⟩) (by omega)
  obtain ⟨g0, g1, g2, g3⟩ := PH_S hPG
  have hb := xlost_b hX
  have hb2 := xlost_b (PH_CX hPG).1.1.2
  have lo : ∀ m : Nat, m < 5 → m ≠ 4 → xbrS S c r m = S m := fun m m5 m4 => by
    unfold xbrS xbr2
    rw [am_u1_ne _ _ (by omega), am_u1_ne _ _ (by omega), xbr1_lo hX (by omega) m4]
  have ev : xbreaks S c r = if xch S c 2 = 1 then (if bit (xch S c 3) r = 0 then (xlost (xbrS S c r) - xlost S, xbrS S c r) else (-1000002, S)) else (-1000002, S) := by
    unfold xbreaks
    rw [if_pos (by omega), if_pos hr]
  have main : (xbreaks S c r = (-1000002, S)) ∨ xbreaks S c r = (xlost (xbrS S c r) - xlost S, xbrS S c r) := by
    rw [ev]
    (repeat' split) <;> first | exact Or.inl rfl | exact Or.inr rfl
  refine ⟨_, _, rfl, hPG, ?_, ?_, ?_, fun q a l b k => ?_, fun q a l b k => ?_⟩
  · rw [g0, s0]
    rcases main with e | e <;> rw [e]
    exact lo 0 (by decide) (by decide)
  · rw [g2, s2]
    rcases main with e | e <;> rw [e]
    exact lo 2 (by decide) (by decide)
  · rw [e1]
    rcases main with e | e
    · rw [e]
      dsimp only
      exact ⟨by decide, by decide⟩
    · rw [e] at hb2 ⊢
      dsimp only at hb2 ⊢
      exact ⟨by omega, by omega⟩
  · rw [gcnt_5 hPG, gcnt_5 hP]
    rw [e1] at q
    rcases main with e | e
    · rw [e]
    · rw [e] at hb2 q
      dsimp only at hb2 q
      omega
  · rw [gcnt_5 hPG, gcnt_5 hP, e1]
    rw [e1] at q
    rcases main with e | e
    · rw [e] at q
      exact absurd rfl q
    · rw [e]
      dsimp only
      omega
theorem xt1n_0 (S : Nat → Int) : 0 ≤ xt1n S ∧ xt1n S ≤ 3 := by
  unfold xt1n
  (repeat' split) <;> omega
theorem xtn_0 (S : Nat → Int) (k : Nat) : 0 ≤ xtn S k ∧ xtn S k ≤ 3 * k := by
  induction k with
  | zero => exact ⟨Int.le_refl _, Int.le_refl _⟩
  | succ k ih =>
    have := xt1n_0 (xtS S k)
    simp only [xtn]
    omega
theorem F_tick (hP : PH h S n) (hn : n ≤ 800000000) {t : Int} (ht : 1 ≤ t ∧ t ≤ 100) (hT : gP h 0 3 + t ≤ 100000) : ∃ (G : am_H) (S1 : Nat → Int), G = gset (am_U h (h.2 1) (ytick (gP h) t).2) (ytick (gP h) t).1 ∧ PH G S1 (n + 400) ∧ gP G 0 0 = gP h 0 0 ∧ gP G 0 3 = gP h 0 3 + t ∧ gP G 0 4 = gP h 0 4 + (ytick (gP h) t).1 ∧ (0 ≤ (ytick (gP h) t).1 ∧ (ytick (gP h) t).1 ≤ 300) ∧ ∀ a l b k : Int, gcnt (gP G) a l 5 = gcnt (gP h) b k 5 := by
  have hx := PH_CX hP
  have hX := hx.1.1.2
  obtain ⟨s0, s1, s2, s3⟩ := PH_S hP
  obtain ⟨e1, hx1, -⟩ := CX_ticks hx hP.2.1.1.2.1 hP.2.1.1.2.2 (by omega) t
  have ev : xticks S t = (xtn S t.toNat, xtS S t.toNat) := by
    unfold xticks
    rw [if_pos ht, if_pos (by omega)]
  obtain ⟨f1, f2⟩ := xtS_F hX t.toNat
  have hb := xtn_0 S t.toNat
  have hPG : PH (gset (am_U h (h.2 1) (ytick (gP h) t).2) (ytick (gP h) t).1) (xticks S t).2 (n + 400) := PH_act hP (fun q => by rw [e1, ev] at q; dsimp only at q; omega) (fun _ => ⟨⟨CZ_ticks (PH_CZ hP) (by omega) t, VX_ticks hX hP.2.1.2 t⟩, (PI_ticks hP.2.2 hx t).1⟩) (by omega)
  obtain ⟨g0, g1, g2, g3⟩ := PH_S hPG
  refine ⟨_, _, rfl, hPG, ?_, ?_, ?_, ?_, fun a l b k => ?_⟩
  · rw [g0, s0, ev]
    dsimp only
    rw [f1, am_u1_ne _ _ (by decide), xtF_lo hX (by decide) (by decide)]
  · rw [g2, s2, ev]
    dsimp only
    rw [f1, am_u1_at]
    omega
  · rw [g3, s3, e1, ev]
    dsimp only
    rw [f1, am_u1_ne _ _ (by decide), f2]
    omega
  · rw [e1, ev]
    dsimp only
    omega
  · rw [gcnt_5 hPG, gcnt_5 hP, (PI_ticks hP.2.2 hx t).2]
theorem F_elect (hP : PH h S n) {c : Int} (hc : 0 ≤ c ∧ c < gP h 0 0) : ∃ (G : am_H) (S1 : Nat → Int), G = gset (am_U h (h.2 1) (yelect (gP h) c).2) (yelect (gP h) c).1 ∧ PH G S1 n ∧ gP G 0 0 = gP h 0 0 ∧ gP G 0 3 = gP h 0 3 ∧ am_R (yelect (gP h) c).1 ∧ ((yelect (gP h) c).1 = -1000002 → gP G = gP h) ∧ (¬ (yelect (gP h) c).1 = -1000002 → gfam (gP h) (gchip (gP h) c 0) 0 = -1000004 ∧ gfam (gP G) (gchip (gP h) c 0) 0 = c ∧ gchip (gP G) c 2 = 1) := by
  have hx := PH_CX hP
  have hX := hx.1.1.2
  have h8 := hX.1
  have hM := PH_WM hP
  obtain ⟨s0, s1, s2, s3⟩ := PH_S hP
  obtain ⟨e1, hx1⟩ := CX_elects hx c
  have hc8 : 0 ≤ c ∧ c < 8 := by omega
  have hf := hM.2.2.1 c hc8.1 hc8.2
  have hPG : PH (gset (am_U h (h.2 1) (yelect (gP h) c).2) (yelect (gP h) c).1) (xelects S c).2 n := PH_act hP (fun q => (xelects_no S c (by rw [← e1]; exact q)).1) (fun _ => ⟨⟨CZ_elects (PH_CZ hP) c, VX_elects hX hP.2.1.2 c⟩, (PI_elects hP.2.2 hx c).1⟩) (Int.le_refl _)
  have main : yelect (gP h) c = (-1000002, gP h) ∨ (yelect (gP h) c = (ybc (ygd (yelM (gP h) c) (rd (yelM (gP h) c) 1 c)), yelM (gP h) c) ∧ rd (gP h) 5 (rd (gP h) 1 c) = -1) := by
    unfold yelect
    rw [if_pos hc]
    by_cases a : bit (gP h 0 1) c = 1
    · by_cases b : rd (gP h) 5 (rd (gP h) 1 c) = -1
      · by_cases d : ykb (gP h) c ≤ 0
        · rw [if_pos a, if_pos b, if_pos d]; exact Or.inr ⟨rfl, b⟩
        · rw [if_pos a, if_pos b, if_neg d]; exact Or.inl rfl
      · rw [if_pos a, if_neg b]; exact Or.inl rfl
    · rw [if_neg a]; exact Or.inl rfl
  have hG := hP.1
  rcases main with e | ⟨e, eg⟩
  · have eG : gP (gset (am_U h (h.2 1) (yelect (gP h) c).2) (yelect (gP h) c).1) = gP h := gP_no hG (by rw [e]; show (-1000002 : Int) < 0; decide)
    refine ⟨_, _, rfl, hPG, by rw [eG], by rw [eG], by rw [e]; dsimp only; exact ⟨by decide, by decide⟩, fun _ => eG, fun q => absurd (by rw [e]) q⟩
  · have hb := ybc_b (ygd (yelM (gP h) c) (rd (yelM (gP h) c) 1 c))
    have eG : gP (gset (am_U h (h.2 1) (yelect (gP h) c).2) (yelect (gP h) c).1) = yelM (gP h) c := by
      rw [gP_set hG (by rw [e]; exact hb.1), e]
    have r0 : yelM (gP h) c 0 = gP h 0 := wr_row _ _ _ (by decide)
    have r1 : yelM (gP h) c 1 = gP h 1 := wr_row _ _ _ (by decide)
    refine ⟨_, _, rfl, hPG, by rw [eG, r0], by rw [eG, r0], ?_, fun q => ?_, fun _ => ?_⟩
    · rw [e]
      dsimp only
      exact ⟨by omega, by omega⟩
    · rw [e] at q
      dsimp only at q
      omega
    · rw [eG, gchip_0 hc, gfam_0 hf, gfam_0 hf, eg, if_pos rfl]
      have e5 : rd (yelM (gP h) c) 5 (rd (gP h) 1 c) = c := rd_wr _ _ _ _
      have ec : rd (yelM (gP h) c) 1 c = rd (gP h) 1 c := by unfold rd; rw [r1]
      refine ⟨rfl, by rw [e5, if_neg (by omega)], ?_⟩
      rw [gchip_2 (by rw [r0]; exact hc), ec, e5, if_pos rfl]
theorem xemS_lo {S : Nat → Int} (hX : WX S) (c : Int) {m : Nat} (hm : m < 40) (k : Nat) : (xemS S c k).1 m = S m := by
  induction k with
  | zero => rfl
  | succ k ih =>
    have hw := (WX_emS (c := c) hX k).1
    have hk := xkept_b hw c k
    unfold xemS
    (repeat' split) <;> first | exact ih | exact (xsits_lo (by omega) hm).trans ih
theorem F_empty (hP : PH h S n) {c : Int} (hc : 0 ≤ c ∧ c < gP h 0 0) : ∃ (G : am_H) (S1 : Nat → Int), G = gset (am_U h (h.2 1) (yempty (gP h) c).2) (yempty (gP h) c).1 ∧ PH G S1 n ∧ gP G 0 0 = gP h 0 0 ∧ gP G 0 3 = gP h 0 3 ∧ am_R (yempty (gP h) c).1 ∧ ¬ (yempty (gP h) c).1 = -1000001 ∧ ∀ a l b k : Int, gcnt (gP G) a l 5 = gcnt (gP h) b k 5 := by
  have hx := PH_CX hP
  have hX := hx.1.1.2
  have h8 := hX.1
  obtain ⟨s0, s1, s2, s3⟩ := PH_S hP
  obtain ⟨e1, hx1, -⟩ := CX_empt hx c
  have hPG : PH (gset (am_U h (h.2 1) (yempty (gP h) c).2) (yempty (gP h) c).1) (xempt S c).2 n := PH_act hP (fun q => (xempt_no S c (by rw [← e1]; exact q)).1) (fun q => ⟨⟨(CZ_empt (PH_CZ hP) c).1 q, VX_empt hX hP.2.1.2 c⟩, (PI_empt hP.2.2 hx c).1⟩) (Int.le_refl _)
  obtain ⟨g0, g1, g2, g3⟩ := PH_S hPG
  have main : xempt S c = (-1000002, S) ∨ xempt S c = ((xemS S c 6).2.1, (xemS S c 6).1) := by
    unfold xempt
    rw [if_pos (by omega)]
    (repeat' split) <;> first | exact Or.inl rfl | exact Or.inr rfl
  have hb := yempty_b (gP h) c
  have h6 : 0 ≤ (xemS S c 6).2.1 := by
    have := (CX_em hx (c := c) ⟨hc.1, by omega⟩ 6 (by decide)).2
    rw [← this]
    exact (yem_b (gP h) c 6).1
  refine ⟨_, _, rfl, hPG, ?_, ?_, ⟨by omega, by omega⟩, fun q => ?_, fun a l b k => ?_⟩
  · rw [g0, s0]
    rcases main with e | e <;> rw [e]
    exact xemS_lo hX c (by decide) 6
  · rw [g2, s2]
    rcases main with e | e <;> rw [e]
    exact xemS_lo hX c (by decide) 6
  · rw [e1] at q
    rcases main with e | e
    · rw [e] at q
      dsimp only at q
      omega
    · rw [e] at q
      dsimp only at q
      omega
  · rw [gcnt_5 hPG, gcnt_5 hP, (PI_empt hP.2.2 hx c).2]
theorem F_write (hP : PH h S n) {w v : Int} (hw : 0 ≤ w ∧ w < gP h 0 2) (hv : 0 ≤ v ∧ v ≤ 255) : ∃ (G : am_H) (S1 : Nat → Int), G = gset (am_U h (h.2 1) (ywrite (gP h) w v).2) (ywrite (gP h) w v).1 ∧ PH G S1 n ∧ gP G 0 0 = gP h 0 0 ∧ gP G 0 3 = gP h 0 3 ∧ am_R (ywrite (gP h) w v).1 ∧ ((ywrite (gP h) w v).1 = -1000002 → 0 < gword (gP G) w 0) ∧ (¬ (ywrite (gP h) w v).1 = -1000002 → (ywrite (gP h) w v).1 = gread (gP h) w ∧ gread (gP G) w = v) := by
  have hx := PH_CX hP
  have hX := hx.1.1.2
  have hM := PH_WM hP
  have h24 := hM.2.1
  have hG := hP.1
  obtain ⟨s0, s1, s2, s3⟩ := PH_S hP
  obtain ⟨e1, hx1⟩ := CX_write hx w v
  have hno : (ywrite (gP h) w v).1 < 0 → xwriteS S w v = S := by
    intro q
    rw [e1] at q
    unfold xwriteR at q
    unfold xwriteS
    have hvv := hP.2.1.2 w hw.1 (by omega)
    rw [if_pos (by omega), if_pos hv] at q ⊢
    by_cases z : xwd S w 1 = 0
    · rw [if_pos z] at q
      omega
    · rw [if_neg z]
  have hPG : PH (gset (am_U h (h.2 1) (ywrite (gP h) w v).2) (ywrite (gP h) w v).1) (xwriteS S w v) n := PH_act hP hno (fun _ => ⟨⟨CZ_write (PH_CZ hP) w v, VX_write hP.2.1.2 w v⟩, PI_write hP.2.2 hx w v⟩) (Int.le_refl _)
  by_cases k : rd (gP h) 10 w = -1
  · have e : ywrite (gP h) w v = (-1000002, gP h) := by
      unfold ywrite
      rw [if_pos hw, if_pos hv, if_pos k]
    have eG : gP (gset (am_U h (h.2 1) (ywrite (gP h) w v).2) (ywrite (gP h) w v).1) = gP h := gP_no hG (by rw [e]; show (-1000002 : Int) < 0; decide)
    refine ⟨_, _, rfl, hPG, by rw [eG], by rw [eG], by rw [e]; dsimp only; exact ⟨by decide, by decide⟩, fun _ => ?_, fun q => absurd (by rw [e]) q⟩
    rw [eG, gword_0 hw]
    unfold yfate
    rw [if_pos k]
    split <;> decide
  · have e : ywrite (gP h) w v = (rd (gP h) 9 w, wr (gP h) 9 w v) := by
      unfold ywrite
      rw [if_pos hw, if_pos hv, if_neg k]
    have hs : xwd S w 1 = 0 := (CL_st0 hx.1 ⟨hw.1, by omega⟩).mpr k
    have e9 : rd (gP h) 9 w = xwd S w 0 := ((hx.1.2.2.1.1.1 w hw.1 (by omega)).2.2.1 (by omega)).2.2
    have hvv := hP.2.1.2 w hw.1 (by omega)
    have eG : gP (gset (am_U h (h.2 1) (ywrite (gP h) w v).2) (ywrite (gP h) w v).1) = wr (gP h) 9 w v := by
      rw [gP_set hG (by rw [e, e9]; exact hvv.1), e]
    have r0 : wr (gP h) 9 w v 0 = gP h 0 := wr_row _ _ _ (by decide)
    have hfk : yfate (gP h) w = 0 := by unfold yfate; rw [if_neg k]
    refine ⟨_, _, rfl, hPG, by rw [eG, r0], by rw [eG, r0], by rw [e, e9]; exact ⟨by omega, by omega⟩, fun q => ?_, fun _ => ?_⟩
    · rw [e, e9] at q
      dsimp only at q
      omega
    · rw [eG, e]
      unfold gread
      rw [r0, if_pos hw, if_pos hw, hfk, if_neg (by decide)]
      have hfk2 : yfate (wr (gP h) 9 w v) w = 0 := by
        unfold yfate
        rw [rd_wrj _ _ _ _ (by decide), if_neg k]
      rw [hfk2, if_neg (by decide), rd_wr]
      exact ⟨rfl, rfl⟩
theorem F_carry (hP : PH h S n) {w c : Int} (hw : 0 ≤ w ∧ w < gP h 0 2) (hc : 0 ≤ c ∧ c < gP h 0 0) : ∃ (G : am_H) (S1 : Nat → Int), G = gset (am_U h (h.2 1) (ycarry (gP h) w c).2) (ycarry (gP h) w c).1 ∧ PH G S1 n ∧ gP G 0 0 = gP h 0 0 ∧ gP G 0 3 = gP h 0 3 ∧ am_R (ycarry (gP h) w c).1 ∧ ¬ (ycarry (gP h) w c).1 = -1000001 ∧ ∀ a l b k : Int, gcnt (gP G) a l 5 = gcnt (gP h) b k 5 := by
  have hx := PH_CX hP
  have hX := hx.1.1.2
  have h8 := hX.1
  obtain ⟨s0, s1, s2, s3⟩ := PH_S hP
  obtain ⟨e1, hx1, -⟩ := CX_carry hx w c
  have hl := xlow_0 S c
  have eR : xcarR S w c = if xcarC S w c = true then xlow S c else -1000002 := by
    unfold xcarR
    rw [if_pos (by omega), if_pos (by omega)]
  have eS : xcarS S w c = if xcarC S w c = true then xsits S w c (xlow S c) else S := by
    unfold xcarS
    rw [if_pos (by omega), if_pos (by omega)]
  have hPG : PH (gset (am_U h (h.2 1) (ycarry (gP h) w c).2) (ycarry (gP h) w c).1) (xcarS S w c) n := by
    refine PH_act hP (fun q => ?_) (fun _ => ⟨⟨CZ_carry (PH_CZ hP) w c, VX_carry hP.2.1.2 w c⟩, (PI_carry hP.2.2 hx w c).1⟩) (Int.le_refl _)
    rw [e1, eR] at q
    rw [eS]
    by_cases z : xcarC S w c = true
    · rw [if_pos z] at q
      omega
    · rw [if_neg z]
  obtain ⟨g0, g1, g2, g3⟩ := PH_S hPG
  refine ⟨_, _, rfl, hPG, ?_, ?_, ?_, ?_, fun a l b k => ?_⟩
  · rw [g0, s0, eS]
    split
    · exact xsits_lo hw.1 (by decide)
    · rfl
  · rw [g2, s2, eS]
    split
    · exact xsits_lo hw.1 (by decide)
    · rfl
  · rw [e1, eR]
    split
    · exact ⟨by omega, by omega⟩
    · exact ⟨by decide, by decide⟩
  · rw [e1, eR]
    split
    · omega
    · decide
  · rw [gcnt_5 hPG, gcnt_5 hP, (PI_carry hP.2.2 hx w c).2]
end FACTS
