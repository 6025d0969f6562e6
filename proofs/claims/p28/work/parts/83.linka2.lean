/-! ===== the calls that ask: the same answers ===== -/
theorem CL_gchip {M : am_M} {S : Nat → Int} (h : CL M S) (c k : Int) : gchip M c k = xchipOf S c k := by
  have h8 := h.1.2.1
  have e0 : M 0 0 = S 0 := h.2.1.1.1.1
  unfold gchip xchipOf
  rw [e0]
  by_cases q : 0 ≤ c ∧ c < S 0
  · have hc : 0 ≤ c ∧ c < 8 := by omega
    obtain ⟨e1, e3, eb, e2, -⟩ := h.2.1.2.1.2 c hc.1 hc.2
    have hf := h.1.2.2.2.2.1 c hc.1 hc.2
    rw [if_pos q, if_pos (show 0 ≤ c ∧ c ≤ S 0 - 1 by omega)]
    by_cases r : 0 ≤ k ∧ k ≤ 6
    · rw [if_pos r]
      rcases (show k = 0 ∨ k = 1 ∨ k = 2 ∨ k = 3 ∨ k = 4 ∨ k = 5 ∨ k = 6 by omega) with rfl | rfl | rfl | rfl | rfl | rfl | rfl
      · exact e1
      · show (if bit (M 0 1) c = 1 then (1 : Int) else 0) = xch S c 2
        rw [← eb]
        rcases bit01 (M 0 1) c with z | z <;> rw [z] <;> rfl
      · show (if rd M 5 (rd M 1 c) = c then (1 : Int) else 0) = if xisg S c = true then 1 else 0
        rw [e1, (h.2.1.2.2.1 _ hf.1 hf.2).1]
        unfold xisg
        by_cases z : xgod S (xch S c 0) = c
        · rw [if_pos z, if_pos (beq_iff_eq.mpr z)]
        · rw [if_neg z, if_neg (fun y => z (beq_iff_eq.mp y))]
      · exact CL_kb h hc
      · exact CL_pls h hc
      · exact e2
      · exact e3
    · rw [if_neg r, if_neg (by omega), if_neg (by omega), if_neg (by omega), if_neg (by omega), if_neg (by omega), if_neg (by omega), if_neg (by omega)]
  · rw [if_neg q, if_neg (by omega)]
theorem CL_grow {M : am_M} {S : Nat → Int} (h : CL M S) (c r : Int) : grow M c r = xrowOf S c r := by
  have h8 := h.1.2.1
  have h24 := h.1.2.2.1
  have e0 : M 0 0 = S 0 := h.2.1.1.1.1
  have e2' : M 0 2 = S 1 := h.2.1.1.1.2.1
  unfold grow xrowOf
  rw [e0]
  by_cases q : 0 ≤ c ∧ c < S 0
  · have hc : 0 ≤ c ∧ c < 8 := by omega
    obtain ⟨e1, e3, eb, e2, -⟩ := h.2.1.2.1.2 c hc.1 hc.2
    have hf := h.1.2.2.2.2.1 c hc.1 hc.2
    rw [if_pos q, if_pos (show 0 ≤ c ∧ c ≤ S 0 - 1 by omega)]
    by_cases q2 : 0 ≤ r ∧ r ≤ 5
    · rw [if_pos q2, if_pos q2, eb]
      by_cases q3 : xch S c 2 = 1
      · rw [if_pos q3, if_pos q3, e2]
        rcases bit01 (xch S c 3) r with z | z
        · rw [z, if_neg (by decide), if_pos rfl, e1, (h.2.1.2.2.1 _ hf.1 hf.2).1]
          unfold xisg
          by_cases y : xgod S (xch S c 0) = c
          · rw [if_pos y, if_pos (beq_iff_eq.mpr y), e2']
            exact CL_sum h q2.1 _ (by omega)
          · have hk := CL_kept h hc q2
            have hb := xkept_b h.1.2 c r
            rw [if_neg y, if_neg (fun w => y (beq_iff_eq.mp w)), ← hk]
            by_cases w : xkept S c r = -1
            · rw [if_pos w, if_pos (by omega)]
            · rw [if_neg w, if_neg (by omega)]
        · rw [z, if_pos rfl, if_neg (by decide)]
      · rw [if_neg q3, if_neg q3]
    · rw [if_neg q2, if_neg q2]
  · rw [if_neg q, if_neg (by omega)]
theorem CL_gread {M : am_M} {S : Nat → Int} (h : CL M S) (w : Int) : gread M w = xread S w := by
  have e2 : M 0 2 = S 1 := h.2.1.1.1.2.1
  unfold gread xread
  rw [e2]
  by_cases q : 0 ≤ w ∧ w < S 1
  · obtain ⟨c1, c2, c3, c4⟩ := h.2.2.1.1.1 w q.1 q.2
    rw [if_pos q, if_pos (show 0 ≤ w ∧ w ≤ S 1 - 1 by omega), ← c1]
    by_cases z : xwd S w 1 = 2
    · rw [if_pos z, if_pos z]
    · rw [if_neg z, if_neg z]
      exact (c3 z).2.2
  · rw [if_neg q, if_neg (by omega)]
theorem CL_gword {M : am_M} {S : Nat → Int} (h : CL M S) (w k : Int) : gword M w k = xwordOf S w k := by
  have e2 : M 0 2 = S 1 := h.2.1.1.1.2.1
  unfold gword xwordOf
  rw [e2]
  by_cases q : 0 ≤ w ∧ w < S 1
  · obtain ⟨c1, c2, c3, c4⟩ := h.2.2.1.1.1 w q.1 q.2
    rw [if_pos q, if_pos (show 0 ≤ w ∧ w ≤ S 1 - 1 by omega), ← c1]
    by_cases r : 0 ≤ k ∧ k ≤ 5
    · rw [if_pos r]
      rcases (show k = 0 ∨ k = 1 ∨ k = 2 ∨ k = 3 ∨ k = 4 ∨ k = 5 by omega) with rfl | rfl | rfl | rfl | rfl | rfl
      · rfl
      · show (if xwd S w 1 = 0 then rd M 10 w else -1000004) = if xwd S w 1 = 0 then xwd S w 2 else -1000004
        by_cases z : xwd S w 1 = 0
        · rw [if_pos z, if_pos z]
          exact (c2 z).1
        · rw [if_neg z, if_neg z]
      · show (if xwd S w 1 = 2 then -1000004 else rd M 11 w) = if xwd S w 1 = 2 then -1000004 else xwd S w 3
        by_cases z : xwd S w 1 = 2
        · rw [if_pos z, if_pos z]
        · rw [if_neg z, if_neg z]
          exact (c3 z).1
      · show (if xwd S w 1 = 2 then -1000004 else rd M 12 w) = if xwd S w 1 = 2 then -1000004 else xwd S w 4
        by_cases z : xwd S w 1 = 2
        · rw [if_pos z, if_pos z]
        · rw [if_neg z, if_neg z]
          exact (c3 z).2.1
      · show (if xwd S w 1 = 1 then yah M w else -1000004) = if xwd S w 1 = 1 then xahead S w else -1000004
        by_cases z : xwd S w 1 = 1
        · rw [if_pos z, if_pos z]
          exact CL_ah h q z
        · rw [if_neg z, if_neg z]
      · exact c4
    · rw [if_neg r, if_neg (by omega), if_neg (by omega), if_neg (by omega), if_neg (by omega), if_neg (by omega), if_neg (by omega)]
  · rw [if_neg q, if_neg (by omega)]
theorem CL_gfam {M : am_M} {S : Nat → Int} (h : CL M S) (f k : Int) : gfam M f k = xfamOf S f k := by
  have h8 := h.1.2.1
  have e0 : M 0 0 = S 0 := h.2.1.1.1.1
  unfold gfam xfamOf
  by_cases q : 0 ≤ f ∧ f ≤ 2
  · have hg := (h.2.1.2.2.1 f q.1 q.2).1
    have hb := h.1.2.2.2.1 f q.1 q.2
    have hwc := CL_wc h q
    rw [if_pos q, if_pos q]
    by_cases r : 0 ≤ k ∧ k ≤ 6
    · rw [if_pos r]
      rcases (show k = 0 ∨ k = 1 ∨ k = 2 ∨ k = 3 ∨ k = 4 ∨ k = 5 ∨ k = 6 by omega) with rfl | rfl | rfl | rfl | rfl | rfl | rfl
      · show (if rd M 5 f = -1 then -1000004 else rd M 5 f) = if xgod S f < 0 then -1000004 else xgod S f
        rw [hg]
        by_cases z : xgod S f = -1
        · rw [if_pos z, if_pos (by omega)]
        · rw [if_neg z, if_neg (by omega)]
      · show yliv M f (M 0 0).toNat = xliv S f (S 0).toNat
        rw [e0]
        exact CL_liv h f _ (by omega)
      · show rd M 8 f = xmany S f 1 false
        rw [hwc, xmany_f S 1 q.1]
      · exact CL_kin0 h q
      · exact CL_gd h q
      · exact CL_kin1 h q
      · show (if rd M 8 f = 0 then -1000004 else rd M 7 (f * 6)) = if xfirst S f < 0 then -1000004 else xfirst S f
        have hq6 := CL_q h q
        rw [CL_first h q]
        by_cases z : rd M 8 f = 0
        · rw [if_pos z, if_pos z, if_pos (by decide)]
        · obtain ⟨b1, -⟩ := (h.2.2.2.1 f q).2.1 0 (by omega) (by omega)
          rw [show f * 6 + 0 = f * 6 by omega] at b1
          rw [if_neg z, if_neg z, if_neg (by omega)]
    · rw [if_neg r, if_neg (by omega), if_neg (by omega), if_neg (by omega), if_neg (by omega), if_neg (by omega), if_neg (by omega), if_neg (by omega)]
  · rw [if_neg q, if_neg q]
theorem CL_gcnt {M : am_M} {S : Nat → Int} (h : CL M S) (X : am_M) (k : Int) : gcnt M (X 0 5) (X 0 7) k = xcount X S k := by
  obtain ⟨⟨n0, n1, n2, n3⟩, t0, t9⟩ := h.2.1.1
  unfold gcnt xcount
  rw [CL_alive h, CL_all h, CL_gf h, CL_w2 h, CL_wk h, CL_ww h, n0, n1, n2, n3]
