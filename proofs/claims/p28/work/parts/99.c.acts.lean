/-! ===== acts() as a whole ===== -/
set_option maxHeartbeats 4000000 in
theorem pl_acts {h : am_H} {S : Nat → Int} {n : Int} (hP : PH h S n) (hn : n ≤ 700000000) (h5 : gP h 0 0 = 5) (hT : gP h 0 3 ≤ 1000) {y : Int} (hy : 0 ≤ y ∧ y ≤ 2147483647) : ∃ (G : am_H) (S1 : Nat → Int), Ct 6 YL_acts [.inr (6, 0), .inl y] (some (.inl 1)) h G ∧ PH G S1 (n + 400) ∧ gP G 0 0 = 5 ∧ gP G 0 3 ≤ gP h 0 3 + 4 := by
  have hz : 0 ≤ y / 16 ∧ y / 16 ≤ 134217727 := by omega
  have hc : 0 ≤ y / 16 % 5 ∧ y / 16 % 5 < gP h 0 0 := by omega
  have h24 := (PH_WM hP).2.1
  have tab : ∀ (G : am_H) (i : Int) (off : Int) (tgt : Nat), y % 16 = i → (0 ≤ i ∧ i ≤ 14) → (#[76, 76, 76, 76, 179, 179, 302, 302, 360, 360, 360, 434, 434, 519, 545] : Array Int)[(i - 0).toNat]? = some off → ((20 : Nat) : Int) + off = (tgt : Int) → Sx 6 YL_acts G (some (.inl 1)) tgt [some (.inr (6, 0)), some (.inl y), some (.inl (y / 16)), some (.inl (y / 16 % 5)), some (.inl (gcnt (gP h) (h.1 6 0 4) (h.1 6 2 1) 5)), none, none, none, none, none, none, none, none, none, none, none, none, none, none, none] [] h → Ct 6 YL_acts [.inr (6, 0), .inl y] (some (.inl 1)) h G := by
    intro G i off tgt e hi ho ht k
    refine act_start hP hy ?_
    rw [e]
    exact sx_tableIn (tgt := tgt) (off := off) dL_acts_20 ⟨by omega, by omega⟩ (by omega) (by omega) ho ht k
  have hi : y % 16 = 0 ∨ y % 16 = 1 ∨ y % 16 = 2 ∨ y % 16 = 3 ∨ y % 16 = 4 ∨ y % 16 = 5 ∨ y % 16 = 6 ∨ y % 16 = 7 ∨ y % 16 = 8 ∨ y % 16 = 9 ∨ y % 16 = 10 ∨ y % 16 = 11 ∨ y % 16 = 12 ∨ y % 16 = 13 ∨ y % 16 = 14 ∨ y % 16 = 15 := by omega
  rcases hi with e16 | e16 | e16 | e16 | e16 | e16 | e16 | e16 | e16 | e16 | e16 | e16 | e16 | e16 | e16 | e16
  · obtain ⟨G, S1, eG, hPG, g0, g3, hRa, p1, p2⟩ := F_put hP hc (v := y / 16 / 8 % 256) (by omega)
    exact ⟨G, S1, tab _ 0 76 96 e16 (by decide) rfl (by decide) (act_put hP hn hz hc eG hPG hRa p1 p2), PH_mono hPG (by omega), by omega, by omega⟩
  · obtain ⟨G, S1, eG, hPG, g0, g3, hRa, p1, p2⟩ := F_put hP hc (v := y / 16 / 8 % 256) (by omega)
    exact ⟨G, S1, tab _ 1 76 96 e16 (by decide) rfl (by decide) (act_put hP hn hz hc eG hPG hRa p1 p2), PH_mono hPG (by omega), by omega, by omega⟩
  · obtain ⟨G, S1, eG, hPG, g0, g3, hRa, p1, p2⟩ := F_put hP hc (v := y / 16 / 8 % 256) (by omega)
    exact ⟨G, S1, tab _ 2 76 96 e16 (by decide) rfl (by decide) (act_put hP hn hz hc eG hPG hRa p1 p2), PH_mono hPG (by omega), by omega, by omega⟩
  · obtain ⟨G, S1, eG, hPG, g0, g3, hRa, p1, p2⟩ := F_put hP hc (v := y / 16 / 8 % 256) (by omega)
    exact ⟨G, S1, tab _ 3 76 96 e16 (by decide) rfl (by decide) (act_put hP hn hz hc eG hPG hRa p1 p2), PH_mono hPG (by omega), by omega, by omega⟩
  · obtain ⟨G, S1, eG, hPG, g0, g3, hRa, p1, p2⟩ := F_kill hP hc
    by_cases hd : gchip (gP h) (y / 16 % 5) 1 = 0
    · exact ⟨G, S1, tab _ 4 179 199 e16 (by decide) rfl (by decide) (act_kill1 hP hn hz hc eG hPG hRa hd (p1 hd)), PH_mono hPG (by omega), by omega, by omega⟩
    · obtain ⟨l5, l1, lo, l0, lb⟩ := p2 hd
      obtain ⟨G2, e2⟩ : ∃ G2, G2 = am_U h (h.2 1) (gsf (gP h) (h.1 (h.2 1)) (gP h 0 0).toNat).2 := ⟨_, rfl⟩
      have hP2 : PH G2 S n := by rw [e2]; exact PH_tr hP _
      have e : gP G2 = gP h := by rw [e2]; exact gZ_p hP.1
      have lb0 := lb (h.1 (h.2 1))
      by_cases q : y / 16 / 8 % 3 ≤ 0 ∨ ¬ bit (gsf (gP h) (h.1 (h.2 1)) (gP h 0 0).toNat).1 (y / 16 % 5) = 0
      · obtain ⟨G', S', eG', hPG', g0', g3', hRa', -, p2'⟩ := F_kill hP2 (c := y / 16 % 5) (by rw [e]; exact hc)
        obtain ⟨l5', l1', -, -, -⟩ := p2' (by rw [e]; exact hd)
        rw [e] at g0' g3'
        have l6 := l5' (G'.1 6 0 4) (G'.1 6 2 1) (h.1 6 0 4) (h.1 6 2 1)
        rw [show gcnt (gP G2) (h.1 6 0 4) (h.1 6 2 1) 5 = gcnt (gP h) (h.1 6 0 4) (h.1 6 2 1) 5 by rw [e]] at l6
        exact ⟨G', S', tab _ 4 179 199 e16 (by decide) rfl (by decide) (act_kill3 hP hn hz hc e2 hP2 hd eG' hPG' hRa' q l6 (by rw [e]; exact lb0) l1'), PH_mono hPG' (by omega), by omega, by omega⟩
      · have q1 : ¬ y / 16 / 8 % 3 ≤ 0 := fun z => q (Or.inl z)
        have q2 : bit (gsf (gP h) (h.1 (h.2 1)) (gP h 0 0).toNat).1 (y / 16 % 5) = 0 := by
          by_cases z : bit (gsf (gP h) (h.1 (h.2 1)) (gP h 0 0).toNat).1 (y / 16 % 5) = 0
          · exact z
          · exact absurd (Or.inr z) q
        obtain ⟨G3, e3⟩ : ∃ G3, G3 = am_U G2 (G2.2 1) (gloM (gP G2) (G2.1 (G2.2 1)) (y / 16 % 5) (-1)) := ⟨_, rfl⟩
        have hP3 : PH G3 S n := by rw [e3]; exact PH_tr hP2 _
        have e4 : gP G3 = gP h := by rw [e3]; exact (gZ_p hP2.1).trans e
        have pos : 0 < gloR (gP G2) (y / 16 % 5) (-1) := by
          rw [e, lo]
          by_cases z : (ydie (gP h) (y / 16 % 5)).1 = 0
          · rw [if_pos z, q2] at lb0
            omega
          · omega
        exact ⟨G3, S, tab _ 4 179 199 e16 (by decide) rfl (by decide) (act_kill2 hP hn hz hc e2 hP2 hd e3 hP3 q1 q2 (by rw [e, lo]; exact hRa) pos), PH_mono hP3 (by omega), by rw [e4]; exact h5, by rw [e4]; omega⟩
  · obtain ⟨G, S1, eG, hPG, g0, g3, hRa, p1, p2⟩ := F_kill hP hc
    by_cases hd : gchip (gP h) (y / 16 % 5) 1 = 0
    · exact ⟨G, S1, tab _ 5 179 199 e16 (by decide) rfl (by decide) (act_kill1 hP hn hz hc eG hPG hRa hd (p1 hd)), PH_mono hPG (by omega), by omega, by omega⟩
    · obtain ⟨l5, l1, lo, l0, lb⟩ := p2 hd
      obtain ⟨G2, e2⟩ : ∃ G2, G2 = am_U h (h.2 1) (gsf (gP h) (h.1 (h.2 1)) (gP h 0 0).toNat).2 := ⟨_, rfl⟩
      have hP2 : PH G2 S n := by rw [e2]; exact PH_tr hP _
      have e : gP G2 = gP h := by rw [e2]; exact gZ_p hP.1
      have lb0 := lb (h.1 (h.2 1))
      by_cases q : y / 16 / 8 % 3 ≤ 0 ∨ ¬ bit (gsf (gP h) (h.1 (h.2 1)) (gP h 0 0).toNat).1 (y / 16 % 5) = 0
      · obtain ⟨G', S', eG', hPG', g0', g3', hRa', -, p2'⟩ := F_kill hP2 (c := y / 16 % 5) (by rw [e]; exact hc)
        obtain ⟨l5', l1', -, -, -⟩ := p2' (by rw [e]; exact hd)
        rw [e] at g0' g3'
        have l6 := l5' (G'.1 6 0 4) (G'.1 6 2 1) (h.1 6 0 4) (h.1 6 2 1)
        rw [show gcnt (gP G2) (h.1 6 0 4) (h.1 6 2 1) 5 = gcnt (gP h) (h.1 6 0 4) (h.1 6 2 1) 5 by rw [e]] at l6
        exact ⟨G', S', tab _ 5 179 199 e16 (by decide) rfl (by decide) (act_kill3 hP hn hz hc e2 hP2 hd eG' hPG' hRa' q l6 (by rw [e]; exact lb0) l1'), PH_mono hPG' (by omega), by omega, by omega⟩
      · have q1 : ¬ y / 16 / 8 % 3 ≤ 0 := fun z => q (Or.inl z)
        have q2 : bit (gsf (gP h) (h.1 (h.2 1)) (gP h 0 0).toNat).1 (y / 16 % 5) = 0 := by
          by_cases z : bit (gsf (gP h) (h.1 (h.2 1)) (gP h 0 0).toNat).1 (y / 16 % 5) = 0
          · exact z
          · exact absurd (Or.inr z) q
        obtain ⟨G3, e3⟩ : ∃ G3, G3 = am_U G2 (G2.2 1) (gloM (gP G2) (G2.1 (G2.2 1)) (y / 16 % 5) (-1)) := ⟨_, rfl⟩
        have hP3 : PH G3 S n := by rw [e3]; exact PH_tr hP2 _
        have e4 : gP G3 = gP h := by rw [e3]; exact (gZ_p hP2.1).trans e
        have pos : 0 < gloR (gP G2) (y / 16 % 5) (-1) := by
          rw [e, lo]
          by_cases z : (ydie (gP h) (y / 16 % 5)).1 = 0
          · rw [if_pos z, q2] at lb0
            omega
          · omega
        exact ⟨G3, S, tab _ 5 179 199 e16 (by decide) rfl (by decide) (act_kill2 hP hn hz hc e2 hP2 hd e3 hP3 q1 q2 (by rw [e, lo]; exact hRa) pos), PH_mono hP3 (by omega), by rw [e4]; exact h5, by rw [e4]; omega⟩
  · obtain ⟨G, S1, eG, hPG, g0, g3, hRa, p1, p2⟩ := F_breaks hP hc (r := y / 16 / 8 % 6) (by omega)
    exact ⟨G, S1, tab _ 6 302 322 e16 (by decide) rfl (by decide) (act_breaks hP hn hz hc eG hPG hRa (fun q => p1 q _ _ _ _) (fun q => p2 q _ _ _ _)), PH_mono hPG (by omega), by omega, by omega⟩
  · obtain ⟨G, S1, eG, hPG, g0, g3, hRa, p1, p2⟩ := F_breaks hP hc (r := y / 16 / 8 % 6) (by omega)
    exact ⟨G, S1, tab _ 7 302 322 e16 (by decide) rfl (by decide) (act_breaks hP hn hz hc eG hPG hRa (fun q => p1 q _ _ _ _) (fun q => p2 q _ _ _ _)), PH_mono hPG (by omega), by omega, by omega⟩
  · obtain ⟨G, S1, eG, hPG, g0, g3, g4, b, l5⟩ := F_tick hP (by omega) (t := 1 + y / 16 % 4) (by omega) (by omega)
    exact ⟨G, S1, tab _ 8 360 380 e16 (by decide) rfl (by decide) (act_tick hP hn hz hc eG hPG g4 (by show gP G 0 3 = gP h 0 3 + 1 + y / 16 % 4; omega) (l5 _ _ _ _)), PH_mono hPG (by omega), by omega, by omega⟩
  · obtain ⟨G, S1, eG, hPG, g0, g3, g4, b, l5⟩ := F_tick hP (by omega) (t := 1 + y / 16 % 4) (by omega) (by omega)
    exact ⟨G, S1, tab _ 9 360 380 e16 (by decide) rfl (by decide) (act_tick hP hn hz hc eG hPG g4 (by show gP G 0 3 = gP h 0 3 + 1 + y / 16 % 4; omega) (l5 _ _ _ _)), PH_mono hPG (by omega), by omega, by omega⟩
  · obtain ⟨G, S1, eG, hPG, g0, g3, g4, b, l5⟩ := F_tick hP (by omega) (t := 1 + y / 16 % 4) (by omega) (by omega)
    exact ⟨G, S1, tab _ 10 360 380 e16 (by decide) rfl (by decide) (act_tick hP hn hz hc eG hPG g4 (by show gP G 0 3 = gP h 0 3 + 1 + y / 16 % 4; omega) (l5 _ _ _ _)), PH_mono hPG (by omega), by omega, by omega⟩
  · obtain ⟨G, S1, eG, hPG, g0, g3, hRa, p1, p2⟩ := F_elect hP hc
    exact ⟨G, S1, tab _ 11 434 454 e16 (by decide) rfl (by decide) (act_elect hP hn hz hc eG hPG hRa (fun q => by rw [p1 q]) p2), PH_mono hPG (by omega), by omega, by omega⟩
  · obtain ⟨G, S1, eG, hPG, g0, g3, hRa, p1, p2⟩ := F_elect hP hc
    exact ⟨G, S1, tab _ 12 434 454 e16 (by decide) rfl (by decide) (act_elect hP hn hz hc eG hPG hRa (fun q => by rw [p1 q]) p2), PH_mono hPG (by omega), by omega, by omega⟩
  · obtain ⟨G, S1, eG, hPG, g0, g3, hRa, p1, l5⟩ := F_empty hP hc
    exact ⟨G, S1, tab _ 13 519 539 e16 (by decide) rfl (by decide) (act_empty hP hn hz hc eG hPG hRa p1 (l5 _ _ _ _)), PH_mono hPG (by omega), by omega, by omega⟩
  · by_cases h0 : gP h 0 2 = 0
    · exact ⟨h, S, tab _ 14 545 565 e16 (by decide) rfl (by decide) (act_write0 (S1 := S) (n1 := n) hP hn hz hc rfl h0 (by unfold gread; rw [if_neg (by omega)])), PH_mono hP (by omega), h5, by omega⟩
    · obtain ⟨w, ew⟩ : ∃ w, w = y / 16 / 8 % gcnt (gP h) (h.1 6 0 4) (h.1 6 2 1) 2 := ⟨_, rfl⟩
      have ew2 : w = y / 16 / 8 % gP h 0 2 := ew
      have hw : 0 ≤ w ∧ w < gP h 0 2 := by rw [ew2]; exact ⟨Int.emod_nonneg _ h0, Int.emod_lt_of_pos _ (by omega)⟩
      obtain ⟨G, S1, eG, hPG, g0, g3, hRa, p1, p2⟩ := F_write hP hw (v := y / 16 / 256 % 256) (by omega)
      exact ⟨G, S1, tab _ 14 545 565 e16 (by decide) rfl (by decide) (act_write1 hP hn hz hc ew hw eG hPG hRa p1 p2), PH_mono hPG (by omega), by omega, by omega⟩
  · by_cases h0 : gP h 0 2 = 0
    · exact ⟨h, S, act_start hP hy (sx_tableOut (tgt := 682) dL_acts_20 ⟨by omega, by omega⟩ (Or.inr (by omega)) (by decide) <| act_carry0 (S1 := S) (n1 := n) hP hn hz hc rfl h0), PH_mono hP (by omega), h5, by omega⟩
    · obtain ⟨w, ew⟩ : ∃ w, w = y / 16 / 8 % gcnt (gP h) (h.1 6 0 4) (h.1 6 2 1) 2 := ⟨_, rfl⟩
      have ew2 : w = y / 16 / 8 % gP h 0 2 := ew
      have hw : 0 ≤ w ∧ w < gP h 0 2 := by rw [ew2]; exact ⟨Int.emod_nonneg _ h0, Int.emod_lt_of_pos _ (by omega)⟩
      obtain ⟨G, S1, eG, hPG, g0, g3, hRa, p1, l5⟩ := F_carry hP hw hc
      exact ⟨G, S1, act_start hP hy (sx_tableOut (tgt := 682) dL_acts_20 ⟨by omega, by omega⟩ (Or.inr (by omega)) (by decide) <| act_carry1 hP hn hz hc ew hw eG hPG hRa p1 (l5 _ _ _ _)), PH_mono hPG (by omega), by omega, by omega⟩
