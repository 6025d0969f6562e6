/-! ===== texts: both read the same orders ===== -/
def RO (O X : am_M) : Prop := O 2 1 = X 0 7 ∧ O 3 = X 6 ∧ O 2 4 = X 0 8
/-- the numbers read so far are the same -/
def RN (O X : am_M) : Prop := RO O X ∧ O 2 6 = X 7 0
def RM (O X : am_M) : Prop := RN O X ∧ O 2 7 = X 7 1
theorem RO_n {O X : am_M} (h : RO O X) : onN O = xnumN X := by
  unfold onN xnumN
  rw [h.1, h.2.1, h.2.2]
theorem xnumX_7a (X : am_M) (k : Int) (j : Nat) : xnumX X k 7 j = if j = k.toNat then tval (X 6) (X 0 8) (xnumN X) else X 7 j := by
  unfold xnumX
  rw [am_u2_ne _ _ _ (show (7 : Nat) ≠ 0 by decide)]
  by_cases q : j = k.toNat
  · rw [if_pos q, q, am_u2_hit]
  · rw [if_neg q, am_u2_rd _ _ (Or.inr q)]
theorem RO_6 {O X : am_M} (h : RO O X) : RO (o6 O) (xnumX X 0) ∧ (onN O ≠ 0 → RN (o6 O) (xnumX X 0)) := by
  obtain ⟨a1, a2, a3, -⟩ := o6_at O
  obtain ⟨b1, b2, b3⟩ := xnumX_at X 0
  have e : RO (o6 O) (xnumX X 0) := ⟨by rw [a2, b2]; exact h.1, by rw [a3, b3]; exact h.2.1, by rw [a1, b1, RO_n h, h.2.2]⟩
  refine ⟨e, fun z => ⟨e, ?_⟩⟩
  rw [xnumX_7a, if_pos (show (0 : Nat) = Int.toNat 0 from rfl)]
  unfold o6
  rw [am_u2_hit]
  unfold onR
  rw [if_neg z, RO_n h, h.2.1, h.2.2]
theorem o7_6 (O : am_M) : o7 O 2 6 = O 2 6 := by
  unfold o7 onX
  rw [am_u2_rd _ _ (Or.inr (by decide)), am_u2_rd _ _ (Or.inr (by decide))]
theorem RO_7 {O X : am_M} (h : RN O X) : RN (o7 O) (xnumX X 1) ∧ (onN O ≠ 0 → RM (o7 O) (xnumX X 1)) := by
  obtain ⟨h, h6⟩ := h
  obtain ⟨a1, a2, a3, -⟩ := o7_at O
  obtain ⟨b1, b2, b3⟩ := xnumX_at X 1
  have e : RN (o7 O) (xnumX X 1) := ⟨⟨by rw [a2, b2]; exact h.1, by rw [a3, b3]; exact h.2.1, by rw [a1, b1, RO_n h, h.2.2]⟩, by rw [xnumX_7a, if_neg (by decide), o7_6]; exact h6⟩
  refine ⟨e, fun z => ⟨e, ?_⟩⟩
  rw [xnumX_7a, if_pos (show (1 : Nat) = Int.toNat 1 from rfl)]
  unfold o7
  rw [am_u2_hit]
  unfold onR
  rw [if_neg z, RO_n h, h.2.1, h.2.2]
theorem RO_has {O X : am_M} (h : RO O X) (c : Int) : ohas O c = xhas X c := by
  unfold ohas xhas
  rw [h.1, h.2.1, h.2.2]
theorem ohX_24 (O : am_M) (c : Int) : ohX O c 2 4 = O 2 4 + (if ohas O c = true then 1 else 0) := by
  unfold ohX
  split
  · exact am_u2_hit _ _ _ _
  · omega
theorem ohX_j (O : am_M) (c : Int) {j : Nat} (hj : j ≠ 4) : ohX O c 2 j = O 2 j := by
  unfold ohX
  split
  · exact am_u2_rd _ _ (Or.inr hj)
  · rfl
theorem RO_h {O X : am_M} (h : RO O X) (c : Int) : RO (ohX O c) (xhasX X c) := by
  obtain ⟨a1, a2, a3, -⟩ := ohX_at O c
  obtain ⟨b1, b2, b3, b4⟩ := xhasX_at X c
  exact ⟨by rw [a2, b2]; exact h.1, by rw [a3, b3]; exact h.2.1, by rw [ohX_24, b1, RO_has h, h.2.2]⟩
theorem RN_h {O X : am_M} (h : RN O X) (c : Int) : RN (ohX O c) (xhasX X c) := ⟨RO_h h.1 c, by rw [ohX_j _ _ (by decide), (xhasX_at X c).2.2.2]; exact h.2⟩
theorem RM_h {O X : am_M} (h : RM O X) (c : Int) : RM (ohX O c) (xhasX X c) := ⟨RN_h h.1 c, by rw [ohX_j _ _ (by decide), (xhasX_at X c).2.2.2]; exact h.2⟩
theorem RO_rf {O X : am_M} (h : RO O X) (L : Int) : (orf O L).1 = (xrf X L).1 ∧ ((orf O L).1 = true → tok L = true ∧ RN (orf O L).2 (xrf X L).2 ∧ (t2 L = true → RM (orf O L).2 (xrf X L).2)) := by
  obtain ⟨h6, h6'⟩ := RO_6 h
  unfold orf xrf
  by_cases q1 : tok L = true
  · rw [if_pos q1, if_pos q1, ← RO_n h]
    by_cases q2 : onN O = 0
    · rw [if_pos q2, if_pos q2]
      exact ⟨rfl, fun z => absurd (show false = true from z) (by decide)⟩
    · rw [if_neg q2, if_neg q2]
      have hn := h6' q2
      by_cases q3 : t2 L = true
      · rw [if_pos q3, if_pos q3, ← RO_has h6]
        by_cases q4 : ohas (o6 O) 44 = true
        · rw [if_pos q4, if_pos q4]
          have hc := RN_h hn 44
          obtain ⟨h7, h7'⟩ := RO_7 hc
          rw [← RO_n hc.1]
          by_cases q5 : onN (ohX (o6 O) 44) = 0
          · rw [if_pos q5, if_pos q5]
            exact ⟨rfl, fun z => absurd (show false = true from z) (by decide)⟩
          · rw [if_neg q5, if_neg q5]
            have hm := h7' q5
            exact ⟨RO_has hm.1.1 59, fun _ => ⟨q1, (RM_h hm 59).1, fun _ => RM_h hm 59⟩⟩
        · rw [if_neg q4, if_neg q4]
          exact ⟨rfl, fun z => absurd (show false = true from z) (by decide)⟩
      · rw [if_neg q3, if_neg q3]
        exact ⟨RO_has h6 59, fun _ => ⟨q1, RN_h hn 59, fun z => absurd z q3⟩⟩
  · rw [if_neg q1, if_neg q1]
    exact ⟨rfl, fun z => absurd (show false = true from z) (by decide)⟩
theorem orf_5 (O : am_M) (L : Int) : (orf O L).2 2 5 = O 2 5 := by
  have e6 : ∀ P : am_M, o6 P 2 5 = P 2 5 := fun P => by
    unfold o6 onX
    rw [am_u2_rd _ _ (Or.inr (by decide)), am_u2_rd _ _ (Or.inr (by decide))]
  have e7 : ∀ P : am_M, o7 P 2 5 = P 2 5 := fun P => by
    unfold o7 onX
    rw [am_u2_rd _ _ (Or.inr (by decide)), am_u2_rd _ _ (Or.inr (by decide))]
  have eh : ∀ (P : am_M) (c : Int), ohX P c 2 5 = P 2 5 := fun P c => ohX_j P c (by decide)
  have eu : ∀ (P : am_M) (x : Int), am_u2 P 2 7 x 2 5 = P 2 5 := fun P x => am_u2_rd _ _ (Or.inr (by decide))
  unfold orf
  (repeat' split) <;> dsimp only <;> simp only [e6, e7, eh, eu]
/-- what the next order is -/
theorem RO_next {O X : am_M} (h : RO O X) : oG O = xnF X ∧ oq O 2 5 = xnL X ∧ (oG O = true → tok (xnL X) = true ∧ RN (oq O) (xnX X) ∧ (t2 (xnL X) = true → RM (oq O) (xnX X))) := by
  obtain ⟨a, b, c, d, e⟩ := os_at O
  obtain ⟨a2, b2, c2, d2, e2⟩ := or1_at (os O)
  have hL : os O 3 (os O 2 4).toNat = xnL X := by
    unfold xnL
    rw [c, a, h.2.1, h.2.2]
  have hR : RO (or1 (os O)) (am_u2 X 0 8 (X 0 8 + 1)) := by
    refine ⟨?_, ?_, ?_⟩
    · rw [b2, b, am_u2_rd _ _ (Or.inr (by decide))]
      exact h.1
    · rw [c2, c, am_u2_ne _ _ _ (by decide)]
      exact h.2.1
    · rw [a2, a, am_u2_hit, h.2.2]
  have key := RO_rf hR (xnL X)
  have e5 : oq O 2 5 = xnL X := by
    unfold oq rdo
    rw [orf_5]
    unfold or1
    rw [am_u2_rd _ _ (Or.inr (by decide)), am_u2_hit]
    exact hL
  refine ⟨?_, e5, ?_⟩
  · unfold oG rdo xnF
    rw [hL]
    exact key.1
  · intro z
    unfold oG rdo at z
    rw [hL] at z
    have := key.2 z
    unfold oq rdo xnX
    rw [hL]
    exact this
theorem odo_sg {M : am_M} (hW : WM M) (O : am_M) : 0 ≤ (odo M O).1 ∨ (odo M O).1 ≤ -1000001 := by
  have h1 := yhd_b M (rd M 1 (O 2 6)) 6
  have h2 := yld_b M (O 2 6) 6
  have h3 := ytN_4 (O 2 6).toNat (am_u2 M 0 3 (M 0 3 + O 2 6))
  rw [show am_u2 M 0 3 (M 0 3 + O 2 6) 0 4 = M 0 4 from am_u2_rd _ _ (Or.inr (by decide))] at h3
  have h4 := ybc_b (ygd (yelM M (O 2 6)) (rd (yelM M (O 2 6)) 1 (O 2 6)))
  have h5 := yem_b M (O 2 6) 6
  have h6 := hW.2.1
  have h7 := ylwR_b (ybr0 M (O 2 6) (O 2 7)) (rd M 1 (O 2 6)) (O 2 7)
  have h8 := ylsR_b (ybr0 M (O 2 6) (O 2 7)) (ybrw M (O 2 6) (O 2 7))
  unfold odo
  split
  · unfold ydie
    (repeat' split) <;> dsimp only <;> omega
  · split
    · unfold ytick
      (repeat' split) <;> dsimp only <;> omega
    · split
      · unfold yelect
        (repeat' split) <;> dsimp only <;> omega
      · split
        · unfold yempty
          (repeat' split) <;> dsimp only <;> omega
        · split
          · unfold yput
            (repeat' split) <;> dsimp only <;> omega
          · split
            · unfold ybreak
              (repeat' split) <;> dsimp only <;> omega
            · exact Or.inr (show (-1000002 : Int) ≤ -1000001 by decide)
theorem tok_c {L : Int} (h : tok L = true) : L = 107 ∨ L = 116 ∨ L = 101 ∨ L = 118 ∨ L = 112 ∨ L = 98 := by
  unfold tok t2 at h
  simp only [Bool.or_eq_true, beq_iff_eq] at h
  omega
/-- an order done by both -/
theorem CZ_do {M O X : am_M} {S : Nat → Int} {n : Int} (h : CZ M S n) (hn : n ≤ 900000000) {L : Int} (hL : O 2 5 = L) (ht : tok L = true) (h6 : O 2 6 = X 7 0) (h7 : t2 L = true → O 2 7 = X 7 1) : (odo M O).1 = xdoR X S L ∧ (0 ≤ (odo M O).1 → CZ (odo M O).2 (xdoS X S L) (n + 400)) := by
  unfold odo xdoR xdoS
  rw [hL, h6]
  rcases tok_c ht with z | z | z | z | z | z
  · rw [if_pos z, if_pos z, if_pos z]
    exact ⟨(CX_kills h.1.1 _).1, fun _ => CZ_mono (CZ_kills h _) (by omega)⟩
  · rw [if_neg (show ¬ L = 107 by omega), if_neg (show ¬ L = 107 by omega), if_neg (show ¬ L = 107 by omega), if_pos z, if_pos z, if_pos z]
    exact ⟨(CX_ticks h.1.1 h.2.1 h.2.2 hn _).1, fun _ => CZ_ticks h hn _⟩
  · rw [if_neg (show ¬ L = 107 by omega), if_neg (show ¬ L = 107 by omega), if_neg (show ¬ L = 107 by omega), if_neg (show ¬ L = 116 by omega), if_neg (show ¬ L = 116 by omega), if_neg (show ¬ L = 116 by omega), if_pos z, if_pos z, if_pos z]
    exact ⟨(CX_elects h.1.1 _).1, fun _ => CZ_mono (CZ_elects h _) (by omega)⟩
  · rw [if_neg (show ¬ L = 107 by omega), if_neg (show ¬ L = 107 by omega), if_neg (show ¬ L = 107 by omega), if_neg (show ¬ L = 116 by omega), if_neg (show ¬ L = 116 by omega), if_neg (show ¬ L = 116 by omega), if_neg (show ¬ L = 101 by omega), if_neg (show ¬ L = 101 by omega), if_neg (show ¬ L = 101 by omega), if_pos z, if_pos z, if_pos z]
    exact ⟨(CX_empt h.1.1 _).1, fun y => CZ_mono ((CZ_empt h _).1 y) (by omega)⟩
  · rw [h7 (by rw [z]; rfl), if_neg (show ¬ L = 107 by omega), if_neg (show ¬ L = 107 by omega), if_neg (show ¬ L = 107 by omega), if_neg (show ¬ L = 116 by omega), if_neg (show ¬ L = 116 by omega), if_neg (show ¬ L = 116 by omega), if_neg (show ¬ L = 101 by omega), if_neg (show ¬ L = 101 by omega), if_neg (show ¬ L = 101 by omega), if_neg (show ¬ L = 118 by omega), if_neg (show ¬ L = 118 by omega), if_neg (show ¬ L = 118 by omega), if_pos z, if_pos z, if_pos z]
    exact ⟨(CX_puts h.1.1 _ _).1, fun _ => CZ_mono (CZ_puts h _ _) (by omega)⟩
  · rw [h7 (by rw [z]; rfl), if_neg (show ¬ L = 107 by omega), if_neg (show ¬ L = 107 by omega), if_neg (show ¬ L = 107 by omega), if_neg (show ¬ L = 116 by omega), if_neg (show ¬ L = 116 by omega), if_neg (show ¬ L = 116 by omega), if_neg (show ¬ L = 101 by omega), if_neg (show ¬ L = 101 by omega), if_neg (show ¬ L = 101 by omega), if_neg (show ¬ L = 118 by omega), if_neg (show ¬ L = 118 by omega), if_neg (show ¬ L = 118 by omega), if_neg (show ¬ L = 112 by omega), if_neg (show ¬ L = 112 by omega), if_neg (show ¬ L = 112 by omega), if_pos z]
    exact ⟨(CX_breaks h.1.1 h.1.2 _ _).1, fun _ => CZ_mono (CZ_breaks h _ _) (by omega)⟩
