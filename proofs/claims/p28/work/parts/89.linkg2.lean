/-! ===== both wholes: present, history, text ===== -/
def RR (h : am_H) (X : am_M) (S : Nat → Int) (n : Int) : Prop := AG h ∧ (h.1 6 2 1 = X 0 7 ∧ h.1 6 3 = X 6 ∧ 0 ≤ X 0 7 ∧ X 0 7 ≤ 60) ∧ h.1 6 0 4 = X 0 5 ∧ CW (gP h) S n ∧ ∀ k : Nat, (k : Int) < X 0 5 → CW (h.1 (h.2 (2 + k))) (fun i => X 2 (208 * k + i)) n
theorem CW_mono {M : am_M} {S : Nat → Int} {m n : Int} (h : CW M S m) (hn : m ≤ n) : CW M S n := ⟨CZ_mono h.1 hn, h.2⟩
theorem RR_mono {h : am_H} {X : am_M} {S : Nat → Int} {m n : Int} (hR : RR h X S m) (hn : m ≤ n) : RR h X S n := ⟨hR.1, hR.2.1, hR.2.2.1, CW_mono hR.2.2.2.1 hn, fun k hk => CW_mono (hR.2.2.2.2 k hk) hn⟩
/-- the reference's cells that tell what was: states, length, history, text -/
def XE (Y X : am_M) : Prop := Y 0 5 = X 0 5 ∧ Y 0 7 = X 0 7 ∧ Y 2 = X 2 ∧ Y 6 = X 6
theorem RR_X {h : am_H} {X Y : am_M} {S : Nat → Int} {n : Int} (hR : RR h X S n) (hY : XE Y X) : RR h Y S n := by
  obtain ⟨a, b, c, d, e⟩ := hR
  obtain ⟨y5, y7, y2, y6⟩ := hY
  unfold RR
  rw [y5, y7, y2, y6]
  exact ⟨a, b, c, d, e⟩
theorem RR_st {h : am_H} {X : am_M} {S : Nat → Int} {n : Int} (hR : RR h X S n) : 0 ≤ X 0 5 ∧ X 0 5 ≤ 4 := by
  rw [← hR.2.2.1]
  exact hR.1.2.1
theorem RR_tr {h : am_H} {X : am_M} {S : Nat → Int} {n : Int} (hR : RR h X S n) (Z : am_M) : RR (am_U h (h.2 1) Z) X S n := by
  have hs := RR_st hR
  obtain ⟨a, b, c, d, e⟩ := hR
  have h6 : (6 : Nat) ≠ h.2 1 := by have := a.2.2 1; omega
  have e6 : (am_U h (h.2 1) Z).1 6 = h.1 6 := am_U_ne _ _ h6
  refine ⟨AG_U a (a.2.2 1), by rw [e6]; exact b, by rw [e6]; exact c, ?_, fun k hk => ?_⟩
  · have : gP (am_U h (h.2 1) Z) = gP h := gZ_p a
    rw [this]
    exact d
  · have hne : h.2 (2 + k) ≠ h.2 1 := fun q => by
      have := a.1 (2 + k) 1 (by omega) (by decide) q
      omega
    have : (am_U h (h.2 1) Z).1 ((am_U h (h.2 1) Z).2 (2 + k)) = h.1 (h.2 (2 + k)) := am_U_ne _ _ hne
    rw [this]
    exact e k hk
theorem RR_O {h : am_H} {X : am_M} {S : Nat → Int} {n : Int} (hR : RR h X S n) {O : am_M} (h0 : O 0 = h.1 6 0) (h1 : O 2 1 = h.1 6 2 1) (h3 : O 3 = h.1 6 3) : RR (am_U h 6 O) X S n := by
  obtain ⟨a, b, c, d, e⟩ := hR
  have u : ∀ i, (am_U h 6 O).1 (h.2 i) = h.1 (h.2 i) := fun i => am_U_ne _ _ (by have := a.2.2 i; omega)
  refine ⟨AG_O a h0, by rw [am_U_at, h1, h3]; exact b, by rw [am_U_at, h0]; exact c, ?_, fun k hk => ?_⟩
  · have : gP (am_U h 6 O) = gP h := u 0
    rw [this]
    exact d
  · have : (am_U h 6 O).1 ((am_U h 6 O).2 (2 + k)) = h.1 (h.2 (2 + k)) := u (2 + k)
    rw [this]
    exact e k hk
/-- a change is kept -/
theorem gst_2 {H : am_H} (k : Nat) : (gst H).2 k = (gr1 H).2 (if k = 1 then 0 else if k = 0 then 1 else k) := by
  have e0 : (gr1 H).2 0 = H.2 0 := gr1_lo H (by decide)
  have e1 : (gr1 H).2 1 = H.2 1 := gr1_lo H (by decide)
  by_cases q1 : k = 1
  · subst q1
    rw [if_pos rfl, e0]
    rfl
  · by_cases q0 : k = 0
    · subst q0
      rw [if_neg (by decide), if_pos rfl, e1]
      rfl
    · rw [if_neg q1, if_neg q0]
      show (if k = 1 then H.2 0 else (if k = 0 then H.2 1 else (gr1 H).2 k)) = _
      rw [if_neg q1, if_neg q0]
theorem AG_gst {H : am_H} (hG : AG H) : AG (gst H) := by
  have h4 := gr1_4 hG
  refine ⟨fun i j hi hj q => ?_, ?_, fun i => ?_⟩
  · rw [gst_2, gst_2] at q
    have := gr1_inj hG _ _ (by (repeat' split) <;> omega) (by (repeat' split) <;> omega) q
    revert this
    (repeat' split) <;> omega
  · have : (gst H).1 6 0 4 = (gr1 H).1 6 0 4 + 1 := by
      show (am_U (gr2 H) 6 (am_u2 ((gr1 H).1 6) 0 4 ((gr1 H).1 6 0 4 + 1))).1 6 0 4 = _
      rw [am_U_at, am_u2_hit]
    omega
  · rw [gst_2]
    exact gr1_6 hG _
theorem RR_set {h : am_H} {X Y M' : am_M} {S S' : Nat → Int} {n n' a : Int} (hR : RR h X S n) (hC : CW M' S' n') (hn : n ≤ n') (ha : 0 ≤ a) (hY : XE Y X) (hY3 : Y 3 = S) : RR (gset (am_U h (h.2 1) M') a) (xact Y a) S' n' := by
  have hs := RR_st hR
  obtain ⟨hG, ht, hc, hd, he⟩ := hR
  obtain ⟨y5, y7, y2, y6⟩ := hY
  have hGH : AG (am_U h (h.2 1) M') := AG_U hG (hG.2.2 1)
  have h6 : (6 : Nat) ≠ h.2 1 := by have := hG.2.2 1; omega
  have e6 : (am_U h (h.2 1) M').1 6 = h.1 6 := am_U_ne _ _ h6
  generalize hH : am_U h (h.2 1) M' = H at *
  have H2 : H.2 = h.2 := by rw [← hH]; rfl
  have Hu : ∀ u, u ≠ h.2 1 → H.1 u = h.1 u := fun u hu => by rw [← hH]; exact am_U_ne _ _ hu
  have Ht : H.1 (h.2 1) = M' := by rw [← hH]; exact am_U_at _ _ _
  have eg : gset H a = gst H := by unfold gset; rw [if_neg (by omega)]
  have ex : xact Y a = xac2 (xac1 Y) := by unfold xact; rw [if_neg (by omega)]
  rw [eg, ex]
  have s4 := gr1_4 hGH
  have inj := gr1_inj hGH
  have G6 : (gst H).1 6 = am_u2 ((gr1 H).1 6) 0 4 ((gr1 H).1 6 0 4 + 1) := by
    show (am_U (gr2 H) 6 (am_u2 ((gr1 H).1 6) 0 4 ((gr1 H).1 6 0 4 + 1))).1 6 = _
    exact am_U_at _ _ _
  have Gu : ∀ u, u ≠ 6 → u ≠ (gr1 H).2 (2 + ((gr1 H).1 6 0 4).toNat) → (gst H).1 u = H.1 u := fun u a b => by
    show (am_U (gr2 H) 6 _).1 u = _
    rw [am_U_ne _ _ a]
    show (am_U (gr1 H) _ _).1 u = _
    rw [am_U_ne _ _ b]
    exact gr1_1 a
  have Gs : (gst H).1 ((gr1 H).2 (2 + ((gr1 H).1 6 0 4).toNat)) = gP h := by
    have l := gr1_6 hGH (2 + ((gr1 H).1 6 0 4).toNat)
    show (am_U (gr2 H) 6 _).1 _ = _
    rw [am_U_ne _ _ (by omega)]
    show (am_U (gr1 H) _ _).1 _ = _
    rw [am_U_at, gr1_1 (by have := hGH.2.2 0; omega), H2]
    exact Hu _ (fun q => absurd (hG.1 0 1 (by decide) (by decide) q) (by decide))
  have g64 : (gr1 H).1 6 0 4 = if X 0 5 = 4 then 3 else X 0 5 := by
    unfold gr1
    rw [e6, hc]
    by_cases q : X 0 5 = 4
    · rw [if_pos q, if_pos q, am_U_at, am_u2_hit]
    · rw [if_neg q, if_neg q, e6, hc]
  have x5 : xac1 Y 0 5 = if X 0 5 = 4 then 3 else X 0 5 := by
    unfold xac1
    rw [y5]
    by_cases q : X 0 5 = 4
    · rw [if_pos q, if_pos q, am_u2_hit]
    · rw [if_neg q, if_neg q, y5]
  have x3 : xac1 Y 3 = S := by
    unfold xac1
    split
    · rw [am_u2_ne _ _ _ (by decide), am_u3_ne _ _ (by decide)]
      exact hY3
    · exact hY3
  have x7 : xac2 (xac1 Y) 0 7 = X 0 7 := by
    unfold xac2
    rw [am_u2_rd _ _ (Or.inr (by decide)), am_u3_ne _ _ (by decide)]
    unfold xac1
    split
    · rw [am_u2_rd _ _ (Or.inr (by decide)), am_u3_ne _ _ (by decide)]
      exact y7
    · exact y7
  have x6 : xac2 (xac1 Y) 6 = X 6 := by
    unfold xac2
    rw [am_u2_ne _ _ _ (by decide), am_u3_ne _ _ (by decide)]
    unfold xac1
    split
    · rw [am_u2_ne _ _ _ (by decide), am_u3_ne _ _ (by decide)]
      exact y6
    · exact y6
  have x25 : xac2 (xac1 Y) 0 5 = (if X 0 5 = 4 then 3 else X 0 5) + 1 := by
    unfold xac2
    rw [am_u2_hit, x5]
  have x2 : xac2 (xac1 Y) 2 = xcpk (xac1 Y 2) S (if X 0 5 = 4 then 3 else X 0 5).toNat 208 := by
    unfold xac2
    rw [am_u2_ne _ _ _ (by decide), am_u3_at, x5, x3]
  have r6 : ∀ j, j ≠ 0 → (gst H).1 6 j = h.1 6 j := fun j hj => by
    rw [G6, am_u2_ne _ _ _ hj]
    unfold gr1
    split
    · rw [am_U_at, am_u2_ne _ _ _ hj, e6]
    · rw [e6]
  refine ⟨AG_gst hGH, ?_, ?_, ?_, fun k hk => ?_⟩
  · rw [r6 2 (by decide), r6 3 (by decide), x7, x6]
    exact ht
  · rw [G6, am_u2_hit, g64, x25]
  · have e1 : (gst H).2 0 = h.2 1 := by
      rw [gst_2, if_neg (by decide), if_pos rfl, gr1_lo H (by decide), H2]
    have : gP (gst H) = M' := by
      unfold gP
      rw [e1, Gu _ (Ne.symm h6) (fun q => ?_), Ht]
      have e2 : (gr1 H).2 1 = h.2 1 := by rw [gr1_lo H (by decide), H2]
      rw [← e2] at q
      have := inj 1 _ (by decide) (by omega) q
      omega
    rw [this]
    exact hC
  · rw [x25] at hk
    have e1 : (gst H).2 (2 + k) = (gr1 H).2 (2 + k) := by
      rw [gst_2, if_neg (by omega), if_neg (by omega)]
    rw [e1, x2]
    by_cases q : (k : Int) = (if X 0 5 = 4 then 3 else X 0 5)
    · have e2 : (gst H).1 ((gr1 H).2 (2 + k)) = gP h := by
        rw [← Gs, g64, ← q]
        rfl
      rw [e2]
      refine cg_CW (fun i hi => ?_) (CW_mono hd hn)
      rw [← q]
      show (if 208 * k ≤ 208 * k + i ∧ 208 * k + i < 208 * k + 208 then S (208 * k + i - 208 * k) else _) = S i
      rw [if_pos ⟨by omega, by omega⟩, show 208 * k + i - 208 * k = i by omega]
    · have hk3 : k ≤ 2 ∨ k = 3 ∧ X 0 5 ≠ 4 := by
        revert hk q
        split <;> omega
      have e2 : (gst H).1 ((gr1 H).2 (2 + k)) = H.1 ((gr1 H).2 (2 + k)) := by
        refine Gu _ (by have := gr1_6 hGH (2 + k); omega) (fun z => ?_)
        have := inj (2 + k) _ (by omega) (by omega) z
        rw [g64] at this
        revert this q
        split <;> omega
      rw [e2]
      by_cases q4 : X 0 5 = 4
      · rw [if_pos q4] at hk q
        have e3 : (gr1 H).2 (2 + k) = h.2 (2 + (k + 1)) := by
          rw [gr1_2, if_pos (by rw [e6, hc]; exact q4), grot_2, H2]
          rcases (show k = 0 ∨ k = 1 ∨ k = 2 by omega) with rfl | rfl | rfl <;> rfl
        rw [e3, Hu _ (fun z => by have := hG.1 _ 1 (by omega) (by decide) z; omega)]
        refine cg_CW (fun i hi => ?_) (CW_mono (he (k + 1) (by omega)) hn)
        rw [if_pos q4]
        show (if 208 * (3 : Int).toNat ≤ 208 * k + i ∧ 208 * k + i < 208 * (3 : Int).toNat + 208 then _ else xac1 Y 2 (208 * k + i)) = X 2 (208 * (k + 1) + i)
        rw [if_neg (by show ¬ (208 * 3 ≤ 208 * k + i ∧ _); omega)]
        unfold xac1
        rw [if_pos (y5.trans q4), am_u2_ne _ _ _ (by decide), am_u3_at]
        show (if 208 * k + i < 624 then Y 2 (208 * k + i + 208) else _) = _
        rw [if_pos (by omega), y2]
        congr 1
        omega
      · rw [if_neg q4] at hk q
        have e3 : (gr1 H).2 (2 + k) = h.2 (2 + k) := by
          rw [gr1_2, if_neg (by rw [e6, hc]; exact q4), H2]
        rw [e3, Hu _ (fun z => by have := hG.1 _ 1 (by omega) (by decide) z; omega)]
        refine cg_CW (fun i hi => ?_) (CW_mono (he k (by omega)) hn)
        rw [if_neg q4]
        show (if 208 * (X 0 5).toNat ≤ 208 * k + i ∧ 208 * k + i < 208 * (X 0 5).toNat + 208 then _ else xac1 Y 2 (208 * k + i)) = X 2 (208 * k + i)
        rw [if_neg (by omega)]
        unfold xac1
        rw [if_neg (by rw [y5]; exact q4), y2]
theorem RR_undo {h : am_H} {X : am_M} {S : Nat → Int} {n : Int} (hR : RR h X S n) : gunR h = xundoR X ∧ RR (gund h) (xundoX X) (xundoS X S) n := by
  have hs := RR_st hR
  have hR' := hR
  obtain ⟨hG, ht, hc, hd, he⟩ := hR
  unfold gunR xundoR gund xundoX xundoS
  rw [hc]
  by_cases q : X 0 5 = 0
  · rw [if_neg (show ¬ 0 < X 0 5 by omega), if_neg (show ¬ 0 < X 0 5 by omega), if_pos q, if_pos q, if_pos q]
    exact ⟨rfl, hR'⟩
  · rw [if_pos (show 0 < X 0 5 by omega), if_pos (show 0 < X 0 5 by omega), if_neg q, if_neg q, if_neg q]
    refine ⟨rfl, ?_⟩
    have g6 : (gun1 h).1 6 = am_u2 (h.1 6) 0 4 (X 0 5 - 1) := by
      unfold gun1
      rw [am_U_at, hc]
    have gu : ∀ u, u ≠ 6 → (gun1 h).1 u = h.1 u := fun u hu => am_U_ne _ _ hu
    have h06 : (6 : Nat) ≠ h.2 0 := by have := hG.2.2 0; omega
    have f6 : (am_U (gun1 h) (h.2 0) (h.1 (h.2 (2 + (X 0 5 - 1).toNat)))).1 6 = am_u2 (h.1 6) 0 4 (X 0 5 - 1) := (am_U_ne _ _ h06).trans g6
    refine ⟨⟨hG.1, by rw [f6, am_u2_hit]; omega, hG.2.2⟩, ?_, ?_, ?_, fun k hk => ?_⟩
    · rw [f6, am_u2_ne _ _ _ (show (2 : Nat) ≠ 0 by decide), am_u2_ne _ _ _ (show (3 : Nat) ≠ 0 by decide), am_u2_rd X _ (Or.inr (show (7 : Nat) ≠ 5 by decide)), am_u2_ne X _ _ (show (6 : Nat) ≠ 0 by decide)]
      exact ht
    · rw [f6, am_u2_hit, am_u2_hit]
    · have : gP (am_U (gun1 h) (h.2 0) (h.1 (h.2 (2 + (X 0 5 - 1).toNat)))) = h.1 (h.2 (2 + (X 0 5 - 1).toNat)) := am_U_at _ _ _
      rw [this]
      exact he _ (by omega)
    · rw [am_u2_hit] at hk
      rw [am_u2_ne _ _ _ (by decide)]
      have hne : h.2 (2 + k) ≠ h.2 0 := fun z => by have := hG.1 _ 0 (by omega) (by decide) z; omega
      have : (am_U (gun1 h) (h.2 0) (h.1 (h.2 (2 + (X 0 5 - 1).toNat)))).1 ((am_U (gun1 h) (h.2 0) (h.1 (h.2 (2 + (X 0 5 - 1).toNat)))).2 (2 + k)) = h.1 (h.2 (2 + k)) := (am_U_ne _ _ hne).trans (gu _ (by have := hG.2.2 (2 + k); omega))
      rw [this]
      exact he k (by omega)
theorem RR_type {h : am_H} {X : am_M} {S : Nat → Int} {n : Int} (hR : RR h X S n) (c : Int) : gtyR (h.1 6) c = xtypeR X c ∧ RR (am_U h 6 (gtyO (h.1 6) c)) (xtypeX X c) S n := by
  have hR' := hR
  obtain ⟨hG, ⟨t1, t3, t0, t9⟩, hc, hd, he⟩ := hR
  have eta : am_U h 6 (h.1 6) = h := am_U_id h 6
  unfold gtyR gtyO xtypeR xtypeX
  rw [t1]
  by_cases q1 : 32 ≤ c ∧ c ≤ 126
  · rw [if_pos q1.1, if_pos q1.1, if_pos q1.2, if_pos q1.2, if_pos q1, if_pos q1]
    by_cases q2 : X 0 7 = 60
    · rw [if_neg (show ¬ X 0 7 < 60 by omega), if_neg (show ¬ X 0 7 < 60 by omega), if_pos q2, if_pos q2, eta]
      exact ⟨rfl, hR'⟩
    · rw [if_pos (show X 0 7 < 60 by omega), if_pos (show X 0 7 < 60 by omega), if_neg q2, if_neg q2]
      refine ⟨rfl, ?_⟩
      have u : ∀ i (O : am_M), (am_U h 6 O).1 (h.2 i) = h.1 (h.2 i) := fun i O => am_U_ne _ _ (by have := hG.2.2 i; omega)
      refine ⟨AG_O hG (by rw [am_u2_ne _ _ _ (by decide), am_u2_ne _ _ _ (by decide)]), ?_, ?_, ?_, fun k hk => ?_⟩
      · rw [am_U_at, am_u2_hit, am_u2_hit, am_u2_ne _ _ _ (show (3 : Nat) ≠ 2 by decide), am_u2_ne _ _ _ (show (6 : Nat) ≠ 0 by decide)]
        refine ⟨rfl, ?_, by omega, by omega⟩
        unfold am_u2
        rw [if_pos rfl, if_pos rfl, t3]
      · rw [am_U_at, am_u2_ne _ _ _ (show (0 : Nat) ≠ 2 by decide), am_u2_ne _ _ _ (show (0 : Nat) ≠ 3 by decide), am_u2_rd _ _ (Or.inr (by decide)), am_u2_ne _ _ _ (show (0 : Nat) ≠ 6 by decide)]
        exact hc
      · unfold gP
        show CW ((am_U h 6 _).1 (h.2 0)) S n
        rw [u 0]
        exact hd
      · rw [am_u2_rd _ _ (Or.inr (by decide)), am_u2_ne _ _ _ (show (0 : Nat) ≠ 6 by decide)] at hk
        rw [am_u2_ne _ _ _ (show (2 : Nat) ≠ 0 by decide), am_u2_ne _ _ _ (show (2 : Nat) ≠ 6 by decide)]
        show CW ((am_U h 6 _).1 (h.2 (2 + k))) _ n
        rw [u (2 + k)]
        exact he k hk
  · rw [if_neg q1, if_neg q1]
    by_cases q2 : 32 ≤ c
    · rw [if_pos q2, if_pos q2, if_neg (show ¬ c ≤ 126 by omega), if_neg (show ¬ c ≤ 126 by omega), eta]
      exact ⟨rfl, hR'⟩
    · rw [if_neg q2, if_neg q2, eta]
      exact ⟨rfl, hR'⟩
theorem RR_clear {h : am_H} {X : am_M} {S : Nat → Int} {n : Int} (hR : RR h X S n) : RR (am_U h 6 (am_u2 (h.1 6) 2 1 0)) (am_u2 X 0 7 0) S n := by
  obtain ⟨hG, ⟨t1, t3, t0, t9⟩, hc, hd, he⟩ := hR
  have u : ∀ i (O : am_M), (am_U h 6 O).1 (h.2 i) = h.1 (h.2 i) := fun i O => am_U_ne _ _ (by have := hG.2.2 i; omega)
  refine ⟨AG_O hG (am_u2_ne _ _ _ (by decide)), ?_, ?_, ?_, fun k hk => ?_⟩
  · rw [am_U_at, am_u2_hit, am_u2_hit, am_u2_ne _ _ _ (show (3 : Nat) ≠ 2 by decide), am_u2_ne _ _ _ (show (6 : Nat) ≠ 0 by decide)]
    exact ⟨rfl, t3, by decide, by decide⟩
  · rw [am_U_at, am_u2_ne _ _ _ (show (0 : Nat) ≠ 2 by decide), am_u2_rd _ _ (Or.inr (by decide))]
    exact hc
  · show CW ((am_U h 6 _).1 (h.2 0)) S n
    rw [u 0]
    exact hd
  · rw [am_u2_rd _ _ (Or.inr (by decide))] at hk
    rw [am_u2_ne _ _ _ (show (2 : Nat) ≠ 0 by decide)]
    show CW ((am_U h 6 _).1 (h.2 (2 + k))) _ n
    rw [u (2 + k)]
    exact he k hk
