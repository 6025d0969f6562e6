/-! ===== the class itself: its object, its history ===== -/
def gP (h : am_H) : am_M := h.1 (h.2 0)
def AG (h : am_H) : Prop := (∀ i j, i < 6 → j < 6 → h.2 i = h.2 j → i = j) ∧ (0 ≤ h.1 6 0 4 ∧ h.1 6 0 4 ≤ 4) ∧ ∀ i, h.2 i < 6
theorem AG_pt {h : am_H} (hG : AG h) : h.2 1 ≠ h.2 0 := fun q => absurd (hG.1 1 0 (by decide) (by decide) q) (by decide)
theorem AG_U {h : am_H} {u : Nat} {M : am_M} (hG : AG h) (hu : u < 6) : AG (am_U h u M) := by
  refine ⟨hG.1, ?_, hG.2.2⟩
  rw [am_U_ne _ _ (by omega)]
  exact hG.2.1
theorem AG_O {h : am_H} {O : am_M} (hG : AG h) (h0 : O 0 = h.1 6 0) : AG (am_U h 6 O) := by
  refine ⟨hG.1, ?_, hG.2.2⟩
  rw [am_U_at, h0]
  exact hG.2.1
theorem gZ_p {h : am_H} {Z : am_M} (hG : AG h) : (am_U h (h.2 1) Z).1 (h.2 0) = gP h := am_U_ne _ _ (Ne.symm (AG_pt hG))
section SG
variable {d : Nat} {y : am_Y} {h1 : am_H} {r : Option am_V} {pc : Nat} {ls : List (Option am_V)} {st : List am_V} {h h0 : am_H}
theorem Ct_p {as : List am_V} {Z : am_M} (hG : AG h0) (hc : Ct d y as r (am_U (am_U h0 (h0.2 1) Z) (h0.2 0) (gP h0)) (am_U (am_U h0 (h0.2 1) Z) (h0.2 0) (gP h0))) : Ct d y as r (am_U h0 (h0.2 1) Z) (am_U h0 (h0.2 1) Z) := by
  have e : am_U (am_U h0 (h0.2 1) Z) (h0.2 0) (gP h0) = am_U h0 (h0.2 1) Z := by
    rw [← gZ_p (Z := Z) hG]
    exact am_U_id _ _
  rwa [e] at hc
theorem gg_geth {ix : Nat} (hd : decode y.2.1 pc = .ok (.getfield ix, 3)) (hl : am_fl y.1.cls ix TX2 0) (kk : Sx d y h1 r (pc + 3) ls (.inr (6, 1) :: st) h) : Sx d y h1 r pc ls (.inr (6, 0) :: st) h := sx_get hd (am_inG 0 (by decide)) rfl (k := 0) hl (by decide) rfl kk
theorem gg_geto {ix : Nat} (hd : decode y.2.1 pc = .ok (.getfield ix, 3)) (hl : am_fl y.1.cls ix TX2 1) (kk : Sx d y h1 r (pc + 3) ls (.inr (6, 2) :: st) h) : Sx d y h1 r pc ls (.inr (6, 0) :: st) h := sx_get hd (am_inG 0 (by decide)) rfl (k := 1) hl (by decide) rfl kk
theorem gg_getp {ix p : Nat} (hd : decode y.2.1 pc = .ok (.getfield ix, 3)) (hl : am_fl y.1.cls ix TX2 2) (hp : h.2 0 = p) (kk : Sx d y h1 r (pc + 3) ls (.inr (p, 0) :: st) h) : Sx d y h1 r pc ls (.inr (6, 0) :: st) h := by
  subst hp
  exact sx_get hd (am_inG 0 (by decide)) rfl (k := 2) hl (by decide) rfl kk
theorem gg_gett {ix p : Nat} (hd : decode y.2.1 pc = .ok (.getfield ix, 3)) (hl : am_fl y.1.cls ix TX2 3) (hp : h.2 1 = p) (kk : Sx d y h1 r (pc + 3) ls (.inr (p, 0) :: st) h) : Sx d y h1 r pc ls (.inr (6, 0) :: st) h := by
  subst hp
  exact sx_get hd (am_inG 0 (by decide)) rfl (k := 3) hl (by decide) rfl kk
theorem gg_gets {ix : Nat} {x : Int} (hd : decode y.2.1 pc = .ok (.getfield ix, 3)) (hl : am_fl y.1.cls ix TX2 4) (hx : h.1 6 0 4 = x) (kk : Sx d y h1 r (pc + 3) ls (.inl x :: st) h) : Sx d y h1 r pc ls (.inr (6, 0) :: st) h := by
  subst hx
  exact sx_get hd (am_inG 0 (by decide)) rfl (k := 4) hl (by decide) rfl kk
theorem gg_puts {ix : Nat} {x : Int} (hd : decode y.2.1 pc = .ok (.putfield ix, 3)) (hl : am_fl y.1.cls ix TX2 4) (hR : am_R x) (kk : Sx d y h1 r (pc + 3) ls st (am_U h 6 (am_u2 (h.1 6) 0 4 x))) : Sx d y h1 r pc ls (.inl x :: .inr (6, 0) :: st) h := by
  refine sx_put hd (am_inG 0 (by decide)) rfl (k := 4) hl (by decide) rfl rfl ?_ ?_ hR kk
  · intro w
    show Sum.inl ((am_U h 6 (am_u2 (h.1 6) 0 4 w)).1 6 0 4) = _
    rw [am_U_at, am_u2_hit]
  · intro w c hc hc9
    show am_fG ((am_U h 6 (am_u2 (h.1 6) 0 4 w)).1 6 0) h.2 6 c = am_fG (h.1 6 0) h.2 6 c
    rw [am_U_at]
    unfold am_fG
    replace hc9 : c < 5 := hc9
    rcases (show c = 0 ∨ c = 1 ∨ c = 2 ∨ c = 3 by omega) with rfl | rfl | rfl | rfl <;> rfl
/-- the present state's fields, on a heap whose trial is anything -/
theorem gz_geti {Z : am_M} {ix k : Nat} (hG : AG h0) (hd : decode y.2.1 pc = .ok (.getfield ix, 3)) (hl : am_fl y.1.cls ix TX0 k) (hk : k < 5) (kk : am_R (gP h0 0 k) → Sx d y h1 r (pc + 3) ls (.inl (gP h0 0 k) :: st) (am_U h0 (h0.2 1) Z)) : Sx d y h1 r pc ls (.inr (h0.2 0, 0) :: st) (am_U h0 (h0.2 1) Z) := by
  have e : am_U (am_U h0 (h0.2 1) Z) (h0.2 0) (gP h0) = am_U h0 (h0.2 1) Z := by
    rw [← gZ_p (Z := Z) hG]
    exact am_U_id _ _
  rw [← e] at kk ⊢
  exact mm_geti (hG.2.2 0) hd hl hk kk
theorem gz_getr {Z : am_M} {ix j : Nat} (hG : AG h0) (hd : decode y.2.1 pc = .ok (.getfield ix, 3)) (hl : am_fl y.1.cls ix TX0 (j + 4)) (hj : 1 ≤ j ∧ j < 14) (kk : Sx d y h1 r (pc + 3) ls (.inr (h0.2 0, j) :: st) (am_U h0 (h0.2 1) Z)) : Sx d y h1 r pc ls (.inr (h0.2 0, 0) :: st) (am_U h0 (h0.2 1) Z) := by
  have e : am_U (am_U h0 (h0.2 1) Z) (h0.2 0) (gP h0) = am_U h0 (h0.2 1) Z := by
    rw [← gZ_p (Z := Z) hG]
    exact am_U_id _ _
  rw [← e] at kk ⊢
  exact mm_getr (hG.2.2 0) hd hl hj kk
theorem gz_ild {Z : am_M} {j n : Nat} {i : Int} (hG : AG h0) (hd : decode y.2.1 pc = .ok (.iaload, 1)) (hj : 1 ≤ j ∧ j < 14) (hn : am_lenM j = n) (hn9 : n ≤ 1000000) (hi0 : 0 ≤ i) (hi9 : i < n) (kk : am_R (rd (gP h0) j i) → Sx d y h1 r (pc + 1) ls (.inl (rd (gP h0) j i) :: st) (am_U h0 (h0.2 1) Z)) : Sx d y h1 r pc ls (.inl i :: .inr (h0.2 0, j) :: st) (am_U h0 (h0.2 1) Z) := by
  have e : am_U (am_U h0 (h0.2 1) Z) (h0.2 0) (gP h0) = am_U h0 (h0.2 1) Z := by
    rw [← gZ_p (Z := Z) hG]
    exact am_U_id _ _
  rw [← e] at kk ⊢
  exact mm_ild (hG.2.2 0) hd hj hn hn9 hi0 hi9 rfl kk
/-- the texts' fields, on any heap -/
theorem go_geti {ix k : Nat} {x : Int} (hd : decode y.2.1 pc = .ok (.getfield ix, 3)) (hl : am_fl y.1.cls ix TX1 k) (hk : 1 ≤ k ∧ k < 8) (hx : h.1 6 2 k = x) (kk : am_R x → Sx d y h1 r (pc + 3) ls (.inl x :: st) h) : Sx d y h1 r pc ls (.inr (6, 2) :: st) h := by
  subst hx
  have e := am_U_id h 6
  rw [← e] at kk ⊢
  rw [am_U_at] at kk
  exact oo_geti hd hl hk kk
theorem go_getr {ix : Nat} (hd : decode y.2.1 pc = .ok (.getfield ix, 3)) (hl : am_fl y.1.cls ix TX1 0) (kk : Sx d y h1 r (pc + 3) ls (.inr (6, 3) :: st) h) : Sx d y h1 r pc ls (.inr (6, 2) :: st) h := sx_get hd (am_inG 2 (by decide)) rfl (k := 0) hl (by decide) rfl kk
end SG
/-! ===== what the calls come to ===== -/
def grot (h : am_H) : am_H := am_S (am_S (am_S (am_S h 2 (h.2 3)) 3 (h.2 4)) 4 (h.2 5)) 5 (h.2 2)
def gr1 (h : am_H) : am_H := if h.1 6 0 4 = 4 then am_U (grot h) 6 (am_u2 (h.1 6) 0 4 3) else h
def gr2 (h : am_H) : am_H := am_U (gr1 h) ((gr1 h).2 (2 + ((gr1 h).1 6 0 4).toNat)) ((gr1 h).1 (h.2 0))
def grem (h : am_H) : am_H := am_U (gr2 h) 6 (am_u2 ((gr1 h).1 6) 0 4 ((gr1 h).1 6 0 4 + 1))
def gst (h : am_H) : am_H := am_S (am_S (grem h) 0 (h.2 1)) 1 (h.2 0)
def gset (h : am_H) (a : Int) : am_H := if a < 0 then h else gst h
theorem gr1_4 {h : am_H} (hG : AG h) : 0 ≤ (gr1 h).1 6 0 4 ∧ (gr1 h).1 6 0 4 ≤ 3 := by
  have := hG.2.1
  unfold gr1
  split
  · rw [am_U_at, am_u2_hit]
    omega
  · omega
theorem grot_2 (h : am_H) (k : Nat) : (grot h).2 k = if k = 5 then h.2 2 else if k = 4 then h.2 5 else if k = 3 then h.2 4 else if k = 2 then h.2 3 else h.2 k := rfl
theorem gr1_2 (h : am_H) (k : Nat) : (gr1 h).2 k = if h.1 6 0 4 = 4 then (grot h).2 k else h.2 k := by
  unfold gr1
  split <;> rfl
theorem gr1_lo (h : am_H) {k : Nat} (hk : k < 2) : (gr1 h).2 k = h.2 k := by
  rw [gr1_2]
  split
  · rw [grot_2, if_neg (by omega), if_neg (by omega), if_neg (by omega), if_neg (by omega)]
  · rfl
/-- a permutation still -/
theorem gr1_inj {h : am_H} (hG : AG h) : ∀ i j, i < 6 → j < 6 → (gr1 h).2 i = (gr1 h).2 j → i = j := by
  intro i j hi hj
  rw [gr1_2, gr1_2]
  split
  · have key : ∀ k, k < 6 → ∃ k', k' < 6 ∧ (grot h).2 k = h.2 k' ∧ k' = (if k = 5 then 2 else if k = 4 then 5 else if k = 3 then 4 else if k = 2 then 3 else k) := by
      intro k hk
      rw [grot_2]
      refine ⟨_, ?_, ?_, rfl⟩
      · (repeat' split) <;> omega
      · (repeat' split) <;> rfl
    obtain ⟨a, a1, a2, a3⟩ := key i hi
    obtain ⟨b, b1, b2, b3⟩ := key j hj
    rw [a2, b2]
    intro q
    have := hG.1 a b a1 b1 q
    subst a3
    subst b3
    (repeat' split at this) <;> omega
  · exact hG.1 i j hi hj
theorem gr1_6 {h : am_H} (hG : AG h) : ∀ i, (gr1 h).2 i < 6 := by
  intro i
  rw [gr1_2]
  split
  · rw [grot_2]
    (repeat' split) <;> exact hG.2.2 _
  · exact hG.2.2 i
theorem gr1_1 {h : am_H} {u : Nat} (hu : u ≠ 6) : (gr1 h).1 u = h.1 u := by
  unfold gr1
  split
  · rw [am_U_ne _ _ hu]; rfl
  · rfl
