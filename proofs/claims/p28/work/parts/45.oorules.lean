/-! ===== the class's texts: unit 6's cells 2 and 3, the machine's rows ===== -/
theorem am_U_comm (h : am_H) {u v : Nat} (M N : am_M) (huv : u ≠ v) : am_U (am_U h u M) v N = am_U (am_U h v N) u M := by
  unfold am_U
  apply Prod.ext
  · funext a
    show (if a = v then N else if a = u then M else h.1 a) = (if a = u then M else if a = v then N else h.1 a)
    by_cases h1 : a = v
    · subst h1
      rw [if_pos rfl, if_neg (Ne.symm huv), if_pos rfl]
    · rw [if_neg h1, if_neg h1]
  · rfl
section SO
variable {d : Nat} {y : am_Y} {h1 : am_H} {r : Option am_V} {pc : Nat} {ls : List (Option am_V)} {st : List am_V} {h h0 : am_H}
theorem oo_geti {O : am_M} {ix k : Nat} (hd : decode y.2.1 pc = .ok (.getfield ix, 3)) (hl : am_fl y.1.cls ix TX1 k) (hk : 1 ≤ k ∧ k < 8) (kk : am_R (O 2 k) → Sx d y h1 r (pc + 3) ls (.inl (O 2 k) :: st) (am_U h0 6 O)) : Sx d y h1 r pc ls (.inr (6, 2) :: st) (am_U h0 6 O) := by
  refine sx_vh (fun hV => ?_)
  have hR : am_R (O 2 k) := by have := hV.1 6 2 k; rwa [am_U_at] at this
  refine sx_get hd (am_inG 2 (by decide)) rfl (k := k) hl (by show k < 8; omega) ?_ (kk hR)
  unfold am_f
  rw [if_neg (by decide), if_pos rfl, if_neg (by decide), am_U_at]
  obtain ⟨c, rfl⟩ : ∃ c, k = c + 1 := ⟨k - 1, by omega⟩
  rfl
theorem am_TX1 : ∀ k, 1 ≤ k → k < 8 → (TX1 k).2.2.2 = false ∧ (TX1 k).2.2.1 = "I" := by
  intro k h1 h8
  rcases (show k = 1 ∨ k = 2 ∨ k = 3 ∨ k = 4 ∨ k = 5 ∨ k = 6 ∨ k = 7 by omega) with rfl | rfl | rfl | rfl | rfl | rfl | rfl <;> exact ⟨rfl, rfl⟩
theorem Ct_sw {u : Nat} {as : List am_V} {O M N : am_M} (hu : u < 6) (hc : Ct d y as r (am_U (am_U h0 6 O) u M) (am_U (am_U h0 6 O) u N)) : Ct d y as r (am_U (am_U h0 u M) 6 O) (am_U (am_U h0 u N) 6 O) := by
  rw [am_U_comm h0 M O (by omega), am_U_comm h0 N O (by omega)]
  exact hc
end SO
/-! ===== what texts' reading comes to, in the class ===== -/
def onN (O : am_M) : Nat := tcnt (O 3) (O 2 1) (O 2 4) 3
def onR (O : am_M) : Int := if onN O = 0 then -1 else tval (O 3) (O 2 4) (onN O)
def onX (O : am_M) : am_M := am_u2 O 2 4 (O 2 4 + onN O)
def ohas (O : am_M) (c : Int) : Bool := decide (O 2 4 < O 2 1) && (O 3 (O 2 4).toNat == c)
def ohX (O : am_M) (c : Int) : am_M := if ohas O c = true then am_u2 O 2 4 (O 2 4 + 1) else O
def TO (O : am_M) : Prop := 0 ≤ O 2 4 ∧ O 2 4 ≤ O 2 1 ∧ 0 ≤ O 2 1 ∧ O 2 1 ≤ 60
def o6 (O : am_M) : am_M := am_u2 (onX O) 2 6 (onR O)
def o7 (O : am_M) : am_M := am_u2 (onX O) 2 7 (onR O)
def orf (O : am_M) (L : Int) : Bool × am_M :=
  if tok L = true then (if onN O = 0 then (false, o6 O) else (if t2 L = true then (if ohas (o6 O) 44 = true then (if onN (ohX (o6 O) 44) = 0 then (false, o7 (ohX (o6 O) 44)) else (ohas (o7 (ohX (o6 O) 44)) 59, ohX (o7 (ohX (o6 O) 44)) 59)) else (false, am_u2 (ohX (o6 O) 44) 2 7 (-1))) else (ohas (o6 O) 59, ohX (o6 O) 59))) else (false, O)
theorem onX_at (O : am_M) : onX O 2 4 = O 2 4 + onN O ∧ onX O 2 1 = O 2 1 ∧ onX O 3 = O 3 := by
  unfold onX
  exact ⟨am_u2_hit _ _ _ _, am_u2_rd _ _ (Or.inr (by decide)), am_u2_ne _ _ _ (by decide)⟩
theorem TO_onX {O : am_M} (h : TO O) : TO (onX O) := by
  obtain ⟨a, b, -⟩ := onX_at O
  obtain ⟨h1, h2, h3, h4⟩ := h
  unfold TO
  rw [a, b]
  by_cases hn : 0 < onN O
  · have := tcnt_lt (T := O 3) (n := O 2 1) (p := O 2 4) (m := 3) hn
    unfold onN at hn ⊢
    omega
  · omega
theorem TO_u {O : am_M} {k : Nat} {x : Int} (h : TO O) (h1 : k ≠ 1) (h4 : k ≠ 4) : TO (am_u2 O 2 k x) := by
  unfold TO
  rw [am_u2_rd _ _ (Or.inr (Ne.symm h1)), am_u2_rd _ _ (Or.inr (Ne.symm h4))]
  exact h
theorem TO_6 {O : am_M} (h : TO O) : TO (o6 O) := TO_u (TO_onX h) (by decide) (by decide)
theorem TO_7 {O : am_M} (h : TO O) : TO (o7 O) := TO_u (TO_onX h) (by decide) (by decide)
theorem TO_has {O : am_M} {c : Int} (h : TO O) : TO (ohX O c) := by
  unfold ohX
  split
  · rename_i hh
    obtain ⟨h1, h2, h3, h4⟩ := h
    unfold ohas at hh
    simp at hh
    unfold TO
    rw [am_u2_hit, am_u2_rd _ _ (Or.inr (by decide))]
    omega
  · exact h
theorem onR_b (O : am_M) : -1 ≤ onR O ∧ onR O ≤ 999 ∧ (onR O = -1 ↔ onN O = 0) := by
  unfold onR
  by_cases h : onN O = 0
  · rw [if_pos h]
    exact ⟨by decide, by decide, ⟨fun _ => h, fun _ => rfl⟩⟩
  · rw [if_neg h]
    have hd : ∀ (T : Nat → Int) (n : Int) (m : Nat) (p : Int) (j : Nat), j < tcnt T n p m → tdig T n (p + j) = true := by
      intro T n m
      induction m with
      | zero => intro p j hj; exact absurd hj (Nat.not_lt_zero j)
      | succ m ih =>
        intro p j hj
        unfold tcnt at hj
        by_cases hq : tdig T n p = true
        · rw [if_pos hq] at hj
          by_cases h0 : j = 0
          · subst h0
            rw [show p + ((0 : Nat) : Int) = p by omega]
            exact hq
          · have := ih (p + 1) (j - 1) (by omega)
            rwa [show p + 1 + ((j - 1 : Nat) : Int) = p + (j : Int) by omega] at this
        · rw [if_neg hq] at hj
          exact absurd hj (Nat.not_lt_zero j)
    have hb := tval_b (O 3) (O 2 1) (O 2 4) (onN O) (tcnt_le _ _ _ _) (fun j hj => hd _ _ _ _ j hj)
    refine ⟨by omega, ?_, ⟨fun q => by omega, fun q => absurd q h⟩⟩
    have := hb.2
    (repeat' split at this) <;> omega
