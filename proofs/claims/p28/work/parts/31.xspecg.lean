/-! ===== texts ===== -/
def tdig (T : Nat → Int) (n p : Int) : Bool := decide (p < n) && (decide (48 ≤ T p.toNat) && decide (T p.toNat ≤ 57))
def tcnt (T : Nat → Int) (n p : Int) : Nat → Nat
  | 0 => 0
  | m + 1 => if tdig T n p = true then 1 + tcnt T n (p + 1) m else 0
def tval (T : Nat → Int) (p : Int) : Nat → Int
  | 0 => 0
  | m + 1 => 10 * tval T p m + T (p + m).toNat - 48
theorem tcnt_le (T : Nat → Int) (n p : Int) (m : Nat) : tcnt T n p m ≤ m := by
  induction m generalizing p with
  | zero => exact Nat.le_refl _
  | succ m ih =>
    unfold tcnt
    have := ih (p + 1)
    split <;> omega
theorem tcnt_eq (T : Nat → Int) (n p : Int) (m i : Nat) (hi : i ≤ m) (hd : ∀ j : Nat, j < i → tdig T n (p + j) = true) (he : i = m ∨ tdig T n (p + i) = false) : tcnt T n p m = i := by
  induction m generalizing p i with
  | zero => show 0 = i; omega
  | succ m ih =>
    unfold tcnt
    by_cases h0 : i = 0
    · subst h0
      rcases he with he | he
      · omega
      · rw [if_neg]
        rw [show p = p + ((0 : Nat) : Int) by omega, he]
        decide
    · have h1 := hd 0 (by omega)
      rw [show p + ((0 : Nat) : Int) = p by omega] at h1
      rw [if_pos h1]
      have h2 := ih (p + 1) (i - 1) (by omega) (fun j hj => by
        have := hd (j + 1) (by omega)
        rwa [show p + ((j + 1 : Nat) : Int) = p + 1 + (j : Int) by omega] at this) (by
        rcases he with he | he
        · exact Or.inl (by omega)
        · refine Or.inr ?_
          rwa [show p + 1 + ((i - 1 : Nat) : Int) = p + (i : Int) by omega])
      rw [h2]
      omega
theorem tcnt_lt {T : Nat → Int} {n p : Int} {m : Nat} (h : 0 < tcnt T n p m) : p + tcnt T n p m ≤ n := by
  induction m generalizing p with
  | zero => exact absurd h (Nat.lt_irrefl 0)
  | succ m ih =>
    unfold tcnt at h ⊢
    by_cases hd : tdig T n p = true
    · rw [if_pos hd] at h ⊢
      by_cases h2 : 0 < tcnt T n (p + 1) m
      · have := ih h2
        omega
      · have hd2 := hd
        unfold tdig at hd2
        simp at hd2
        omega
    · rw [if_neg hd] at h
      omega
theorem tval_b (T : Nat → Int) (n p : Int) (i : Nat) (hi : i ≤ 3) (hd : ∀ j : Nat, j < i → tdig T n (p + j) = true) : 0 ≤ tval T p i ∧ tval T p i ≤ (if i = 0 then 0 else if i = 1 then 9 else if i = 2 then 99 else 999) := by
  have d : ∀ j : Nat, j < i → 48 ≤ T (p + j).toNat ∧ T (p + j).toNat ≤ 57 := by
    intro j hj
    have := hd j hj
    unfold tdig at this
    simp at this
    exact ⟨this.2.1, this.2.2⟩
  rcases (show i = 0 ∨ i = 1 ∨ i = 2 ∨ i = 3 by omega) with rfl | rfl | rfl | rfl
  · exact ⟨Int.le_refl _, Int.le_refl _⟩
  · have d0 := d 0 (by omega)
    simp only [tval]
    simp only [if_neg (show ¬ (1 : Nat) = 0 by decide), if_true]
    omega
  · have d0 := d 0 (by omega)
    have d1 := d 1 (by omega)
    simp only [tval]
    simp only [if_neg (show ¬ (2 : Nat) = 0 by decide), if_neg (show ¬ (2 : Nat) = 1 by decide), if_true]
    omega
  · have d0 := d 0 (by omega)
    have d1 := d 1 (by omega)
    have d2 := d 2 (by omega)
    simp only [tval]
    simp only [if_neg (show ¬ (3 : Nat) = 0 by decide), if_neg (show ¬ (3 : Nat) = 1 by decide), if_neg (show ¬ (3 : Nat) = 2 by decide)]
    omega
theorem am_u2_id (X : am_M) (j k : Nat) : am_u2 X j k (X j k) = X := by
  funext b
  unfold am_u2 am_u1
  by_cases hb : b = j
  · subst hb
    rw [if_pos rfl]
    funext c
    by_cases hc : c = k
    · subst hc; rw [if_pos rfl]
    · rw [if_neg hc]
  · rw [if_neg hb]
theorem am_u2_rd (X : am_M) {j k b c : Nat} (x : Int) (h : b ≠ j ∨ c ≠ k) : am_u2 X j k x b c = X b c := by
  unfold am_u2 am_u1
  by_cases hb : b = j
  · subst hb
    rw [if_pos rfl, if_neg (by rcases h with h | h; exact absurd rfl h; exact h)]
  · rw [if_neg hb]
theorem am_u2_hit (X : am_M) (j k : Nat) (x : Int) : am_u2 X j k x j k = x := by
  unfold am_u2 am_u1
  rw [if_pos rfl, if_pos rfl]
theorem am_u78 (X : am_M) (k : Nat) (a b x y : Int) : am_u2 (am_u2 (am_u2 (am_u2 X 7 k a) 0 8 b) 7 k x) 0 8 y = am_u2 (am_u2 X 7 k x) 0 8 y := by
  funext p q
  unfold am_u2 am_u1
  by_cases h0 : p = 0
  · subst h0
    simp
    by_cases h8 : q = 8 <;> simp [h8]
  · by_cases h7 : p = 7
    · subst h7
      simp
      by_cases hk : q = k <;> simp [hk]
    · simp [h0, h7]
def xnumN (X : am_M) : Nat := tcnt (X 6) (X 0 7) (X 0 8) 3
def xnumX (X : am_M) (k : Int) : am_M := am_u2 (am_u2 X 7 k.toNat (tval (X 6) (X 0 8) (xnumN X))) 0 8 (X 0 8 + xnumN X)
def xhas (X : am_M) (c : Int) : Bool := decide (X 0 8 < X 0 7) && (X 6 (X 0 8).toNat == c)
def xhasX (X : am_M) (c : Int) : am_M := am_u2 X 0 8 (X 0 8 + (if xhas X c = true then 1 else 0))
def t2 (L : Int) : Bool := L == 112 || L == 98
def tok (L : Int) : Bool := t2 L || (L == 107 || (L == 116 || (L == 101 || L == 118)))
def xrf (X : am_M) (L : Int) : Bool × am_M :=
  if tok L = true then (if xnumN X = 0 then (false, xnumX X 0) else (if t2 L = true then (if xhas (xnumX X 0) 44 = true then (if xnumN (xhasX (xnumX X 0) 44) = 0 then (false, xnumX (xhasX (xnumX X 0) 44) 1) else (xhas (xnumX (xhasX (xnumX X 0) 44) 1) 59, xhasX (xnumX (xhasX (xnumX X 0) 44) 1) 59)) else (false, xhasX (xnumX X 0) 44)) else (xhas (xnumX X 0) 59, xhasX (xnumX X 0) 59))) else (false, X)
/-- what the text's cells keep to -/
def TX (X : am_M) : Prop := 0 ≤ X 0 8 ∧ X 0 8 ≤ X 0 7 ∧ 0 ≤ X 0 7 ∧ X 0 7 ≤ 60
theorem xnumX_at (X : am_M) (k : Int) : xnumX X k 0 8 = X 0 8 + xnumN X ∧ xnumX X k 0 7 = X 0 7 ∧ xnumX X k 6 = X 6 := by
  unfold xnumX
  refine ⟨am_u2_hit _ _ _ _, ?_, ?_⟩
  · rw [am_u2_rd _ _ (Or.inr (by decide)), am_u2_rd _ _ (Or.inl (by decide))]
  · rw [am_u2_ne _ _ _ (by decide), am_u2_ne _ _ _ (by decide)]
theorem xhasX_at (X : am_M) (c : Int) : xhasX X c 0 8 = X 0 8 + (if xhas X c = true then 1 else 0) ∧ xhasX X c 0 7 = X 0 7 ∧ xhasX X c 6 = X 6 ∧ xhasX X c 7 = X 7 := by
  unfold xhasX
  exact ⟨am_u2_hit _ _ _ _, am_u2_rd _ _ (Or.inr (by decide)), am_u2_ne _ _ _ (by decide), am_u2_ne _ _ _ (by decide)⟩
theorem TX_num {X : am_M} {k : Int} (h : TX X) : TX (xnumX X k) := by
  obtain ⟨a, b, -⟩ := xnumX_at X k
  obtain ⟨h1, h2, h3, h4⟩ := h
  unfold TX
  rw [a, b]
  by_cases hn : 0 < xnumN X
  · have := tcnt_lt (T := X 6) (n := X 0 7) (p := X 0 8) (m := 3) hn
    unfold xnumN at hn ⊢
    omega
  · omega
theorem TX_has {X : am_M} {c : Int} (h : TX X) : TX (xhasX X c) := by
  obtain ⟨a, b, -⟩ := xhasX_at X c
  obtain ⟨h1, h2, h3, h4⟩ := h
  unfold TX
  rw [a, b]
  by_cases hh : xhas X c = true
  · rw [if_pos hh]
    unfold xhas at hh
    simp at hh
    omega
  · rw [if_neg hh]
    omega
theorem TX_rf {X : am_M} {L : Int} (h : TX X) : TX (xrf X L).2 ∧ X 0 8 ≤ (xrf X L).2 0 8 ∧ (xrf X L).2 0 7 = X 0 7 ∧ (xrf X L).2 6 = X 6 := by
  have n0 := TX_num (k := 0) h
  have a0 := xnumX_at X 0
  have n1 := TX_has (c := 44) n0
  have a1 := xhasX_at (xnumX X 0) 44
  have n2 := TX_num (k := 1) n1
  have a2 := xnumX_at (xhasX (xnumX X 0) 44) 1
  have n3 := TX_has (c := 59) n2
  have a3 := xhasX_at (xnumX (xhasX (xnumX X 0) 44) 1) 59
  have n4 := TX_has (c := 59) n0
  have a4 := xhasX_at (xnumX X 0) 59
  unfold xrf
  (repeat' split) <;> dsimp only
  · exact ⟨n0, by omega, a0.2.1, a0.2.2⟩
  · exact ⟨n2, by rw [a2.1, a1.1, a0.1]; split <;> omega, by rw [a2.2.1, a1.2.1, a0.2.1], by rw [a2.2.2, a1.2.2.1, a0.2.2]⟩
  · exact ⟨n3, by rw [a3.1, a2.1, a1.1, a0.1]; (repeat' split) <;> omega, by rw [a3.2.1, a2.2.1, a1.2.1, a0.2.1], by rw [a3.2.2.1, a2.2.2, a1.2.2.1, a0.2.2]⟩
  · exact ⟨n1, by rw [a1.1, a0.1]; split <;> omega, by rw [a1.2.1, a0.2.1], by rw [a1.2.2.1, a0.2.2]⟩
  · exact ⟨n4, by rw [a4.1, a0.1]; split <;> omega, by rw [a4.2.1, a0.2.1], by rw [a4.2.2.1, a0.2.2]⟩
  · exact ⟨h, Int.le_refl _, rfl, rfl⟩
