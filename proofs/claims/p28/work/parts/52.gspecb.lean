/-! ===== texts and the way back ===== -/
def gtyR (O : am_M) (c : Int) : Int := if 32 ≤ c then (if c ≤ 126 then (if O 2 1 < 60 then O 2 1 + 1 else -1000003) else -1000001) else -1000001
def gtyO (O : am_M) (c : Int) : am_M := if 32 ≤ c then (if c ≤ 126 then (if O 2 1 < 60 then am_u2 (am_u2 O 3 (O 2 1).toNat c) 2 1 (O 2 1 + 1) else O) else O) else O
def gun1 (h : am_H) : am_H := am_U h 6 (am_u2 (h.1 6) 0 4 (h.1 6 0 4 - 1))
def gund (h : am_H) : am_H := if 0 < h.1 6 0 4 then am_U (gun1 h) (h.2 0) (h.1 (h.2 (2 + (h.1 6 0 4 - 1).toNat))) else h
def gunR (h : am_H) : Int := if 0 < h.1 6 0 4 then h.1 6 0 4 - 1 else -1000002
def gftR (M O : am_M) (k : Int) : Int := if k = 0 ∨ k = 1 then (if (oA M O).2.2 2 3 = 0 then -1000004 else if k = 0 then (oA M O).2.2 2 2 else (oA M O).2.2 2 3) else -1000001
def gftH (h : am_H) (Z : am_M) (k : Int) : am_H := if k = 0 ∨ k = 1 then am_U (am_U h (h.2 1) (oA (gP h) (h.1 6)).2.1) 6 (oA (gP h) (h.1 6)).2.2 else am_U h (h.2 1) Z
def gplR (M O : am_M) : Int := if (oA M O).2.2 2 3 = 0 then (oA M O).1 else -1000002
def gplH (h : am_H) : am_H := gset (am_U (am_U h (h.2 1) (oA (gP h) (h.1 6)).2.1) 6 (oA (gP h) (h.1 6)).2.2) (gplR (gP h) (h.1 6))
theorem ohX_r (O : am_M) (c : Int) {j : Nat} (hj : j ≠ 2) : ohX O c j = O j := by
  unfold ohX
  split
  · exact am_u2_ne _ _ _ hj
  · rfl
theorem o6_r (O : am_M) {j : Nat} (hj : j ≠ 2) : o6 O j = O j := by
  unfold o6 onX
  rw [am_u2_ne _ _ _ hj, am_u2_ne _ _ _ hj]
theorem o7_r (O : am_M) {j : Nat} (hj : j ≠ 2) : o7 O j = O j := by
  unfold o7 onX
  rw [am_u2_ne _ _ _ hj, am_u2_ne _ _ _ hj]
theorem oq_r (O : am_M) {j : Nat} (hj : j ≠ 2) : oq O j = O j := by
  unfold oq rdo orf
  (repeat' split) <;> dsimp only <;> simp only [o7_r _ hj, ohX_r _ _ hj, o6_r _ hj, am_u2_ne _ _ _ hj, or1, os]
theorem oO_r (M O : am_M) {j : Nat} (hj : j ≠ 2) : oO M O j = O j := by
  unfold oO
  split
  · exact oq_r O hj
  · rw [am_u2_ne _ _ _ hj, oq_r O hj]
theorem oall_r {j : Nat} (hj : j ≠ 2) (k : Nat) : ∀ (n : Int) (M O : am_M), (oall k (n, M, O)).2.2 j = O j := by
  induction k with
  | zero => exact fun _ _ _ => rfl
  | succ k ih =>
    intro n M O
    simp only [oall]
    split
    · split
      · rw [ih, oO_r _ _ hj]
      · exact oO_r _ _ hj
    · rfl
theorem oA_r (M O : am_M) {j : Nat} (hj : j ≠ 2) : (oA M O).2.2 j = O j := by
  unfold oA oini
  rw [oall_r hj, am_u2_ne _ _ _ hj, am_u2_ne _ _ _ hj]
theorem oall_n (k : Nat) : ∀ (n : Int) (M O : am_M), n ≤ (oall k (n, M, O)).1 ∧ (oall k (n, M, O)).1 ≤ n + k := by
  induction k with
  | zero => exact fun n _ _ => ⟨Int.le_refl _, by show n ≤ n + ((0 : Nat) : Int); omega⟩
  | succ k ih =>
    intro n M O
    simp only [oall]
    split
    · split
      · have := ih (n + 1) (oM M O) (oO M O)
        omega
      · dsimp only; omega
    · dsimp only; omega
theorem gplR_b (M O : am_M) : -1000002 ≤ gplR M O ∧ gplR M O ≤ 60 := by
  have := oall_n 60 0 M (oini O)
  unfold gplR oA
  split <;> omega
theorem yww_b {M : am_M} (hW : WM M) : 0 ≤ yww M ∧ yww M ≤ 18 := by
  have w8 := hW.2.2.2.2.1
  have a := w8 0 (by decide) (by decide)
  have b := w8 1 (by decide) (by decide)
  have c := w8 2 (by decide) (by decide)
  have e : yww M = 0 + rd M 8 0 + rd M 8 1 + rd M 8 2 := rfl
  rw [e]
  omega
