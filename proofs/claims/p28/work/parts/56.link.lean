/-! ===== the same, by whole numbers ===== -/
theorem bi_or6 {b r k : Int} (hb : 0 ≤ b ∧ b < 64) (hr : 0 ≤ r ∧ r ≤ 5) (hk : 0 ≤ k ∧ k ≤ 5) : bit (am_or b (am_shl 1 r)) k = if k = r then 1 else bit b k := by
  have h := bt_or6 ⟨b.toNat, by omega⟩ ⟨r.toNat, by omega⟩ ⟨k.toNat, by omega⟩
  simp only [Fin.mk.injEq] at h
  rw [show ((b.toNat : Nat) : Int) = b by omega, show ((r.toNat : Nat) : Int) = r by omega, show ((k.toNat : Nat) : Int) = k by omega] at h
  rw [h]
  by_cases q : k = r
  · rw [if_pos q, if_pos (by omega)]
  · rw [if_neg q, if_neg (by omega)]
theorem bi_not6 {b : Int} (hb : 0 ≤ b ∧ b < 64) : (0 ≤ am_and 63 (am_xor b (-1)) ∧ am_and 63 (am_xor b (-1)) < 64) ∧ ∀ k : Int, 0 ≤ k → k ≤ 5 → bit (am_and 63 (am_xor b (-1))) k = 1 - bit b k := by
  have h := bt_not6 ⟨b.toNat, by omega⟩
  simp only [show ((b.toNat : Nat) : Int) = b by omega] at h
  refine ⟨h.1, fun k h0 h5 => ?_⟩
  have := h.2 ⟨k.toNat, by omega⟩
  simp only [show ((k.toNat : Nat) : Int) = k by omega] at this
  exact this
theorem bi_cnt6 {b : Int} (hb : 0 ≤ b ∧ b < 64) : ybc b = sumW (fun k => bit b (k : Int)) 6 ∧ ybc b = sumW (fun k => bit b (k : Int)) 8 := by
  have h := bt_cnt6 ⟨b.toNat, by omega⟩
  simp only [show ((b.toNat : Nat) : Int) = b by omega] at h
  exact h
theorem bi_cnt8 {b : Int} (hb : 0 ≤ b ∧ b < 256) : ybc b = sumW (fun k => bit b (k : Int)) 8 := by
  have h := bt_cnt8 ⟨b.toNat, by omega⟩
  simp only [show ((b.toNat : Nat) : Int) = b by omega] at h
  exact h
theorem bi_or8 {b r : Int} (hb : 0 ≤ b ∧ b < 256) (hr : 0 ≤ r ∧ r < 8) : (0 ≤ am_or b (am_shl 1 r) ∧ am_or b (am_shl 1 r) < 256) ∧ ∀ k : Int, 0 ≤ k → k < 8 → bit (am_or b (am_shl 1 r)) k = if k = r then 1 else bit b k := by
  have h := bt_or8 ⟨b.toNat, by omega⟩ ⟨r.toNat, by omega⟩
  simp only [show ((b.toNat : Nat) : Int) = b by omega, show ((r.toNat : Nat) : Int) = r by omega] at h
  refine ⟨h.1, fun k h0 h8 => ?_⟩
  have := h.2 ⟨k.toNat, by omega⟩
  simp only [show ((k.toNat : Nat) : Int) = k by omega, Fin.mk.injEq] at this
  rw [this]
  by_cases q : k = r
  · rw [if_pos q, if_pos (by omega)]
  · rw [if_neg q, if_neg (by omega)]
theorem bi_clr8 {b r : Int} (hb : 0 ≤ b ∧ b < 256) (hr : 0 ≤ r ∧ r < 8) : (0 ≤ am_and b (am_xor (am_shl 1 r) (-1)) ∧ am_and b (am_xor (am_shl 1 r) (-1)) < 256) ∧ ∀ k : Int, 0 ≤ k → k < 8 → bit (am_and b (am_xor (am_shl 1 r) (-1))) k = if k = r then 0 else bit b k := by
  have h := bt_clr8 ⟨b.toNat, by omega⟩ ⟨r.toNat, by omega⟩
  simp only [show ((b.toNat : Nat) : Int) = b by omega, show ((r.toNat : Nat) : Int) = r by omega] at h
  refine ⟨h.1, fun k h0 h8 => ?_⟩
  have := h.2 ⟨k.toNat, by omega⟩
  simp only [show ((k.toNat : Nat) : Int) = k by omega, Fin.mk.injEq] at this
  rw [this]
  by_cases q : k = r
  · rw [if_pos q, if_pos (by omega)]
  · rw [if_neg q, if_neg (by omega)]
theorem bi_and6 {s b : Int} (hs : 0 ≤ s ∧ s < 64) (hb : 0 ≤ b ∧ b < 64) : (0 ≤ am_and s (am_xor b (-1)) ∧ am_and s (am_xor b (-1)) < 64) ∧ ∀ k : Int, 0 ≤ k → k ≤ 5 → bit (am_and s (am_xor b (-1))) k = bit s k * (1 - bit b k) := by
  have h := bt_and6 ⟨s.toNat, by omega⟩ ⟨b.toNat, by omega⟩
  simp only [show ((b.toNat : Nat) : Int) = b by omega, show ((s.toNat : Nat) : Int) = s by omega] at h
  refine ⟨h.1, fun k h0 h5 => ?_⟩
  have := h.2 ⟨k.toNat, by omega⟩
  simp only [show ((k.toNat : Nat) : Int) = k by omega] at this
  exact this
theorem bi_ext6 {s b : Int} (hs : 0 ≤ s ∧ s < 64) (hb : 0 ≤ b ∧ b < 64) (h : ∀ k : Int, 0 ≤ k → k ≤ 5 → bit s k = bit b k) : s = b := by
  have e := bt_ext6 ⟨s.toNat, by omega⟩ ⟨b.toNat, by omega⟩ (fun k => by
    simp only [show ((b.toNat : Nat) : Int) = b by omega, show ((s.toNat : Nat) : Int) = s by omega]
    exact h _ (by omega) (by have := k.isLt; omega))
  simp only [Fin.mk.injEq] at e
  omega
theorem orW_congr {p q : Nat → Bool} {n : Nat} (h : ∀ k, k < n → p k = q k) : orW p n = orW q n := by
  induction n with
  | zero => rfl
  | succ n ih =>
    simp only [orW]
    rw [ih (fun k hk => h k (by omega)), h n (by omega)]
theorem bi_orW (p : Nat → Bool) : (0 ≤ orW p 6 ∧ orW p 6 < 64) ∧ ∀ k : Int, 0 ≤ k → k ≤ 5 → bit (orW p 6) k = if p k.toNat = true then 1 else 0 := by
  have e : orW p 6 = orW (fun n => match n with | 0 => p 0 | 1 => p 1 | 2 => p 2 | 3 => p 3 | 4 => p 4 | _ => p 5) 6 := by
    refine orW_congr (fun k hk => ?_)
    rcases (show k = 0 ∨ k = 1 ∨ k = 2 ∨ k = 3 ∨ k = 4 ∨ k = 5 by omega) with rfl | rfl | rfl | rfl | rfl | rfl <;> rfl
  have h : (0 ≤ orW p 6 ∧ orW p 6 < 64) ∧ ∀ k : Fin 6, bit (orW p 6) (k.val : Int) = if (match k.val with | 0 => p 0 | 1 => p 1 | 2 => p 2 | 3 => p 3 | 4 => p 4 | _ => p 5) = true then 1 else 0 := by
    rw [e]
    exact bt_orW6 (p 0) (p 1) (p 2) (p 3) (p 4) (p 5)
  refine ⟨h.1, fun k h0 h5 => ?_⟩
  rcases (show k = 0 ∨ k = 1 ∨ k = 2 ∨ k = 3 ∨ k = 4 ∨ k = 5 by omega) with rfl | rfl | rfl | rfl | rfl | rfl
  · exact h.2 ⟨0, by decide⟩
  · exact h.2 ⟨1, by decide⟩
  · exact h.2 ⟨2, by decide⟩
  · exact h.2 ⟨3, by decide⟩
  · exact h.2 ⟨4, by decide⟩
  · exact h.2 ⟨5, by decide⟩
theorem am_or_0 {x : Int} (h : am_R x) : am_or x 0 = x := by
  unfold am_or
  rw [show Int32.ofInt 0 = 0 from rfl, Int32.or_zero]
  exact am_toInt h
theorem lastW_u {p : Nat → Bool} {n : Nat} {v : Int} (h : ∀ k : Nat, k < n → (p k = true ↔ (k : Int) = v)) (h1 : -1 ≤ v) (h2 : v < n) : lastW p n = v := by
  induction n with
  | zero => show -1 = v; omega
  | succ n ih =>
    simp only [lastW]
    by_cases hp : p n = true
    · rw [if_pos hp]
      exact (h n (by omega)).mp hp
    · rw [if_neg hp]
      have hv : (n : Int) ≠ v := fun q => hp ((h n (by omega)).mpr q)
      exact ih (fun k hk => h k (by omega)) (by omega)
theorem sumW_congr {p q : Nat → Int} {n : Nat} (h : ∀ k, k < n → p k = q k) : sumW p n = sumW q n := by
  induction n with
  | zero => rfl
  | succ n ih =>
    simp only [sumW]
    rw [ih (fun k hk => h k (by omega)), h n (by omega)]
theorem cntW_sumW (p : Nat → Bool) (n : Nat) : cntW p n = sumW (fun k => if p k = true then 1 else 0) n := by
  induction n with
  | zero => rfl
  | succ n ih =>
    simp only [cntW, sumW]
    rw [ih]
theorem fstW_congr {p q : Nat → Bool} {n r : Nat} (h : ∀ k, k < r + n → p k = q k) : fstW p r n = fstW q r n := by
  induction n generalizing r with
  | zero => rfl
  | succ n ih =>
    simp only [fstW]
    rw [h r (by omega), ih (fun k hk => h k (by omega))]
/-! ===== the class's state and the reference's ===== -/
def kat (S : Nat → Int) (w c r : Int) : Prop := xwd S w 1 = 0 ∧ xwd S w 2 = c ∧ xwd S w 3 = r
def wat (S : Nat → Int) (w f r : Int) : Prop := xwd S w 1 = 1 ∧ xwd S w 4 = f ∧ xwd S w 3 = r
def CLn (M : am_M) (S : Nat → Int) : Prop := (M 0 0 = S 0 ∧ M 0 2 = S 1 ∧ M 0 3 = S 2 ∧ M 0 4 = S 3) ∧ 0 ≤ S 2 ∧ S 2 ≤ 100000
def CLc (M : am_M) (S : Nat → Int) : Prop := (0 ≤ M 0 1 ∧ M 0 1 < 256) ∧ ∀ c : Int, 0 ≤ c → c < 8 → rd M 1 c = xch S c 0 ∧ rd M 3 c = xch S c 1 ∧ bit (M 0 1) c = xch S c 2 ∧ rd M 2 c = xch S c 3 ∧ (S 0 ≤ c → xch S c 2 = 0 ∧ xch S c 3 = 0)
def CLf (M : am_M) (S : Nat → Int) : Prop := ∀ f : Int, 0 ≤ f → f ≤ 2 → rd M 5 f = xgod S f ∧ xgod S f < S 0
def CLg (M : am_M) (S : Nat → Int) : Prop := ∀ c : Int, 0 ≤ c → c < 8 → xgod S (xch S c 0) = c → ∀ r : Int, 0 ≤ r → r ≤ 5 → rd M 4 (c * 6 + r) = -1
def CLw (M : am_M) (S : Nat → Int) : Prop := (∀ w : Int, 0 ≤ w → w < S 1 → xwd S w 1 = yfate M w ∧ (xwd S w 1 = 0 → rd M 10 w = xwd S w 2 ∧ 0 ≤ xwd S w 2 ∧ xwd S w 2 < S 0) ∧ (xwd S w 1 ≠ 2 → rd M 11 w = xwd S w 3 ∧ rd M 12 w = xwd S w 4 ∧ rd M 9 w = xwd S w 0) ∧ rd M 13 w = xwd S w 6) ∧ ∀ w : Int, S 1 ≤ w → w < 24 → rd M 13 w = 0
def CLk (M : am_M) (S : Nat → Int) : Prop := ∀ c r : Int, (0 ≤ c ∧ c < 8) → (0 ≤ r ∧ r ≤ 5) → (-1 ≤ rd M 4 (c * 6 + r) ∧ rd M 4 (c * 6 + r) < S 1) ∧ ∀ w : Int, 0 ≤ w → w < S 1 → (kat S w c r ↔ rd M 4 (c * 6 + r) = w)
def CLt (M : am_M) (S : Nat → Int) : Prop := ∀ f r : Int, (0 ≤ f ∧ f ≤ 2) → (0 ≤ r ∧ r ≤ 5) → (-1 ≤ rd M 6 (f * 6 + r) ∧ rd M 6 (f * 6 + r) < S 1) ∧ ∀ w : Int, 0 ≤ w → w < S 1 → (wat S w f r ↔ rd M 6 (f * 6 + r) = w)
def CLq (M : am_M) (S : Nat → Int) : Prop := ∀ f : Int, (0 ≤ f ∧ f ≤ 2) → rd M 8 f = sumW (fun r => if rd M 6 (f * 6 + r) = -1 then 0 else 1) 6 ∧ (∀ i : Int, 0 ≤ i → i < rd M 8 f → (0 ≤ rd M 7 (f * 6 + i) ∧ rd M 7 (f * 6 + i) < S 1) ∧ xwd S (rd M 7 (f * 6 + i)) 1 = 1 ∧ xwd S (rd M 7 (f * 6 + i)) 4 = f) ∧ (∀ w : Int, 0 ≤ w → w < S 1 → xwd S w 1 = 1 → xwd S w 4 = f → ∃ i : Int, 0 ≤ i ∧ i < rd M 8 f ∧ rd M 7 (f * 6 + i) = w) ∧ ∀ i j : Int, 0 ≤ i → i < j → j < rd M 8 f → xwd S (rd M 7 (f * 6 + i)) 5 < xwd S (rd M 7 (f * 6 + j)) 5
def CLs (S : Nat → Int) : Prop := ∀ w : Int, 0 ≤ w → w < S 1 → xwd S w 1 = 1 → xwd S w 5 < S 4
def CL (M : am_M) (S : Nat → Int) : Prop := (WM M ∧ WX S) ∧ (CLn M S ∧ CLc M S ∧ CLf M S ∧ CLg M S) ∧ (CLw M S ∧ CLk M S ∧ CLt M S) ∧ CLq M S ∧ CLs S
theorem CL_kept {M : am_M} {S : Nat → Int} (h : CL M S) {c r : Int} (hc : 0 ≤ c ∧ c < 8) (hr : 0 ≤ r ∧ r ≤ 5) : xkept S c r = rd M 4 (c * 6 + r) := by
  obtain ⟨⟨-, hX⟩, -, ⟨-, hk, -⟩, -⟩ := h
  obtain ⟨h1, h2⟩ := hk c r hc hr
  have hn := hX.2.1
  refine lastW_u (fun k hk => ?_) h1.1 (by omega)
  refine Iff.trans ?_ ((h2 k (by omega) (by omega)).trans eq_comm)
  unfold kat
  simp only [Bool.and_eq_true, beq_iff_eq]
  exact and_assoc
theorem CL_wait {M : am_M} {S : Nat → Int} (h : CL M S) {f r : Int} (hf : 0 ≤ f ∧ f ≤ 2) (hr : 0 ≤ r ∧ r ≤ 5) : xwait S f r = rd M 6 (f * 6 + r) := by
  obtain ⟨⟨-, hX⟩, -, ⟨-, -, ht⟩, -⟩ := h
  obtain ⟨h1, h2⟩ := ht f r hf hr
  have hn := hX.2.1
  refine lastW_u (fun k hk => ?_) h1.1 (by omega)
  refine Iff.trans ?_ ((h2 k (by omega) (by omega)).trans eq_comm)
  unfold wat
  simp only [Bool.and_eq_true, beq_iff_eq]
  exact and_assoc
