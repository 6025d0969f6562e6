/-! ===== the reference's heap: its row s apart ===== -/
theorem am_RT (x : Int32) : am_R x.toInt := ⟨by have := Int32.le_toInt x; omega, by have := Int32.toInt_lt x; omega⟩
def xh (h0 : am_H) (X : am_M) (S : Nat → Int) : am_H := am_U h0 7 (am_u3 X 1 S)
theorem am_u3_at (X : am_M) (j : Nat) (S : Nat → Int) : am_u3 X j S j = S := by simp [am_u3]
theorem am_u3_ne (X : am_M) {j b : Nat} (S : Nat → Int) (h : b ≠ j) : am_u3 X j S b = X b := by simp [am_u3, h]
theorem am_u23 (X : am_M) (j m : Nat) (x : Int) (S : Nat → Int) : am_u2 (am_u3 X j S) j m x = am_u3 X j (am_u1 S m x) := by
  funext b
  unfold am_u2 am_u3
  by_cases hb : b = j
  · simp [hb]
  · simp [hb]
theorem am_u23_ne (X : am_M) {j b : Nat} (m : Nat) (x : Int) (S : Nat → Int) (h : b ≠ j) : am_u2 (am_u3 X j S) b m x = am_u3 (am_u2 X b m x) j S := by
  funext c
  unfold am_u2 am_u3
  by_cases hb : c = b
  · subst hb; simp [h]
  · by_cases hj : c = j
    · simp [hj, Ne.symm h]
    · simp [hb, hj]
theorem am_u33 (X : am_M) (j : Nat) (S T : Nat → Int) : am_u3 (am_u3 X j S) j T = am_u3 X j T := by
  funext b
  unfold am_u3
  by_cases hb : b = j <;> simp [hb]
theorem am_u33_ne (X : am_M) {j b : Nat} (S T : Nat → Int) (h : b ≠ j) : am_u3 (am_u3 X j S) b T = am_u3 (am_u3 X b T) j S := by
  funext c
  unfold am_u3
  by_cases hb : c = b
  · subst hb; simp [h]
  · by_cases hj : c = j
    · simp [hj, Ne.symm h]
    · simp [hb, hj]
theorem am_u3_id (X : am_M) (j : Nat) : am_u3 X j (X j) = X := by
  funext b
  unfold am_u3
  by_cases hb : b = j <;> simp [hb]
theorem xh_id (h : am_H) : xh h (h.1 7) (h.1 7 1) = h := by
  unfold xh
  rw [am_u3_id, am_U_id]
section XR
variable {d : Nat} {y : am_Y} {h1 : am_H} {r : Option am_V} {pc : Nat} {ls : List (Option am_V)} {st : List am_V} {h0 : am_H} {X : am_M} {S : Nat → Int}
theorem xs_geti {ix k : Nat} (hd : decode y.2.1 pc = .ok (.getfield ix, 3)) (hl : am_fl y.1.cls ix TX3 k) (hk : k = 5 ∨ k = 7 ∨ k = 8 ∨ k = 9) (kk : am_R (X 0 k) → Sx d y h1 r (pc + 3) ls (.inl (X 0 k) :: st) (xh h0 X S)) : Sx d y h1 r pc ls (.inr (7, 0) :: st) (xh h0 X S) := xx_geti (X := am_u3 X 1 S) hd hl hk kk
theorem xs_getr {ix k j : Nat} (hd : decode y.2.1 pc = .ok (.getfield ix, 3)) (hl : am_fl y.1.cls ix TX3 k) (hk : k < 11) (hv : am_fX (X 0) 7 k = .inr (7, j)) (kk : Sx d y h1 r (pc + 3) ls (.inr (7, j) :: st) (xh h0 X S)) : Sx d y h1 r pc ls (.inr (7, 0) :: st) (xh h0 X S) := xx_getr (X := am_u3 X 1 S) hd hl hk hv kk
theorem xs_put {ix k : Nat} {x : Int} (hd : decode y.2.1 pc = .ok (.putfield ix, 3)) (hl : am_fl y.1.cls ix TX3 k) (hk : k = 5 ∨ k = 7 ∨ k = 8 ∨ k = 9) (hR : am_R x) (kk : Sx d y h1 r (pc + 3) ls st (xh h0 (am_u2 X 0 k x) S)) : Sx d y h1 r pc ls (.inl x :: .inr (7, 0) :: st) (xh h0 X S) := by
  refine xx_put (X := am_u3 X 1 S) hd hl hk hR ?_
  rw [am_u23_ne X k x S (by decide : (0 : Nat) ≠ 1)]
  exact kk
theorem xs_ild {n m : Nat} {i : Int} (hd : decode y.2.1 pc = .ok (.iaload, 1)) (hn : am_len 7 1 = n) (hn9 : n ≤ 1000000) (hi0 : 0 ≤ i) (hi9 : i < n) (hm : i.toNat = m) (kk : am_R (S m) → Sx d y h1 r (pc + 1) ls (.inl (S m) :: st) (xh h0 X S)) : Sx d y h1 r pc ls (.inl i :: .inr (7, 1) :: st) (xh h0 X S) := xx_ild (X := am_u3 X 1 S) (j := 1) hd (am_inX 1 (by decide)) rfl hn hn9 hi0 hi9 hm kk
theorem xs_ildo {j n m : Nat} {i : Int} (hd : decode y.2.1 pc = .ok (.iaload, 1)) (hj : (7, j) ∈ am_cs) (h0' : am_kd 7 j = 1) (hj1 : j ≠ 1) (hn : am_len 7 j = n) (hn9 : n ≤ 1000000) (hi0 : 0 ≤ i) (hi9 : i < n) (hm : i.toNat = m) (kk : am_R (X j m) → Sx d y h1 r (pc + 1) ls (.inl (X j m) :: st) (xh h0 X S)) : Sx d y h1 r pc ls (.inl i :: .inr (7, j) :: st) (xh h0 X S) := by
  refine xx_ild (X := am_u3 X 1 S) (j := j) hd hj h0' hn hn9 hi0 hi9 hm ?_
  rw [am_u3_ne X S hj1]
  exact kk
theorem xs_cld {n m : Nat} {i : Int} (hd : decode y.2.1 pc = .ok (.caload, 1)) (hn : am_len 7 6 = n) (hn9 : n ≤ 1000000) (hi0 : 0 ≤ i) (hi9 : i < n) (hm : i.toNat = m) (kk : am_R (X 6 m) → Sx d y h1 r (pc + 1) ls (.inl (X 6 m) :: st) (xh h0 X S)) : Sx d y h1 r pc ls (.inl i :: .inr (7, 6) :: st) (xh h0 X S) := xx_cld (X := am_u3 X 1 S) hd hn hn9 hi0 hi9 hm kk
theorem xs_ist {n m : Nat} {i x : Int} (hd : decode y.2.1 pc = .ok (.iastore, 1)) (hn : am_len 7 1 = n) (hn9 : n ≤ 1000000) (hi0 : 0 ≤ i) (hi9 : i < n) (hm : i.toNat = m) (hR : am_R x) (kk : Sx d y h1 r (pc + 1) ls st (xh h0 X (am_u1 S m x))) : Sx d y h1 r pc ls (.inl x :: .inl i :: .inr (7, 1) :: st) (xh h0 X S) := by
  refine xx_ist (X := am_u3 X 1 S) (j := 1) hd (am_inX 1 (by decide)) rfl hn hn9 hi0 hi9 hm hR ?_
  rw [am_u23]
  exact kk
theorem xs_isto {j n m : Nat} {i x : Int} (hd : decode y.2.1 pc = .ok (.iastore, 1)) (hj : (7, j) ∈ am_cs) (h0' : am_kd 7 j = 1) (hj1 : j ≠ 1) (hn : am_len 7 j = n) (hn9 : n ≤ 1000000) (hi0 : 0 ≤ i) (hi9 : i < n) (hm : i.toNat = m) (hR : am_R x) (kk : Sx d y h1 r (pc + 1) ls st (xh h0 (am_u2 X j m x) S)) : Sx d y h1 r pc ls (.inl x :: .inl i :: .inr (7, j) :: st) (xh h0 X S) := by
  refine xx_ist (X := am_u3 X 1 S) (j := j) hd hj h0' hn hn9 hi0 hi9 hm hR ?_
  rw [am_u23_ne X m x S hj1]
  exact kk
theorem xs_cst {n m : Nat} {i x : Int} (hd : decode y.2.1 pc = .ok (.castore, 1)) (hn : am_len 7 6 = n) (hn9 : n ≤ 1000000) (hi0 : 0 ≤ i) (hi9 : i < n) (hm : i.toNat = m) (hx0 : 0 ≤ x) (hx9 : x ≤ 65535) (kk : Sx d y h1 r (pc + 1) ls st (xh h0 (am_u2 X 6 m x) S)) : Sx d y h1 r pc ls (.inl x :: .inl i :: .inr (7, 6) :: st) (xh h0 X S) := by
  refine xx_cst (X := am_u3 X 1 S) hd hn hn9 hi0 hi9 hm hx0 hx9 ?_
  rw [am_u23_ne X m x S (by decide : (6 : Nat) ≠ 1)]
  exact kk
/-- what every number in this heap keeps to -/
theorem xs_vh (kk : (∀ m, am_R (S m)) → (∀ j m, j ≠ 1 → am_R (X j m)) → Sx d y h1 r pc ls st (xh h0 X S)) : Sx d y h1 r pc ls st (xh h0 X S) := by
  refine sx_vh (fun hV => kk (fun m => ?_) (fun j m hj => ?_))
  · have := hV.1 7 1 m
    unfold xh at this
    rwa [am_U_at, am_u3_at] at this
  · have := hV.1 7 j m
    unfold xh at this
    rwa [am_U_at, am_u3_ne X S hj] at this
end XR
theorem sx_forget {d : Nat} {y : am_Y} {h1 : am_H} {r : Option am_V} {pc : Nat} {ls : List (Option am_V)} {st : List am_V} {h : am_H} (k : Nat) (kk : Sx d y h1 r pc (ls.set k none) st h) : Sx d y h1 r pc ls st h := by
  refine sx_ls (fun i v hi => ?_) kk
  by_cases hik : i = k
  · subst hik
    by_cases hl : i < ls.length
    · rw [List.getElem?_set_self hl] at hi; cases hi
    · rw [List.getElem?_eq_none (by rw [List.length_set]; omega)] at hi; cases hi
  · rwa [List.getElem?_set_ne (Ne.symm hik)] at hi
theorem sx_heq {d : Nat} {y : am_Y} {h1 : am_H} {r : Option am_V} {pc : Nat} {ls : List (Option am_V)} {st : List am_V} {h : am_H} (h2 : am_H) (hh : h2 = h) (kk : Sx d y h1 r pc ls st h2) : Sx d y h1 r pc ls st h := hh ▸ kk
theorem am_R_and (x z : Int) : am_R (am_and x z) := am_RT _
theorem am_R_or (x z : Int) : am_R (am_or x z) := am_RT _
theorem am_R_xor (x z : Int) : am_R (am_xor x z) := am_RT _
theorem am_R_shl (x z : Int) : am_R (am_shl x z) := am_RT _
theorem am_R_shr (x z : Int) : am_R (am_shr x z) := am_RT _
