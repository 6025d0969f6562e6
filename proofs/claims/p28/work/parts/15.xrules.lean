/-! ===== the reference's heap: its row s apart ===== -/
theorem am_RT (x : Int32) : am_R x.toInt := ⟨by have := Int32.le_toInt x; omega, by have := Int32.toInt_lt x; omega⟩
def xh (h0 : am_H) (X : am_M) (S : Nat → Int) : am_H := am_U h0 7 (am_u3 X 1 S)
theorem am_u3_at (X : am_M) (j : Nat) (S : Nat → Int) : am_u3 X j S j = S := by simp [am_u3]
theorem am_u3_ne (X : am_M) {j b : Nat} (S : Nat → Int) (h : b ≠ j) : am_u3 X j S b = X b := by simp [am_u3, h]
theorem am_u23 (X : am_M) (j m : Nat) (x : Int) (S : Nat → Int) : am_u2 (am_u3 X j S) j m x = am_u3 X j (am_u1 S m x) := by
  funext b
  unfold am_u2 am_u3
  by_cases hb : b = j
  · simp [hb]
  · simp [hb]
theorem am_u23_ne (X : am_M) {j b : Nat} (m : Nat) (x : Int) (S : Nat → Int) (h : b ≠ j) : am_u2 (am_u3 X j S) b m x = am_u3 (am_u2 X b m x) j S := by
  funext c
  unfold am_u2 am_u3
  by_cases hb : c = b
  · subst hb; simp [h]
  · by_cases hj : c = j
    · simp [hj, Ne.symm h]
    · simp [hb, hj]
theorem am_u33 (X : am_M) (j : Nat) (S T : Nat → Int) : am_u3 (am_u3 X j S) j T = am_u3 X j T := by
  funext b
  unfold am_u3
  by_cases hb : b = j <;> simp [hb]
theorem am_u33_ne (X : am_M) {j b : Nat} (S T : Nat → Int) (h : b ≠ j) : am_u3 (am_u3 X j S) b T = am_u3 (am_u3 X b T) j S := by
  funext c
  unfold am_u3
  by_cases hb : c = b
  · subst hb; simp [h]
  · by_cases hj : c = j
    · simp [hj, Ne.symm h]
    · simp [hb, hj]
theorem am_u3_id (X : am_M) (j : Nat) : am_u3 X j (X j) = X := by
  funext b
  unfold am_u3
  by_cases hb : b = j <;> simp [hb]
theorem xh_id (h : am_H) : xh h (h.1 7) (h.1 7 1) = h := by
  unfold xh
  rw [am_u3_id, am_U_id]
section XR
variable {d : Nat} {y : am_Y} {h1 : am_H} {r : Option am_V} {pc : Nat} {ls : List (Option am_V)} {st : List am_V} {h0 : am_H} {X : am_M} {S : Nat → Int}
end XR
theorem sx_forget {d : Nat} {y : am_Y} {h1 : am_H} {r : Option am_V} {pc : Nat} {ls : List (Option am_V)} {st : List am_V} {h : am_H} (k : Nat) (kk : Sx d y h1 r pc (ls.set k none) st h) : Sx d y h1 r pc ls st h := by
  refine sx_ls (fun i v hi => ?_) kk
  by_cases hik : i = k
  · subst hik
    by_cases hl : i < ls.length
    · rw [List.getElem?_set_self hl] at hi; cases hi
    · rw [List.getElem?_eq_none (by rw [List.length_set]; omega)] at hi; cases hi
  · rwa [List.getElem?_set_ne (Ne.symm hik)] at hi
theorem sx_heq {d : Nat} {y : am_Y} {h1 : am_H} {r : Option am_V} {pc : Nat} {ls : List (Option am_V)} {st : List am_V} {h : am_H} (h2 : am_H) (hh : h2 = h) (kk : Sx d y h1 r pc ls st h2) : Sx d y h1 r pc ls st h := hh ▸ kk
theorem am_R_and (x z : Int) : am_R (am_and x z) := am_RT _
theorem am_R_or (x z : Int) : am_R (am_or x z) := am_RT _
theorem am_R_xor (x z : Int) : am_R (am_xor x z) := am_RT _
theorem am_R_shl (x z : Int) : am_R (am_shl x z) := am_RT _
theorem am_R_shr (x z : Int) : am_R (am_shr x z) := am_RT _
