theorem xemS_false {S T : Nat → Int} {c nn : Int} {row : Nat} (he : xemS S c row = (T, nn, false)) (h : row ≤ 6) : xemS S c 6 = (T, nn, false) := by
  have key : ∀ n, xemS S c (row + n) = (T, nn, false) := by
    intro n
    induction n with
    | zero => exact he
    | succ n ih =>
      show xemS S c ((row + n) + 1) = _
      simp only [xemS, ih]
      simp
  have := key (6 - row)
  rwa [show row + (6 - row) = 6 by omega] at this
