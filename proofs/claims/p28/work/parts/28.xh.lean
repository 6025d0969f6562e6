theorem tR {x a b : Int} (h : a ≤ x ∧ x ≤ b) (ha : -2147483648 ≤ a) (hb : b ≤ 2147483647) : am_R x := ⟨by omega, by omega⟩
