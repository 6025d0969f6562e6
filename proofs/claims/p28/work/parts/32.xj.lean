def xtypeR (X : am_M) (c : Int) : Int := if 32 ≤ c ∧ c ≤ 126 then (if X 0 7 = 60 then -1000003 else X 0 7 + 1) else -1000001
def xtypeX (X : am_M) (c : Int) : am_M := if 32 ≤ c ∧ c ≤ 126 then (if X 0 7 = 60 then X else am_u2 (am_u2 X 6 (X 0 7).toNat c) 0 7 (X 0 7 + 1)) else X
