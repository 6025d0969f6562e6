def xundoR (X : am_M) : Int := if X 0 5 = 0 then -1000002 else X 0 5 - 1
def xundoX (X : am_M) : am_M := if X 0 5 = 0 then X else am_u2 X 0 5 (X 0 5 - 1)
def xundoS (X : am_M) (S : Nat → Int) : Nat → Int := if X 0 5 = 0 then S else fun i => X 2 (208 * (X 0 5 - 1).toNat + i)
