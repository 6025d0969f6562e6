/-! ===== the calls that ask ===== -/
def gchip (M : am_M) (c k : Int) : Int := if 0 ≤ c ∧ c < M 0 0 then (if k = 0 then rd M 1 c else if k = 1 then (if bit (M 0 1) c = 1 then 1 else 0) else if k = 2 then (if rd M 5 (rd M 1 c) = c then 1 else 0) else if k = 3 then ykb M c else if k = 4 then ybc (yps M c) else if k = 5 then rd M 2 c else if k = 6 then rd M 3 c else -1000001) else -1000001
def grow (M : am_M) (c r : Int) : Int := if 0 ≤ c ∧ c < M 0 0 then (if 0 ≤ r ∧ r ≤ 5 then (if bit (M 0 1) c = 1 then (if bit (rd M 2 c) r = 1 then -1000002 else (if rd M 5 (rd M 1 c) = c then ysum M (rd M 1 c) r (M 0 2).toNat else (if rd M 4 (c * 6 + r) = -1 then -1000004 else rd M 4 (c * 6 + r)))) else -1000002) else -1000001) else -1000001
def gread (M : am_M) (w : Int) : Int := if 0 ≤ w ∧ w < M 0 2 then (if yfate M w = 2 then -1000004 else rd M 9 w) else -1000001
def gword (M : am_M) (w k : Int) : Int := if 0 ≤ w ∧ w < M 0 2 then (if k = 0 then yfate M w else if k = 1 then (if yfate M w = 0 then rd M 10 w else -1000004) else if k = 2 then (if yfate M w = 2 then -1000004 else rd M 11 w) else if k = 3 then (if yfate M w = 2 then -1000004 else rd M 12 w) else if k = 4 then (if yfate M w = 1 then yah M w else -1000004) else if k = 5 then rd M 13 w else -1000001) else -1000001
def gfam (M : am_M) (f k : Int) : Int := if 0 ≤ f ∧ f ≤ 2 then (if k = 0 then (if rd M 5 f = -1 then -1000004 else rd M 5 f) else if k = 1 then yliv M f (M 0 0).toNat else if k = 2 then rd M 8 f else if k = 3 then ykin M f 63 else if k = 4 then ygd M f else if k = 5 then ykin M f (am_and 63 (am_xor (ygd M f) (-1))) else if k = 6 then (if rd M 8 f = 0 then -1000004 else rd M 7 (f * 6)) else -1000001) else -1000001
def gcnt (M : am_M) (n l k : Int) : Int := if k = 0 then M 0 0 else if k = 1 then ybc (M 0 1) else if k = 2 then M 0 2 else if k = 3 then ywk M else if k = 4 then yww M else if k = 5 then M 0 2 - ywk M - yww M else if k = 6 then M 0 3 else if k = 7 then M 0 4 else if k = 8 then ygf M else if k = 9 then yall M (M 0 0).toNat else if k = 10 then n else if k = 11 then l else -1000001
theorem yfate_b (M : am_M) (w : Int) : 0 ≤ yfate M w ∧ yfate M w ≤ 2 := by
  unfold yfate
  (repeat' split) <;> exact ⟨by decide, by decide⟩
/-! ===== what would be ===== -/
def glR (M : am_M) (a b : Int) : Int := if b = -1 then (ydie M a).1 else (ydie M a).1 + (ydie (ydie M a).2 b).1
def glM (M : am_M) (a b : Int) : am_M := if b = -1 then (ydie M a).2 else (ydie (ydie M a).2 b).2
def gloC (M : am_M) (a b : Int) : Int := if 0 ≤ a ∧ a < M 0 0 then (if a = b then -1000001 else if b = -1 then (if bit (M 0 1) a = 1 then 0 else -1000002) else if 0 ≤ b ∧ b < M 0 0 then (if bit (M 0 1) a = 1 then (if bit (M 0 1) b = 1 then 0 else -1000002) else -1000002) else -1000001) else -1000001
def gloR (M : am_M) (a b : Int) : Int := if gloC M a b = 0 then glR M a b else gloC M a b
def gloM (M Z : am_M) (a b : Int) : am_M := if gloC M a b = 0 then glM M a b else Z
def gsf (M Z : am_M) : Nat → Int × am_M
  | 0 => (0, Z)
  | c + 1 => if bit (M 0 1) c = 1 then (if glR M c (-1) = 0 then (am_or (gsf M Z c).1 (am_shl 1 c), glM M c (-1)) else ((gsf M Z c).1, glM M c (-1))) else gsf M Z c
def gwi (M : am_M) (a : Int) (s : Int × Int × am_M) : Nat → Int × Int × am_M
  | 0 => s
  | b + 1 => if a = (b : Int) then gwi M a s b else if bit (M 0 1) a = 1 then (if bit (M 0 1) b = 1 then (if glR M a b ≤ (gwi M a s b).1 then ((gwi M a s b).1, (gwi M a s b).2.1, glM M a b) else (glR M a b, 10 * a + b, glM M a b)) else gwi M a s b) else gwi M a s b
def gwo (M Z : am_M) : Nat → Int × Int × am_M
  | 0 => (-1, 0, Z)
  | a + 1 => gwi M a (gwo M Z a) (M 0 0).toNat
def gwR (M Z : am_M) (k : Int) : Int := if k = 0 ∨ k = 1 then (if (gwo M Z (M 0 0).toNat).1 = -1 then -1000004 else if k = 0 then (gwo M Z (M 0 0).toNat).2.1 else (gwo M Z (M 0 0).toNat).1) else -1000001
def gwZ (M Z : am_M) (k : Int) : am_M := if k = 0 ∨ k = 1 then (gwo M Z (M 0 0).toNat).2.2 else Z
def gcl : Nat → Int → am_M → Int × am_M
  | 0, _, Z => (-1000004, Z)
  | k + 1, t, Z => if yww Z = 0 then (t, Z) else if (ytick Z 1).1 ≤ 0 then (-1000004, (ytick Z 1).2) else gcl k (t + 1) (ytick Z 1).2
def gcZ (M : am_M) : Nat → am_M
  | 0 => am_u2 M 0 3 0
  | k + 1 => (ytick (gcZ M k) 1).2
def ghr (M Z : am_M) (f : Int) : Nat → Int × Int × am_M
  | 0 => (-1000004, 7, Z)
  | c + 1 => if rd M 1 c = f then (if ykb M c < (ghr M Z f c).2.1 then (if (yempty M c).1 < 0 then ((ghr M Z f c).1, (ghr M Z f c).2.1, (yempty M c).2) else ((c : Int), ykb M c, (yempty M c).2)) else ghr M Z f c) else ghr M Z f c
def ghR (M Z : am_M) (f : Int) : Int := if 0 ≤ f ∧ f ≤ 2 then (if rd M 5 f = -1 then (ghr M Z f (M 0 0).toNat).1 else -1000002) else -1000001
def ghZ (M Z : am_M) (f : Int) : am_M := if 0 ≤ f ∧ f ≤ 2 then (if rd M 5 f = -1 then (ghr M Z f (M 0 0).toNat).2.2 else Z) else Z
theorem ydie_b12 (M : am_M) (c : Int) : -1000002 ≤ (ydie M c).1 ∧ (ydie M c).1 ≤ 12 := by
  have h1 := yhd_b M (rd M 1 c) 6
  have h2 := yld_b M c 6
  unfold ydie
  (repeat' split) <;> dsimp only <;> omega
theorem glR_R (M : am_M) (a b : Int) : am_R (glR M a b) := by
  have h1 := ydie_b12 M a
  have h2 := ydie_b12 (ydie M a).2 b
  unfold glR
  split
  · exact ⟨by omega, by omega⟩
  · exact ⟨by omega, by omega⟩
theorem gwi_b {M : am_M} {a : Int} {s : Int × Int × am_M} (hs : am_R s.1) (n : Nat) : am_R (gwi M a s n).1 := by
  induction n with
  | zero => exact hs
  | succ n ih =>
    have := glR_R M a n
    unfold gwi
    (repeat' split) <;> first | exact ih | exact this
theorem gwo_b {M Z : am_M} (n : Nat) : am_R (gwo M Z n).1 := by
  induction n with
  | zero => exact ⟨by show -2147483648 ≤ (-1 : Int); decide, by show (-1 : Int) ≤ 2147483647; decide⟩
  | succ n ih => exact gwi_b ih _
theorem ghr_b {M Z : am_M} {f : Int} (n : Nat) : 0 ≤ (ghr M Z f n).2.1 ∧ (ghr M Z f n).2.1 ≤ 7 := by
  induction n with
  | zero => exact ⟨by show (0 : Int) ≤ 7; decide, Int.le_refl _⟩
  | succ n ih =>
    have h0 : 0 ≤ ykb M n := (cntW_R _ _).1
    unfold ghr
    (repeat' split) <;> first | exact ih | (dsimp only; omega)
