/-! ===== the class's states: words for unit u ===== -/
theorem sx_ldc_w {d : Nat} {y : am_Y} {h1 : am_H} {r : Option am_V} {pc : Nat} {ls : List (Option am_V)} {st : List am_V} {h : am_H} {n : Int} {ix : Nat} (hd : decode y.2.1 pc = .ok (.ldc_w ix, 3)) (hc : Cond.constant y.1.cls ix (Int32.ofInt n) ∈ am_GW) (k : Sx d y h1 r (pc + 3) ls (.inl n :: st) h) : Sx d y h1 r pc ls st h := by
  intro p l e s m args below meth c D K ad H locs lsr hS hV hP hH hl
  obtain ⟨hx, hb, hml, hr, hlk, hown, hts, hK, hN, hA⟩ := id hS
  have z := k p l e s m args below meth c D K ad H locs lsr hS hV hP hH hl
  exact lv_ldcw hx hb hown (hts _ (List.mem_cons_of_mem _ hc)) hd z
theorem mm_vh {d : Nat} {y : am_Y} {h1 : am_H} {r : Option am_V} {pc : Nat} {ls : List (Option am_V)} {st : List am_V} {h0 : am_H} {u : Nat} {M : am_M} (kk : (∀ j k, am_R (M j k)) → Sx d y h1 r pc ls st (am_U h0 u M)) : Sx d y h1 r pc ls st (am_U h0 u M) := by
  refine sx_vh (fun hV => kk (fun j k => ?_))
  have := hV.1 u j k
  rwa [am_U_at] at this
def rd (M : am_M) (j : Nat) (i : Int) : Int := M j i.toNat
def wr (M : am_M) (j : Nat) (i x : Int) : am_M := am_u2 M j i.toNat x
def ygd (M : am_M) (f : Int) : Int := if rd M 5 f = -1 then 0 else am_and 63 (am_xor (rd M 2 (rd M 5 f)) (-1))
def ypsN (M : am_M) (c f : Int) : Nat → Int
  | 0 => 0
  | n + 1 => if rd M 4 (c * 6 + n) = -1 then (if rd M 6 (f * 6 + n) = -1 then am_or (ypsN M c f n) (am_shl 1 n) else ypsN M c f n) else ypsN M c f n
def yps (M : am_M) (c : Int) : Int := if bit (M 0 1) c = 0 then 0 else if rd M 5 (rd M 1 c) = c then 0 else am_and (ypsN M c (rd M 1 c) 6) (am_xor (rd M 2 c) (-1))
def ybc1 (x : Int) : Int := x - am_and (am_ushr x 1) 1431655765
def ybc2 (x : Int) : Int := am_and x 858993459 + am_and (am_ushr x 2) 858993459
def ybc3 (x : Int) : Int := am_and (x + am_ushr x 4) 252645135
def ybc4 (x : Int) : Int := x + am_ushr x 8
def ybc5 (x : Int) : Int := x + am_ushr x 16
def ybc (x : Int) : Int := am_and (ybc5 (ybc4 (ybc3 (ybc2 (ybc1 x))))) 63
def yliv (M : am_M) (f : Int) : Nat → Int
  | 0 => 0
  | n + 1 => if rd M 1 n = f then (if bit (M 0 1) n = 1 then am_or (yliv M f n) (am_shl 1 n) else yliv M f n) else yliv M f n
def yall (M : am_M) (n : Nat) : Int := sumW (fun c => ybc (yps M c)) n
def ysum (M : am_M) (f r : Int) : Nat → Int
  | 0 => 0
  | n + 1 => if rd M 12 n = f then (if rd M 11 n = r then am_xor (ysum M f r n) (rd M 9 n) else ysum M f r n) else ysum M f r n
def ykb (M : am_M) (c : Int) : Int := cntW (fun w => rd M 10 w == c) (M 0 2).toNat
def ykin (M : am_M) (f rows : Int) : Int := cntW (fun w => !(rd M 10 w == -1) && (rd M 12 w == f && bit rows (rd M 11 w) == 1)) (M 0 2).toNat
def ywk (M : am_M) : Int := cntW (fun w => !(rd M 10 w == -1)) (M 0 2).toNat
def yww (M : am_M) : Int := sumW (fun f => rd M 8 f) 3
def ygf (M : am_M) : Int := cntW (fun f => !(rd M 5 f == -1)) 3
def yfate (M : am_M) (w : Int) : Int := if rd M 10 w = -1 then (if rd M 11 w = -1 then 2 else 1) else 0
def yah (M : am_M) (w : Int) : Int := fstW (fun i => rd M 7 (rd M 12 w * 6 + i) == w) 0 (rd M 8 (rd M 12 w)).toNat
def yrk (M : am_M) (f c : Int) : Int := if ybc (yps M c) ≤ 0 then ybc (yps M c) else if rd M 1 c = f then ybc (yps M c) + 6 else ybc (yps M c)
def ybest (M : am_M) (f lo : Int) : Nat → Int × Int
  | 0 => (-1, 0)
  | n + 1 => if yrk M f n ≤ (ybest M f lo n).2 then ybest M f lo n else if (n : Int) = lo then ybest M f lo n else ((n : Int), yrk M f n)
def ychf (M : am_M) (f lo : Int) : Int := (ybest M f lo (M 0 0).toNat).1
def ysit (M : am_M) (w c r : Int) : am_M := wr (wr (wr (wr M 4 (c * 6 + r) w) 10 w c) 11 w r) 12 w (rd (wr (wr (wr M 4 (c * 6 + r) w) 10 w c) 11 w r) 1 c)
def ylow (M : am_M) (c : Int) : Int := fstW (fun r => bit (yps M c) r == 1) 0 6
def ykal (M : am_M) (w c : Int) : am_M := if ylow M c < 6 then ysit M w c (ylow M c) else M
def ytake (M : am_M) (w : Int) : am_M := wr (wr M 4 (rd M 10 w * 6 + rd M 11 w) (-1)) 10 w (-1)
def yle1 (M : am_M) (w : Int) : am_M := wr (ytake M w) 6 (rd (ytake M w) 12 w * 6 + rd (ytake M w) 11 w) w
def yle2 (M : am_M) (w : Int) : am_M := wr (yle1 M w) 7 (rd (ytake M w) 12 w * 6 + rd (yle1 M w) 8 (rd (ytake M w) 12 w)) w
def yle3 (M : am_M) (w : Int) : am_M := wr (yle2 M w) 8 (rd (ytake M w) 12 w) (rd (yle2 M w) 8 (rd (ytake M w) 12 w) + 1)
def ylet (M : am_M) (w : Int) : am_M := if w = -1 then M else if rd M 10 w = -1 then M else yle3 M w
def ylq (M : am_M) (f w : Int) : Nat → am_M × Bool
  | 0 => (M, false)
  | i + 1 => if (ylq M f w i).2 = true then (wr (ylq M f w i).1 7 (f * 6 + i) (rd (ylq M f w i).1 7 (f * 6 + i + 1)), true) else if rd (ylq M f w i).1 7 (f * 6 + i) = w then (wr (ylq M f w i).1 7 (f * 6 + i) (rd (ylq M f w i).1 7 (f * 6 + i + 1)), true) else ((ylq M f w i).1, false)
def ylv (M : am_M) (w : Int) : am_M := wr (ylq M (rd M 12 w) w (rd M 8 (rd M 12 w) - 1).toNat).1 8 (rd M 12 w) (rd M 8 (rd M 12 w) - 1)
def ylw1 (M : am_M) (f r : Int) : am_M := wr (ylv (wr M 6 (f * 6 + r) (-1)) (rd M 6 (f * 6 + r))) 11 (rd M 6 (f * 6 + r)) (-1)
def ylwR (M : am_M) (f r : Int) : Int := if rd M 6 (f * 6 + r) = -1 then 0 else 1
def ylwM (M : am_M) (f r : Int) : am_M := if rd M 6 (f * 6 + r) = -1 then M else ylw1 M f r
def yls1 (M : am_M) (w : Int) : am_M := wr (ytake M w) 11 w (-1)
def ylsC (M : am_M) (w : Int) : Bool := bit (ygd M (rd M 12 w)) (rd M 11 w) == 1 && rd M 6 (rd M 12 w * 6 + rd M 11 w) == -1
def ylsR (M : am_M) (w : Int) : Int := if w = -1 then 0 else if ylsC M w = true then 0 else 1 + ylwR (yls1 M w) (rd M 12 w) (rd M 11 w)
def ylsM (M : am_M) (w : Int) : am_M := if w = -1 then M else if ylsC M w = true then M else ylwM (yls1 M w) (rd M 12 w) (rd M 11 w)
theorem rd_wr (M : am_M) (j : Nat) (i x : Int) : rd (wr M j i x) j i = x := am_u2_hit _ _ _ _
theorem rd_wrj (M : am_M) {j b : Nat} (i k x : Int) (h : b ≠ j) : rd (wr M j i x) b k = rd M b k := am_u2_rd _ _ (Or.inl h)
theorem rd_wri (M : am_M) (j : Nat) {i k : Int} (x : Int) (hi : 0 ≤ i) (hk : 0 ≤ k) (h : k ≠ i) : rd (wr M j i x) j k = rd M j k := am_u2_rd _ _ (Or.inr (by omega))
theorem wr_row (M : am_M) {j b : Nat} (i x : Int) (h : b ≠ j) : wr M j i x b = M b := am_u2_ne _ _ _ h
/-- what the reads' indices keep to -/
def WM (M : am_M) : Prop := (0 ≤ M 0 0 ∧ M 0 0 ≤ 8) ∧ (0 ≤ M 0 2 ∧ M 0 2 ≤ 24) ∧ (∀ c : Int, 0 ≤ c → c < 8 → 0 ≤ rd M 1 c ∧ rd M 1 c ≤ 2) ∧ (∀ f : Int, 0 ≤ f → f ≤ 2 → -1 ≤ rd M 5 f ∧ rd M 5 f < 8) ∧ (∀ f : Int, 0 ≤ f → f ≤ 2 → 0 ≤ rd M 8 f ∧ rd M 8 f ≤ 6) ∧ (∀ w : Int, 0 ≤ w → w < 24 → (0 ≤ rd M 12 w ∧ rd M 12 w ≤ 2) ∧ -1 ≤ rd M 11 w ∧ rd M 11 w ≤ 5) ∧ ∀ c : Int, 0 ≤ c → c < 8 → 0 ≤ rd M 2 c ∧ rd M 2 c < 64
theorem rd_R {M : am_M} (h : ∀ j k, am_R (M j k)) (j : Nat) (i : Int) : am_R (rd M j i) := h _ _
theorem cntW_f0 {p : Nat → Bool} {g : Int} {n : Nat} (hg : g = cntW p n) (hp : p n = false) : g = cntW p (n + 1) := by
  rw [← cntW_f hg hp]; omega
