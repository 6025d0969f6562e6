/-! ===== the new object: one heap of the small machine, linked ===== -/
def iM : am_M := fun j k => if j = 4 then (if k < 48 then -1 else 0) else if j = 5 then (if k < 3 then -1 else 0) else if j = 6 then (if k < 18 then -1 else 0) else 0
def iX : am_M := fun j k => if j = 1 then (if k = 7 then -1 else if k = 6 then -1 else if k = 5 then -1 else 0) else 0
def iH : am_H := (fun u => if u < 6 then iM else if u = 6 then (fun _ _ => 0) else iX, fun k => if k = 0 then 4 else if k = 1 then 5 else if k = 2 then 0 else if k = 3 then 1 else if k = 4 then 2 else if k = 5 then 3 else 0)
theorem iH_VH : am_VH iH := by
  refine ⟨fun u j k => ?_, fun n => ?_⟩
  · show am_R ((if u < 6 then iM else if u = 6 then (fun _ _ => 0) else iX) j k)
    unfold iM iX
    (repeat' split) <;> dsimp only <;> (repeat' split) <;> exact ⟨by decide, by decide⟩
  · show (if n = 0 then 4 else if n = 1 then 5 else if n = 2 then 0 else if n = 3 then 1 else if n = 4 then 2 else if n = 5 then 3 else 0) < 6
    (repeat' split) <;> decide
theorem iX_lo {k : Nat} (h : k < 5 ∨ 7 < k) : iX 1 k = 0 := by
  unfold iX
  rw [if_pos rfl, if_neg (by omega), if_neg (by omega), if_neg (by omega)]
theorem iX_god {f : Int} (h0 : 0 ≤ f) (h2 : f ≤ 2) : xgod (iX 1) f = -1 := by
  unfold xgod iX
  rw [if_pos rfl]
  rcases (show f = 0 ∨ f = 1 ∨ f = 2 by omega) with rfl | rfl | rfl <;> rfl
theorem iX_ch {c k : Int} (hc : 0 ≤ c) (hk : 0 ≤ k) : xch (iX 1) c k = 0 := iX_lo (by omega)
theorem iX_wd {c k : Int} (hc : 0 ≤ c) (hk : 0 ≤ k) : xwd (iX 1) c k = 0 := iX_lo (by omega)
theorem iM_0 {j : Nat} (h4 : j ≠ 4) (h5 : j ≠ 5) (h6 : j ≠ 6) (k : Nat) : iM j k = 0 := by
  unfold iM
  rw [if_neg h4, if_neg h5, if_neg h6]
theorem iM_4 {i : Int} (h : i < 48) : rd iM 4 i = -1 := by
  unfold rd iM
  rw [if_pos rfl, if_pos (by omega)]
theorem iM_5 {i : Int} (h : i < 3) : rd iM 5 i = -1 := by
  unfold rd iM
  rw [if_neg (by decide), if_pos rfl, if_pos (by omega)]
theorem iM_6 {i : Int} (h : i < 18) : rd iM 6 i = -1 := by
  unfold rd iM
  rw [if_neg (by decide), if_neg (by decide), if_pos rfl, if_pos (by omega)]
theorem iCW : CW iM (iX 1) 0 := by
  have z : ∀ j k, j ≠ 4 → j ≠ 5 → j ≠ 6 → iM j k = 0 := fun j k a b c => iM_0 a b c k
  have rz : ∀ (j : Nat) (k : Int), j ≠ 4 → j ≠ 5 → j ≠ 6 → rd iM j k = 0 := fun j k a b c => z j _ a b c
  have s : ∀ k, k < 5 ∨ 7 < k → iX 1 k = 0 := fun k h => iX_lo h
  have hM : WM iM := by
    refine ⟨by rw [z 0 0 (by decide) (by decide) (by decide)]; decide, by rw [z 0 2 (by decide) (by decide) (by decide)]; decide, fun c _ _ => by rw [rz 1 c (by decide) (by decide) (by decide)]; decide, fun f _ f2 => by rw [iM_5 (by omega)]; decide, fun f _ _ => by rw [rz 8 f (by decide) (by decide) (by decide)]; decide, fun w _ _ => by rw [rz 12 w (by decide) (by decide) (by decide), rz 11 w (by decide) (by decide) (by decide)]; decide, fun c _ _ => by rw [rz 2 c (by decide) (by decide) (by decide)]; decide⟩
  have hX : WX (iX 1) := by
    refine ⟨by rw [s 0 (by decide)]; decide, by rw [s 1 (by decide)]; decide, fun f f0 f2 => by rw [iX_god f0 f2]; decide, fun c c0 _ => by rw [iX_ch c0 (by decide)]; decide, fun w w0 _ => by rw [iX_wd w0 (by decide), iX_wd w0 (by decide)]; decide⟩
  have s0 : iX 1 0 = 0 := s 0 (by decide)
  have s1 : iX 1 1 = 0 := s 1 (by decide)
  refine ⟨⟨⟨⟨⟨⟨hM, hX⟩, ⟨?_, ?_, ?_, ?_⟩, ⟨?_, ?_, ?_⟩, ?_, ?_⟩, ?_⟩, ?_⟩, ?_, Int.le_refl _⟩, ?_⟩
  · refine ⟨⟨?_, ?_, ?_, ?_⟩, ?_, ?_⟩
    · rw [s0]; rfl
    · rw [s1]; rfl
    · rw [s 2 (by decide)]; rfl
    · rw [s 3 (by decide)]; rfl
    · rw [s 2 (by decide)]; decide
    · rw [s 2 (by decide)]; decide
  · refine ⟨by rw [z 0 1 (by decide) (by decide) (by decide)]; decide, fun c c0 c8 => ?_⟩
    rw [rz 1 c (by decide) (by decide) (by decide), rz 3 c (by decide) (by decide) (by decide), rz 2 c (by decide) (by decide) (by decide), z 0 1 (by decide) (by decide) (by decide), iX_ch c0 (by decide), iX_ch c0 (by decide), iX_ch c0 (by decide), iX_ch c0 (by decide)]
    refine ⟨rfl, rfl, ?_, rfl, fun _ => ⟨rfl, rfl⟩⟩
    have := bt_0 ⟨c.toNat, by omega⟩
    simp only [show ((c.toNat : Nat) : Int) = c by omega] at this
    exact this
  · intro f f0 f2
    rw [iM_5 (by omega), iX_god f0 f2, s0]
    exact ⟨rfl, by decide⟩
  · intro c c0 c8 q
    rw [iX_ch c0 (by decide), iX_god (by decide) (by decide)] at q
    omega
  · refine ⟨fun w w0 w1 => ?_, fun w _ _ => rz 13 w (by decide) (by decide) (by decide)⟩
    rw [s1] at w1
    omega
  · intro c r hc hr
    rw [iM_4 (by omega), s1]
    exact ⟨⟨by decide, by decide⟩, fun w w0 w1 => by omega⟩
  · intro f r hf hr
    rw [iM_6 (by omega), s1]
    exact ⟨⟨by decide, by decide⟩, fun w w0 w1 => by omega⟩
  · intro f hf
    rw [rz 8 f (by decide) (by decide) (by decide), s1]
    refine ⟨?_, fun i i0 i9 => by omega, fun w w0 w1 => by omega, fun i j i0 ij j9 => by omega⟩
    have e : sumW (fun r => if rd iM 6 (f * 6 + r) = -1 then 0 else 1) 6 = sumW (fun _ => 0) 6 := sumW_congr (fun k hk => by rw [iM_6 (by omega), if_pos rfl])
    rw [e]
    rfl
  · intro w w0 w1
    rw [s1] at w1
    omega
  · intro w w0 w1
    rw [s1] at w1
    omega
  · intro f f0 f2 g0
    rw [iX_god f0 f2] at g0
    omega
  · refine ⟨by rw [s 2 (by decide)]; decide, by rw [s 3 (by decide)]; decide, by rw [s 4 (by decide)]; decide, fun w w0 _ => by rw [iX_wd w0 (by decide)]; decide⟩
  · intro w w0 _
    rw [iX_wd w0 (by decide)]
    decide
theorem iPI : PI (iX 1) := by
  refine ⟨fun f f0 f2 g0 => ?_, fun w w0 w9 _ => ?_, ?_⟩
  · rw [iX_god f0 f2] at g0
    omega
  · rw [iX_lo (show 1 < 5 ∨ 7 < 1 from Or.inl (by decide))] at w9
    omega
  · unfold PIr
    rw [iX_lo (show 3 < 5 ∨ 7 < 3 from Or.inl (by decide)), iX_lo (show 1 < 5 ∨ 7 < 1 from Or.inl (by decide))]
    rfl
theorem iPH : PH iH (iX 1) 0 := by
  refine ⟨⟨?_, ?_, ?_⟩, iCW, iPI⟩
  · intro i j hi hj
    have key : ∀ i : Fin 6, ∀ j : Fin 6, iH.2 i.val = iH.2 j.val → i = j := by decide +kernel
    intro q
    exact congrArg Fin.val (key ⟨i, hi⟩ ⟨j, hj⟩ q)
  · exact ⟨by decide, by decide⟩
  · exact iH_VH.2
/-- where a cell of the small machine lies among the cells that the constructor makes -/
def cn_pos (q : Nat × Nat) : Nat := if q.1 < 4 then 2 + 14 * q.1 + q.2 else if q.1 < 6 then 60 + 14 * (q.1 - 4) + q.2 else if q.1 = 6 then (if q.2 < 2 then q.2 else 56 + q.2) else 88 + q.2
theorem cn_pos_inj : ∀ q ∈ am_cs, ∀ q' ∈ am_cs, cn_pos q = cn_pos q' → q = q' := by decide +kernel
def cn_ad (g : Nat) (b : Nat → Nat) (a : Nat → Nat → Nat) : Nat → Nat → Nat := fun u j => if u < 6 then a u j else (if j = 0 then g else b (j - 1))
theorem f_48 (n : Nat) : (fun k : Nat => if k < n then (-1 : Int32) else 0) = fun k => Int32.ofInt (if k < n then -1 else 0) := by
  funext k
  split <;> rfl
/-- the history, as the small machine has it -/
def gw8 (cI cC cM : ClassId) (h0 : Nat) (b : Nat → Nat) (a : Nat → Nat → Nat) (f : Nat → Option Nat) : va_W := (h0, .inr (2, [.ref (b 0), .ref (b 1), .ref (a 4 0), .ref (a 5 0), .int 0])) :: (b 0, .inl (cM, 4, .inr (.inr (.inr (.inr f))))) :: (((((((([] : va_W) ++ mw cI (a 0 0) (a 0)) ++ mw cI (a 1 0) (a 1)) ++ mw cI (a 2 0) (a 2)) ++ mw cI (a 3 0) (a 3)) ++ ow cC (b 1) (b 2)) ++ mw cI (a 4 0) (a 4)) ++ mw cI (a 5 0) (a 5))
theorem gw8_9 (cI cC cM : ClassId) (h0 : Nat) (b : Nat → Nat) (a : Nat → Nat → Nat) : gw9 cI cC cM h0 b a = gw8 cI cC cM h0 b a (hs9 a) := rfl
