/-! ===== the new object: their cells are the small machine's ===== -/
section CNA
variable {cI cC cM : ClassId} {g : Nat} {b : Nat → Nat} {a : Nat → Nat → Nat}
set_option maxRecDepth 20000 in
set_option maxHeartbeats 4000000 in
theorem cn_atM {u j : Nat} (hu : u < 6) (hj : j < 14) : (gw8 cI cC cM g b a (fun k => some (cn_ad g b a (iH.2 (2 + k)) 0)))[cn_pos (u, j)]? = some (cn_ad g b a u j, am_cell (cI, cC, cM) (cn_ad g b a) iH (u, j)) := by
  rcases (show j = 4 ∨ j = 5 ∨ j = 6 ∨ j = 0 ∨ j = 1 ∨ j = 2 ∨ j = 3 ∨ j = 7 ∨ j = 8 ∨ j = 9 ∨ j = 10 ∨ j = 11 ∨ j = 12 ∨ j = 13 by omega) with rfl | rfl | rfl | rfl | rfl | rfl | rfl | rfl | rfl | rfl | rfl | rfl | rfl | rfl
  · rcases (show u = 0 ∨ u = 1 ∨ u = 2 ∨ u = 3 ∨ u = 4 ∨ u = 5 by omega) with rfl | rfl | rfl | rfl | rfl | rfl <;> (show some (_, Sum.inl (cI, 48, Sum.inl (fun k : Nat => if k < 48 then (-1 : Int32) else 0))) = _; rw [f_48]; rfl)
  · rcases (show u = 0 ∨ u = 1 ∨ u = 2 ∨ u = 3 ∨ u = 4 ∨ u = 5 by omega) with rfl | rfl | rfl | rfl | rfl | rfl <;> (show some (_, Sum.inl (cI, 3, Sum.inl (fun k : Nat => if k < 3 then (-1 : Int32) else 0))) = _; rw [f_48]; rfl)
  · rcases (show u = 0 ∨ u = 1 ∨ u = 2 ∨ u = 3 ∨ u = 4 ∨ u = 5 by omega) with rfl | rfl | rfl | rfl | rfl | rfl <;> (show some (_, Sum.inl (cI, 18, Sum.inl (fun k : Nat => if k < 18 then (-1 : Int32) else 0))) = _; rw [f_48]; rfl)
  all_goals rcases (show u = 0 ∨ u = 1 ∨ u = 2 ∨ u = 3 ∨ u = 4 ∨ u = 5 by omega) with rfl | rfl | rfl | rfl | rfl | rfl <;> rfl
set_option maxRecDepth 20000 in
set_option maxHeartbeats 4000000 in
theorem cn_at6 {j : Nat} (hj : j < 4) : (gw8 cI cC cM g b a (fun k => some (cn_ad g b a (iH.2 (2 + k)) 0)))[cn_pos (6, j)]? = some (cn_ad g b a 6 j, am_cell (cI, cC, cM) (cn_ad g b a) iH (6, j)) := by
  rcases (show j = 0 ∨ j = 1 ∨ j = 2 ∨ j = 3 by omega) with rfl | rfl | rfl | rfl <;> rfl
theorem cn_at {q : Nat × Nat} (hq : q ∈ am_cs) : (gw8 cI cC cM g b a (fun k => some (cn_ad g b a (iH.2 (2 + k)) 0)))[cn_pos q]? = some (cn_ad g b a q.1 q.2, am_cell (cI, cC, cM) (cn_ad g b a) iH q) := by
  have hcase : ∀ q ∈ am_cs, (q.1 < 6 ∧ q.2 < 14) ∨ (q.1 = 6 ∧ q.2 < 4) := by decide +kernel
  obtain ⟨u, j⟩ := q
  rcases hcase _ hq with ⟨h1, h2⟩ | ⟨h1, h2⟩
  · exact cn_atM h1 h2
  · have h1 : u = 6 := h1
    subst h1
    exact cn_at6 h2
theorem cn_hist {D : va_G} {y : Nat × va_E} {qh : Nat} {f f' : Nat → Option Nat} {rest : va_W} {H : Heap} (hP : va_P D vwCl (y :: (qh, .inl (cM, 4, .inr (.inr (.inr (.inr f))))) :: rest) H) (hf : ∀ k, k < 4 → f k = f' k) : va_P D vwCl (y :: (qh, .inl (cM, 4, .inr (.inr (.inr (.inr f'))))) :: rest) H := by
  intro k q hq
  by_cases hk : k = 1
  · subst hk
    cases hq
    have h0 := hP 1 _ rfl
    have e : vp_cell cM (4, .inr (.inr (.inr (.inr f')))) = vp_cell cM (4, .inr (.inr (.inr (.inr f)))) := by
      rw [vp_cell_q, vp_cell_q]
      unfold arrV
      congr 2
      funext k
      show va_rf (f' k.val) = va_rf (f k.val)
      rw [hf k.val k.isLt]
    have h0 : H[qh]? = some (vp_cell cM (4, .inr (.inr (.inr (.inr f))))) := h0
    show H[qh]? = some (vp_cell cM (4, .inr (.inr (.inr (.inr f')))))
    rw [e]
    exact h0
  · refine hP k q ?_
    rcases k with _ | _ | k
    · exact hq
    · exact absurd rfl hk
    · exact hq
/-- the world behind the constructor is the small machine's first heap -/
theorem cn_world {D : va_G} {A : Nat → Prop} {H : Heap} (hP : va_P D vwCl (gw9 cI cC cM g b a) H) (hD : va_D A (gw9 cI cC cM g b a)) : va_P D vwCl (am_ws (cI, cC, cM) (cn_ad g b a) iH) H ∧ am_ad (cn_ad g b a) ∧ ∀ q, am_A (cn_ad g b a) q → A q := by
  have hP8 : va_P D vwCl (gw8 cI cC cM g b a (fun k => some (cn_ad g b a (iH.2 (2 + k)) 0))) H := by
    refine cn_hist (f := hs9 a) hP (fun k hk => ?_)
    rcases (show k = 0 ∨ k = 1 ∨ k = 2 ∨ k = 3 by omega) with rfl | rfl | rfl | rfl <;> rfl
  have hD8 : va_D A (gw8 cI cC cM g b a (fun k => some (cn_ad g b a (iH.2 (2 + k)) 0))) := hD.set (p := 1) (a := b 0) (e := .inl (cM, 4, .inr (.inr (.inr (.inr (fun k => some (cn_ad g b a (iH.2 (2 + k)) 0))))))) rfl
  refine ⟨fun k p hp => ?_, fun q hq q' hq' he => ?_, fun q hq => ?_⟩
  · unfold am_ws at hp
    rw [List.getElem?_map] at hp
    cases hz : am_cs[k]? with
    | none => rw [hz] at hp; cases hp
    | some q =>
      rw [hz] at hp
      cases hp
      exact hP8 _ _ (cn_at (List.mem_of_getElem? hz))
  · exact cn_pos_inj q hq q' hq' (hD8.1 _ _ _ _ (cn_at hq) (cn_at hq') he)
  · obtain ⟨c, hc, rfl⟩ := hq
    exact hD8.2 _ _ (cn_at hc)
end CNA
