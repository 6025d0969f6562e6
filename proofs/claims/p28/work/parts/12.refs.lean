section SJ
variable {d : Nat} {y : am_Y} {h1 : am_H} {r : Option am_V} {pc : Nat} {ls : List (Option am_V)} {st : List am_V} {h : am_H}
/-- history's elements -/
theorem sx_ald {i : Int} (hd : decode y.2.1 pc = .ok (.aaload, 1)) (hi0 : 0 ≤ i) (hi9 : i < 4) (kk : h.2 (2 + i.toNat) < 6 → Sx d y h1 r (pc + 1) ls (.inr (h.2 (2 + i.toNat), 0) :: st) h) : Sx d y h1 r pc ls (.inl i :: .inr (6, 1) :: st) h := by
  intro p l e s m args below meth c D K ad H locs lsr hS hV hP hH hl2
  obtain ⟨hx, hb, hml, hr, hlk, hown, hts, hK, hN, hA⟩ := id hS
  have z := kk (hH.2 _) p l e s m args below meth c D K ad H locs lsr hS hV hP hH hl2
  have he := am_ws_at (K := K) (ad := ad) (h := h) (am_inG 1 (by decide))
  rw [am_cell3 rfl] at he
  obtain ⟨q1, q2⟩ := am_idx (n := 4) hi0 (by omega) (by decide)
  refine va_aldq hx hb hK hP (am_ix 6 1) 2 he rfl q1 hd ?_
  rw [q2]
  exact z
theorem am_S_cell {K : ClassId × ClassId × ClassId} {ad : Nat → Nat → Nat} {h : am_H} {k v : Nat} (j : Nat) (hj : (j = 1 ∧ 2 ≤ k) ∨ (j = 0 ∧ k < 2)) : ∀ q' ∈ am_cs, q' ≠ (6, j) → am_cell K ad (am_S h k v) q' = am_cell K ad h q' := by
  intro q' hm hne
  have hcase : ∀ q ∈ am_cs, q.1 < 6 ∨ q.1 = 7 ∨ q = (6, 0) ∨ q = (6, 1) ∨ q = (6, 2) ∨ q = (6, 3) := by decide +kernel
  have hf : ∀ u b c, u ≠ 6 ∨ b ≠ 0 → am_f (am_S h k v) u b c = am_f h u b c := by
    intro u b c hub
    unfold am_f
    by_cases hu : u < 6
    · rw [if_pos hu, if_pos hu]; rfl
    · rw [if_neg hu, if_neg hu]
      by_cases h6 : u = 6
      · rw [if_pos h6, if_pos h6]
        rcases hub with q | q
        · exact absurd h6 q
        · rw [if_neg q, if_neg q]; rfl
      · rw [if_neg h6, if_neg h6]; rfl
  have hob : ∀ u b, u ≠ 6 ∨ b ≠ 0 → am_obj ad (am_S h k v) u b = am_obj ad h u b := by
    intro u b hub
    unfold am_obj
    exact List.map_congr_left (fun c _ => by rw [hf u b c hub])
  have h67 : ∀ q : Nat × Nat, q.1 ≠ 6 → am_kd q.1 q.2 ≠ 3 → am_cell K ad (am_S h k v) q = am_cell K ad h q := by
    intro q hq hk
    have hk4 : am_kd q.1 q.2 = 0 ∨ am_kd q.1 q.2 = 1 ∨ am_kd q.1 q.2 = 2 ∨ am_kd q.1 q.2 = 3 := by
      unfold am_kd
      repeat' split
      all_goals simp
    rcases hk4 with hk4 | hk4 | hk4 | hk4
    · rw [am_cell0 hk4, am_cell0 hk4, hob _ _ (Or.inl hq)]
    · rw [am_cell1 hk4, am_cell1 hk4]; rfl
    · rw [am_cell2 hk4, am_cell2 hk4]; rfl
    · exact absurd hk4 hk
  have hk3 : ∀ u b, u ≠ 6 → am_kd u b ≠ 3 := by
    intro u b hu
    unfold am_kd
    by_cases hb : b = 0
    · rw [if_pos hb]; decide
    · rw [if_neg hb, if_neg hu]
      repeat' split
      all_goals decide
  rcases hcase q' hm with hc | hc | rfl | rfl | rfl | rfl
  · exact h67 q' (by omega) (hk3 _ _ (by omega))
  · exact h67 q' (by omega) (hk3 _ _ (by omega))
  · rcases hj with ⟨rfl, hk⟩ | ⟨rfl, hk⟩
    · rw [am_cell0 rfl, am_cell0 rfl]
      have e : am_obj ad (am_S h k v) 6 0 = am_obj ad h 6 0 := by
        unfold am_obj
        apply List.map_congr_left
        intro c _
        congr 1
        show am_fG (h.1 6 0) (am_S h k v).2 6 c = am_fG (h.1 6 0) h.2 6 c
        unfold am_fG am_S
        split <;> first | rfl | (simp only; rw [if_neg (by omega)])
      rw [e]
    · exact absurd rfl hne
  · rcases hj with ⟨rfl, hk⟩ | ⟨rfl, hk⟩
    · exact absurd rfl hne
    · rw [am_cell3 rfl, am_cell3 rfl]
      unfold am_S
      simp only
      have e : (fun c => some (ad (if 2 + c = k then v else h.2 (2 + c)) 0)) = (fun c => some (ad (h.2 (2 + c)) 0)) := by
        funext c
        rw [if_neg (by omega)]
      rw [e]
  · rw [am_cell0 rfl, am_cell0 rfl, hob _ _ (Or.inr (by decide))]
  · rw [am_cell2 rfl, am_cell2 rfl]; rfl
theorem sx_ast {i : Int} {v : Nat} (hd : decode y.2.1 pc = .ok (.aastore, 1)) (hi0 : 0 ≤ i) (hi9 : i < 4) (hv : v < 6) (kk : Sx d y h1 r (pc + 1) ls st (am_S h (2 + i.toNat) v)) : Sx d y h1 r pc ls (.inr (v, 0) :: .inl i :: .inr (6, 1) :: st) h := by
  intro p l e s m args below meth c D K ad H locs lsr hS hV hP hH hl2
  obtain ⟨hx, hb, hml, hr, hlk, hown, hts, hK, hN, hA⟩ := id hS
  have he := am_ws_at (K := K) (ad := ad) (h := h) (am_inG 1 (by decide))
  rw [am_cell3 rfl] at he
  have hev := am_ws_at (K := K) (ad := ad) (h := h) (am_inM v hv 0 (by decide))
  rw [am_cell0 rfl] at hev
  have hcl := am_cl (v, 0) (am_inM v hv 0 (by decide)) rfl
  obtain ⟨q1, q2⟩ := am_idx (n := 4) hi0 (by omega) (by decide)
  refine va_astq (r := (am_C v 0, am_T v 0, am_nf v 0)) hx hb hK hP (am_D hA) hV (am_ix 6 1) 2 (am_ix v 0) (am_ci v 0) he (by unfold am_C; rw [if_pos hv]; rfl) hev hcl q1 hd (fun H1 locs1 hP1 hD1 hS1 => ?_)
  have hfun : va_up (fun k => some (ad (h.2 (2 + k)) 0)) i.toNat (some (ad v 0)) = fun k => some (ad ((am_S h (2 + i.toNat) v).2 (2 + k)) 0) := by
    funext c
    unfold va_up am_S
    by_cases hc : c = i.toNat
    · subst hc
      simp
    · rw [if_neg hc]
      simp only
      rw [if_neg (by omega)]
  rw [q2, hfun, am_ws_set (q := (6, 1)) (h' := am_S h (2 + i.toNat) v) (am_inG 1 (by decide)) (am_cell3 rfl) (am_S_cell 1 (Or.inl ⟨rfl, by omega⟩))] at hP1
  exact kk p l e s m args below meth c D K ad H1 locs1 lsr hS hS1 hP1 (am_VH_S hH hv) hl2
/-- present and trial -/
theorem sx_putr {ix k v : Nat} (hd : decode y.2.1 pc = .ok (.putfield ix, 3)) (hl : am_fl y.1.cls ix TX2 (k + 2)) (hk : k < 2) (hv : v < 6) (kk : Sx d y h1 r (pc + 3) ls st (am_S h k v)) : Sx d y h1 r pc ls (.inr (v, 0) :: .inr (6, 0) :: st) h := by
  intro p l e s m args below meth c D K ad H locs lsr hS hV hP hH hl2
  obtain ⟨hx, hb, hml, hr, hlk, hown, hts, hK, hN, hA⟩ := id hS
  have he := am_ws_at (K := K) (ad := ad) (h := h) (am_inG 0 (by decide))
  rw [am_cell0 rfl] at he
  have hc := am_cl (6, 0) (am_inG 0 (by decide)) rfl
  refine va_put (v := .ref (ad v 0)) (ty := .object "GodChips$Memory") hx hb hts (fun w hw => List.mem_cons_of_mem _ (am_in (6, 0) w hw)) tyX2 tyX2_ok nmX2 hown hK hP (am_D hA) hV (am_ix 6 0) he hc (k + 2) (by show k + 2 < 5; omega) (hts _ (List.mem_cons_of_mem _ hl)) (fun _ h9 => h9) ?_ ?_ rfl rfl (by rw [am_obj_len]; show k + 2 < 5; omega) hd (fun H1 locs1 hP1 hD1 hS1 => ?_)
  · rcases (show k = 0 ∨ k = 1 by omega) with rfl | rfl <;> rfl
  · rcases (show k = 0 ∨ k = 1 by omega) with rfl | rfl <;> decide +kernel
  · have hset : (am_obj ad h 6 0).set (k + 2) (.ref (ad v 0)) = am_obj ad (am_S h k v) 6 0 := by
      have h9 : am_cv ad (am_f (am_S h k v) 6 0 (k + 2)) = .ref (ad v 0) := by
        rcases (show k = 0 ∨ k = 1 by omega) with rfl | rfl <;> simp [am_f, am_fG, am_S, am_cv]
      rw [← am_obj_set (h' := am_S h k v) (k := k + 2) (fun c hck hc9 => ?_), h9]
      show am_fG (h.1 6 0) (am_S h k v).2 6 c = am_fG (h.1 6 0) h.2 6 c
      have h91 : ∀ n, n ≠ k → (am_S h k v).2 n = h.2 n := fun n hn => by
        show (if n = k then v else h.2 n) = h.2 n
        rw [if_neg hn]
      unfold am_fG
      split
      · rfl
      · rfl
      · rw [h91 0 (by omega)]
      · rw [h91 1 (by omega)]
      · rfl
    rw [hset, am_ws_set (q := (6, 0)) (h' := am_S h k v) (am_inG 0 (by decide)) (am_cell0 rfl) (am_S_cell 0 (Or.inr ⟨rfl, hk⟩))] at hP1
    exact kk p l e s m args below meth c D K ad H1 locs1 lsr hS hS1 hP1 (am_VH_S hH hv) hl2
end SJ
