theorem am_VH_S {h : am_H} {n v : Nat} (hV : am_VH h) (hv : v < 6) : am_VH (am_S h n v) := by
  refine ⟨hV.1, fun a => ?_⟩
  show (if a = n then v else h.2 a) < 6
  split
  · exact hv
  · exact hV.2 a
/-- heaps that agree where the cells look -/
def am_wd (u j : Nat) : Nat := if am_kd u j = 0 then (if u < 6 then 5 else am_nf u j) else am_len u j
def am_ag (h h2 : am_H) : Prop := h2.2 = h.2 ∧ ∀ q ∈ am_cs, ∀ k, k < am_wd q.1 q.2 → h2.1 q.1 q.2 k = h.1 q.1 q.2 k
theorem am_ofFn {n : Nat} {f g : Nat → Int32} (h : ∀ k, k < n → f k = g k) (c : ClassId) : vp_cell c (n, .inl f) = vp_cell c (n, .inl g) := by
  rw [vp_cell_i, vp_cell_i]
  unfold arrV
  congr 2
  funext k
  show Value.int (f k.val) = Value.int (g k.val)
  rw [h k.val k.isLt]
theorem am_agP {D : va_G} {K : ClassId × ClassId × ClassId} {ad : Nat → Nat → Nat} {h h2 : am_H} {H : Heap} (ha : am_ag h h2) (hP : va_P D vwCl (am_ws K ad h) H) : va_P D vwCl (am_ws K ad h2) H := by
  intro k p hp
  have hp0 := hp
  unfold am_ws at hp
  rw [List.getElem?_map] at hp
  cases hz : am_cs[k]? with
  | none => rw [hz] at hp; cases hp
  | some q =>
    rw [hz] at hp
    cases hp
    have hm : q ∈ am_cs := List.mem_of_getElem? hz
    have h0 := hP k (ad q.1 q.2, am_cell K ad h q) (by unfold am_ws; rw [List.getElem?_map, hz]; rfl)
    have hw := ha.2 q hm
    have hk4 : am_kd q.1 q.2 = 0 ∨ am_kd q.1 q.2 = 1 ∨ am_kd q.1 q.2 = 2 ∨ am_kd q.1 q.2 = 3 := by
      unfold am_kd
      repeat' split
      all_goals simp
    show va_at D vwCl (ad q.1 q.2, am_cell K ad h2 q) H
    rcases hk4 with hk | hk | hk | hk
    · have e : am_cell K ad h2 q = am_cell K ad h q := by
        rw [am_cell0 hk, am_cell0 hk]
        unfold am_wd at hw
        rw [if_pos hk] at hw
        have e2 : am_obj ad h2 q.1 q.2 = am_obj ad h q.1 q.2 := by
          unfold am_obj
          apply List.map_congr_left
          intro k hk9
          have hk9 := List.mem_range.mp hk9
          congr 1
          unfold am_f
          by_cases hu : q.1 < 6
          · rw [if_pos hu, if_pos hu]
            rw [if_pos hu] at hw
            unfold am_fM
            split <;> first | rfl | rw [hw _ (by decide)]
          · rw [if_neg hu, if_neg hu]
            rw [if_neg hu] at hw
            by_cases h6 : q.1 = 6
            · rw [if_pos h6, if_pos h6]
              by_cases hj : q.2 = 0
              · rw [if_pos hj, if_pos hj, ha.1]
                unfold am_fG
                split <;> first | rfl | (rw [hw 4 (by unfold am_nf; rw [if_neg hu, if_pos h6, if_pos hj]; decide)])
              · rw [if_neg hj, if_neg hj]
                unfold am_fO
                split
                · rfl
                · rw [hw _ hk9]
            · rw [if_neg h6, if_neg h6]
              unfold am_fO
              split
              · rfl
              · rw [hw _ hk9]
        rw [e2]
      rw [e]
      exact h0
    · rw [am_cell1 hk] at h0 ⊢
      show H[ad q.1 q.2]? = _
      have h0 : H[ad q.1 q.2]? = _ := h0
      rw [h0]
      congr 1
      refine am_ofFn (fun k hk9 => ?_) _
      rw [hw k (by unfold am_wd; rw [if_neg (by rw [hk]; decide)]; exact hk9)]
    · rw [am_cell2 hk] at h0 ⊢
      show H[ad q.1 q.2]? = _
      have h0 : H[ad q.1 q.2]? = _ := h0
      rw [h0]
      congr 1
      refine am_ofFn (fun k hk9 => ?_) _
      rw [hw k (by unfold am_wd; rw [if_neg (by rw [hk]; decide)]; exact hk9)]
    · have e : am_cell K ad h2 q = am_cell K ad h q := by
        rw [am_cell3 hk, am_cell3 hk, ha.1]
      rw [e]
      exact h0
section SC
variable {d : Nat} {y : am_Y} {h1 : am_H} {r : Option am_V} {pc : Nat} {ls : List (Option am_V)} {st : List am_V} {h : am_H}
theorem sx_sim {h2 : am_H} (ha : am_ag h h2) (hv : am_VH h → am_VH h2) (kk : Sx d y h1 r pc ls st h2) : Sx d y h1 r pc ls st h := by
  intro p l e s m args below meth c D K ad H locs lsr hS hV hP hH hl2
  exact kk p l e s m args below meth c D K ad H locs lsr hS hV (am_agP ha hP) (hv hH) hl2
/-- what a heap of the machine keeps to -/
theorem sx_vh (kk : am_VH h → Sx d y h1 r pc ls st h) : Sx d y h1 r pc ls st h := by
  intro p l e s m args below meth c D K ad H locs lsr hS hV hP hH hl2
  exact kk hH p l e s m args below meth c D K ad H locs lsr hS hV hP hH hl2
/-- fewer locals are known -/
theorem sx_ls {ls2 : List (Option am_V)} (hls : ∀ (i : Nat) (v : am_V), ls2[i]? = some (some v) → ls[i]? = some (some v)) (kk : Sx d y h1 r pc ls2 st h) : Sx d y h1 r pc ls st h := by
  intro p l e s m args below meth c D K ad H locs lsr hS hV hP hH hl2
  exact kk p l e s m args below meth c D K ad H locs lsr hS hV hP hH ⟨hl2.1, hl2.2.1, fun i v hi => hl2.2.2 i v (hls i v hi)⟩
theorem sx_iret {x : Int} (hd : decode y.2.1 pc = .ok (.ireturn, 1)) (hr9 : y.2.2.2 = some .int) (e1 : r = some (.inl x)) (e2 : h1 = h) : Sx d y h1 r pc ls [.inl x] h := by
  subst e1; subst e2
  intro p l e s m args below meth c D K ad H locs lsr hS hV hP hH hl2
  obtain ⟨hx, hb, hml, hr, hlk, hown, hts, hK, hN, hA⟩ := id hS
  exact W.iret hx hb (hr.trans hr9) (fun t ht hW => ⟨rfl, by rw [ht]; exact hP, hH, hV.F ht⟩) hV.2.2 hd hlk
theorem sx_zret {x : Int} (hd : decode y.2.1 pc = .ok (.ireturn, 1)) (hr9 : y.2.2.2 = some .boolean) (h01 : x = 0 ∨ x = 1) (e1 : r = some (.inl x)) (e2 : h1 = h) : Sx d y h1 r pc ls [.inl x] h := by
  subst e1; subst e2
  intro p l e s m args below meth c D K ad H locs lsr hS hV hP hH hl2
  obtain ⟨hx, hb, hml, hr, hlk, hown, hts, hK, hN, hA⟩ := id hS
  exact W.zret hx hb (hr.trans hr9) (by rcases h01 with rfl | rfl <;> rfl) (fun t ht hW => ⟨rfl, by rw [ht]; exact hP, hH, hV.F ht⟩) hV.2.2 hd hlk
theorem sx_vret (hd : decode y.2.1 pc = .ok (.return_, 1)) (hr9 : y.2.2.2 = none) (e1 : r = none) (e2 : h1 = h) : Sx d y h1 r pc ls [] h := by
  subst e1; subst e2
  intro p l e s m args below meth c D K ad H locs lsr hS hV hP hH hl2
  obtain ⟨hx, hb, hml, hr, hlk, hown, hts, hK, hN, hA⟩ := id hS
  exact W.vret hx hb (hr.trans hr9) (fun t ht hW => ⟨rfl, by rw [ht]; exact hP, hH, hV.F ht⟩) hV.2.2 hd hlk
theorem sx_aret {q : Nat × Nat} {C : String} (hd : decode y.2.1 pc = .ok (.areturn, 1)) (hr9 : y.2.2.2 = some (.object C)) (e1 : r = some (.inr q)) (e2 : h1 = h) : Sx d y h1 r pc ls [.inr q] h := by
  subst e1; subst e2
  intro p l e s m args below meth c D K ad H locs lsr hS hV hP hH hl2
  obtain ⟨hx, hb, hml, hr, hlk, hown, hts, hK, hN, hA⟩ := id hS
  exact W.aret hx hb (hr.trans hr9) (Or.inl ⟨C, rfl⟩) (Or.inr ⟨_, rfl⟩) (fun t ht hW => ⟨rfl, by rw [ht]; exact hP, hH, hV.F ht⟩) hV.2.2 hd hlk
end SC
theorem am_sl (ad : Nat → Nat → Nat) (as : List am_V) : lg_sl (as.map (am_cv ad)) = as.map (fun v => Slot.val (am_cv ad v)) := by
  induction as with
  | nil => rfl
  | cons a l ih =>
    show (if (am_cv ad a).category = 2 then [Slot.val (am_cv ad a), .second] else [Slot.val (am_cv ad a)]) ++ lg_sl (l.map (am_cv ad)) = _
    rw [if_neg (by rw [am_cat]; decide), ih]
    rfl
theorem Ct_of {d : Nat} {y : am_Y} {as : List am_V} {r : Option am_V} {h h1 : am_H} (hp : plainName y.1.cls = true) (hlen : as.length ≤ y.2.2.1) (kk : Sx d y h1 r 0 (as.map some ++ List.replicate (y.2.2.1 - as.length) none) [] h) : Ct d y as r h h1 := by
  intro l D K ad
  refine Met.ofW (cc := y.2.1) (maxL := y.2.2.1) (ret := y.2.2.2) hp rfl ?_
  intro p e s m args below meth c s₁ B hml hv
  obtain ⟨rfl, hP, hK, hN, hV, hA⟩ := hv
  have hl := lv_entry (as.map (am_cv ad)) (n := y.2.2.1) (by rw [am_sl, List.length_map]; exact hlen)
  rw [lg_entry_eq]
  refine kk p l e s m _ below meth c D K ad s.heap [] _ ⟨B.exec, B.bytes, hml, B.returns, B.notSynchronized, findClass_of_methodNamed B.named, atoms_spec (ws := am_w y) B.pre, hK, hN, hA⟩ va_S.rf hP hV ⟨hl.1, hl.2.1, fun i v hi => ?_⟩
  rw [am_sl]
  by_cases hia : i < as.length
  · rw [List.getElem?_append_left (by simpa using hia), List.getElem?_map] at hi
    have h2 : as[i]? = some v := by
      cases hz : as[i]? with
      | none => rw [hz] at hi; cases hi
      | some w => rw [hz] at hi; exact congrArg some (Option.some.inj (Option.some.inj hi))
    rw [List.getElem?_toArray, List.getElem?_append_left (by simpa using hia), List.getElem?_map, h2]
    rfl
  · rw [List.getElem?_append_right (by simpa using hia)] at hi
    have h3 := List.mem_of_getElem? hi
    have h4 := List.eq_of_mem_replicate h3
    cases h4
