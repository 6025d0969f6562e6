theorem am_inX0 : ∀ w ∈ u_ws RX0 TX0 18, w ∈ am_GW := by decide +kernel
theorem am_inX1 : ∀ w ∈ u_ws RX1 TX1 8, w ∈ am_GW := by decide +kernel
theorem am_inX2 : ∀ w ∈ u_ws RX2 TX2 5, w ∈ am_GW := by decide +kernel
theorem am_in : ∀ q : Nat × Nat, ∀ w ∈ u_ws (am_C q.1 q.2) (am_T q.1 q.2) (am_nf q.1 q.2), w ∈ am_GW := by
  intro q
  unfold am_C am_T am_nf
  by_cases hu : q.1 < 6
  · rw [if_pos hu, if_pos hu, if_pos hu]; exact am_inX0
  · rw [if_neg hu, if_neg hu, if_neg hu]
    by_cases h6 : q.1 = 6
    · rw [if_pos h6, if_pos h6, if_pos h6]
      by_cases hj : q.2 = 0
      · rw [if_pos hj, if_pos hj, if_pos hj]; exact am_inX2
      · rw [if_neg hj, if_neg hj, if_neg hj]; exact am_inX1
    · rw [if_neg h6, if_neg h6, if_neg h6]; exact am_inX1
theorem am_cell0 {K : ClassId × ClassId × ClassId} {ad : Nat → Nat → Nat} {h : am_H} {q : Nat × Nat} (hk : am_kd q.1 q.2 = 0) : am_cell K ad h q = .inr (am_ci q.1 q.2, am_obj ad h q.1 q.2) := by
  unfold am_cell; rw [hk]; rfl
theorem am_cell1 {K : ClassId × ClassId × ClassId} {ad : Nat → Nat → Nat} {h : am_H} {q : Nat × Nat} (hk : am_kd q.1 q.2 = 1) : am_cell K ad h q = .inl (K.1, am_len q.1 q.2, .inl (fun k => Int32.ofInt (h.1 q.1 q.2 k))) := by
  unfold am_cell; rw [hk]; rfl
theorem am_cell2 {K : ClassId × ClassId × ClassId} {ad : Nat → Nat → Nat} {h : am_H} {q : Nat × Nat} (hk : am_kd q.1 q.2 = 2) : am_cell K ad h q = .inl (K.2.1, am_len q.1 q.2, .inl (fun k => Int32.ofInt (h.1 q.1 q.2 k))) := by
  unfold am_cell; rw [hk]; rfl
theorem am_cell3 {K : ClassId × ClassId × ClassId} {ad : Nat → Nat → Nat} {h : am_H} {q : Nat × Nat} (hk : am_kd q.1 q.2 = 3) : am_cell K ad h q = .inl (K.2.2, am_len q.1 q.2, .inr (.inr (.inr (.inr (fun k => some (ad (h.2 (2 + k)) 0)))))) := by
  unfold am_cell; rw [hk]; rfl
theorem am_obj_get {ad : Nat → Nat → Nat} {h : am_H} {u j k : Nat} (hk : k < am_nf u j) : (am_obj ad h u j)[k]? = some (am_cv ad (am_f h u j k)) := by
  unfold am_obj
  rw [List.getElem?_map, List.getElem?_range hk]
  rfl
theorem am_obj_len {ad : Nat → Nat → Nat} {h : am_H} {u j : Nat} : (am_obj ad h u j).length = am_nf u j := by
  unfold am_obj
  rw [List.length_map, List.length_range]
theorem am_obj_set {ad : Nat → Nat → Nat} {h h' : am_H} {u j k : Nat} (ho : ∀ c, c ≠ k → c < am_nf u j → am_f h' u j c = am_f h u j c) : (am_obj ad h u j).set k (am_cv ad (am_f h' u j k)) = am_obj ad h' u j := by
  apply List.ext_getElem?
  intro c
  by_cases hc : c < am_nf u j
  · rw [am_obj_get hc]
    by_cases hck : c = k
    · subst hck
      rw [List.getElem?_set_self (by rw [am_obj_len]; exact hc)]
    · rw [List.getElem?_set_ne (Ne.symm hck), am_obj_get hc, ho c hck hc]
  · rw [List.getElem?_eq_none (by rw [List.length_set, am_obj_len]; omega), List.getElem?_eq_none (by rw [am_obj_len]; omega)]
theorem am_upd (f : Nat → Int) (k : Nat) (x : Int) : upd (fun c => Int32.ofInt (f c)) k (Int32.ofInt x) = fun c => Int32.ofInt (am_u1 f k x c) := by
  funext c
  unfold upd am_u1
  by_cases hc : c = k
  · rw [if_pos hc, if_pos hc]
  · rw [if_neg hc, if_neg hc]
section SH
variable {d : Nat} {y : am_Y} {h1 : am_H} {r : Option am_V} {pc : Nat} {ls : List (Option am_V)} {st : List am_V} {h : am_H}
/-- a field is read -/
theorem sx_get {u j ix k : Nat} {v : am_V} (hd : decode y.2.1 pc = .ok (.getfield ix, 3)) (hq : (u, j) ∈ am_cs) (h0 : am_kd u j = 0) (hl : am_fl y.1.cls ix (am_T u j) k) (hk : k < am_nf u j) (hv : am_f h u j k = v) (kk : Sx d y h1 r (pc + 3) ls (v :: st) h) : Sx d y h1 r pc ls (.inr (u, j) :: st) h := by
  subst hv
  intro p l e s m args below meth c D K ad H locs lsr hS hV hP hH hl2
  obtain ⟨hx, hb, hml, hr, hlk, hown, hts, hK, hN, hA⟩ := id hS
  have z := kk p l e s m args below meth c D K ad H locs lsr hS hV hP hH hl2
  have he := am_ws_at (K := K) (ad := ad) (h := h) hq
  rw [am_cell0 h0] at he
  exact va_get (v := am_cv ad (am_f h u j k)) hx hb hts (fun w hw => List.mem_cons_of_mem _ (am_in (u, j) w hw)) hown hK hP (am_ix u j) he (am_cl (u, j) hq h0) k hk (hts _ (List.mem_cons_of_mem _ hl)) (fun _ h9 => h9) (am_obj_get hk) hd z
/-- a field of ints is written -/
theorem sx_put {u j ix k : Nat} {x : Int} (hd : decode y.2.1 pc = .ok (.putfield ix, 3)) (hq : (u, j) ∈ am_cs) (h0 : am_kd u j = 0) (hl : am_fl y.1.cls ix (am_T u j) k) (hk : k < am_nf u j) (hfin : (am_T u j k).2.2.2 = false) (hty : (am_T u j k).2.2.1 = "I") (hv : ∀ w, am_f (am_U h u (am_u2 (h.1 u) j k w)) u j k = .inl w) (ho : ∀ w c, c ≠ k → c < am_nf u j → am_f (am_U h u (am_u2 (h.1 u) j k w)) u j c = am_f h u j c) (hR : am_R x)
    (kk : Sx d y h1 r (pc + 3) ls st (am_U h u (am_u2 (h.1 u) j k x))) : Sx d y h1 r pc ls (.inl x :: .inr (u, j) :: st) h := by
  intro p l e s m args below meth c D K ad H locs lsr hS hV hP hH hl2
  obtain ⟨hx, hb, hml, hr, hlk, hown, hts, hK, hN, hA⟩ := id hS
  have he := am_ws_at (K := K) (ad := ad) (h := h) hq
  rw [am_cell0 h0] at he
  have hc := am_cl (u, j) hq h0
  have hty0 : ∃ ty0 : Nat → FieldType, (∀ k, k < am_nf u j → parseFieldDescriptor (am_T u j k).2.2.1 = some (ty0 k)) ∧ ∀ a, a < am_nf u j → ∀ b, b < am_nf u j → a ≠ b → (am_T u j a).2.1 ≠ (am_T u j b).2.1 := by
    unfold am_T am_nf
    by_cases hu : u < 6
    · simp only [if_pos hu]; exact ⟨tyX0, tyX0_ok, nmX0⟩
    · simp only [if_neg hu]
      by_cases h6 : u = 6
      · simp only [if_pos h6]
        by_cases hj : j = 0
        · simp only [if_pos hj]; exact ⟨tyX2, tyX2_ok, nmX2⟩
        · simp only [if_neg hj]; exact ⟨tyX1, tyX1_ok, nmX1⟩
      · simp only [if_neg h6]; exact ⟨tyX1, tyX1_ok, nmX1⟩
  obtain ⟨ty0, ht1, ht2⟩ := hty0
  refine va_put (v := .int (Int32.ofInt x)) (ty := .int) hx hb hts (fun w hw => List.mem_cons_of_mem _ (am_in (u, j) w hw)) ty0 ht1 ht2 hown hK hP (am_D hA) hV (am_ix u j) he hc k hk (hts _ (List.mem_cons_of_mem _ hl)) (fun _ h9 => h9) hfin (by rw [hty]; decide +kernel) rfl rfl (by rw [am_obj_len]; exact hk) hd (fun H1 locs1 hP1 hD1 hS1 => ?_)
  have hset : (am_obj ad h u j).set k (.int (Int32.ofInt x)) = am_obj ad (am_U h u (am_u2 (h.1 u) j k x)) u j := by
    rw [← am_obj_set (h' := am_U h u (am_u2 (h.1 u) j k x)) (ho x), hv x]
    rfl
  rw [hset, am_ws_set (q := (u, j)) (h' := am_U h u (am_u2 (h.1 u) j k x)) hq (am_cell0 h0) am_u2_cell] at hP1
  exact kk p l e s m args below meth c D K ad H1 locs1 lsr hS hS1 hP1 (am_VH_u2 hH hR) hl2
theorem sx_ild {u j n : Nat} {i : Int} (hd : decode y.2.1 pc = .ok (.iaload, 1)) (hq : (u, j) ∈ am_cs) (h0 : am_kd u j = 1) (hn : am_len u j = n) (hn9 : n ≤ 1000000) (hi0 : 0 ≤ i) (hi9 : i < n) (kk : am_R (h.1 u j i.toNat) → Sx d y h1 r (pc + 1) ls (.inl (h.1 u j i.toNat) :: st) h) : Sx d y h1 r pc ls (.inl i :: .inr (u, j) :: st) h := by
  subst hn
  intro p l e s m args below meth c D K ad H locs lsr hS hV hP hH hl2
  obtain ⟨hx, hb, hml, hr, hlk, hown, hts, hK, hN, hA⟩ := id hS
  have z := kk (hH.1 _ _ _) p l e s m args below meth c D K ad H locs lsr hS hV hP hH hl2
  have he := am_ws_at (K := K) (ad := ad) (h := h) hq
  rw [am_cell1 h0] at he
  obtain ⟨q1, q2⟩ := am_idx hi0 hi9 hn9
  rw [← q2] at z
  exact va_iald hx hb hK hP (am_ix u j) 0 he rfl q1 hd z
theorem sx_cld {u j n : Nat} {i : Int} (hd : decode y.2.1 pc = .ok (.caload, 1)) (hq : (u, j) ∈ am_cs) (h0 : am_kd u j = 2) (hn : am_len u j = n) (hn9 : n ≤ 1000000) (hi0 : 0 ≤ i) (hi9 : i < n) (kk : am_R (h.1 u j i.toNat) → Sx d y h1 r (pc + 1) ls (.inl (h.1 u j i.toNat) :: st) h) : Sx d y h1 r pc ls (.inl i :: .inr (u, j) :: st) h := by
  subst hn
  intro p l e s m args below meth c D K ad H locs lsr hS hV hP hH hl2
  obtain ⟨hx, hb, hml, hr, hlk, hown, hts, hK, hN, hA⟩ := id hS
  have z := kk (hH.1 _ _ _) p l e s m args below meth c D K ad H locs lsr hS hV hP hH hl2
  have he := am_ws_at (K := K) (ad := ad) (h := h) hq
  rw [am_cell2 h0] at he
  obtain ⟨q1, q2⟩ := am_idx hi0 hi9 hn9
  rw [← q2] at z
  exact va_cald hx hb hK hP (am_ix u j) 1 he rfl q1 hd z
theorem sx_ist {u j n : Nat} {i x : Int} (hd : decode y.2.1 pc = .ok (.iastore, 1)) (hq : (u, j) ∈ am_cs) (h0 : am_kd u j = 1) (hn : am_len u j = n) (hn9 : n ≤ 1000000) (hi0 : 0 ≤ i) (hi9 : i < n) (hR : am_R x) (kk : Sx d y h1 r (pc + 1) ls st (am_U h u (am_u2 (h.1 u) j i.toNat x))) : Sx d y h1 r pc ls (.inl x :: .inl i :: .inr (u, j) :: st) h := by
  subst hn
  intro p l e s m args below meth c D K ad H locs lsr hS hV hP hH hl2
  obtain ⟨hx, hb, hml, hr, hlk, hown, hts, hK, hN, hA⟩ := id hS
  have he := am_ws_at (K := K) (ad := ad) (h := h) hq
  rw [am_cell1 h0] at he
  obtain ⟨q1, q2⟩ := am_idx hi0 hi9 hn9
  refine va_iast hx hb hK hP (am_D hA) hV (am_ix u j) 0 he rfl q1 hd (fun H1 locs1 hP1 hD1 hS1 => ?_)
  rw [q2, am_upd, am_ws_set (q := (u, j)) (h' := am_U h u (am_u2 (h.1 u) j i.toNat x)) hq (by rw [am_cell1 h0]; simp only [am_U_at, am_u2_at]) am_u2_cell] at hP1
  exact kk p l e s m args below meth c D K ad H1 locs1 lsr hS hS1 hP1 (am_VH_u2 hH hR) hl2
theorem sx_cst {u j n : Nat} {i x : Int} (hd : decode y.2.1 pc = .ok (.castore, 1)) (hq : (u, j) ∈ am_cs) (h0 : am_kd u j = 2) (hn : am_len u j = n) (hn9 : n ≤ 1000000) (hi0 : 0 ≤ i) (hi9 : i < n) (hx0 : 0 ≤ x) (hx9 : x ≤ 65535) (kk : Sx d y h1 r (pc + 1) ls st (am_U h u (am_u2 (h.1 u) j i.toNat x))) : Sx d y h1 r pc ls (.inl x :: .inl i :: .inr (u, j) :: st) h := by
  subst hn
  intro p l e s m args below meth c D K ad H locs lsr hS hV hP hH hl2
  obtain ⟨hx, hb, hml, hr, hlk, hown, hts, hK, hN, hA⟩ := id hS
  have he := am_ws_at (K := K) (ad := ad) (h := h) hq
  rw [am_cell2 h0] at he
  obtain ⟨q1, q2⟩ := am_idx hi0 hi9 hn9
  refine va_cast hx hb hK hP (am_D hA) hV (am_ix u j) 1 he rfl q1 hd (fun H1 locs1 hP1 hD1 hS1 => ?_)
  have hnar : vp_nar .char (Int32.ofInt x) = Int32.ofInt x := am_i2c hx0 hx9
  rw [hnar, q2, am_upd, am_ws_set (q := (u, j)) (h' := am_U h u (am_u2 (h.1 u) j i.toNat x)) hq (by rw [am_cell2 h0]; simp only [am_U_at, am_u2_at]) am_u2_cell] at hP1
  exact kk p l e s m args below meth c D K ad H1 locs1 lsr hS hS1 hP1 (am_VH_u2 hH ⟨by omega, by omega⟩) hl2
end SH
