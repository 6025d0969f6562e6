/-! ===== division of what is not negative ===== -/
theorem am_div {x z : Int} (hx : 0 ≤ x ∧ x ≤ 2147483647) (hz : 0 < z ∧ z ≤ 2147483647) : Int32.ofInt x / Int32.ofInt z = Int32.ofInt (x / z) := by
  have hxR : am_R x := ⟨by omega, by omega⟩
  have hzR : am_R z := ⟨by omega, by omega⟩
  have hq0 : 0 ≤ x / z := Int.ediv_nonneg hx.1 (by omega)
  have hq1 : x / z ≤ x := Int.ediv_le_self z hx.1
  have hqR : am_R (x / z) := ⟨by omega, by omega⟩
  apply Int32.toInt_inj.mp
  rw [am_toInt hqR, Int32.toInt_div_of_ne_right _ _ (fun q => ?_), am_toInt hxR, am_toInt hzR, Int.tdiv_eq_ediv_of_nonneg hx.1]
  have := congrArg Int32.toInt q
  rw [am_toInt hzR] at this
  have e : (-1 : Int32).toInt = -1 := rfl
  omega
section SDV
variable {d : Nat} {y : am_Y} {h1 : am_H} {r : Option am_V} {pc : Nat} {ls : List (Option am_V)} {st : List am_V} {h : am_H}
theorem sx_idiv {x z : Int} (hd : decode y.2.1 pc = .ok (.idiv, 1)) (hx9 : 0 ≤ x ∧ x ≤ 2147483647) (hz9 : 0 < z ∧ z ≤ 2147483647) (k : Sx d y h1 r (pc + 1) ls (.inl (x / z) :: st) h) : Sx d y h1 r pc ls (.inl z :: .inl x :: st) h := by
  intro p l e s m args below meth c D K ad H locs lsr hS hV hP hH hl
  obtain ⟨hx, hb, hml, hr, hlk, hown, hts, hK, hN, hA⟩ := id hS
  have zz := k p l e s m args below meth c D K ad H locs lsr hS hV hP hH hl
  simp only [List.map_cons, am_cv, ← am_div hx9 hz9] at zz
  refine lv_idiv hx hb hd (fun q => ?_) zz
  have := congrArg Int32.toInt q
  rw [am_toInt ⟨by omega, by omega⟩] at this
  have e0 : (0 : Int32).toInt = 0 := rfl
  omega
theorem sx_irem {x z : Int} (hd : decode y.2.1 pc = .ok (.irem, 1)) (hx9 : 0 ≤ x ∧ x ≤ 2147483647) (hz9 : 0 < z ∧ z ≤ 2147483647) (k : Sx d y h1 r (pc + 1) ls (.inl (x % z) :: st) h) : Sx d y h1 r pc ls (.inl z :: .inl x :: st) h := by
  intro p l e s m args below meth c D K ad H locs lsr hS hV hP hH hl
  obtain ⟨hx, hb, hml, hr, hlk, hown, hts, hK, hN, hA⟩ := id hS
  have zz := k p l e s m args below meth c D K ad H locs lsr hS hV hP hH hl
  have e1 : Int32.ofInt (x % z) = Int32.ofInt x - Int32.ofInt x / Int32.ofInt z * Int32.ofInt z := by
    rw [am_div hx9 hz9, ← Int32.ofInt_mul, ← Int32.ofInt_sub, Int.emod_def, Int.mul_comm z]
  simp only [List.map_cons, am_cv, e1] at zz
  refine lv_irem hx hb hd (fun q => ?_) zz
  have := congrArg Int32.toInt q
  rw [am_toInt ⟨by omega, by omega⟩] at this
  have e0 : (0 : Int32).toInt = 0 := rfl
  omega
end SDV
/-! ===== the law's view of the heap ===== -/
def PH (h : am_H) (S : Nat → Int) (n : Int) : Prop := AG h ∧ IW (gP h) S n
theorem PH_CX {h : am_H} {S : Nat → Int} {n : Int} (hP : PH h S n) : CX (gP h) S := hP.2.1.1.1.1
theorem PH_CZ {h : am_H} {S : Nat → Int} {n : Int} (hP : PH h S n) : CZ (gP h) S n := hP.2.1.1
theorem PH_WM {h : am_H} {S : Nat → Int} {n : Int} (hP : PH h S n) : WM (gP h) := (PH_CX hP).1.1.1
theorem PH_YS {h : am_H} {S : Nat → Int} {n : Int} (hP : PH h S n) (hn : n ≤ 800000000) : YS (gP h) ∧ ∀ a, YS (ydie (gP h) a).2 := ⟨YS_of (PH_CZ hP) (by omega), fun a => YS_of (CZ_kills (PH_CZ hP) a) (by omega)⟩
theorem IW_mono {M : am_M} {S : Nat → Int} {m n : Int} (h : IW M S m) (hn : m ≤ n) : IW M S n := ⟨CW_mono h.1 hn, h.2⟩
theorem PH_mono {h : am_H} {S : Nat → Int} {m n : Int} (hP : PH h S m) (hn : m ≤ n) : PH h S n := ⟨hP.1, IW_mono hP.2 hn⟩
theorem PH_tr {h : am_H} {S : Nat → Int} {n : Int} (hP : PH h S n) (Z : am_M) : PH (am_U h (h.2 1) Z) S n := by
  refine ⟨AG_U hP.1 (hP.1.2.2 1), ?_⟩
  have : gP (am_U h (h.2 1) Z) = gP h := gZ_p hP.1
  rw [this]
  exact hP.2
theorem gP_no {h : am_H} (hG : AG h) {M' : am_M} {a : Int} (ha : a < 0) : gP (gset (am_U h (h.2 1) M') a) = gP h := by
  unfold gset
  rw [if_pos ha]
  exact gZ_p hG
theorem gs_1 {h : am_H} (hG : AG h) (M' : am_M) : gP (gst (am_U h (h.2 1) M')) = M' ∧ (gst (am_U h (h.2 1) M')).1 ((gr1 (am_U h (h.2 1) M')).2 (2 + ((gr1 (am_U h (h.2 1) M')).1 6 0 4).toNat)) = gP h ∧ (gst (am_U h (h.2 1) M')).1 6 0 4 = (gr1 (am_U h (h.2 1) M')).1 6 0 4 + 1 := by
  have hGH : AG (am_U h (h.2 1) M') := AG_U hG (hG.2.2 1)
  have h6 : (6 : Nat) ≠ h.2 1 := by have := hG.2.2 1; omega
  generalize hH : am_U h (h.2 1) M' = H at *
  have H2 : H.2 = h.2 := by rw [← hH]; rfl
  have Hu : ∀ u, u ≠ h.2 1 → H.1 u = h.1 u := fun u hu => by rw [← hH]; exact am_U_ne _ _ hu
  have Ht : H.1 (h.2 1) = M' := by rw [← hH]; exact am_U_at _ _ _
  have s4 := gr1_4 hGH
  have inj := gr1_inj hGH
  have Gu : ∀ u, u ≠ 6 → u ≠ (gr1 H).2 (2 + ((gr1 H).1 6 0 4).toNat) → (gst H).1 u = H.1 u := fun u a b => by
    show (am_U (gr2 H) 6 _).1 u = _
    rw [am_U_ne _ _ a]
    show (am_U (gr1 H) _ _).1 u = _
    rw [am_U_ne _ _ b]
    exact gr1_1 a
  have e1 : (gst H).2 0 = h.2 1 := by
    rw [gst_2, if_neg (by decide), if_pos rfl, gr1_lo H (by decide), H2]
  refine ⟨?_, ?_, ?_⟩
  · unfold gP
    rw [e1, Gu _ (Ne.symm h6) (fun q => ?_), Ht]
    have e2 : (gr1 H).2 1 = h.2 1 := by rw [gr1_lo H (by decide), H2]
    rw [← e2] at q
    have := inj 1 _ (by decide) (by omega) q
    omega
  · have l := gr1_6 hGH (2 + ((gr1 H).1 6 0 4).toNat)
    show (am_U (gr2 H) 6 _).1 _ = _
    rw [am_U_ne _ _ (by omega)]
    show (am_U (gr1 H) _ _).1 _ = _
    rw [am_U_at, gr1_1 (by have := hGH.2.2 0; omega), H2]
    exact Hu _ (fun q => absurd (hG.1 0 1 (by decide) (by decide) q) (by decide))
  · show (am_U (gr2 H) 6 (am_u2 ((gr1 H).1 6) 0 4 ((gr1 H).1 6 0 4 + 1))).1 6 0 4 = _
    rw [am_U_at, am_u2_hit]
theorem gP_set {h : am_H} (hG : AG h) {M' : am_M} {a : Int} (ha : 0 ≤ a) : gP (gset (am_U h (h.2 1) M') a) = M' := by
  unfold gset
  rw [if_neg (by omega)]
  exact (gs_1 hG M').1
theorem AG_set {h : am_H} (hG : AG h) (M' : am_M) (a : Int) : AG (gset (am_U h (h.2 1) M') a) := by
  unfold gset
  split
  · exact AG_U hG (hG.2.2 1)
  · exact AG_gst (AG_U hG (hG.2.2 1))
theorem PH_set {h : am_H} {M' : am_M} {S' : Nat → Int} {n' a : Int} (hG : AG h) (hC : IW M' S' n') (ha : 0 ≤ a) : PH (gset (am_U h (h.2 1) M') a) S' n' := by
  refine ⟨AG_set hG M' a, ?_⟩
  rw [gP_set hG ha]
  exact hC
theorem PH_no {h : am_H} {S : Nat → Int} {M' : am_M} {n a : Int} (hP : PH h S n) (ha : a < 0) : PH (gset (am_U h (h.2 1) M') a) S n := by
  refine ⟨AG_set hP.1 M' a, ?_⟩
  rw [gP_no hP.1 ha]
  exact hP.2
/-- a change undone -/
theorem PH_undo {h : am_H} {S : Nat → Int} {n a : Int} (hP : PH h S n) (M' : am_M) (ha : 0 ≤ a) : PH (gund (gset (am_U h (h.2 1) M') a)) S n ∧ 0 ≤ gunR (gset (am_U h (h.2 1) M') a) ∧ gP (gund (gset (am_U h (h.2 1) M') a)) = gP h := by
  have hG := hP.1
  have hGH : AG (am_U h (h.2 1) M') := AG_U hG (hG.2.2 1)
  have hGS := AG_set hG M' a
  obtain ⟨g1, g2, g3⟩ := gs_1 hG M'
  have s4 := gr1_4 hGH
  have eg : gset (am_U h (h.2 1) M') a = gst (am_U h (h.2 1) M') := by unfold gset; rw [if_neg (by omega)]
  rw [eg] at hGS ⊢
  have e2 : (gst (am_U h (h.2 1) M')).2 (2 + ((gst (am_U h (h.2 1) M')).1 6 0 4 - 1).toNat) = (gr1 (am_U h (h.2 1) M')).2 (2 + ((gr1 (am_U h (h.2 1) M')).1 6 0 4).toNat) := by
    rw [g3, Int.add_sub_cancel, gst_2, if_neg (by omega), if_neg (by omega)]
  generalize gst (am_U h (h.2 1) M') = G at *
  have pos : 0 < G.1 6 0 4 := by omega
  have e0 : gund G = am_U (gun1 G) (G.2 0) (G.1 (G.2 (2 + (G.1 6 0 4 - 1).toNat))) := by unfold gund; rw [if_pos pos]
  have eP : gP (gund G) = gP h := by
    rw [e0]
    unfold gP
    show (am_U (gun1 G) (G.2 0) _).1 (G.2 0) = _
    rw [am_U_at, e2]
    exact g2
  refine ⟨⟨?_, by rw [eP]; exact hP.2⟩, ?_, eP⟩
  · rw [e0]
    refine ⟨hGS.1, ?_, hGS.2.2⟩
    have l := hGS.2.2 0
    have h4 := hGS.2.1
    rw [am_U_ne _ _ (show 6 ≠ G.2 0 by omega)]
    unfold gun1
    rw [am_U_at, am_u2_hit]
    omega
  · unfold gunR
    rw [if_pos pos]
    omega
/-! ===== the law's calls ===== -/
section PQ
variable {h : am_H} {S : Nat → Int} {n : Int}
theorem pq_chipOf (hP : PH h S n) (c k : Int) (hc : am_R c) (hk : am_R k) : Ct 2 Y2_chipOf [.inr (6, 0), .inl c, .inl k] (some (.inl (gchip (gP h) c k))) h h := by
  have e := tg_chipOf hP.1 (Z := h.1 (h.2 1)) c k (PH_WM hP) hc hk
  rwa [am_U_id] at e
theorem pq_rowOf (hP : PH h S n) (c r : Int) (hc : am_R c) (hr : am_R r) : Ct 2 Y2_rowOf [.inr (6, 0), .inl c, .inl r] (some (.inl (grow (gP h) c r))) h h := by
  have e := tg_rowOf hP.1 (Z := h.1 (h.2 1)) c r (PH_WM hP) hc hr
  rwa [am_U_id] at e
theorem pq_read (hP : PH h S n) (w : Int) (hw : am_R w) : Ct 2 Y2_read [.inr (6, 0), .inl w] (some (.inl (gread (gP h) w))) h h := by
  have e := tg_read hP.1 (Z := h.1 (h.2 1)) w (PH_WM hP) hw
  rwa [am_U_id] at e
theorem pq_wordOf (hP : PH h S n) (w k : Int) (hw : am_R w) (hk : am_R k) : Ct 2 Y2_wordOf [.inr (6, 0), .inl w, .inl k] (some (.inl (gword (gP h) w k))) h h := by
  have e := tg_wordOf hP.1 (Z := h.1 (h.2 1)) w k (PH_WM hP) hw hk
  rwa [am_U_id] at e
theorem pq_familyOf (hP : PH h S n) (f k : Int) (hf : am_R f) (hk : am_R k) : Ct 2 Y2_familyOf [.inr (6, 0), .inl f, .inl k] (some (.inl (gfam (gP h) f k))) h h := by
  have e := tg_familyOf hP.1 (Z := h.1 (h.2 1)) f k (PH_WM hP) hf hk
  rwa [am_U_id] at e
theorem pq_count (hP : PH h S n) (k : Int) (hk : am_R k) : Ct 2 Y2_count [.inr (6, 0), .inl k] (some (.inl (gcnt (gP h) (h.1 6 0 4) (h.1 6 2 1) k))) h h := by
  have e := tg_count hP.1 (Z := h.1 (h.2 1)) k (PH_WM hP) hk
  rwa [am_U_id] at e
theorem pc_chip (hP : PH h S n) (hn : n ≤ 800000000) (f s : Int) (hf : am_R f) (hs : am_R s) : Ct 4 Y2_chip [.inr (6, 0), .inl f, .inl s] (some (.inl (yadR (gP h) f s))) h (gset (am_U h (h.2 1) (yadM (gP h) f s)) (yadR (gP h) f s)) := by
  have e := tg_chip hP.1 (Z := h.1 (h.2 1)) f s (PH_WM hP) hf hs
  rwa [am_U_id] at e
theorem pc_elect (hP : PH h S n) (hn : n ≤ 800000000) (c : Int) (hc : am_R c) : Ct 4 Y2_elect [.inr (6, 0), .inl c] (some (.inl ((yelect (gP h) c).1))) h (gset (am_U h (h.2 1) ((yelect (gP h) c).2)) ((yelect (gP h) c).1)) := by
  have e := tg_elect hP.1 (Z := h.1 (h.2 1)) c (PH_WM hP) hc
  rwa [am_U_id] at e
theorem pc_kill (hP : PH h S n) (hn : n ≤ 800000000) (c : Int) (hc : am_R c) : Ct 4 Y2_kill [.inr (6, 0), .inl c] (some (.inl ((ydie (gP h) c).1))) h (gset (am_U h (h.2 1) ((ydie (gP h) c).2)) ((ydie (gP h) c).1)) := by
  have e := tg_kill hP.1 (Z := h.1 (h.2 1)) c (PH_WM hP) hc (PH_YS hP hn).1
  rwa [am_U_id] at e
theorem pc_breaks (hP : PH h S n) (hn : n ≤ 800000000) (c r : Int) (hc : am_R c) (hr : am_R r) : Ct 4 Y2_breaks [.inr (6, 0), .inl c, .inl r] (some (.inl ((ybreak (gP h) c r).1))) h (gset (am_U h (h.2 1) ((ybreak (gP h) c r).2)) ((ybreak (gP h) c r).1)) := by
  have e := tg_breaks hP.1 (Z := h.1 (h.2 1)) c r (PH_WM hP) hc hr (PH_YS hP hn).1
  rwa [am_U_id] at e
theorem pc_put (hP : PH h S n) (hn : n ≤ 800000000) (c v : Int) (hc : am_R c) (hv : am_R v) : Ct 4 Y2_put [.inr (6, 0), .inl c, .inl v] (some (.inl ((yput (gP h) c v).1))) h (gset (am_U h (h.2 1) ((yput (gP h) c v).2)) ((yput (gP h) c v).1)) := by
  have e := tg_put hP.1 (Z := h.1 (h.2 1)) c v (PH_WM hP) hc hv
  rwa [am_U_id] at e
theorem pc_write (hP : PH h S n) (hn : n ≤ 800000000) (w v : Int) (hw : am_R w) (hv : am_R v) : Ct 4 Y2_write [.inr (6, 0), .inl w, .inl v] (some (.inl ((ywrite (gP h) w v).1))) h (gset (am_U h (h.2 1) ((ywrite (gP h) w v).2)) ((ywrite (gP h) w v).1)) := by
  have e := tg_write hP.1 (Z := h.1 (h.2 1)) w v (PH_WM hP) hw hv
  rwa [am_U_id] at e
theorem pc_carry (hP : PH h S n) (hn : n ≤ 800000000) (w c : Int) (hw : am_R w) (hc : am_R c) : Ct 4 Y2_carry [.inr (6, 0), .inl w, .inl c] (some (.inl ((ycarry (gP h) w c).1))) h (gset (am_U h (h.2 1) ((ycarry (gP h) w c).2)) ((ycarry (gP h) w c).1)) := by
  have e := tg_carry hP.1 (Z := h.1 (h.2 1)) w c (PH_WM hP) hw hc (PH_YS hP hn).1
  rwa [am_U_id] at e
theorem pc_empty (hP : PH h S n) (hn : n ≤ 800000000) (c : Int) (hc : am_R c) : Ct 4 Y2_empty [.inr (6, 0), .inl c] (some (.inl ((yempty (gP h) c).1))) h (gset (am_U h (h.2 1) ((yempty (gP h) c).2)) ((yempty (gP h) c).1)) := by
  have e := tg_empty hP.1 (Z := h.1 (h.2 1)) c (PH_WM hP) hc (PH_YS hP hn).1
  rwa [am_U_id] at e
theorem pc_tick (hP : PH h S n) (hn : n ≤ 800000000) (t : Int) (ht : am_R t) : Ct 4 Y2_tick [.inr (6, 0), .inl t] (some (.inl ((ytick (gP h) t).1))) h (gset (am_U h (h.2 1) ((ytick (gP h) t).2)) ((ytick (gP h) t).1)) := by
  have e := tg_tick hP.1 (Z := h.1 (h.2 1)) t (PH_WM hP) ht (PH_YS hP hn).1
  rwa [am_U_id] at e
theorem pt_loss (hP : PH h S n) (hn : n ≤ 800000000) (a b : Int) (ha : am_R a) (hb : am_R b) : Ct 5 Y2_loss [.inr (6, 0), .inl a, .inl b] (some (.inl (gloR (gP h) a b))) h (am_U h (h.2 1) (gloM (gP h) (h.1 (h.2 1)) a b)) := by
  have e := tg_loss hP.1 (Z := h.1 (h.2 1)) a b ha hb (PH_YS hP hn).1 (PH_YS hP hn).2
  rwa [am_U_id] at e
theorem pt_safe (hP : PH h S n) (hn : n ≤ 800000000) : Ct 5 Y2_safe [.inr (6, 0)] (some (.inl (gsf (gP h) (h.1 (h.2 1)) (gP h 0 0).toNat).1)) h (am_U h (h.2 1) (gsf (gP h) (h.1 (h.2 1)) (gP h 0 0).toNat).2) := by
  have e := tg_safe hP.1 (Z := h.1 (h.2 1)) (PH_WM hP) (PH_YS hP hn).1 (PH_YS hP hn).2
  rwa [am_U_id] at e
end PQ
