/-! ===== each call of the law's, on both: the same answer, linked behind it ===== -/
/-- both are called so: one answer, and both stay linked -/
def SP (d2 d3 : Nat) (y2 y3 : am_Y) (as : List am_V) (h : am_H) (n : Int) : Prop := ∃ (a : Int) (h1 h2 : am_H), Ct d2 y2 (.inr (6, 0) :: as) (some (.inl a)) h h1 ∧ Ct d3 y3 (.inr (7, 0) :: as) (some (.inl a)) h1 h2 ∧ RH h2 (n + 24000)
section SPS
variable {h : am_H} {n : Int}
/-- the reference's contract, over what the class left -/
theorem sp_of {d2 d3 : Nat} {y2 y3 : am_Y} {as : List am_V} {a : Int} {h1 : am_H} {X X' : am_M} {S S' : Nat → Int} (c2 : Ct d2 y2 (.inr (6, 0) :: as) (some (.inl a)) h h1) (hX : h1.1 7 = X) (hS : X 1 = S) (c3 : Ct d3 y3 (.inr (7, 0) :: as) (some (.inl a)) (xh h1 X S) (xh h1 X' S')) (hR : RR h1 X' S' (n + 24000)) : SP d2 d3 y2 y3 as h n := by
  subst hX
  subst hS
  rw [xh_eta] at c3
  exact ⟨a, h1, _, c2, c3, RH_xh hR⟩
theorem sp_chip (hR : RH h n) (hn : n ≤ 300000000) (f sp : Int) (hf : am_R f) (hsp : am_R sp) : SP 4 1 Y2_chip Y3_chip [.inl f, .inl sp] h n := by
  have hG := hR.1
  have hW := hR.2.2.2.1
  have hx := hW.1.1.1
  have hst := RR_st hR
  have e1 := (CX_chip hx f sp).1
  have c2 := tg_chip (h0 := h) (Z := h.1 (h.2 1)) hG f sp hx.1.1.1 hf hsp
  rw [am_U_id, e1] at c2
  have hG1 : AG (am_U h (h.2 1) (yadM (gP h) f sp)) := AG_U hG (hG.2.2 1)
  refine sp_of c2 ((gset_7 hG1 _).trans (tr_7 hG _)) rfl (tx_chip (X := h.1 7) (S := h.1 7 1) f sp hx.1.1.2 hf hsp hst) ?_
  have hC : CW (yadM (gP h) f sp) (xchipS (h.1 7 1) f sp) (n + 24000) := ⟨CZ_mono (CZ_chip hW.1 f sp) (by omega), VX_chip hx.1.1.2 hW.2 f sp⟩
  refine RR_alt hR (by omega) ?_
  have h0 := hx.1.1.2.1
  revert hC
  unfold xchipR xchipX xchipS
  (repeat' split) <;> intro hC <;> first | (refine Or.inl ⟨?_, rfl, rfl⟩; decide) | exact Or.inr ⟨h0.1, rfl, hC⟩
theorem sp_elect (hR : RH h n) (hn : n ≤ 300000000) (c : Int) (hc : am_R c) : SP 4 5 Y2_elect Y3_elect [.inl c] h n := by
  have hG := hR.1
  have hW := hR.2.2.2.1
  have hx := hW.1.1.1
  have hst := RR_st hR
  have e1 := (CX_elects hx c).1
  have c2 := tg_elect (h0 := h) (Z := h.1 (h.2 1)) hG c hx.1.1.1 hc
  rw [am_U_id, e1] at c2
  have hG1 : AG (am_U h (h.2 1) (yelect (gP h) c).2) := AG_U hG (hG.2.2 1)
  refine sp_of c2 ((gset_7 hG1 _).trans (tr_7 hG _)) rfl (tx_elect (X := h.1 7) (S := h.1 7 1) c hx.1.1.2 hc hst hW.1.2.1 (by omega)) ?_
  exact RR_act hR (fun q => xelects_no _ _ q) (fun _ => ⟨CZ_mono (CZ_elects hW.1 c) (by omega), VX_elects hx.1.1.2 hW.2 c⟩) (by omega) (XE_3 _ _) (am_u3_at _ _ _)
theorem sp_kill (hR : RH h n) (hn : n ≤ 300000000) (c : Int) (hc : am_R c) : SP 4 5 Y2_kill Y3_kill [.inl c] h n := by
  have hG := hR.1
  have hW := hR.2.2.2.1
  have hx := hW.1.1.1
  have hst := RR_st hR
  have e1 := (CX_kills hx c).1
  have c2 := tg_kill (h0 := h) (Z := h.1 (h.2 1)) hG c hx.1.1.1 hc (YS_of hW.1 (by omega))
  rw [am_U_id, e1] at c2
  have hG1 : AG (am_U h (h.2 1) (ydie (gP h) c).2) := AG_U hG (hG.2.2 1)
  refine sp_of c2 ((gset_7 hG1 _).trans (tr_7 hG _)) rfl (tx_kill (X := h.1 7) (S := h.1 7 1) c hx.1.1.2 hc hst hW.1.2.1 (by omega)) ?_
  exact RR_act hR (fun q => xkills_no hx _ q) (fun _ => ⟨CZ_mono (CZ_kills hW.1 c) (by omega), VX_kills hx.1.1.2 hW.2 c⟩) (by omega) (XE_3 _ _) (am_u3_at _ _ _)
theorem sp_breaks (hR : RH h n) (hn : n ≤ 300000000) (c r : Int) (hc : am_R c) (hr : am_R r) : SP 4 5 Y2_breaks Y3_breaks [.inl c, .inl r] h n := by
  have hG := hR.1
  have hW := hR.2.2.2.1
  have hx := hW.1.1.1
  have hst := RR_st hR
  have e1 := (CX_breaks hx hW.1.1.2 c r).1
  have c2 := tg_breaks (h0 := h) (Z := h.1 (h.2 1)) hG c r hx.1.1.1 hc hr (YS_of hW.1 (by omega))
  rw [am_U_id, e1] at c2
  have hG1 : AG (am_U h (h.2 1) (ybreak (gP h) c r).2) := AG_U hG (hG.2.2 1)
  refine sp_of c2 ((gset_7 hG1 _).trans (tr_7 hG _)) rfl (tx_breaks (X := h.1 7) (S := h.1 7 1) c r hx.1.1.2 hc hr hst hW.1.2.1 (by omega)) ?_
  exact RR_act hR (fun q => xbreaks_no hx hW.1.1.2 _ _ q) (fun _ => ⟨CZ_mono (CZ_breaks hW.1 c r) (by omega), VX_breaks hx.1.1.2 hW.2 c r⟩) (by omega) (XE_3 _ _) (am_u3_at _ _ _)
theorem sp_put (hR : RH h n) (hn : n ≤ 300000000) (c v : Int) (hc : am_R c) (hv : am_R v) : SP 4 6 Y2_put Y3_put [.inl c, .inl v] h n := by
  have hG := hR.1
  have hW := hR.2.2.2.1
  have hx := hW.1.1.1
  have hst := RR_st hR
  have e1 := (CX_puts hx c v).1
  have c2 := tg_put (h0 := h) (Z := h.1 (h.2 1)) hG c v hx.1.1.1 hc hv
  rw [am_U_id, e1] at c2
  have hG1 : AG (am_U h (h.2 1) (yput (gP h) c v).2) := AG_U hG (hG.2.2 1)
  refine sp_of c2 ((gset_7 hG1 _).trans (tr_7 hG _)) rfl (tx_put (X := h.1 7) (S := h.1 7 1) c v hx.1.1.2 hc hv hst hW.1.2.1 (by omega)) ?_
  exact RR_act hR (fun q => xputs_no hx.1.1.2 _ _ q) (fun _ => ⟨CZ_mono (CZ_puts hW.1 c v) (by omega), VX_puts hx.1.1.2 hW.2 c v⟩) (by omega) (XE_3 _ _) (am_u3_at _ _ _)
theorem sp_write (hR : RH h n) (hn : n ≤ 300000000) (w v : Int) (hw : am_R w) (hv : am_R v) : SP 4 2 Y2_write Y3_write [.inl w, .inl v] h n := by
  have hG := hR.1
  have hW := hR.2.2.2.1
  have hx := hW.1.1.1
  have hst := RR_st hR
  have e1 := (CX_write hx w v).1
  have c2 := tg_write (h0 := h) (Z := h.1 (h.2 1)) hG w v hx.1.1.1 hw hv
  rw [am_U_id, e1] at c2
  have hG1 : AG (am_U h (h.2 1) (ywrite (gP h) w v).2) := AG_U hG (hG.2.2 1)
  refine sp_of c2 ((gset_7 hG1 _).trans (tr_7 hG _)) rfl (tx_write (X := h.1 7) (S := h.1 7 1) w v hx.1.1.2 hw hv hst) ?_
  have hC : CW (ywrite (gP h) w v).2 (xwriteS (h.1 7 1) w v) (n + 24000) := ⟨CZ_mono (CZ_write hW.1 w v) (by omega), VX_write hW.2 w v⟩
  refine RR_alt hR (by omega) ?_
  have h24 := hx.1.1.2.2.1
  revert hC
  unfold xwriteR xwriteX xwriteS
  by_cases q : 0 ≤ w ∧ w ≤ h.1 7 1 1 - 1
  · have hv0 := hW.2 w q.1 (by omega)
    rw [if_pos q, if_pos q, if_pos q]
    (repeat' split) <;> intro hC <;> first | (refine Or.inl ⟨?_, rfl, rfl⟩; decide) | exact Or.inr ⟨hv0.1, rfl, hC⟩
  · rw [if_neg q, if_neg q, if_neg q]
    exact fun _ => Or.inl ⟨by decide, rfl, rfl⟩
theorem sp_carry (hR : RH h n) (hn : n ≤ 300000000) (w c : Int) (hw : am_R w) (hc : am_R c) : SP 4 6 Y2_carry Y3_carry [.inl w, .inl c] h n := by
  have hG := hR.1
  have hW := hR.2.2.2.1
  have hx := hW.1.1.1
  have hst := RR_st hR
  have e1 := (CX_carry hx w c).1
  have c2 := tg_carry (h0 := h) (Z := h.1 (h.2 1)) hG w c hx.1.1.1 hw hc (YS_of hW.1 (by omega))
  rw [am_U_id, e1] at c2
  have hG1 : AG (am_U h (h.2 1) (ycarry (gP h) w c).2) := AG_U hG (hG.2.2 1)
  refine sp_of c2 ((gset_7 hG1 _).trans (tr_7 hG _)) rfl (tx_carry (X := h.1 7) (S := h.1 7 1) w c hx.1.1.2 hw hc hst) ?_
  have hC : CW (ycarry (gP h) w c).2 (xcarS (h.1 7 1) w c) (n + 24000) := ⟨CZ_mono (CZ_carry hW.1 w c) (by omega), VX_carry hW.2 w c⟩
  refine RR_alt hR (by omega) ?_
  have hl := xlow_0 (h.1 7 1) c
  revert hC
  unfold xcarR xcarX xcarS
  (repeat' split) <;> intro hC <;> first | (refine Or.inl ⟨?_, rfl, rfl⟩; decide) | exact Or.inr ⟨hl.1, rfl, hC⟩
theorem sp_empty (hR : RH h n) (hn : n ≤ 300000000) (c : Int) (hc : am_R c) : SP 4 7 Y2_empty Y3_empty [.inl c] h n := by
  have hG := hR.1
  have hW := hR.2.2.2.1
  have hx := hW.1.1.1
  have hst := RR_st hR
  have e1 := (CX_empt hx c).1
  have c2 := tg_empty (h0 := h) (Z := h.1 (h.2 1)) hG c hx.1.1.1 hc (YS_of hW.1 (by omega))
  have hC := (CZ_empt hW.1 c).1
  rw [am_U_id, e1] at c2
  rw [e1] at hC
  have hG1 : AG (am_U h (h.2 1) (yempty (gP h) c).2) := AG_U hG (hG.2.2 1)
  refine sp_of c2 ((gset_7 hG1 _).trans (tr_7 hG _)) rfl (tx_empty (X := h.1 7) (S := h.1 7 1) c hx.1.1.2 hc hst hW.1.2.1 (by omega)) ?_
  refine RR_act hR (fun q => xempt_no _ _ q) (fun q => ⟨CZ_mono (hC q) (by omega), VX_empt hx.1.1.2 hW.2 c⟩) (by omega) (XE_t (XE_em _ _ _) (XE_3 _ _)) ?_
  have e : ∀ (X : am_M) (S : Nat → Int), xemX X S c 3 = X 3 := fun X S => xemX_rd (by decide)
  rw [e, am_u3_at]
theorem sp_tick (hR : RH h n) (hn : n ≤ 300000000) (t : Int) (ht : am_R t) : SP 4 9 Y2_tick Y3_tick [.inl t] h n := by
  have hG := hR.1
  have hW := hR.2.2.2.1
  have hx := hW.1.1.1
  have hst := RR_st hR
  have e1 := (CX_ticks hx hW.1.2.1 hW.1.2.2 (by omega) t).1
  have c2 := tg_tick (h0 := h) (Z := h.1 (h.2 1)) hG t hx.1.1.1 ht (YS_of hW.1 (by omega))
  rw [am_U_id, e1] at c2
  have hG1 : AG (am_U h (h.2 1) (ytick (gP h) t).2) := AG_U hG (hG.2.2 1)
  refine sp_of c2 ((gset_7 hG1 _).trans (tr_7 hG _)) rfl (tx_tick (X := h.1 7) (S := h.1 7 1) t hx.1.1.2 ht hst hW.1.2.1 (by omega)) ?_
  exact RR_act hR (fun q => xticks_no _ _ q) (fun _ => ⟨CZ_mono (CZ_ticks hW.1 (by omega) t) (by omega), VX_ticks hx.1.1.2 hW.2 t⟩) (by omega) (XE_3 _ _) (am_u3_at _ _ _)
/-- calls that change nothing in either -/
theorem sp_ask {d2 d3 : Nat} {y2 y3 : am_Y} {as : List am_V} {a : Int} (hR : RH h n) (c2 : Ct d2 y2 (.inr (6, 0) :: as) (some (.inl a)) (am_U h (h.2 1) (h.1 (h.2 1))) (am_U h (h.2 1) (h.1 (h.2 1)))) (c3 : Ct d3 y3 (.inr (7, 0) :: as) (some (.inl a)) (xh h (h.1 7) (h.1 7 1)) (xh h (h.1 7) (h.1 7 1))) : SP d2 d3 y2 y3 as h n := by
  rw [am_U_id] at c2
  rw [xh_eta] at c3
  exact ⟨a, h, h, c2, c3, RR_mono hR (by omega)⟩
theorem sp_chipOf (hR : RH h n) (c k : Int) (hc : am_R c) (hk : am_R k) : SP 2 5 Y2_chipOf Y3_chipOf [.inl c, .inl k] h n := by
  have hx := hR.2.2.2.1.1.1.1
  have c2 := tg_chipOf (Z := h.1 (h.2 1)) hR.1 c k hx.1.1.1 hc hk
  rw [CL_gchip hx.1] at c2
  exact sp_ask hR c2 (tx_chipOf c k hx.1.1.2 hc hk)
theorem sp_rowOf (hR : RH h n) (c k : Int) (hc : am_R c) (hk : am_R k) : SP 2 4 Y2_rowOf Y3_rowOf [.inl c, .inl k] h n := by
  have hx := hR.2.2.2.1.1.1.1
  have c2 := tg_rowOf (Z := h.1 (h.2 1)) hR.1 c k hx.1.1.1 hc hk
  rw [CL_grow hx.1] at c2
  exact sp_ask hR c2 (tx_rowOf c k hx.1.1.2 hc hk)
theorem sp_read (hR : RH h n) (w : Int) (hw : am_R w) : SP 2 2 Y2_read Y3_read [.inl w] h n := by
  have hx := hR.2.2.2.1.1.1.1
  have c2 := tg_read (Z := h.1 (h.2 1)) hR.1 w hx.1.1.1 hw
  rw [CL_gread hx.1] at c2
  exact sp_ask hR c2 (tx_read w hx.1.1.2 hw)
theorem sp_wordOf (hR : RH h n) (w k : Int) (hw : am_R w) (hk : am_R k) : SP 2 2 Y2_wordOf Y3_wordOf [.inl w, .inl k] h n := by
  have hx := hR.2.2.2.1.1.1.1
  have c2 := tg_wordOf (Z := h.1 (h.2 1)) hR.1 w k hx.1.1.1 hw hk
  rw [CL_gword hx.1] at c2
  exact sp_ask hR c2 (tx_wordOf w k hx.1.1.2 hw hk)
theorem sp_familyOf (hR : RH h n) (f k : Int) (hf : am_R f) (hk : am_R k) : SP 2 4 Y2_familyOf Y3_familyOf [.inl f, .inl k] h n := by
  have hx := hR.2.2.2.1.1.1.1
  have c2 := tg_familyOf (Z := h.1 (h.2 1)) hR.1 f k hx.1.1.1 hf hk
  rw [CL_gfam hx.1] at c2
  exact sp_ask hR c2 (tx_familyOf f k hx.1.1.2 hf hk)
theorem sp_count (hR : RH h n) (k : Int) (hk : am_R k) : SP 2 5 Y2_count Y3_count [.inl k] h n := by
  have hx := hR.2.2.2.1.1.1.1
  have c2 := tg_count (Z := h.1 (h.2 1)) hR.1 k hx.1.1.1 hk
  rw [hR.2.2.1, hR.2.1.1, CL_gcnt hx.1] at c2
  exact sp_ask hR c2 (tx_count k hx.1.1.2 hk)
/-- calls that leave another trial -/
theorem sp_try {d2 d3 : Nat} {y2 y3 : am_Y} {as : List am_V} {a : Int} {Z : am_M} {X' : am_M} (hR : RH h n) (c2 : Ct d2 y2 (.inr (6, 0) :: as) (some (.inl a)) (am_U h (h.2 1) (h.1 (h.2 1))) (am_U h (h.2 1) Z)) (c3 : Ct d3 y3 (.inr (7, 0) :: as) (some (.inl a)) (xh (am_U h (h.2 1) Z) (h.1 7) (h.1 7 1)) (xh (am_U h (h.2 1) Z) X' (h.1 7 1))) (hX : XE X' (h.1 7)) : SP d2 d3 y2 y3 as h n := by
  rw [am_U_id] at c2
  exact sp_of c2 (tr_7 hR.1 Z) rfl c3 (RR_X (RR_tr (RR_mono hR (by omega)) Z) hX)
theorem sp_loss (hR : RH h n) (hn : n ≤ 300000000) (a b : Int) (ha : am_R a) (hb : am_R b) : SP 5 6 Y2_loss Y3_loss [.inl a, .inl b] h n := by
  have hW := hR.2.2.2.1.1
  have hx := hW.1.1
  have c2 := tg_loss (Z := h.1 (h.2 1)) hR.1 a b ha hb (YS_of hW (by omega)) (fun c => YS_of (CZ_kills hW c) (by omega))
  rw [CZ_loss hW] at c2
  exact sp_try hR c2 (tx_loss a b hx.1.1.2 ha hb (by have := hW.2.1.2.2.1; omega)) (XE_loss _ _ _ _)
theorem sp_safe (hR : RH h n) (hn : n ≤ 300000000) : SP 5 6 Y2_safe Y3_safe [] h n := by
  have hW := hR.2.2.2.1.1
  have hx := hW.1.1
  have h8 := hx.1.1.2.1
  have e0 : gP h 0 0 = h.1 7 1 0 := hx.1.2.1.1.1.1
  have c2 := tg_safe (Z := h.1 (h.2 1)) hR.1 hx.1.1.1 (YS_of hW (by omega)) (fun c => YS_of (CZ_kills hW c) (by omega))
  rw [CZ_safe hW _ (by omega), e0] at c2
  exact sp_try hR c2 (tx_safe hx.1.1.2 (by have := hW.2.1.2.2.1; omega)) (XE_saf _ _ _)
theorem sp_worstTwo (hR : RH h n) (hn : n ≤ 300000000) (k : Int) (hk : am_R k) : SP 5 6 Y2_worstTwo Y3_worstTwo [.inl k] h n := by
  have hW := hR.2.2.2.1.1
  have hx := hW.1.1
  have c2 := tg_worstTwo (Z := h.1 (h.2 1)) hR.1 k hx.1.1.1 hk (YS_of hW (by omega)) (fun c => YS_of (CZ_kills hW c) (by omega))
  rw [CZ_worst _ (h.1 7) hW] at c2
  exact sp_try hR c2 (tx_worstTwo k hx.1.1.2 hk (by have := hW.2.1.2.2.1; omega)) (XE_worst _ _ _)
theorem sp_calm (hR : RH h n) (hn : n ≤ 300000000) : SP 4 8 Y2_calm Y3_calm [] h n := by
  have hW := hR.2.2.2.1.1
  have hx := hW.1.1
  have c2 := tg_calm (Z := h.1 (h.2 1)) hR.1 hx.1.1.1 (YS_of hW (by omega)) (fun k hk => YS_of (CZ_gcZ hW (by omega) k (by omega)) (by omega))
  rw [CZ_calm hW (by omega)] at c2
  exact sp_try hR c2 (tx_calm hx.1.1.2 hW.2.1 (by omega)) (XE_4 _ _)
theorem sp_heir (hR : RH h n) (hn : n ≤ 300000000) (f : Int) (hf : am_R f) : SP 3 7 Y2_heir Y3_heir [.inl f] h n := by
  have hW := hR.2.2.2.1.1
  have hx := hW.1.1
  have c2 := tg_heir (Z := h.1 (h.2 1)) hR.1 f hx.1.1.1 hf (YS_of hW (by omega))
  rw [CZ_heir _ (h.1 7) hW] at c2
  exact sp_try hR c2 (tx_heir f hx.1.1.2 hf) (XE_heir _ _ _)
theorem sp_undo (hR : RH h n) : SP 2 0 Y2_undo Y3_undo [] h n := by
  have hG := hR.1
  obtain ⟨e, hU⟩ := RR_undo hR
  have c2 := tg_undo hG
  rw [e] at c2
  have e7 : (gund h).1 7 = h.1 7 := by
    unfold gund
    split
    · rw [am_U_ne _ _ (by have := hG.2.2 0; omega)]
      exact am_U_ne _ _ (by decide)
    · rfl
  exact sp_of c2 e7 rfl (tx_undo (RR_st hR)) (RR_mono hU (by omega))
theorem sp_type (hR : RH h n) (c : Int) (hc : am_R c) : SP 0 1 Y2_type Y3_type [.inl c] h n := by
  obtain ⟨e, hU⟩ := RR_type hR c
  have ht := hR.2.1
  have c2 := tg_type (h0 := h) (O := h.1 6) c hc (by rw [ht.1]; exact ht.2.2)
  rw [am_U_id, e] at c2
  exact sp_of c2 (am_U_ne _ _ (by decide)) rfl (tx_type c hc ht.2.2) (RR_mono hU (by omega))
theorem sp_clearText (hR : RH h n) : SP 0 0 Y2_clearText Y3_clearText [] h n := by
  have hU := RR_clear hR
  have ht := hR.2.1
  have c2 := tg_clearText (h0 := h) (O := h.1 6)
  rw [am_U_id, ht.1] at c2
  exact sp_of c2 (am_U_ne _ _ (by decide)) rfl tx_clearText (RR_mono hU (by omega))
/-- what the class's trial is behind some orders -/
def PO (n : Int) (i : Nat) (M : am_M) : Prop := i ≤ 60 → ∃ T, CZ M T (n + 400 * i)
theorem PO_S {i : Nat} {M : am_M} (hn : n ≤ 300000000) (hi : i ≤ 60) (hP : PO n i M) : YS M := by
  obtain ⟨T, hT⟩ := hP hi
  exact YS_of hT (by omega)
theorem PO_o {i : Nat} {M : am_M} (hn : n ≤ 300000000) (O : am_M) (hP : PO n i M) : PO n (i + 1) (odo M O).2 := by
  intro hi
  obtain ⟨T, hT⟩ := hP (by omega)
  obtain ⟨U, hU⟩ := CZ_odo hT (by omega) O
  exact ⟨U, CZ_mono hU (by omega)⟩
theorem sp_fault (hR : RH h n) (hn : n ≤ 300000000) (k : Int) (hk : am_R k) : SP 6 12 Y2_fault Y3_fault [.inl k] h n := by
  have hG := hR.1
  have hW := hR.2.2.2.1.1
  have hx := hW.1.1
  obtain ⟨t1, t3, t0, t9⟩ := hR.2.1
  have c2 := tg_fault (h0 := h) (Z := h.1 (h.2 1)) hG k hk (by rw [t1]; exact ⟨t0, t9⟩) (P := PO n) (fun i M hi hP => PO_S hn hi hP) (fun i M O hP => PO_o hn O hP) (fun _ => ⟨_, CZ_mono hW (by omega)⟩)
  rw [am_U_id, CZ_fault hW (by omega) t1 t3 ⟨t0, t9⟩] at c2
  have e7 : (gftH h (h.1 (h.2 1)) k).1 7 = h.1 7 := by
    unfold gftH
    split
    · rw [am_U_ne _ _ (by decide)]
      exact tr_7 hG _
    · exact tr_7 hG _
  refine sp_of c2 e7 rfl (tx_fault k hx.1.1.2 hk ⟨t0, t9⟩ hW.2.1 (by omega) hW.2.2 (CZ_fltR hW (by omega) t1 t3 ⟨t0, t9⟩)) ?_
  refine RR_X ?_ (XE_fault _ _ _)
  unfold gftH
  split
  · have hRt := RR_tr (RR_mono hR (show n ≤ n + 24000 by omega)) (oA (gP h) (h.1 6)).2.1
    have e6 : (am_U h (h.2 1) (oA (gP h) (h.1 6)).2.1).1 6 = h.1 6 := am_U_ne _ _ (by have := hG.2.2 1; omega)
    exact RR_O hRt (by rw [e6, oA_r _ _ (by decide)]) (by rw [e6, oA_21 _ (by rw [t1]; exact ⟨t0, t9⟩)]) (by rw [e6, oA_r _ _ (by decide)])
  · exact RR_tr (RR_mono hR (by omega)) _
theorem sp_play (hR : RH h n) (hn : n ≤ 300000000) : SP 6 12 Y2_play Y3_play [] h n := by
  have hG := hR.1
  have hW := hR.2.2.2.1.1
  have hx := hW.1.1
  have hst := RR_st hR
  obtain ⟨t1, t3, t0, t9⟩ := hR.2.1
  have c2 := tg_play (h0 := h) (Z := h.1 (h.2 1)) hG (by rw [t1]; exact ⟨t0, t9⟩) (P := PO n) (fun i M hi hP => PO_S hn hi hP) (fun i M O hP => PO_o hn O hP) (fun _ => ⟨_, CZ_mono hW (by omega)⟩)
  have hp := CZ_play hW (n := n) (by omega) t1 t3 ⟨t0, t9⟩
  have hgb := gplR_b (gP h) (h.1 6)
  have eR : gplR (gP h) (h.1 6) = xplayR (h.1 7) (h.1 7 1) := by
    unfold gplR xplayR
    rcases hp with ⟨p1, p2, p3, p4⟩ | ⟨p1, p2⟩
    · rw [if_pos p1, if_pos p2, p3]
    · rw [if_neg p1, if_neg p2]
  rw [am_U_id] at c2
  unfold gplH at c2
  rw [eR] at c2
  have hcm : am_U (am_U h (h.2 1) (oA (gP h) (h.1 6)).2.1) 6 (oA (gP h) (h.1 6)).2.2 = am_U (am_U h 6 (oA (gP h) (h.1 6)).2.2) (h.2 1) (oA (gP h) (h.1 6)).2.1 := am_U_comm _ _ _ (by have := hG.2.2 1; omega)
  rw [hcm] at c2
  have hR6 : RR (am_U h 6 (oA (gP h) (h.1 6)).2.2) (h.1 7) (h.1 7 1) n := RR_O hR (oA_r _ _ (by decide)) (oA_21 _ (by rw [t1]; exact ⟨t0, t9⟩)) (oA_r _ _ (by decide))
  have hG6 := hR6.1
  have e7 : (am_U h 6 (oA (gP h) (h.1 6)).2.2).1 7 = h.1 7 := am_U_ne _ _ (by decide)
  refine sp_of c2 ((gset_7 (AG_U hG6 (hG.2.2 1)) _).trans ((tr_7 hG6 _).trans e7)) rfl (tx_play hx.1.1.2 ⟨t0, t9⟩ hst hW.2.1 (by omega) hW.2.2 (CZ_fltR hW (by omega) t1 t3 ⟨t0, t9⟩)) ?_
  rcases hp with ⟨p1, p2, p3, p4⟩ | ⟨p1, p2⟩
  · have eX : xplayX (h.1 7) (h.1 7 1) = xact (xplS (h.1 7) (h.1 7 1)).2.1 (xplS (h.1 7) (h.1 7 1)).1 := by unfold xplayX; rw [if_pos p2]
    have eS : xplayS (h.1 7) (h.1 7 1) = (xplS (h.1 7) (h.1 7 1)).2.2 := by unfold xplayS; rw [if_pos p2]
    have eR2 : xplayR (h.1 7) (h.1 7 1) = (xplS (h.1 7) (h.1 7 1)).1 := by unfold xplayR; rw [if_pos p2]
    have hpos : 0 ≤ (xplS (h.1 7) (h.1 7 1)).1 := by
      rw [p3]
      unfold oA
      exact (oall_n 60 0 _ _).1
    obtain ⟨x1, x2⟩ := XE_plS (h.1 7) (h.1 7 1)
    rw [eX, eS, eR2]
    exact RR_set hR6 ⟨p4, VX_pl1 61 _ _ _ hx.1.1.2 hR.2.2.2.1.2⟩ (by omega) hpos x1 x2
  · have eX : xplayX (h.1 7) (h.1 7 1) = (xflt (h.1 7) (h.1 7 1)).2.1 := by unfold xplayX; rw [if_neg p2]
    have eS : xplayS (h.1 7) (h.1 7 1) = h.1 7 1 := by unfold xplayS; rw [if_neg p2]
    have eR2 : xplayR (h.1 7) (h.1 7 1) = -1000002 := by unfold xplayR; rw [if_neg p2]
    rw [eX, eS, eR2]
    have eg : gset (am_U (am_U h 6 (oA (gP h) (h.1 6)).2.2) (h.2 1) (oA (gP h) (h.1 6)).2.1) (-1000002) = am_U (am_U h 6 (oA (gP h) (h.1 6)).2.2) (h.2 1) (oA (gP h) (h.1 6)).2.1 := by unfold gset; rw [if_pos (by decide)]
    rw [eg]
    exact RR_X (RR_tr (RR_mono hR6 (by omega)) _) (XE_flt _ _)
end SPS
