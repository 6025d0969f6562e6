theorem yadR_b {M : am_M} (hW : WM M) (f sp : Int) : -1000003 ≤ yadR M f sp ∧ yadR M f sp ≤ 300 := by
  have h1 := hW.1
  unfold yadR
  (repeat' split) <;> omega
theorem am_Rc1 : am_R (-1000001) := ⟨by decide, by decide⟩
theorem am_Rc2 : am_R (-1000002) := ⟨by decide, by decide⟩
theorem ywrite_R {M : am_M} (hR : ∀ j k, am_R (M j k)) (w v : Int) : am_R (ywrite M w v).1 := by
  unfold ywrite
  (repeat' split) <;> dsimp only <;> first | exact am_Rc1 | exact am_Rc2 | exact hR 9 w.toNat
theorem ycarry_R {M : am_M} {w c : Int} (hR : ∀ j k, am_R ((ycarry M w c).2 j k)) : am_R (ycarry M w c).1 := by
  have h : (ycarry M w c).1 = -1000001 ∨ (ycarry M w c).1 = -1000002 ∨ (ycarry M w c).1 = rd (ycarry M w c).2 11 w := by
    unfold ycarry
    (repeat' split) <;> first | exact Or.inl rfl | exact Or.inr (Or.inl rfl) | exact Or.inr (Or.inr rfl)
  rcases h with h | h | h
  · rw [h]; exact am_Rc1
  · rw [h]; exact am_Rc2
  · rw [h]; exact hR 11 w.toNat
set_option maxHeartbeats 4000000 in
set_option maxRecDepth 100000 in
theorem tg_chip {h0 : am_H} {Z : am_M} (hG : AG h0) (f sp : Int) (hW : WM (gP h0)) (hfR : am_R f) (hsR : am_R sp)  : Ct 4 Y2_chip [.inr (6, 0), .inl f, .inl sp] (some (.inl (yadR (gP h0) f sp))) (am_U h0 (h0.2 1) Z) (gset (am_U h0 (h0.2 1) (yadM (gP h0) f sp)) (yadR (gP h0) f sp)) := by
  refine Ct_of (by decide +kernel) (Nat.le_of_ble_eq_true rfl) ?_
  show Sx 4 Y2_chip (gset (am_U h0 (h0.2 1) (yadM (gP h0) f sp)) (yadR (gP h0) f sp)) (some (.inl (yadR (gP h0) f sp))) 0 [some (.inr (6, 0)), some (.inl f), some (.inl sp)] [] (am_U h0 (h0.2 1) Z)
  refine sx_vh (fun hV => ?_)
  have hR : ∀ j k, am_R (gP h0 j k) := fun j k => by
    have := hV.1 (h0.2 0) j k
    rwa [gZ_p hG] at this
  obtain ⟨w0, w2, w1, w5, w8, w12, wb⟩ := id hW
  refine sx_aload_n dX2_chip_0 rfl ?_
  refine sx_aload_n dX2_chip_1 rfl ?_
  refine sx_callVr dX2_chip_2 ml_X2_34 mv2_freshTrial (tg_freshTrial hG) rfl am_obG rfl (Nat.le_of_ble_eq_true rfl) (Nat.le_of_ble_eq_true rfl) ?_
  refine sx_iload_n dX2_chip_5 rfl ?_
  refine sx_iload_n dX2_chip_6 rfl ?_
  refine sx_callVi dX2_chip_7 ml_X2_38 mv0_addChip (ty_addChip (hG.2.2 1) _ _ hW hfR hsR) rfl (am_obM (hG.2.2 1)) rfl (Nat.le_of_ble_eq_true rfl) (Nat.le_of_ble_eq_true rfl) ?_
  refine mm_vh (fun hRN => ?_)
  have haR : am_R (yadR (gP h0) f sp) := (by have z := yadR_b hW f sp; exact ⟨by omega, by omega⟩)
  refine sx_callVi dX2_chip_10 ml_X2_42 mv2_settle (tg_settle (AG_U hG (hG.2.2 1)) _ haR) rfl am_obG rfl (Nat.le_of_ble_eq_true rfl) (Nat.le_of_ble_eq_true rfl) ?_
  exact sx_iret dX2_chip_13 rfl rfl rfl
set_option maxHeartbeats 4000000 in
set_option maxRecDepth 100000 in
theorem tg_elect {h0 : am_H} {Z : am_M} (hG : AG h0) (c : Int) (hW : WM (gP h0)) (hcR : am_R c)  : Ct 4 Y2_elect [.inr (6, 0), .inl c] (some (.inl (yelect (gP h0) c).1)) (am_U h0 (h0.2 1) Z) (gset (am_U h0 (h0.2 1) (yelect (gP h0) c).2) (yelect (gP h0) c).1) := by
  refine Ct_of (by decide +kernel) (Nat.le_of_ble_eq_true rfl) ?_
  show Sx 4 Y2_elect (gset (am_U h0 (h0.2 1) (yelect (gP h0) c).2) (yelect (gP h0) c).1) (some (.inl (yelect (gP h0) c).1)) 0 [some (.inr (6, 0)), some (.inl c)] [] (am_U h0 (h0.2 1) Z)
  refine sx_vh (fun hV => ?_)
  have hR : ∀ j k, am_R (gP h0 j k) := fun j k => by
    have := hV.1 (h0.2 0) j k
    rwa [gZ_p hG] at this
  obtain ⟨w0, w2, w1, w5, w8, w12, wb⟩ := id hW
  refine sx_aload_n dX2_elect_0 rfl ?_
  refine sx_aload_n dX2_elect_1 rfl ?_
  refine sx_callVr dX2_elect_2 ml_X2_34 mv2_freshTrial (tg_freshTrial hG) rfl am_obG rfl (Nat.le_of_ble_eq_true rfl) (Nat.le_of_ble_eq_true rfl) ?_
  refine sx_iload_n dX2_elect_5 rfl ?_
  refine sx_callVi dX2_elect_6 ml_X2_46 mv0_makeGodfather (ty_makeGodfather (hG.2.2 1) _ hW hcR) rfl (am_obM (hG.2.2 1)) rfl (Nat.le_of_ble_eq_true rfl) (Nat.le_of_ble_eq_true rfl) ?_
  refine mm_vh (fun hRN => ?_)
  have haR : am_R (yelect (gP h0) c).1 := (by have z := yelect_b (gP h0) c; exact ⟨by omega, by omega⟩)
  refine sx_callVi dX2_elect_9 ml_X2_42 mv2_settle (tg_settle (AG_U hG (hG.2.2 1)) _ haR) rfl am_obG rfl (Nat.le_of_ble_eq_true rfl) (Nat.le_of_ble_eq_true rfl) ?_
  exact sx_iret dX2_elect_12 rfl rfl rfl
set_option maxHeartbeats 4000000 in
set_option maxRecDepth 100000 in
theorem tg_kill {h0 : am_H} {Z : am_M} (hG : AG h0) (c : Int) (hW : WM (gP h0)) (hcR : am_R c) (hS : YS (gP h0))  : Ct 4 Y2_kill [.inr (6, 0), .inl c] (some (.inl (ydie (gP h0) c).1)) (am_U h0 (h0.2 1) Z) (gset (am_U h0 (h0.2 1) (ydie (gP h0) c).2) (ydie (gP h0) c).1) := by
  refine Ct_of (by decide +kernel) (Nat.le_of_ble_eq_true rfl) ?_
  show Sx 4 Y2_kill (gset (am_U h0 (h0.2 1) (ydie (gP h0) c).2) (ydie (gP h0) c).1) (some (.inl (ydie (gP h0) c).1)) 0 [some (.inr (6, 0)), some (.inl c)] [] (am_U h0 (h0.2 1) Z)
  refine sx_vh (fun hV => ?_)
  have hR : ∀ j k, am_R (gP h0 j k) := fun j k => by
    have := hV.1 (h0.2 0) j k
    rwa [gZ_p hG] at this
  obtain ⟨w0, w2, w1, w5, w8, w12, wb⟩ := id hW
  refine sx_aload_n dX2_kill_0 rfl ?_
  refine sx_aload_n dX2_kill_1 rfl ?_
  refine sx_callVr dX2_kill_2 ml_X2_34 mv2_freshTrial (tg_freshTrial hG) rfl am_obG rfl (Nat.le_of_ble_eq_true rfl) (Nat.le_of_ble_eq_true rfl) ?_
  refine sx_iload_n dX2_kill_5 rfl ?_
  refine sx_callVi dX2_kill_6 ml_X2_49 mv0_letDie (ty_letDie (hG.2.2 1) _ hW hcR (hS.2.2.1 _)) rfl (am_obM (hG.2.2 1)) rfl (Nat.le_of_ble_eq_true rfl) (Nat.le_of_ble_eq_true rfl) ?_
  refine mm_vh (fun hRN => ?_)
  have haR : am_R (ydie (gP h0) c).1 := (by have z := ydie_b (gP h0) c; exact ⟨by omega, by omega⟩)
  refine sx_callVi dX2_kill_9 ml_X2_42 mv2_settle (tg_settle (AG_U hG (hG.2.2 1)) _ haR) rfl am_obG rfl (Nat.le_of_ble_eq_true rfl) (Nat.le_of_ble_eq_true rfl) ?_
  exact sx_iret dX2_kill_12 rfl rfl rfl
set_option maxHeartbeats 4000000 in
set_option maxRecDepth 100000 in
theorem tg_breaks {h0 : am_H} {Z : am_M} (hG : AG h0) (c r : Int) (hW : WM (gP h0)) (hcR : am_R c) (hrR : am_R r) (hS : YS (gP h0))  : Ct 4 Y2_breaks [.inr (6, 0), .inl c, .inl r] (some (.inl (ybreak (gP h0) c r).1)) (am_U h0 (h0.2 1) Z) (gset (am_U h0 (h0.2 1) (ybreak (gP h0) c r).2) (ybreak (gP h0) c r).1) := by
  refine Ct_of (by decide +kernel) (Nat.le_of_ble_eq_true rfl) ?_
  show Sx 4 Y2_breaks (gset (am_U h0 (h0.2 1) (ybreak (gP h0) c r).2) (ybreak (gP h0) c r).1) (some (.inl (ybreak (gP h0) c r).1)) 0 [some (.inr (6, 0)), some (.inl c), some (.inl r)] [] (am_U h0 (h0.2 1) Z)
  refine sx_vh (fun hV => ?_)
  have hR : ∀ j k, am_R (gP h0 j k) := fun j k => by
    have := hV.1 (h0.2 0) j k
    rwa [gZ_p hG] at this
  obtain ⟨w0, w2, w1, w5, w8, w12, wb⟩ := id hW
  refine sx_aload_n dX2_breaks_0 rfl ?_
  refine sx_aload_n dX2_breaks_1 rfl ?_
  refine sx_callVr dX2_breaks_2 ml_X2_34 mv2_freshTrial (tg_freshTrial hG) rfl am_obG rfl (Nat.le_of_ble_eq_true rfl) (Nat.le_of_ble_eq_true rfl) ?_
  refine sx_iload_n dX2_breaks_5 rfl ?_
  refine sx_iload_n dX2_breaks_6 rfl ?_
  refine sx_callVi dX2_breaks_7 ml_X2_52 mv0_breakRow (ty_breakRow (hG.2.2 1) _ _ hW hcR hrR (hS.2.2.2.2.2.1 _ _)) rfl (am_obM (hG.2.2 1)) rfl (Nat.le_of_ble_eq_true rfl) (Nat.le_of_ble_eq_true rfl) ?_
  refine mm_vh (fun hRN => ?_)
  have haR : am_R (ybreak (gP h0) c r).1 := (by have z := ybreak_b (gP h0) c r; exact ⟨by omega, by omega⟩)
  refine sx_callVi dX2_breaks_10 ml_X2_42 mv2_settle (tg_settle (AG_U hG (hG.2.2 1)) _ haR) rfl am_obG rfl (Nat.le_of_ble_eq_true rfl) (Nat.le_of_ble_eq_true rfl) ?_
  exact sx_iret dX2_breaks_13 rfl rfl rfl
set_option maxHeartbeats 4000000 in
set_option maxRecDepth 100000 in
theorem tg_put {h0 : am_H} {Z : am_M} (hG : AG h0) (c v : Int) (hW : WM (gP h0)) (hcR : am_R c) (hvR : am_R v)  : Ct 4 Y2_put [.inr (6, 0), .inl c, .inl v] (some (.inl (yput (gP h0) c v).1)) (am_U h0 (h0.2 1) Z) (gset (am_U h0 (h0.2 1) (yput (gP h0) c v).2) (yput (gP h0) c v).1) := by
  refine Ct_of (by decide +kernel) (Nat.le_of_ble_eq_true rfl) ?_
  show Sx 4 Y2_put (gset (am_U h0 (h0.2 1) (yput (gP h0) c v).2) (yput (gP h0) c v).1) (some (.inl (yput (gP h0) c v).1)) 0 [some (.inr (6, 0)), some (.inl c), some (.inl v)] [] (am_U h0 (h0.2 1) Z)
  refine sx_vh (fun hV => ?_)
  have hR : ∀ j k, am_R (gP h0 j k) := fun j k => by
    have := hV.1 (h0.2 0) j k
    rwa [gZ_p hG] at this
  obtain ⟨w0, w2, w1, w5, w8, w12, wb⟩ := id hW
  refine sx_aload_n dX2_put_0 rfl ?_
  refine sx_aload_n dX2_put_1 rfl ?_
  refine sx_callVr dX2_put_2 ml_X2_34 mv2_freshTrial (tg_freshTrial hG) rfl am_obG rfl (Nat.le_of_ble_eq_true rfl) (Nat.le_of_ble_eq_true rfl) ?_
  refine sx_iload_n dX2_put_5 rfl ?_
  refine sx_iload_n dX2_put_6 rfl ?_
  refine sx_callVi dX2_put_7 ml_X2_102 mv0_putWord (ty_putWord (hG.2.2 1) _ _ hW hcR hvR) rfl (am_obM (hG.2.2 1)) rfl (Nat.le_of_ble_eq_true rfl) (Nat.le_of_ble_eq_true rfl) ?_
  refine mm_vh (fun hRN => ?_)
  have haR : am_R (yput (gP h0) c v).1 := (by have z := yput_b hW c v; exact ⟨by omega, by omega⟩)
  refine sx_callVi dX2_put_10 ml_X2_42 mv2_settle (tg_settle (AG_U hG (hG.2.2 1)) _ haR) rfl am_obG rfl (Nat.le_of_ble_eq_true rfl) (Nat.le_of_ble_eq_true rfl) ?_
  exact sx_iret dX2_put_13 rfl rfl rfl
set_option maxHeartbeats 4000000 in
set_option maxRecDepth 100000 in
theorem tg_write {h0 : am_H} {Z : am_M} (hG : AG h0) (w v : Int) (hW : WM (gP h0)) (hwR : am_R w) (hvR : am_R v)  : Ct 4 Y2_write [.inr (6, 0), .inl w, .inl v] (some (.inl (ywrite (gP h0) w v).1)) (am_U h0 (h0.2 1) Z) (gset (am_U h0 (h0.2 1) (ywrite (gP h0) w v).2) (ywrite (gP h0) w v).1) := by
  refine Ct_of (by decide +kernel) (Nat.le_of_ble_eq_true rfl) ?_
  show Sx 4 Y2_write (gset (am_U h0 (h0.2 1) (ywrite (gP h0) w v).2) (ywrite (gP h0) w v).1) (some (.inl (ywrite (gP h0) w v).1)) 0 [some (.inr (6, 0)), some (.inl w), some (.inl v)] [] (am_U h0 (h0.2 1) Z)
  refine sx_vh (fun hV => ?_)
  have hR : ∀ j k, am_R (gP h0 j k) := fun j k => by
    have := hV.1 (h0.2 0) j k
    rwa [gZ_p hG] at this
  obtain ⟨w0, w2, w1, w5, w8, w12, wb⟩ := id hW
  refine sx_aload_n dX2_write_0 rfl ?_
  refine sx_aload_n dX2_write_1 rfl ?_
  refine sx_callVr dX2_write_2 ml_X2_34 mv2_freshTrial (tg_freshTrial hG) rfl am_obG rfl (Nat.le_of_ble_eq_true rfl) (Nat.le_of_ble_eq_true rfl) ?_
  refine sx_iload_n dX2_write_5 rfl ?_
  refine sx_iload_n dX2_write_6 rfl ?_
  refine sx_callVi dX2_write_7 ml_X2_105 mv0_writeWord (ty_writeWord (hG.2.2 1) _ _ hW hwR hvR) rfl (am_obM (hG.2.2 1)) rfl (Nat.le_of_ble_eq_true rfl) (Nat.le_of_ble_eq_true rfl) ?_
  refine mm_vh (fun hRN => ?_)
  have haR : am_R (ywrite (gP h0) w v).1 := (ywrite_R hR w v)
  refine sx_callVi dX2_write_10 ml_X2_42 mv2_settle (tg_settle (AG_U hG (hG.2.2 1)) _ haR) rfl am_obG rfl (Nat.le_of_ble_eq_true rfl) (Nat.le_of_ble_eq_true rfl) ?_
  exact sx_iret dX2_write_13 rfl rfl rfl
set_option maxHeartbeats 4000000 in
set_option maxRecDepth 100000 in
theorem tg_carry {h0 : am_H} {Z : am_M} (hG : AG h0) (w c : Int) (hW : WM (gP h0)) (hwR : am_R w) (hcR : am_R c) (hS : YS (gP h0))  : Ct 4 Y2_carry [.inr (6, 0), .inl w, .inl c] (some (.inl (ycarry (gP h0) w c).1)) (am_U h0 (h0.2 1) Z) (gset (am_U h0 (h0.2 1) (ycarry (gP h0) w c).2) (ycarry (gP h0) w c).1) := by
  refine Ct_of (by decide +kernel) (Nat.le_of_ble_eq_true rfl) ?_
  show Sx 4 Y2_carry (gset (am_U h0 (h0.2 1) (ycarry (gP h0) w c).2) (ycarry (gP h0) w c).1) (some (.inl (ycarry (gP h0) w c).1)) 0 [some (.inr (6, 0)), some (.inl w), some (.inl c)] [] (am_U h0 (h0.2 1) Z)
  refine sx_vh (fun hV => ?_)
  have hR : ∀ j k, am_R (gP h0 j k) := fun j k => by
    have := hV.1 (h0.2 0) j k
    rwa [gZ_p hG] at this
  obtain ⟨w0, w2, w1, w5, w8, w12, wb⟩ := id hW
  refine sx_aload_n dX2_carry_0 rfl ?_
  refine sx_aload_n dX2_carry_1 rfl ?_
  refine sx_callVr dX2_carry_2 ml_X2_34 mv2_freshTrial (tg_freshTrial hG) rfl am_obG rfl (Nat.le_of_ble_eq_true rfl) (Nat.le_of_ble_eq_true rfl) ?_
  refine sx_iload_n dX2_carry_5 rfl ?_
  refine sx_iload_n dX2_carry_6 rfl ?_
  refine sx_callVi dX2_carry_7 ml_X2_117 mv0_carryWord (ty_carryWord (hG.2.2 1) _ _ hW hwR hcR (fun q1 q2 => hS.2.2.2.2.2.2 _ q1 q2)) rfl (am_obM (hG.2.2 1)) rfl (Nat.le_of_ble_eq_true rfl) (Nat.le_of_ble_eq_true rfl) ?_
  refine mm_vh (fun hRN => ?_)
  have haR : am_R (ycarry (gP h0) w c).1 := (ycarry_R hRN)
  refine sx_callVi dX2_carry_10 ml_X2_42 mv2_settle (tg_settle (AG_U hG (hG.2.2 1)) _ haR) rfl am_obG rfl (Nat.le_of_ble_eq_true rfl) (Nat.le_of_ble_eq_true rfl) ?_
  exact sx_iret dX2_carry_13 rfl rfl rfl
set_option maxHeartbeats 4000000 in
set_option maxRecDepth 100000 in
theorem tg_empty {h0 : am_H} {Z : am_M} (hG : AG h0) (c : Int) (hW : WM (gP h0)) (hcR : am_R c) (hS : YS (gP h0))  : Ct 4 Y2_empty [.inr (6, 0), .inl c] (some (.inl (yempty (gP h0) c).1)) (am_U h0 (h0.2 1) Z) (gset (am_U h0 (h0.2 1) (yempty (gP h0) c).2) (yempty (gP h0) c).1) := by
  refine Ct_of (by decide +kernel) (Nat.le_of_ble_eq_true rfl) ?_
  show Sx 4 Y2_empty (gset (am_U h0 (h0.2 1) (yempty (gP h0) c).2) (yempty (gP h0) c).1) (some (.inl (yempty (gP h0) c).1)) 0 [some (.inr (6, 0)), some (.inl c)] [] (am_U h0 (h0.2 1) Z)
  refine sx_vh (fun hV => ?_)
  have hR : ∀ j k, am_R (gP h0 j k) := fun j k => by
    have := hV.1 (h0.2 0) j k
    rwa [gZ_p hG] at this
  obtain ⟨w0, w2, w1, w5, w8, w12, wb⟩ := id hW
  refine sx_aload_n dX2_empty_0 rfl ?_
  refine sx_aload_n dX2_empty_1 rfl ?_
  refine sx_callVr dX2_empty_2 ml_X2_34 mv2_freshTrial (tg_freshTrial hG) rfl am_obG rfl (Nat.le_of_ble_eq_true rfl) (Nat.le_of_ble_eq_true rfl) ?_
  refine sx_iload_n dX2_empty_5 rfl ?_
  refine sx_callVi dX2_empty_6 ml_X2_120 mv0_emptyChip (ty_emptyChip (hG.2.2 1) _ hW hcR (hS.2.2.2.2.1 _)) rfl (am_obM (hG.2.2 1)) rfl (Nat.le_of_ble_eq_true rfl) (Nat.le_of_ble_eq_true rfl) ?_
  refine mm_vh (fun hRN => ?_)
  have haR : am_R (yempty (gP h0) c).1 := (by have z := yempty_b (gP h0) c; exact ⟨by omega, by omega⟩)
  refine sx_callVi dX2_empty_9 ml_X2_42 mv2_settle (tg_settle (AG_U hG (hG.2.2 1)) _ haR) rfl am_obG rfl (Nat.le_of_ble_eq_true rfl) (Nat.le_of_ble_eq_true rfl) ?_
  exact sx_iret dX2_empty_12 rfl rfl rfl
set_option maxHeartbeats 4000000 in
set_option maxRecDepth 100000 in
theorem tg_tick {h0 : am_H} {Z : am_M} (hG : AG h0) (t : Int) (hW : WM (gP h0)) (htR : am_R t) (hS : YS (gP h0))  : Ct 4 Y2_tick [.inr (6, 0), .inl t] (some (.inl (ytick (gP h0) t).1)) (am_U h0 (h0.2 1) Z) (gset (am_U h0 (h0.2 1) (ytick (gP h0) t).2) (ytick (gP h0) t).1) := by
  refine Ct_of (by decide +kernel) (Nat.le_of_ble_eq_true rfl) ?_
  show Sx 4 Y2_tick (gset (am_U h0 (h0.2 1) (ytick (gP h0) t).2) (ytick (gP h0) t).1) (some (.inl (ytick (gP h0) t).1)) 0 [some (.inr (6, 0)), some (.inl t)] [] (am_U h0 (h0.2 1) Z)
  refine sx_vh (fun hV => ?_)
  have hR : ∀ j k, am_R (gP h0 j k) := fun j k => by
    have := hV.1 (h0.2 0) j k
    rwa [gZ_p hG] at this
  obtain ⟨w0, w2, w1, w5, w8, w12, wb⟩ := id hW
  refine sx_aload_n dX2_tick_0 rfl ?_
  refine sx_aload_n dX2_tick_1 rfl ?_
  refine sx_callVr dX2_tick_2 ml_X2_34 mv2_freshTrial (tg_freshTrial hG) rfl am_obG rfl (Nat.le_of_ble_eq_true rfl) (Nat.le_of_ble_eq_true rfl) ?_
  refine sx_iload_n dX2_tick_5 rfl ?_
  refine sx_callVi dX2_tick_6 ml_X2_159 mv0_goTicks (ty_goTicks (hG.2.2 1) _ hW htR hS.2.1 (hS.2.2.2.1 _)) rfl (am_obM (hG.2.2 1)) rfl (Nat.le_of_ble_eq_true rfl) (Nat.le_of_ble_eq_true rfl) ?_
  refine mm_vh (fun hRN => ?_)
  have haR : am_R (ytick (gP h0) t).1 := (by have z := ytick_b (gP h0) t; exact ⟨by omega, by omega⟩)
  refine sx_callVi dX2_tick_9 ml_X2_42 mv2_settle (tg_settle (AG_U hG (hG.2.2 1)) _ haR) rfl am_obG rfl (Nat.le_of_ble_eq_true rfl) (Nat.le_of_ble_eq_true rfl) ?_
  exact sx_iret dX2_tick_12 rfl rfl rfl
set_option maxHeartbeats 4000000 in
set_option maxRecDepth 100000 in
theorem tg_undo {h : am_H} (hG : AG h)  : Ct 2 Y2_undo [.inr (6, 0)] (some (.inl (gunR h))) h (gund h) := by
  refine Ct_of (by decide +kernel) (Nat.le_of_ble_eq_true rfl) ?_
  show Sx 2 Y2_undo (gund h) (some (.inl (gunR h))) 0 [some (.inr (6, 0))] [] h
  have hn4 := hG.2.1
  refine sx_aload_n dX2_undo_0 rfl ?_
  refine gg_gets dX2_undo_1 fl_X2_30 rfl ?_
  refine sx_if_gt (tgt := 10) dX2_undo_4 (by decide) (by first | omega | assumption | (exact ⟨by omega, by omega⟩)) (fun c4 => ?_) (fun c4 => ?_)
  · -- 4t
    refine sx_aload_n dX2_undo_10 rfl ?_
    refine sx_dup dX2_undo_11 ?_
    refine gg_gets dX2_undo_12 fl_X2_30 rfl ?_
    refine sx_iconst dX2_undo_15 ?_
    refine sx_isub dX2_undo_16 ?_
    refine gg_puts dX2_undo_17 fl_X2_30 (by first | omega | assumption | (exact ⟨by omega, by omega⟩)) ?_
    refine sx_heq (gun1 h) rfl ?_
    refine sx_aload_n dX2_undo_20 rfl ?_
    refine gg_getp dX2_undo_21 fl_X2_23 rfl ?_
    refine sx_aload_n dX2_undo_24 rfl ?_
    refine gg_geth dX2_undo_25 fl_X2_11 ?_
    refine sx_aload_n dX2_undo_28 rfl ?_
    refine gg_gets dX2_undo_29 fl_X2_30 (show (gun1 h).1 6 0 4 = h.1 6 0 4 - 1 by unfold gun1; rw [am_U_at, am_u2_hit]) ?_
    refine sx_ald dX2_undo_32 (by first | omega | assumption | (exact ⟨by omega, by omega⟩)) (by first | omega | assumption | (exact ⟨by omega, by omega⟩)) (fun p32 => ?_)
    have hu9 : (h.2 0) < 6 := hG.2.2 _
    have hv9 : (h.2 (2 + (h.1 6 0 4 - 1).toNat)) < 6 := hG.2.2 _
    have huv9 : (h.2 0) ≠ (h.2 (2 + (h.1 6 0 4 - 1).toNat)) := fun q => absurd (hG.1 _ _ (by decide) (by omega) q) (by omega)
    refine sx_heq (am_U (gun1 h) (h.2 0) ((gun1 h).1 (h.2 0))) (am_U_id _ _) ?_
    refine sx_callVv dX2_undo_33 ml_X2_196 mv0_copyFrom (ty_copyFrom hu9 hv9 huv9) rfl (am_obM hu9) rfl (Nat.le_of_ble_eq_true rfl) (Nat.le_of_ble_eq_true rfl) ?_
    refine sx_aload_n dX2_undo_36 rfl ?_
    refine gg_gets dX2_undo_37 fl_X2_30 (show (am_U (gun1 h) (h.2 0) ((gun1 h).1 (h.2 (2 + (h.1 6 0 4 - 1).toNat)))).1 6 0 4 = h.1 6 0 4 - 1 by rw [am_U_ne _ _ (show 6 ≠ h.2 0 by omega)]; unfold gun1; rw [am_U_at, am_u2_hit]) ?_
    exact sx_iret dX2_undo_40 rfl (by unfold gunR; simp only [if_pos c4, if_neg (Int.not_le.mpr c4)]) (by unfold gund; rw [if_pos c4, show (gun1 h).1 (h.2 (2 + (h.1 6 0 4 - 1).toNat)) = h.1 (h.2 (2 + (h.1 6 0 4 - 1).toNat)) from am_U_ne _ _ (by omega)])
  · -- 4f
    refine sx_ldc dX2_undo_7 kc_X2_94 ?_
    exact sx_iret dX2_undo_9 rfl (by unfold gunR; simp only [if_pos c4, if_neg (Int.not_lt.mpr c4)]) (by unfold gund; simp only [if_pos c4, if_neg (Int.not_lt.mpr c4)])
