set_option maxHeartbeats 4000000 in
set_option maxRecDepth 100000 in
theorem tg_remember {h : am_H} (hG : AG h)  : Ct 2 Y2_remember [.inr (6, 0)] none h (grem h) := by
  refine Ct_of (by decide +kernel) (Nat.le_of_ble_eq_true rfl) ?_
  show Sx 2 Y2_remember (grem h) none 0 [some (.inr (6, 0)), none, none] [] h
  have hn4 := hG.2.1
  refine sx_aload_n dX2_remember_0 rfl ?_
  refine gg_gets dX2_remember_1 fl_X2_30 rfl ?_
  refine sx_iconst dX2_remember_4 ?_
  refine sx_icmp_ne (tgt := 59) dX2_remember_5 (by decide) (by first | omega | assumption | (exact ⟨by omega, by omega⟩)) ⟨by decide, by decide⟩ (fun c5 => ?_) (fun c5 => ?_)
  · -- 5t
    refine sx_heq (gr1 h) (by unfold gr1; first | (rw [if_neg c5]; done) | (rw [if_pos c5]; show am_U (grot h) 6 (am_u2 (h.1 6) 0 4 3) = am_U (grot h) 6 (am_u2 (h.1 6) 0 4 (h.1 6 0 4 - 1)); rw [c5]; rfl)) ?_
    have h14 := gr1_4 hG
    refine sx_aload_n dX2_remember_59 rfl ?_
    refine gg_geth dX2_remember_60 fl_X2_11 ?_
    refine sx_aload_n dX2_remember_63 rfl ?_
    refine gg_gets dX2_remember_64 fl_X2_30 rfl ?_
    refine sx_ald dX2_remember_67 (by first | omega | assumption | (exact ⟨by omega, by omega⟩)) (by first | omega | assumption | (exact ⟨by omega, by omega⟩)) (fun p67 => ?_)
    refine sx_aload_n dX2_remember_68 rfl ?_
    refine gg_getp dX2_remember_69 fl_X2_23 rfl ?_
    have hu9 : ((gr1 h).2 (2 + ((gr1 h).1 6 0 4).toNat)) < 6 := gr1_6 hG _
    have hv9 : ((gr1 h).2 0) < 6 := gr1_6 hG _
    have huv9 : ((gr1 h).2 (2 + ((gr1 h).1 6 0 4).toNat)) ≠ ((gr1 h).2 0) := fun q => absurd (gr1_inj hG _ _ (by omega) (by decide) q) (by omega)
    refine sx_heq (am_U (gr1 h) ((gr1 h).2 (2 + ((gr1 h).1 6 0 4).toNat)) ((gr1 h).1 ((gr1 h).2 (2 + ((gr1 h).1 6 0 4).toNat)))) (am_U_id _ _) ?_
    refine sx_callVv dX2_remember_72 ml_X2_196 mv0_copyFrom (ty_copyFrom hu9 hv9 huv9) rfl (am_obM hu9) rfl (Nat.le_of_ble_eq_true rfl) (Nat.le_of_ble_eq_true rfl) ?_
    refine sx_heq (gr2 h) (by unfold gr2; rw [gr1_lo h (k := 0) (by decide)]) ?_
    refine sx_aload_n dX2_remember_75 rfl ?_
    refine sx_dup dX2_remember_76 ?_
    refine gg_gets dX2_remember_77 fl_X2_30 (congrFun (congrFun (am_U_ne _ _ (show 6 ≠ _ by omega)) 0) 4) ?_
    refine sx_iconst dX2_remember_80 ?_
    refine sx_iadd dX2_remember_81 ?_
    refine gg_puts dX2_remember_82 fl_X2_30 (by first | omega | assumption | (exact ⟨by omega, by omega⟩)) ?_
    exact sx_vret dX2_remember_85 rfl rfl (by unfold grem; rw [show (gr2 h).1 6 = (gr1 h).1 6 from am_U_ne _ _ (by omega)])
  · -- 5f
    refine sx_aload_n dX2_remember_8 rfl ?_
    refine gg_geth dX2_remember_9 fl_X2_11 ?_
    refine sx_iconst dX2_remember_12 ?_
    refine sx_ald dX2_remember_13 (by decide) (by decide) (fun p13 => ?_)
    refine sx_astore_n dX2_remember_14 (by decide) ?_
    refine sx_iconst dX2_remember_15 ?_
    refine sx_istore_n dX2_remember_16 (by decide) ?_
    refine sx_iload_n dX2_remember_17 rfl ?_
    refine sx_iconst dX2_remember_18 ?_
    refine sx_icmp_ge (tgt := 42) dX2_remember_19 (by decide) ⟨by decide, by decide⟩ ⟨by decide, by decide⟩ (fun q => absurd q (by decide)) (fun _ => ?_)
    refine sx_aload_n dX2_remember_22 rfl ?_
    refine gg_geth dX2_remember_23 fl_X2_11 ?_
    refine sx_iload_n dX2_remember_26 rfl ?_
    refine sx_iconst dX2_remember_27 ?_
    refine sx_isub dX2_remember_28 ?_
    refine sx_aload_n dX2_remember_29 rfl ?_
    refine gg_geth dX2_remember_30 fl_X2_11 ?_
    refine sx_iload_n dX2_remember_33 rfl ?_
    refine sx_ald dX2_remember_34 (by decide) (by decide) (fun p34 => ?_)
    refine sx_ast dX2_remember_35 (by first | omega | assumption | (exact ⟨by omega, by omega⟩)) (by first | omega | assumption | (exact ⟨by omega, by omega⟩)) p34 ?_
    refine sx_iinc dX2_remember_36 rfl (by decide) ?_
    refine sx_goto (tgt := 17) dX2_remember_39 (by decide) ?_
    refine sx_iload_n dX2_remember_17 rfl ?_
    refine sx_iconst dX2_remember_18 ?_
    refine sx_icmp_ge (tgt := 42) dX2_remember_19 (by decide) ⟨by decide, by decide⟩ ⟨by decide, by decide⟩ (fun q => absurd q (by decide)) (fun _ => ?_)
    refine sx_aload_n dX2_remember_22 rfl ?_
    refine gg_geth dX2_remember_23 fl_X2_11 ?_
    refine sx_iload_n dX2_remember_26 rfl ?_
    refine sx_iconst dX2_remember_27 ?_
    refine sx_isub dX2_remember_28 ?_
    refine sx_aload_n dX2_remember_29 rfl ?_
    refine gg_geth dX2_remember_30 fl_X2_11 ?_
    refine sx_iload_n dX2_remember_33 rfl ?_
    refine sx_ald dX2_remember_34 (by decide) (by decide) (fun p34 => ?_)
    refine sx_ast dX2_remember_35 (by first | omega | assumption | (exact ⟨by omega, by omega⟩)) (by first | omega | assumption | (exact ⟨by omega, by omega⟩)) p34 ?_
    refine sx_iinc dX2_remember_36 rfl (by decide) ?_
    refine sx_goto (tgt := 17) dX2_remember_39 (by decide) ?_
    refine sx_iload_n dX2_remember_17 rfl ?_
    refine sx_iconst dX2_remember_18 ?_
    refine sx_icmp_ge (tgt := 42) dX2_remember_19 (by decide) ⟨by decide, by decide⟩ ⟨by decide, by decide⟩ (fun q => absurd q (by decide)) (fun _ => ?_)
    refine sx_aload_n dX2_remember_22 rfl ?_
    refine gg_geth dX2_remember_23 fl_X2_11 ?_
    refine sx_iload_n dX2_remember_26 rfl ?_
    refine sx_iconst dX2_remember_27 ?_
    refine sx_isub dX2_remember_28 ?_
    refine sx_aload_n dX2_remember_29 rfl ?_
    refine gg_geth dX2_remember_30 fl_X2_11 ?_
    refine sx_iload_n dX2_remember_33 rfl ?_
    refine sx_ald dX2_remember_34 (by decide) (by decide) (fun p34 => ?_)
    refine sx_ast dX2_remember_35 (by first | omega | assumption | (exact ⟨by omega, by omega⟩)) (by first | omega | assumption | (exact ⟨by omega, by omega⟩)) p34 ?_
    refine sx_iinc dX2_remember_36 rfl (by decide) ?_
    refine sx_goto (tgt := 17) dX2_remember_39 (by decide) ?_
    refine sx_iload_n dX2_remember_17 rfl ?_
    refine sx_iconst dX2_remember_18 ?_
    refine sx_icmp_ge (tgt := 42) dX2_remember_19 (by decide) ⟨by decide, by decide⟩ ⟨by decide, by decide⟩ (fun _ => ?_) (fun q => absurd q (by decide))
    refine sx_aload_n dX2_remember_42 rfl ?_
    refine gg_geth dX2_remember_43 fl_X2_11 ?_
    refine sx_iconst dX2_remember_46 ?_
    refine sx_aload_n dX2_remember_47 rfl ?_
    refine sx_ast dX2_remember_48 (by decide) (by decide) p13 ?_
    refine sx_heq (grot h) rfl ?_
    refine sx_aload_n dX2_remember_49 rfl ?_
    refine sx_dup dX2_remember_50 ?_
    refine gg_gets dX2_remember_51 fl_X2_30 (show (grot h).1 6 0 4 = h.1 6 0 4 from rfl) ?_
    refine sx_iconst dX2_remember_54 ?_
    refine sx_isub dX2_remember_55 ?_
    refine gg_puts dX2_remember_56 fl_X2_30 (by first | omega | assumption | (exact ⟨by omega, by omega⟩)) ?_
    refine sx_heq (gr1 h) (by unfold gr1; first | (rw [if_neg c5]; done) | (rw [if_pos c5]; show am_U (grot h) 6 (am_u2 (h.1 6) 0 4 3) = am_U (grot h) 6 (am_u2 (h.1 6) 0 4 (h.1 6 0 4 - 1)); rw [c5]; rfl)) ?_
    have h14 := gr1_4 hG
    refine sx_aload_n dX2_remember_59 rfl ?_
    refine gg_geth dX2_remember_60 fl_X2_11 ?_
    refine sx_aload_n dX2_remember_63 rfl ?_
    refine gg_gets dX2_remember_64 fl_X2_30 rfl ?_
    refine sx_ald dX2_remember_67 (by first | omega | assumption | (exact ⟨by omega, by omega⟩)) (by first | omega | assumption | (exact ⟨by omega, by omega⟩)) (fun p67 => ?_)
    refine sx_aload_n dX2_remember_68 rfl ?_
    refine gg_getp dX2_remember_69 fl_X2_23 rfl ?_
    have hu9 : ((gr1 h).2 (2 + ((gr1 h).1 6 0 4).toNat)) < 6 := gr1_6 hG _
    have hv9 : ((gr1 h).2 0) < 6 := gr1_6 hG _
    have huv9 : ((gr1 h).2 (2 + ((gr1 h).1 6 0 4).toNat)) ≠ ((gr1 h).2 0) := fun q => absurd (gr1_inj hG _ _ (by omega) (by decide) q) (by omega)
    refine sx_heq (am_U (gr1 h) ((gr1 h).2 (2 + ((gr1 h).1 6 0 4).toNat)) ((gr1 h).1 ((gr1 h).2 (2 + ((gr1 h).1 6 0 4).toNat)))) (am_U_id _ _) ?_
    refine sx_callVv dX2_remember_72 ml_X2_196 mv0_copyFrom (ty_copyFrom hu9 hv9 huv9) rfl (am_obM hu9) rfl (Nat.le_of_ble_eq_true rfl) (Nat.le_of_ble_eq_true rfl) ?_
    refine sx_heq (gr2 h) (by unfold gr2; rw [gr1_lo h (k := 0) (by decide)]) ?_
    refine sx_aload_n dX2_remember_75 rfl ?_
    refine sx_dup dX2_remember_76 ?_
    refine gg_gets dX2_remember_77 fl_X2_30 (congrFun (congrFun (am_U_ne _ _ (show 6 ≠ _ by omega)) 0) 4) ?_
    refine sx_iconst dX2_remember_80 ?_
    refine sx_iadd dX2_remember_81 ?_
    refine gg_puts dX2_remember_82 fl_X2_30 (by first | omega | assumption | (exact ⟨by omega, by omega⟩)) ?_
    exact sx_vret dX2_remember_85 rfl rfl (by unfold grem; rw [show (gr2 h).1 6 = (gr1 h).1 6 from am_U_ne _ _ (by omega)])
set_option maxHeartbeats 4000000 in
set_option maxRecDepth 100000 in
theorem tg_settle {h : am_H} (hG : AG h) (a : Int) (haR : am_R a)  : Ct 3 Y2_settle [.inr (6, 0), .inl a] (some (.inl a)) h (gset h a) := by
  refine Ct_of (by decide +kernel) (Nat.le_of_ble_eq_true rfl) ?_
  show Sx 3 Y2_settle (gset h a) (some (.inl a)) 0 [some (.inr (6, 0)), some (.inl a), none] [] h
  have hn4 := hG.2.1
  refine sx_iload_n dX2_settle_0 rfl ?_
  refine sx_if_ge (tgt := 6) dX2_settle_1 (by decide) (by first | omega | assumption | (exact ⟨by omega, by omega⟩)) (fun c1 => ?_) (fun c1 => ?_)
  · -- 1t
    refine sx_aload_n dX2_settle_6 rfl ?_
    refine sx_callVv dX2_settle_7 ml_X2_215 mv2_remember (tg_remember hG) rfl am_obG rfl (Nat.le_of_ble_eq_true rfl) (Nat.le_of_ble_eq_true rfl) ?_
    refine sx_aload_n dX2_settle_10 rfl ?_
    refine gg_getp dX2_settle_11 fl_X2_23 (gr1_lo h (by decide)) ?_
    refine sx_astore_n dX2_settle_14 (by decide) ?_
    refine sx_aload_n dX2_settle_15 rfl ?_
    refine sx_aload_n dX2_settle_16 rfl ?_
    refine gg_gett dX2_settle_17 fl_X2_27 (gr1_lo h (by decide)) ?_
    refine sx_putr (k := 0) dX2_settle_20 fl_X2_23 (by decide) (hG.2.2 _) ?_
    refine sx_aload_n dX2_settle_23 rfl ?_
    refine sx_aload_n dX2_settle_24 rfl ?_
    refine sx_putr (k := 1) dX2_settle_25 fl_X2_27 (by decide) (hG.2.2 _) ?_
    refine sx_iload_n dX2_settle_28 rfl ?_
    exact sx_iret dX2_settle_29 rfl rfl (by unfold gset; first | rw [if_pos (by omega)] | (rw [if_neg (by omega)]; rfl))
  · -- 1f
    refine sx_iload_n dX2_settle_4 rfl ?_
    exact sx_iret dX2_settle_5 rfl rfl (by unfold gset; first | rw [if_pos (by omega)] | (rw [if_neg (by omega)]; rfl))
set_option maxHeartbeats 4000000 in
set_option maxRecDepth 100000 in
theorem tg_lostBy {h0 : am_H} {Z : am_M} (hG : AG h0) (a b : Int) (haR : am_R a) (hbR : am_R b) (hS : YS (gP h0)) (hS2 : b ≠ -1 → YS (ydie (gP h0) a).2)  : Ct 4 Y2_lostBy [.inr (6, 0), .inl a, .inl b] (some (.inl (glR (gP h0) a b))) (am_U h0 (h0.2 1) Z) (am_U h0 (h0.2 1) (glM (gP h0) a b)) := by
  refine Ct_of (by decide +kernel) (Nat.le_of_ble_eq_true rfl) ?_
  show Sx 4 Y2_lostBy (am_U h0 (h0.2 1) (glM (gP h0) a b)) (some (.inl (glR (gP h0) a b))) 0 [some (.inr (6, 0)), some (.inl a), some (.inl b), none, none] [] (am_U h0 (h0.2 1) Z)
  refine sx_vh (fun hV => ?_)
  have hR : ∀ j k, am_R (gP h0 j k) := fun j k => by
    have := hV.1 (h0.2 0) j k
    rwa [gZ_p hG] at this
  refine sx_aload_n dX2_lostBy_0 rfl ?_
  refine sx_callVr dX2_lostBy_1 ml_X2_34 mv2_freshTrial (tg_freshTrial hG) rfl am_obG rfl (Nat.le_of_ble_eq_true rfl) (Nat.le_of_ble_eq_true rfl) ?_
  refine sx_astore_n dX2_lostBy_4 (by decide) ?_
  refine sx_aload_n dX2_lostBy_5 rfl ?_
  refine sx_iload_n dX2_lostBy_6 rfl ?_
  refine sx_callVi dX2_lostBy_7 ml_X2_49 mv0_letDie (ty_letDie (hG.2.2 1) _ hS.1 haR (hS.2.2.1 _)) rfl (am_obM (hG.2.2 1)) rfl (Nat.le_of_ble_eq_true rfl) (Nat.le_of_ble_eq_true rfl) ?_
  refine sx_istore dX2_lostBy_10 (by decide) ?_
  refine sx_iload_n dX2_lostBy_12 rfl ?_
  refine sx_iconst dX2_lostBy_13 ?_
  refine sx_icmp_ne (tgt := 22) dX2_lostBy_14 (by decide) (by first | omega | assumption | (with_reducible first | exact hR _ _ | exact rd_R hR _ _ | exact am_R_and _ _ | exact am_R_or _ _ | exact am_R_xor _ _ | exact am_R_shl _ _ | exact am_R_shr _ _ | exact bit_R _ _ | exact ybc_R _ | exact yps_R _ _) | (exact ⟨by omega, by omega⟩) | exact hR _ _) ⟨by decide, by decide⟩ (fun c14 => ?_) (fun c14 => ?_)
  · -- 14t
    refine sx_iload dX2_lostBy_22 rfl ?_
    refine sx_aload_n dX2_lostBy_24 rfl ?_
    refine sx_iload_n dX2_lostBy_25 rfl ?_
    refine sx_callVi dX2_lostBy_26 ml_X2_49 mv0_letDie (ty_letDie (hG.2.2 1) _ (hS2 c14).1 hbR ((hS2 c14).2.2.1 _)) rfl (am_obM (hG.2.2 1)) rfl (Nat.le_of_ble_eq_true rfl) (Nat.le_of_ble_eq_true rfl) ?_
    refine sx_iadd dX2_lostBy_29 ?_
    exact sx_iret dX2_lostBy_30 rfl (by unfold glR; simp only [if_neg c14]) (by unfold glM; simp only [if_neg c14])
  · -- 14f
    refine sx_iload dX2_lostBy_17 rfl ?_
    refine sx_goto (tgt := 30) dX2_lostBy_19 (by decide) ?_
    exact sx_iret dX2_lostBy_30 rfl (by unfold glR; simp only [if_pos c14]) (by unfold glM; simp only [if_pos c14])
set_option maxHeartbeats 4000000 in
set_option maxRecDepth 100000 in
theorem tg_loss {h0 : am_H} {Z : am_M} (hG : AG h0) (a b : Int) (haR : am_R a) (hbR : am_R b) (hS : YS (gP h0)) (hD : ∀ a, YS (ydie (gP h0) a).2)  : Ct 5 Y2_loss [.inr (6, 0), .inl a, .inl b] (some (.inl (gloR (gP h0) a b))) (am_U h0 (h0.2 1) Z) (am_U h0 (h0.2 1) (gloM (gP h0) Z a b)) := by
  refine Ct_of (by decide +kernel) (Nat.le_of_ble_eq_true rfl) ?_
  show Sx 5 Y2_loss (am_U h0 (h0.2 1) (gloM (gP h0) Z a b)) (some (.inl (gloR (gP h0) a b))) 0 [some (.inr (6, 0)), some (.inl a), some (.inl b)] [] (am_U h0 (h0.2 1) Z)
  refine sx_vh (fun hV => ?_)
  have hR : ∀ j k, am_R (gP h0 j k) := fun j k => by
    have := hV.1 (h0.2 0) j k
    rwa [gZ_p hG] at this
  refine sx_aload_n dX2_loss_0 rfl ?_
  refine gg_getp dX2_loss_1 fl_X2_23 rfl ?_
  refine sx_iload_n dX2_loss_4 rfl ?_
  refine sx_callVi dX2_loss_5 ml_X2_55 mv0_hasChip (Ct_p hG (ty_hasChip (hG.2.2 0) _ (by assumption))) rfl (am_obM (hG.2.2 0)) rfl (Nat.le_of_ble_eq_true rfl) (Nat.le_of_ble_eq_true rfl) ?_
  refine sx_ifB_eq (tgt := 16) dX2_loss_8 (by decide) (fun c8 => ?_) (fun c8 => ?_)
  · -- 8t
    refine sx_ldc dX2_loss_16 kc_X2_59 ?_
    exact sx_iret dX2_loss_18 rfl (by first | (exfalso; omega) | (have hC : gloC (gP h0) a b = -1000001 := (by unfold gloC; simp only [if_neg c8]); unfold gloR; rw [if_neg (by rw [hC]; decide)]; first | done | exact congrArg (fun z => some (Sum.inl z)) hC)) (by first | (exfalso; omega) | (have hC : gloC (gP h0) a b = -1000001 := (by unfold gloC; simp only [if_neg c8]); unfold gloM; rw [if_neg (by rw [hC]; decide)]; first | done | exact congrArg (fun z => some (Sum.inl z)) hC))
  · -- 8f
    refine sx_iload_n dX2_loss_11 rfl ?_
    refine sx_iload_n dX2_loss_12 rfl ?_
    refine sx_icmp_ne (tgt := 19) dX2_loss_13 (by decide) (by first | omega | assumption | (with_reducible first | exact hR _ _ | exact rd_R hR _ _ | exact am_R_and _ _ | exact am_R_or _ _ | exact am_R_xor _ _ | exact am_R_shl _ _ | exact am_R_shr _ _ | exact bit_R _ _ | exact ybc_R _ | exact yps_R _ _) | (exact ⟨by omega, by omega⟩) | exact hR _ _) (by first | omega | assumption | (with_reducible first | exact hR _ _ | exact rd_R hR _ _ | exact am_R_and _ _ | exact am_R_or _ _ | exact am_R_xor _ _ | exact am_R_shl _ _ | exact am_R_shr _ _ | exact bit_R _ _ | exact ybc_R _ | exact yps_R _ _) | (exact ⟨by omega, by omega⟩) | exact hR _ _) (fun c13 => ?_) (fun c13 => ?_)
    · -- 13t
      refine sx_iload_n dX2_loss_19 rfl ?_
      refine sx_iconst dX2_loss_20 ?_
      refine sx_icmp_eq (tgt := 38) dX2_loss_21 (by decide) (by first | omega | assumption | (with_reducible first | exact hR _ _ | exact rd_R hR _ _ | exact am_R_and _ _ | exact am_R_or _ _ | exact am_R_xor _ _ | exact am_R_shl _ _ | exact am_R_shr _ _ | exact bit_R _ _ | exact ybc_R _ | exact yps_R _ _) | (exact ⟨by omega, by omega⟩) | exact hR _ _) ⟨by decide, by decide⟩ (fun c21 => ?_) (fun c21 => ?_)
      · -- 21t
        refine sx_aload_n dX2_loss_38 rfl ?_
        refine gg_getp dX2_loss_39 fl_X2_23 rfl ?_
        refine sx_iload_n dX2_loss_42 rfl ?_
        refine sx_callVi dX2_loss_43 ml_X2_64 mv0_lives (Ct_p hG (ty_lives (hG.2.2 0) _)) rfl (am_obM (hG.2.2 0)) rfl (Nat.le_of_ble_eq_true rfl) (Nat.le_of_ble_eq_true rfl) ?_
        refine sx_ifB_eq (tgt := 65) dX2_loss_46 (by decide) (fun c46 => ?_) (fun c46 => ?_)
        · -- 46t
          refine sx_ldc dX2_loss_65 kc_X2_94 ?_
          exact sx_iret dX2_loss_67 rfl (by first | (exfalso; omega) | (have hC : gloC (gP h0) a b = -1000002 := (by unfold gloC; simp only [if_pos c8, if_neg c13, if_pos c21, if_neg c46]); unfold gloR; rw [if_neg (by rw [hC]; decide)]; first | done | exact congrArg (fun z => some (Sum.inl z)) hC)) (by first | (exfalso; omega) | (have hC : gloC (gP h0) a b = -1000002 := (by unfold gloC; simp only [if_pos c8, if_neg c13, if_pos c21, if_neg c46]); unfold gloM; rw [if_neg (by rw [hC]; decide)]; first | done | exact congrArg (fun z => some (Sum.inl z)) hC))
        · -- 46f
          refine sx_iload_n dX2_loss_49 rfl ?_
          refine sx_iconst dX2_loss_50 ?_
          refine sx_icmp_eq (tgt := 68) dX2_loss_51 (by decide) (by first | omega | assumption | (with_reducible first | exact hR _ _ | exact rd_R hR _ _ | exact am_R_and _ _ | exact am_R_or _ _ | exact am_R_xor _ _ | exact am_R_shl _ _ | exact am_R_shr _ _ | exact bit_R _ _ | exact ybc_R _ | exact yps_R _ _) | (exact ⟨by omega, by omega⟩) | exact hR _ _) ⟨by decide, by decide⟩ (fun c51 => ?_) (fun c51 => ?_)
          · -- 51t
            refine sx_aload_n dX2_loss_68 rfl ?_
            refine sx_iload_n dX2_loss_69 rfl ?_
            refine sx_iload_n dX2_loss_70 rfl ?_
            refine sx_callVi dX2_loss_71 ml_X2_162 mv2_lostBy (tg_lostBy hG _ _ (by first | assumption | exact ⟨by omega, by omega⟩ | exact ⟨by decide, by decide⟩) (by first | assumption | exact ⟨by omega, by omega⟩ | exact ⟨by decide, by decide⟩) hS (fun _ => hD _)) rfl am_obG rfl (Nat.le_of_ble_eq_true rfl) (Nat.le_of_ble_eq_true rfl) ?_
            exact sx_iret dX2_loss_74 rfl (by first | (exfalso; omega) | (have hC : gloC (gP h0) a b = 0 := (by unfold gloC; simp only [if_pos c8, if_neg c13, if_pos c21, if_pos c46, if_pos c51]); unfold gloR; rw [if_pos hC])) (by first | (exfalso; omega) | (have hC : gloC (gP h0) a b = 0 := (by unfold gloC; simp only [if_pos c8, if_neg c13, if_pos c21, if_pos c46, if_pos c51]); unfold gloM; rw [if_pos hC]))
          · -- 51f
            refine sx_aload_n dX2_loss_54 rfl ?_
            refine gg_getp dX2_loss_55 fl_X2_23 rfl ?_
            refine sx_iload_n dX2_loss_58 rfl ?_
            refine sx_callVi dX2_loss_59 ml_X2_64 mv0_lives (Ct_p hG (ty_lives (hG.2.2 0) _)) rfl (am_obM (hG.2.2 0)) rfl (Nat.le_of_ble_eq_true rfl) (Nat.le_of_ble_eq_true rfl) ?_
            refine sx_ifB_ne (tgt := 68) dX2_loss_62 (by decide) (fun c62 => ?_) (fun c62 => ?_)
            · -- 62t
              refine sx_aload_n dX2_loss_68 rfl ?_
              refine sx_iload_n dX2_loss_69 rfl ?_
              refine sx_iload_n dX2_loss_70 rfl ?_
              refine sx_callVi dX2_loss_71 ml_X2_162 mv2_lostBy (tg_lostBy hG _ _ (by first | assumption | exact ⟨by omega, by omega⟩ | exact ⟨by decide, by decide⟩) (by first | assumption | exact ⟨by omega, by omega⟩ | exact ⟨by decide, by decide⟩) hS (fun _ => hD _)) rfl am_obG rfl (Nat.le_of_ble_eq_true rfl) (Nat.le_of_ble_eq_true rfl) ?_
              exact sx_iret dX2_loss_74 rfl (by first | (exfalso; omega) | (have hC : gloC (gP h0) a b = 0 := (by unfold gloC; simp only [if_pos c8, if_neg c13, if_pos c21, if_pos c46, if_neg c51, if_pos c62]); unfold gloR; rw [if_pos hC])) (by first | (exfalso; omega) | (have hC : gloC (gP h0) a b = 0 := (by unfold gloC; simp only [if_pos c8, if_neg c13, if_pos c21, if_pos c46, if_neg c51, if_pos c62]); unfold gloM; rw [if_pos hC]))
            · -- 62f
              refine sx_ldc dX2_loss_65 kc_X2_94 ?_
              exact sx_iret dX2_loss_67 rfl (by first | (exfalso; omega) | (have hC : gloC (gP h0) a b = -1000002 := (by unfold gloC; simp only [if_pos c8, if_neg c13, if_pos c21, if_pos c46, if_neg c51, if_neg c62]); unfold gloR; rw [if_neg (by rw [hC]; decide)]; first | done | exact congrArg (fun z => some (Sum.inl z)) hC)) (by first | (exfalso; omega) | (have hC : gloC (gP h0) a b = -1000002 := (by unfold gloC; simp only [if_pos c8, if_neg c13, if_pos c21, if_pos c46, if_neg c51, if_neg c62]); unfold gloM; rw [if_neg (by rw [hC]; decide)]; first | done | exact congrArg (fun z => some (Sum.inl z)) hC))
      · -- 21f
        refine sx_aload_n dX2_loss_24 rfl ?_
        refine gg_getp dX2_loss_25 fl_X2_23 rfl ?_
        refine sx_iload_n dX2_loss_28 rfl ?_
        refine sx_callVi dX2_loss_29 ml_X2_55 mv0_hasChip (Ct_p hG (ty_hasChip (hG.2.2 0) _ (by assumption))) rfl (am_obM (hG.2.2 0)) rfl (Nat.le_of_ble_eq_true rfl) (Nat.le_of_ble_eq_true rfl) ?_
        refine sx_ifB_ne (tgt := 38) dX2_loss_32 (by decide) (fun c32 => ?_) (fun c32 => ?_)
        · -- 32t
          refine sx_aload_n dX2_loss_38 rfl ?_
          refine gg_getp dX2_loss_39 fl_X2_23 rfl ?_
          refine sx_iload_n dX2_loss_42 rfl ?_
          refine sx_callVi dX2_loss_43 ml_X2_64 mv0_lives (Ct_p hG (ty_lives (hG.2.2 0) _)) rfl (am_obM (hG.2.2 0)) rfl (Nat.le_of_ble_eq_true rfl) (Nat.le_of_ble_eq_true rfl) ?_
          refine sx_ifB_eq (tgt := 65) dX2_loss_46 (by decide) (fun c46 => ?_) (fun c46 => ?_)
          · -- 46t
            refine sx_ldc dX2_loss_65 kc_X2_94 ?_
            exact sx_iret dX2_loss_67 rfl (by first | (exfalso; omega) | (have hC : gloC (gP h0) a b = -1000002 := (by unfold gloC; simp only [if_pos c8, if_neg c13, if_neg c21, if_pos c32, if_neg c46]); unfold gloR; rw [if_neg (by rw [hC]; decide)]; first | done | exact congrArg (fun z => some (Sum.inl z)) hC)) (by first | (exfalso; omega) | (have hC : gloC (gP h0) a b = -1000002 := (by unfold gloC; simp only [if_pos c8, if_neg c13, if_neg c21, if_pos c32, if_neg c46]); unfold gloM; rw [if_neg (by rw [hC]; decide)]; first | done | exact congrArg (fun z => some (Sum.inl z)) hC))
          · -- 46f
            refine sx_iload_n dX2_loss_49 rfl ?_
            refine sx_iconst dX2_loss_50 ?_
            refine sx_icmp_eq (tgt := 68) dX2_loss_51 (by decide) (by first | omega | assumption | (with_reducible first | exact hR _ _ | exact rd_R hR _ _ | exact am_R_and _ _ | exact am_R_or _ _ | exact am_R_xor _ _ | exact am_R_shl _ _ | exact am_R_shr _ _ | exact bit_R _ _ | exact ybc_R _ | exact yps_R _ _) | (exact ⟨by omega, by omega⟩) | exact hR _ _) ⟨by decide, by decide⟩ (fun c51 => ?_) (fun c51 => ?_)
            · -- 51t
              refine sx_aload_n dX2_loss_68 rfl ?_
              refine sx_iload_n dX2_loss_69 rfl ?_
              refine sx_iload_n dX2_loss_70 rfl ?_
              refine sx_callVi dX2_loss_71 ml_X2_162 mv2_lostBy (tg_lostBy hG _ _ (by first | assumption | exact ⟨by omega, by omega⟩ | exact ⟨by decide, by decide⟩) (by first | assumption | exact ⟨by omega, by omega⟩ | exact ⟨by decide, by decide⟩) hS (fun _ => hD _)) rfl am_obG rfl (Nat.le_of_ble_eq_true rfl) (Nat.le_of_ble_eq_true rfl) ?_
              exact sx_iret dX2_loss_74 rfl (by first | (exfalso; omega) | (have hC : gloC (gP h0) a b = 0 := (by unfold gloC; simp only [if_pos c8, if_neg c13, if_neg c21, if_pos c32, if_pos c46, if_pos c51]); unfold gloR; rw [if_pos hC])) (by first | (exfalso; omega) | (have hC : gloC (gP h0) a b = 0 := (by unfold gloC; simp only [if_pos c8, if_neg c13, if_neg c21, if_pos c32, if_pos c46, if_pos c51]); unfold gloM; rw [if_pos hC]))
            · -- 51f
              refine sx_aload_n dX2_loss_54 rfl ?_
              refine gg_getp dX2_loss_55 fl_X2_23 rfl ?_
              refine sx_iload_n dX2_loss_58 rfl ?_
              refine sx_callVi dX2_loss_59 ml_X2_64 mv0_lives (Ct_p hG (ty_lives (hG.2.2 0) _)) rfl (am_obM (hG.2.2 0)) rfl (Nat.le_of_ble_eq_true rfl) (Nat.le_of_ble_eq_true rfl) ?_
              refine sx_ifB_ne (tgt := 68) dX2_loss_62 (by decide) (fun c62 => ?_) (fun c62 => ?_)
              · -- 62t
                refine sx_aload_n dX2_loss_68 rfl ?_
                refine sx_iload_n dX2_loss_69 rfl ?_
                refine sx_iload_n dX2_loss_70 rfl ?_
                refine sx_callVi dX2_loss_71 ml_X2_162 mv2_lostBy (tg_lostBy hG _ _ (by first | assumption | exact ⟨by omega, by omega⟩ | exact ⟨by decide, by decide⟩) (by first | assumption | exact ⟨by omega, by omega⟩ | exact ⟨by decide, by decide⟩) hS (fun _ => hD _)) rfl am_obG rfl (Nat.le_of_ble_eq_true rfl) (Nat.le_of_ble_eq_true rfl) ?_
                exact sx_iret dX2_loss_74 rfl (by first | (exfalso; omega) | (have hC : gloC (gP h0) a b = 0 := (by unfold gloC; simp only [if_pos c8, if_neg c13, if_neg c21, if_pos c32, if_pos c46, if_neg c51, if_pos c62]); unfold gloR; rw [if_pos hC])) (by first | (exfalso; omega) | (have hC : gloC (gP h0) a b = 0 := (by unfold gloC; simp only [if_pos c8, if_neg c13, if_neg c21, if_pos c32, if_pos c46, if_neg c51, if_pos c62]); unfold gloM; rw [if_pos hC]))
              · -- 62f
                refine sx_ldc dX2_loss_65 kc_X2_94 ?_
                exact sx_iret dX2_loss_67 rfl (by first | (exfalso; omega) | (have hC : gloC (gP h0) a b = -1000002 := (by unfold gloC; simp only [if_pos c8, if_neg c13, if_neg c21, if_pos c32, if_pos c46, if_neg c51, if_neg c62]); unfold gloR; rw [if_neg (by rw [hC]; decide)]; first | done | exact congrArg (fun z => some (Sum.inl z)) hC)) (by first | (exfalso; omega) | (have hC : gloC (gP h0) a b = -1000002 := (by unfold gloC; simp only [if_pos c8, if_neg c13, if_neg c21, if_pos c32, if_pos c46, if_neg c51, if_neg c62]); unfold gloM; rw [if_neg (by rw [hC]; decide)]; first | done | exact congrArg (fun z => some (Sum.inl z)) hC))
        · -- 32f
          refine sx_ldc dX2_loss_35 kc_X2_59 ?_
          exact sx_iret dX2_loss_37 rfl (by first | (exfalso; omega) | (have hC : gloC (gP h0) a b = -1000001 := (by unfold gloC; simp only [if_pos c8, if_neg c13, if_neg c21, if_neg c32]); unfold gloR; rw [if_neg (by rw [hC]; decide)]; first | done | exact congrArg (fun z => some (Sum.inl z)) hC)) (by first | (exfalso; omega) | (have hC : gloC (gP h0) a b = -1000001 := (by unfold gloC; simp only [if_pos c8, if_neg c13, if_neg c21, if_neg c32]); unfold gloM; rw [if_neg (by rw [hC]; decide)]; first | done | exact congrArg (fun z => some (Sum.inl z)) hC))
    · -- 13f
      refine sx_ldc dX2_loss_16 kc_X2_59 ?_
      exact sx_iret dX2_loss_18 rfl (by first | (exfalso; omega) | (have hC : gloC (gP h0) a b = -1000001 := (by unfold gloC; simp only [if_pos c8, if_pos c13]); unfold gloR; rw [if_neg (by rw [hC]; decide)]; first | done | exact congrArg (fun z => some (Sum.inl z)) hC)) (by first | (exfalso; omega) | (have hC : gloC (gP h0) a b = -1000001 := (by unfold gloC; simp only [if_pos c8, if_pos c13]); unfold gloM; rw [if_neg (by rw [hC]; decide)]; first | done | exact congrArg (fun z => some (Sum.inl z)) hC))
set_option maxHeartbeats 4000000 in
set_option maxRecDepth 100000 in
theorem tg_safe {h0 : am_H} {Z : am_M} (hG : AG h0) (hW : WM (gP h0)) (hS : YS (gP h0)) (hD : ∀ a, YS (ydie (gP h0) a).2)  : Ct 5 Y2_safe [.inr (6, 0)] (some (.inl (gsf (gP h0) Z (gP h0 0 0).toNat).1)) (am_U h0 (h0.2 1) Z) (am_U h0 (h0.2 1) (gsf (gP h0) Z (gP h0 0 0).toNat).2) := by
  refine Ct_of (by decide +kernel) (Nat.le_of_ble_eq_true rfl) ?_
  show Sx 5 Y2_safe (am_U h0 (h0.2 1) (gsf (gP h0) Z (gP h0 0 0).toNat).2) (some (.inl (gsf (gP h0) Z (gP h0 0 0).toNat).1)) 0 [some (.inr (6, 0)), none, none] [] (am_U h0 (h0.2 1) Z)
  refine sx_vh (fun hV => ?_)
  have hR : ∀ j k, am_R (gP h0 j k) := fun j k => by
    have := hV.1 (h0.2 0) j k
    rwa [gZ_p hG] at this
  obtain ⟨w0, w2, w1, w5, w8, w12, wb⟩ := id hW
  refine sx_iconst dX2_safe_0 ?_
  refine sx_istore_n dX2_safe_1 (by decide) ?_
  refine sx_iconst dX2_safe_2 ?_
  refine sx_istore_n dX2_safe_3 (by decide) ?_
  have loop4 : ∀ (n : Nat) (g : Int) (c : Nat) (Z2 : am_M), (gP h0 0 0 - c).toNat = n → (c : Int) ≤ gP h0 0 0 → gsf (gP h0) Z c = (g, Z2) → Sx 5 Y2_safe (am_U h0 (h0.2 1) (gsf (gP h0) Z (gP h0 0 0).toNat).2) (some (.inl (gsf (gP h0) Z (gP h0 0 0).toNat).1)) 4 [some (.inr (6, 0)), some (.inl g), some (.inl (c : Int))] [] (am_U h0 (h0.2 1) Z2) := by
    intro n
    induction n using Nat.strongRecOn with
    | _ n ih4 =>
      intro g c Z2 hn hle hq
      refine sx_iload_n dX2_safe_4 rfl ?_
      refine sx_aload_n dX2_safe_5 rfl ?_
      refine gg_getp dX2_safe_6 fl_X2_23 rfl ?_
      refine gz_geti hG dX2_safe_9 fl_X2_165 (by decide) (fun r9 => ?_)
      refine sx_icmp_ge (tgt := 47) dX2_safe_12 (by decide) (by first | omega | assumption | exact glR_R _ _ _ | (with_reducible first | exact hR _ _ | exact rd_R hR _ _ | exact am_R_and _ _ | exact am_R_or _ _ | exact am_R_xor _ _ | exact am_R_shl _ _ | exact am_R_shr _ _ | exact bit_R _ _) | (exact ⟨by omega, by omega⟩) | exact hR _ _) (by first | omega | assumption | exact glR_R _ _ _ | (with_reducible first | exact hR _ _ | exact rd_R hR _ _ | exact am_R_and _ _ | exact am_R_or _ _ | exact am_R_xor _ _ | exact am_R_shl _ _ | exact am_R_shr _ _ | exact bit_R _ _) | (exact ⟨by omega, by omega⟩) | exact hR _ _) (fun c12 => ?_) (fun c12 => ?_)
      · -- 12t
        refine sx_iload_n dX2_safe_47 rfl ?_
        exact sx_iret dX2_safe_48 rfl (by rw [show (gP h0 0 0).toNat = c by omega, hq]) (by rw [show (gP h0 0 0).toNat = c by omega, hq])
      · -- 12f
        refine sx_aload_n dX2_safe_15 rfl ?_
        refine gg_getp dX2_safe_16 fl_X2_23 rfl ?_
        refine sx_iload_n dX2_safe_19 rfl ?_
        refine sx_callVi dX2_safe_20 ml_X2_64 mv0_lives (Ct_p hG (ty_lives (hG.2.2 0) _)) rfl (am_obM (hG.2.2 0)) rfl (Nat.le_of_ble_eq_true rfl) (Nat.le_of_ble_eq_true rfl) ?_
        refine sx_ifB_eq (tgt := 41) dX2_safe_23 (by decide) (fun c23 => ?_) (fun c23 => ?_)
        · -- 23t
          refine sx_iinc dX2_safe_41 rfl (by decide) ?_
          refine sx_goto (tgt := 4) dX2_safe_44 (by decide) ?_
          exact ih4 _ (by omega) _ (c + 1) _ rfl (by omega) (by simp only [gsf, hq]; rw [if_neg c23])
        · -- 23f
          refine sx_aload_n dX2_safe_26 rfl ?_
          refine sx_iload_n dX2_safe_27 rfl ?_
          refine sx_iconst dX2_safe_28 ?_
          refine sx_callVi dX2_safe_29 ml_X2_162 mv2_lostBy (tg_lostBy hG _ _ (by first | assumption | exact ⟨by omega, by omega⟩ | exact ⟨by decide, by decide⟩) (by first | assumption | exact ⟨by omega, by omega⟩ | exact ⟨by decide, by decide⟩) hS (fun _ => hD _)) rfl am_obG rfl (Nat.le_of_ble_eq_true rfl) (Nat.le_of_ble_eq_true rfl) ?_
          refine sx_if_ne (tgt := 41) dX2_safe_32 (by decide) (by first | omega | assumption | exact glR_R _ _ _ | (with_reducible first | exact hR _ _ | exact rd_R hR _ _ | exact am_R_and _ _ | exact am_R_or _ _ | exact am_R_xor _ _ | exact am_R_shl _ _ | exact am_R_shr _ _ | exact bit_R _ _) | (exact ⟨by omega, by omega⟩) | exact hR _ _) (fun c32 => ?_) (fun c32 => ?_)
          · -- 32t
            refine sx_iinc dX2_safe_41 rfl (by decide) ?_
            refine sx_goto (tgt := 4) dX2_safe_44 (by decide) ?_
            exact ih4 _ (by omega) _ (c + 1) _ rfl (by omega) (by simp only [gsf, hq]; rw [if_pos c23, if_neg c32])
          · -- 32f
            refine sx_iload_n dX2_safe_35 rfl ?_
            refine sx_iconst dX2_safe_36 ?_
            refine sx_iload_n dX2_safe_37 rfl ?_
            refine sx_ishl dX2_safe_38 ?_
            refine sx_ior dX2_safe_39 ?_
            refine sx_istore_n dX2_safe_40 (by decide) ?_
            refine sx_iinc dX2_safe_41 rfl (by decide) ?_
            refine sx_goto (tgt := 4) dX2_safe_44 (by decide) ?_
            exact ih4 _ (by omega) _ (c + 1) _ rfl (by omega) (by simp only [gsf, hq]; rw [if_pos c23, if_pos c32])
  exact loop4 _ 0 0 Z rfl (by omega) rfl
