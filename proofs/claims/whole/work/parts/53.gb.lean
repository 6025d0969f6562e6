set_option maxHeartbeats 4000000 in
set_option maxRecDepth 100000 in
theorem tg_remember {h : am_H} (hG : AG h)  : Ct 2 Y2_remember [.inr (6, 0)] none h (grem h) := by
  refine Ct_of (by decide +kernel) (Nat.le_of_ble_eq_true rfl) ?_
  show Sx 2 Y2_remember (grem h) none 0 [some (.inr (6, 0)), none, none] [] h
  have hn4 := hG.2.1
  refine sx_aload_n dX2_remember_0 rfl ?_
  refine gg_gets dX2_remember_1 fl_X2_30 rfl ?_
  refine sx_iconst dX2_remember_4 ?_
  refine sx_icmp_ne (tgt := 59) dX2_remember_5 (by decide) (by first | omega | assumption | (exact ⟨by omega, by omega⟩)) ⟨by decide, by decide⟩ (fun c5 => ?_) (fun c5 => ?_)
  · -- 5t
    refine sx_heq (gr1 h) (by unfold gr1; first | (rw [if_neg c5]; done) | (rw [if_pos c5]; show am_U (grot h) 6 (am_u2 (h.1 6) 0 4 3) = am_U (grot h) 6 (am_u2 (h.1 6) 0 4 (h.1 6 0 4 - 1)); rw [c5]; rfl)) ?_
    have h14 := gr1_4 hG
    refine sx_aload_n dX2_remember_59 rfl ?_
    refine gg_geth dX2_remember_60 fl_X2_11 ?_
    refine sx_aload_n dX2_remember_63 rfl ?_
    refine gg_gets dX2_remember_64 fl_X2_30 rfl ?_
    refine sx_ald dX2_remember_67 (by first | omega | assumption | (exact ⟨by omega, by omega⟩)) (by first | omega | assumption | (exact ⟨by omega, by omega⟩)) (fun p67 => ?_)
    refine sx_aload_n dX2_remember_68 rfl ?_
    refine gg_getp dX2_remember_69 fl_X2_23 rfl ?_
    have hu9 : ((gr1 h).2 (2 + ((gr1 h).1 6 0 4).toNat)) < 6 := gr1_6 hG _
    have hv9 : ((gr1 h).2 0) < 6 := gr1_6 hG _
    have huv9 : ((gr1 h).2 (2 + ((gr1 h).1 6 0 4).toNat)) ≠ ((gr1 h).2 0) := fun q => absurd (gr1_inj hG _ _ (by omega) (by decide) q) (by omega)
    refine sx_heq (am_U (gr1 h) ((gr1 h).2 (2 + ((gr1 h).1 6 0 4).toNat)) ((gr1 h).1 ((gr1 h).2 (2 + ((gr1 h).1 6 0 4).toNat)))) (am_U_id _ _) ?_
    refine sx_callVv dX2_remember_72 ml_X2_196 mv0_copyFrom (ty_copyFrom hu9 hv9 huv9) rfl (am_obM hu9) rfl (Nat.le_of_ble_eq_true rfl) (Nat.le_of_ble_eq_true rfl) ?_
    refine sx_heq (gr2 h) (by unfold gr2; rw [gr1_lo h (k := 0) (by decide)]) ?_
    refine sx_aload_n dX2_remember_75 rfl ?_
    refine sx_dup dX2_remember_76 ?_
    refine gg_gets dX2_remember_77 fl_X2_30 (congrFun (congrFun (am_U_ne _ _ (show 6 ≠ _ by omega)) 0) 4) ?_
    refine sx_iconst dX2_remember_80 ?_
    refine sx_iadd dX2_remember_81 ?_
    refine gg_puts dX2_remember_82 fl_X2_30 (by first | omega | assumption | (exact ⟨by omega, by omega⟩)) ?_
    exact sx_vret dX2_remember_85 rfl rfl (by unfold grem; rw [show (gr2 h).1 6 = (gr1 h).1 6 from am_U_ne _ _ (by omega)])
  · -- 5f
    refine sx_aload_n dX2_remember_8 rfl ?_
    refine gg_geth dX2_remember_9 fl_X2_11 ?_
    refine sx_iconst dX2_remember_12 ?_
    refine sx_ald dX2_remember_13 (by decide) (by decide) (fun p13 => ?_)
    refine sx_astore_n dX2_remember_14 (by decide) ?_
    refine sx_iconst dX2_remember_15 ?_
    refine sx_istore_n dX2_remember_16 (by decide) ?_
    refine sx_iload_n dX2_remember_17 rfl ?_
    refine sx_iconst dX2_remember_18 ?_
    refine sx_icmp_ge (tgt := 42) dX2_remember_19 (by decide) ⟨by decide, by decide⟩ ⟨by decide, by decide⟩ (fun q => absurd q (by decide)) (fun _ => ?_)
    refine sx_aload_n dX2_remember_22 rfl ?_
    refine gg_geth dX2_remember_23 fl_X2_11 ?_
    refine sx_iload_n dX2_remember_26 rfl ?_
    refine sx_iconst dX2_remember_27 ?_
    refine sx_isub dX2_remember_28 ?_
    refine sx_aload_n dX2_remember_29 rfl ?_
    refine gg_geth dX2_remember_30 fl_X2_11 ?_
    refine sx_iload_n dX2_remember_33 rfl ?_
    refine sx_ald dX2_remember_34 (by decide) (by decide) (fun p34 => ?_)
    refine sx_ast dX2_remember_35 (by first | omega | assumption | (exact ⟨by omega, by omega⟩)) (by first | omega | assumption | (exact ⟨by omega, by omega⟩)) p34 ?_
    refine sx_iinc dX2_remember_36 rfl (by decide) ?_
    refine sx_goto (tgt := 17) dX2_remember_39 (by decide) ?_
    refine sx_iload_n dX2_remember_17 rfl ?_
    refine sx_iconst dX2_remember_18 ?_
    refine sx_icmp_ge (tgt := 42) dX2_remember_19 (by decide) ⟨by decide, by decide⟩ ⟨by decide, by decide⟩ (fun q => absurd q (by decide)) (fun _ => ?_)
    refine sx_aload_n dX2_remember_22 rfl ?_
    refine gg_geth dX2_remember_23 fl_X2_11 ?_
    refine sx_iload_n dX2_remember_26 rfl ?_
    refine sx_iconst dX2_remember_27 ?_
    refine sx_isub dX2_remember_28 ?_
    refine sx_aload_n dX2_remember_29 rfl ?_
    refine gg_geth dX2_remember_30 fl_X2_11 ?_
    refine sx_iload_n dX2_remember_33 rfl ?_
    refine sx_ald dX2_remember_34 (by decide) (by decide) (fun p34 => ?_)
    refine sx_ast dX2_remember_35 (by first | omega | assumption | (exact ⟨by omega, by omega⟩)) (by first | omega | assumption | (exact ⟨by omega, by omega⟩)) p34 ?_
    refine sx_iinc dX2_remember_36 rfl (by decide) ?_
    refine sx_goto (tgt := 17) dX2_remember_39 (by decide) ?_
    refine sx_iload_n dX2_remember_17 rfl ?_
    refine sx_iconst dX2_remember_18 ?_
    refine sx_icmp_ge (tgt := 42) dX2_remember_19 (by decide) ⟨by decide, by decide⟩ ⟨by decide, by decide⟩ (fun q => absurd q (by decide)) (fun _ => ?_)
    refine sx_aload_n dX2_remember_22 rfl ?_
    refine gg_geth dX2_remember_23 fl_X2_11 ?_
    refine sx_iload_n dX2_remember_26 rfl ?_
    refine sx_iconst dX2_remember_27 ?_
    refine sx_isub dX2_remember_28 ?_
    refine sx_aload_n dX2_remember_29 rfl ?_
    refine gg_geth dX2_remember_30 fl_X2_11 ?_
    refine sx_iload_n dX2_remember_33 rfl ?_
    refine sx_ald dX2_remember_34 (by decide) (by decide) (fun p34 => ?_)
    refine sx_ast dX2_remember_35 (by first | omega | assumption | (exact ⟨by omega, by omega⟩)) (by first | omega | assumption | (exact ⟨by omega, by omega⟩)) p34 ?_
    refine sx_iinc dX2_remember_36 rfl (by decide) ?_
    refine sx_goto (tgt := 17) dX2_remember_39 (by decide) ?_
    refine sx_iload_n dX2_remember_17 rfl ?_
    refine sx_iconst dX2_remember_18 ?_
    refine sx_icmp_ge (tgt := 42) dX2_remember_19 (by decide) ⟨by decide, by decide⟩ ⟨by decide, by decide⟩ (fun _ => ?_) (fun q => absurd q (by decide))
    refine sx_aload_n dX2_remember_42 rfl ?_
    refine gg_geth dX2_remember_43 fl_X2_11 ?_
    refine sx_iconst dX2_remember_46 ?_
    refine sx_aload_n dX2_remember_47 rfl ?_
    refine sx_ast dX2_remember_48 (by decide) (by decide) p13 ?_
    refine sx_heq (grot h) rfl ?_
    refine sx_aload_n dX2_remember_49 rfl ?_
    refine sx_dup dX2_remember_50 ?_
    refine gg_gets dX2_remember_51 fl_X2_30 (show (grot h).1 6 0 4 = h.1 6 0 4 from rfl) ?_
    refine sx_iconst dX2_remember_54 ?_
    refine sx_isub dX2_remember_55 ?_
    refine gg_puts dX2_remember_56 fl_X2_30 (by first | omega | assumption | (exact ⟨by omega, by omega⟩)) ?_
    refine sx_heq (gr1 h) (by unfold gr1; first | (rw [if_neg c5]; done) | (rw [if_pos c5]; show am_U (grot h) 6 (am_u2 (h.1 6) 0 4 3) = am_U (grot h) 6 (am_u2 (h.1 6) 0 4 (h.1 6 0 4 - 1)); rw [c5]; rfl)) ?_
    have h14 := gr1_4 hG
    refine sx_aload_n dX2_remember_59 rfl ?_
    refine gg_geth dX2_remember_60 fl_X2_11 ?_
    refine sx_aload_n dX2_remember_63 rfl ?_
    refine gg_gets dX2_remember_64 fl_X2_30 rfl ?_
    refine sx_ald dX2_remember_67 (by first | omega | assumption | (exact ⟨by omega, by omega⟩)) (by first | omega | assumption | (exact ⟨by omega, by omega⟩)) (fun p67 => ?_)
    refine sx_aload_n dX2_remember_68 rfl ?_
    refine gg_getp dX2_remember_69 fl_X2_23 rfl ?_
    have hu9 : ((gr1 h).2 (2 + ((gr1 h).1 6 0 4).toNat)) < 6 := gr1_6 hG _
    have hv9 : ((gr1 h).2 0) < 6 := gr1_6 hG _
    have huv9 : ((gr1 h).2 (2 + ((gr1 h).1 6 0 4).toNat)) ≠ ((gr1 h).2 0) := fun q => absurd (gr1_inj hG _ _ (by omega) (by decide) q) (by omega)
    refine sx_heq (am_U (gr1 h) ((gr1 h).2 (2 + ((gr1 h).1 6 0 4).toNat)) ((gr1 h).1 ((gr1 h).2 (2 + ((gr1 h).1 6 0 4).toNat)))) (am_U_id _ _) ?_
    refine sx_callVv dX2_remember_72 ml_X2_196 mv0_copyFrom (ty_copyFrom hu9 hv9 huv9) rfl (am_obM hu9) rfl (Nat.le_of_ble_eq_true rfl) (Nat.le_of_ble_eq_true rfl) ?_
    refine sx_heq (gr2 h) (by unfold gr2; rw [gr1_lo h (k := 0) (by decide)]) ?_
    refine sx_aload_n dX2_remember_75 rfl ?_
    refine sx_dup dX2_remember_76 ?_
    refine gg_gets dX2_remember_77 fl_X2_30 (congrFun (congrFun (am_U_ne _ _ (show 6 ≠ _ by omega)) 0) 4) ?_
    refine sx_iconst dX2_remember_80 ?_
    refine sx_iadd dX2_remember_81 ?_
    refine gg_puts dX2_remember_82 fl_X2_30 (by first | omega | assumption | (exact ⟨by omega, by omega⟩)) ?_
    exact sx_vret dX2_remember_85 rfl rfl (by unfold grem; rw [show (gr2 h).1 6 = (gr1 h).1 6 from am_U_ne _ _ (by omega)])
set_option maxHeartbeats 4000000 in
set_option maxRecDepth 100000 in
theorem tg_settle {h : am_H} (hG : AG h) (a : Int) (haR : am_R a)  : Ct 3 Y2_settle [.inr (6, 0), .inl a] (some (.inl a)) h (gset h a) := by
  refine Ct_of (by decide +kernel) (Nat.le_of_ble_eq_true rfl) ?_
  show Sx 3 Y2_settle (gset h a) (some (.inl a)) 0 [some (.inr (6, 0)), some (.inl a), none] [] h
  have hn4 := hG.2.1
  refine sx_iload_n dX2_settle_0 rfl ?_
  refine sx_if_ge (tgt := 6) dX2_settle_1 (by decide) (by first | omega | assumption | (exact ⟨by omega, by omega⟩)) (fun c1 => ?_) (fun c1 => ?_)
  · -- 1t
    refine sx_aload_n dX2_settle_6 rfl ?_
    refine sx_callVv dX2_settle_7 ml_X2_215 mv2_remember (tg_remember hG) rfl am_obG rfl (Nat.le_of_ble_eq_true rfl) (Nat.le_of_ble_eq_true rfl) ?_
    refine sx_aload_n dX2_settle_10 rfl ?_
    refine gg_getp dX2_settle_11 fl_X2_23 (gr1_lo h (by decide)) ?_
    refine sx_astore_n dX2_settle_14 (by decide) ?_
    refine sx_aload_n dX2_settle_15 rfl ?_
    refine sx_aload_n dX2_settle_16 rfl ?_
    refine gg_gett dX2_settle_17 fl_X2_27 (gr1_lo h (by decide)) ?_
    refine sx_putr (k := 0) dX2_settle_20 fl_X2_23 (by decide) (hG.2.2 _) ?_
    refine sx_aload_n dX2_settle_23 rfl ?_
    refine sx_aload_n dX2_settle_24 rfl ?_
    refine sx_putr (k := 1) dX2_settle_25 fl_X2_27 (by decide) (hG.2.2 _) ?_
    refine sx_iload_n dX2_settle_28 rfl ?_
    exact sx_iret dX2_settle_29 rfl rfl (by unfold gset; first | rw [if_pos (by omega)] | (rw [if_neg (by omega)]; rfl))
  · -- 1f
    refine sx_iload_n dX2_settle_4 rfl ?_
    exact sx_iret dX2_settle_5 rfl rfl (by unfold gset; first | rw [if_pos (by omega)] | (rw [if_neg (by omega)]; rfl))
set_option maxHeartbeats 4000000 in
set_option maxRecDepth 100000 in
theorem tg_lostBy {h0 : am_H} {Z : am_M} (hG : AG h0) (a b : Int) (haR : am_R a) (hbR : am_R b) (hS : YS (gP h0)) (hS2 : b ≠ -1 → YS (ydie (gP h0) a).2)  : Ct 4 Y2_lostBy [.inr (6, 0), .inl a, .inl b] (some (.inl (glR (gP h0) a b))) (am_U h0 (h0.2 1) Z) (am_U h0 (h0.2 1) (glM (gP h0) a b)) := by
  refine Ct_of (by decide +kernel) (Nat.le_of_ble_eq_true rfl) ?_
  show Sx 4 Y2_lostBy (am_U h0 (h0.2 1) (glM (gP h0) a b)) (some (.inl (glR (gP h0) a b))) 0 [some (.inr (6, 0)), some (.inl a), some (.inl b), none, none] [] (am_U h0 (h0.2 1) Z)
  refine sx_vh (fun hV => ?_)
  have hR : ∀ j k, am_R (gP h0 j k) := fun j k => by
    have := hV.1 (h0.2 0) j k
    rwa [gZ_p hG] at this
  refine sx_aload_n dX2_lostBy_0 rfl ?_
  refine sx_callVr dX2_lostBy_1 ml_X2_34 mv2_freshTrial (tg_freshTrial hG) rfl am_obG rfl (Nat.le_of_ble_eq_true rfl) (Nat.le_of_ble_eq_true rfl) ?_
  refine sx_astore_n dX2_lostBy_4 (by decide) ?_
  refine sx_aload_n dX2_lostBy_5 rfl ?_
  refine sx_iload_n dX2_lostBy_6 rfl ?_
  refine sx_callVi dX2_lostBy_7 ml_X2_49 mv0_letDie (ty_letDie (hG.2.2 1) _ hS.1 haR (hS.2.2.1 _)) rfl (am_obM (hG.2.2 1)) rfl (Nat.le_of_ble_eq_true rfl) (Nat.le_of_ble_eq_true rfl) ?_
  refine sx_istore dX2_lostBy_10 (by decide) ?_
  refine sx_iload_n dX2_lostBy_12 rfl ?_
  refine sx_iconst dX2_lostBy_13 ?_
  refine sx_icmp_ne (tgt := 22) dX2_lostBy_14 (by decide) (by first | omega | assumption | (with_reducible first | exact hR _ _ | exact rd_R hR _ _ | exact am_R_and _ _ | exact am_R_or _ _ | exact am_R_xor _ _ | exact am_R_shl _ _ | exact am_R_shr _ _ | exact bit_R _ _ | exact ybc_R _ | exact yps_R _ _) | (exact ⟨by omega, by omega⟩) | exact hR _ _) ⟨by decide, by decide⟩ (fun c14 => ?_) (fun c14 => ?_)
  · -- 14t
    refine sx_iload dX2_lostBy_22 rfl ?_
    refine sx_aload_n dX2_lostBy_24 rfl ?_
    refine sx_iload_n dX2_lostBy_25 rfl ?_
    refine sx_callVi dX2_lostBy_26 ml_X2_49 mv0_letDie (ty_letDie (hG.2.2 1) _ (hS2 c14).1 hbR ((hS2 c14).2.2.1 _)) rfl (am_obM (hG.2.2 1)) rfl (Nat.le_of_ble_eq_true rfl) (Nat.le_of_ble_eq_true rfl) ?_
    refine sx_iadd dX2_lostBy_29 ?_
    exact sx_iret dX2_lostBy_30 rfl (by unfold glR; simp only [if_neg c14]) (by unfold glM; simp only [if_neg c14])
  · -- 14f
    refine sx_iload dX2_lostBy_17 rfl ?_
    refine sx_goto (tgt := 30) dX2_lostBy_19 (by decide) ?_
    exact sx_iret dX2_lostBy_30 rfl (by unfold glR; simp only [if_pos c14]) (by unfold glM; simp only [if_pos c14])
set_option maxHeartbeats 4000000 in
set_option maxRecDepth 100000 in
theorem tg_loss {h0 : am_H} {Z : am_M} (hG : AG h0) (a b : Int) (haR : am_R a) (hbR : am_R b) (hS : YS (gP h0)) (hD : ∀ a, YS (ydie (gP h0) a).2)  : Ct 5 Y2_loss [.inr (6, 0), .inl a, .inl b] (some (.inl (gloR (gP h0) a b))) (am_U h0 (h0.2 1) Z) (am_U h0 (h0.2 1) (gloM (gP h0) Z a b)) := by
  refine Ct_of (by decide +kernel) (Nat.le_of_ble_eq_true rfl) ?_
  show Sx 5 Y2_loss (am_U h0 (h0.2 1) (gloM (gP h0) Z a b)) (some (.inl (gloR (gP h0) a b))) 0 [some (.inr (6, 0)), some (.inl a), some (.inl b)] [] (am_U h0 (h0.2 1) Z)
  refine sx_vh (fun hV => ?_)
  have hR : ∀ j k, am_R (gP h0 j k) := fun j k => by
    have := hV.1 (h0.2 0) j k
    rwa [gZ_p hG] at this
  refine sx_aload_n dX2_loss_0 rfl ?_
  refine gg_getp dX2_loss_1 fl_X2_23 rfl ?_
  refine sx_iload_n dX2_loss_4 rfl ?_
  refine sx_callVi dX2_loss_5 ml_X2_55 mv0_hasChip (Ct_p hG (ty_hasChip (hG.2.2 0) _ (by assumption))) rfl (am_obM (hG.2.2 0)) rfl (Nat.le_of_ble_eq_true rfl) (Nat.le_of_ble_eq_true rfl) ?_
  refine sx_ifB_eq (tgt := 16) dX2_loss_8 (by decide) (fun c8 => ?_) (fun c8 => ?_)
  · -- 8t
    refine sx_ldc dX2_loss_16 kc_X2_59 ?_
    exact sx_iret dX2_loss_18 rfl (by first | (exfalso; omega) | (have hC : gloC (gP h0) a b = -1000001 := (by unfold gloC; simp only [if_neg c8]); unfold gloR; rw [if_neg (by rw [hC]; decide)]; first | done | exact congrArg (fun z => some (Sum.inl z)) hC)) (by first | (exfalso; omega) | (have hC : gloC (gP h0) a b = -1000001 := (by unfold gloC; simp only [if_neg c8]); unfold gloM; rw [if_neg (by rw [hC]; decide)]; first | done | exact congrArg (fun z => some (Sum.inl z)) hC))
  · -- 8f
    refine sx_iload_n dX2_loss_11 rfl ?_
    refine sx_iload_n dX2_loss_12 rfl ?_
    refine sx_icmp_ne (tgt := 19) dX2_loss_13 (by decide) (by first | omega | assumption | (with_reducible first | exact hR _ _ | exact rd_R hR _ _ | exact am_R_and _ _ | exact am_R_or _ _ | exact am_R_xor _ _ | exact am_R_shl _ _ | exact am_R_shr _ _ | exact bit_R _ _ | exact ybc_R _ | exact yps_R _ _) | (exact ⟨by omega, by omega⟩) | exact hR _ _) (by first | omega | assumption | (with_reducible first | exact hR _ _ | exact rd_R hR _ _ | exact am_R_and _ _ | exact am_R_or _ _ | exact am_R_xor _ _ | exact am_R_shl _ _ | exact am_R_shr _ _ | exact bit_R _ _ | exact ybc_R _ | exact yps_R _ _) | (exact ⟨by omega, by omega⟩) | exact hR _ _) (fun c13 => ?_) (fun c13 => ?_)
    · -- 13t
      refine sx_iload_n dX2_loss_19 rfl ?_
      refine sx_iconst dX2_loss_20 ?_
      refine sx_icmp_eq (tgt := 38) dX2_loss_21 (by decide) (by first | omega | assumption | (with_reducible first | exact hR _ _ | exact rd_R hR _ _ | exact am_R_and _ _ | exact am_R_or _ _ | exact am_R_xor _ _ | exact am_R_shl _ _ | exact am_R_shr _ _ | exact bit_R _ _ | exact ybc_R _ | exact yps_R _ _) | (exact ⟨by omega, by omega⟩) | exact hR _ _) ⟨by decide, by decide⟩ (fun c21 => ?_) (fun c21 => ?_)
      · -- 21t
        refine sx_aload_n dX2_loss_38 rfl ?_
        refine gg_getp dX2_loss_39 fl_X2_23 rfl ?_
        refine sx_iload_n dX2_loss_42 rfl ?_
        refine sx_callVi dX2_loss_43 ml_X2_64 mv0_lives (Ct_p hG (ty_lives (hG.2.2 0) _)) rfl (am_obM (hG.2.2 0)) rfl (Nat.le_of_ble_eq_true rfl) (Nat.le_of_ble_eq_true rfl) ?_
        refine sx_ifB_eq (tgt := 65) dX2_loss_46 (by decide) (fun c46 => ?_) (fun c46 => ?_)
        · -- 46t
          refine sx_ldc dX2_loss_65 kc_X2_94 ?_
          exact sx_iret dX2_loss_67 rfl (by first | (exfalso; omega) | (have hC : gloC (gP h0) a b = -1000002 := (by unfold gloC; simp only [if_pos c8, if_neg c13, if_pos c21, if_neg c46]); unfold gloR; rw [if_neg (by rw [hC]; decide)]; first | done | exact congrArg (fun z => some (Sum.inl z)) hC)) (by first | (exfalso; omega) | (have hC : gloC (gP h0) a b = -1000002 := (by unfold gloC; simp only [if_pos c8, if_neg c13, if_pos c21, if_neg c46]); unfold gloM; rw [if_neg (by rw [hC]; decide)]; first | done | exact congrArg (fun z => some (Sum.inl z)) hC))
        · -- 46f
          refine sx_iload_n dX2_loss_49 rfl ?_
          refine sx_iconst dX2_loss_50 ?_
          refine sx_icmp_eq (tgt := 68) dX2_loss_51 (by decide) (by first | omega | assumption | (with_reducible first | exact hR _ _ | exact rd_R hR _ _ | exact am_R_and _ _ | exact am_R_or _ _ | exact am_R_xor _ _ | exact am_R_shl _ _ | exact am_R_shr _ _ | exact bit_R _ _ | exact ybc_R _ | exact yps_R _ _) | (exact ⟨by omega, by omega⟩) | exact hR _ _) ⟨by decide, by decide⟩ (fun c51 => ?_) (fun c51 => ?_)
          · -- 51t
            refine sx_aload_n dX2_loss_68 rfl ?_
            refine sx_iload_n dX2_loss_69 rfl ?_
            refine sx_iload_n dX2_loss_70 rfl ?_
            refine sx_callVi dX2_loss_71 ml_X2_162 mv2_lostBy (tg_lostBy hG _ _ (by first | assumption | exact ⟨by omega, by omega⟩ | exact ⟨by decide, by decide⟩) (by first | assumption | exact ⟨by omega, by omega⟩ | exact ⟨by decide, by decide⟩) hS (fun _ => hD _)) rfl am_obG rfl (Nat.le_of_ble_eq_true rfl) (Nat.le_of_ble_eq_true rfl) ?_
            exact sx_iret dX2_loss_74 rfl (by first | (exfalso; omega) | (have hC : gloC (gP h0) a b = 0 := (by unfold gloC; simp only [if_pos c8, if_neg c13, if_pos c21, if_pos c46, if_pos c51]); unfold gloR; rw [if_pos hC])) (by first | (exfalso; omega) | (have hC : gloC (gP h0) a b = 0 := (by unfold gloC; simp only [if_pos c8, if_neg c13, if_pos c21, if_pos c46, if_pos c51]); unfold gloM; rw [if_pos hC]))
          · -- 51f
            refine sx_aload_n dX2_loss_54 rfl ?_
            refine gg_getp dX2_loss_55 fl_X2_23 rfl ?_
            refine sx_iload_n dX2_loss_58 rfl ?_
            refine sx_callVi dX2_loss_59 ml_X2_64 mv0_lives (Ct_p hG (ty_lives (hG.2.2 0) _)) rfl (am_obM (hG.2.2 0)) rfl (Nat.le_of_ble_eq_true rfl) (Nat.le_of_ble_eq_true rfl) ?_
            refine sx_ifB_ne (tgt := 68) dX2_loss_62 (by decide) (fun c62 => ?_) (fun c62 => ?_)
            · -- 62t
              refine sx_aload_n dX2_loss_68 rfl ?_
              refine sx_iload_n dX2_loss_69 rfl ?_
              refine sx_iload_n dX2_loss_70 rfl ?_
              refine sx_callVi dX2_loss_71 ml_X2_162 mv2_lostBy (tg_lostBy hG _ _ (by first | assumption | exact ⟨by omega, by omega⟩ | exact ⟨by decide, by decide⟩) (by first | assumption | exact ⟨by omega, by omega⟩ | exact ⟨by decide, by decide⟩) hS (fun _ => hD _)) rfl am_obG rfl (Nat.le_of_ble_eq_true rfl) (Nat.le_of_ble_eq_true rfl) ?_
              exact sx_iret dX2_loss_74 rfl (by first | (exfalso; omega) | (have hC : gloC (gP h0) a b = 0 := (by unfold gloC; simp only [if_pos c8, if_neg c13, if_pos c21, if_pos c46, if_neg c51, if_pos c62]); unfold gloR; rw [if_pos hC])) (by first | (exfalso; omega) | (have hC : gloC (gP h0) a b = 0 := (by unfold gloC; simp only [if_pos c8, if_neg c13, if_pos c21, if_pos c46, if_neg c51, if_pos c62]); unfold gloM; rw [if_pos hC]))
            · -- 62f
              refine sx_ldc dX2_loss_65 kc_X2_94 ?_
              exact sx_iret dX2_loss_67 rfl (by first | (exfalso; omega) | (have hC : gloC (gP h0) a b = -1000002 := (by unfold gloC; simp only [if_pos c8, if_neg c13, if_pos c21, if_pos c46, if_neg c51, if_neg c62]); unfold gloR; rw [if_neg (by rw [hC]; decide)]; first | done | exact congrArg (fun z => some (Sum.inl z)) hC)) (by first | (exfalso; omega) | (have hC : gloC (gP h0) a b = -1000002 := (by unfold gloC; simp only [if_pos c8, if_neg c13, if_pos c21, if_pos c46, if_neg c51, if_neg c62]); unfold gloM; rw [if_neg (by rw [hC]; decide)]; first | done | exact congrArg (fun z => some (Sum.inl z)) hC))
      · -- 21f
        refine sx_aload_n dX2_loss_24 rfl ?_
        refine gg_getp dX2_loss_25 fl_X2_23 rfl ?_
        refine sx_iload_n dX2_loss_28 rfl ?_
        refine sx_callVi dX2_loss_29 ml_X2_55 mv0_hasChip (Ct_p hG (ty_hasChip (hG.2.2 0) _ (by assumption))) rfl (am_obM (hG.2.2 0)) rfl (Nat.le_of_ble_eq_true rfl) (Nat.le_of_ble_eq_true rfl) ?_
        refine sx_ifB_ne (tgt := 38) dX2_loss_32 (by decide) (fun c32 => ?_) (fun c32 => ?_)
        · -- 32t
          refine sx_aload_n dX2_loss_38 rfl ?_
          refine gg_getp dX2_loss_39 fl_X2_23 rfl ?_
          refine sx_iload_n dX2_loss_42 rfl ?_
          refine sx_callVi dX2_loss_43 ml_X2_64 mv0_lives (Ct_p hG (ty_lives (hG.2.2 0) _)) rfl (am_obM (hG.2.2 0)) rfl (Nat.le_of_ble_eq_true rfl) (Nat.le_of_ble_eq_true rfl) ?_
          refine sx_ifB_eq (tgt := 65) dX2_loss_46 (by decide) (fun c46 => ?_) (fun c46 => ?_)
          · -- 46t
            refine sx_ldc dX2_loss_65 kc_X2_94 ?_
            exact sx_iret dX2_loss_67 rfl (by first | (exfalso; omega) | (have hC : gloC (gP h0) a b = -1000002 := (by unfold gloC; simp only [if_pos c8, if_neg c13, if_neg c21, if_pos c32, if_neg c46]); unfold gloR; rw [if_neg (by rw [hC]; decide)]; first | done | exact congrArg (fun z => some (Sum.inl z)) hC)) (by first | (exfalso; omega) | (have hC : gloC (gP h0) a b = -1000002 := (by unfold gloC; simp only [if_pos c8, if_neg c13, if_neg c21, if_pos c32, if_neg c46]); unfold gloM; rw [if_neg (by rw [hC]; decide)]; first | done | exact congrArg (fun z => some (Sum.inl z)) hC))
          · -- 46f
            refine sx_iload_n dX2_loss_49 rfl ?_
            refine sx_iconst dX2_loss_50 ?_
            refine sx_icmp_eq (tgt := 68) dX2_loss_51 (by decide) (by first | omega | assumption | (with_reducible first | exact hR _ _ | exact rd_R hR _ _ | exact am_R_and _ _ | exact am_R_or _ _ | exact am_R_xor _ _ | exact am_R_shl _ _ | exact am_R_shr _ _ | exact bit_R _ _ | exact ybc_R _ | exact yps_R _ _) | (exact ⟨by omega, by omega⟩) | exact hR _ _) ⟨by decide, by decide⟩ (fun c51 => ?_) (fun c51 => ?_)
            · -- 51t
              refine sx_aload_n dX2_loss_68 rfl ?_
              refine sx_iload_n dX2_loss_69 rfl ?_
              refine sx_iload_n dX2_loss_70 rfl ?_
              refine sx_callVi dX2_loss_71 ml_X2_162 mv2_lostBy (tg_lostBy hG _ _ (by first | assumption | exact ⟨by omega, by omega⟩ | exact ⟨by decide, by decide⟩) (by first | assumption | exact ⟨by omega, by omega⟩ | exact ⟨by decide, by decide⟩) hS (fun _ => hD _)) rfl am_obG rfl (Nat.le_of_ble_eq_true rfl) (Nat.le_of_ble_eq_true rfl) ?_
              exact sx_iret dX2_loss_74 rfl (by first | (exfalso; omega) | (have hC : gloC (gP h0) a b = 0 := (by unfold gloC; simp only [if_pos c8, if_neg c13, if_neg c21, if_pos c32, if_pos c46, if_pos c51]); unfold gloR; rw [if_pos hC])) (by first | (exfalso; omega) | (have hC : gloC (gP h0) a b = 0 := (by unfold gloC; simp only [if_pos c8, if_neg c13, if_neg c21, if_pos c32, if_pos c46, if_pos c51]); unfold gloM; rw [if_pos hC]))
            · -- 51f
              refine sx_aload_n dX2_loss_54 rfl ?_
              refine gg_getp dX2_loss_55 fl_X2_23 rfl ?_
              refine sx_iload_n dX2_loss_58 rfl ?_
              refine sx_callVi dX2_loss_59 ml_X2_64 mv0_lives (Ct_p hG (ty_lives (hG.2.2 0) _)) rfl (am_obM (hG.2.2 0)) rfl (Nat.le_of_ble_eq_true rfl) (Nat.le_of_ble_eq_true rfl) ?_
              refine sx_ifB_ne (tgt := 68) dX2_loss_62 (by decide) (fun c62 => ?_) (fun c62 => ?_)
              · -- 62t
                refine sx_aload_n dX2_loss_68 rfl ?_
                refine sx_iload_n dX2_loss_69 rfl ?_
                refine sx_iload_n dX2_loss_70 rfl ?_
                refine sx_callVi dX2_loss_71 ml_X2_162 mv2_lostBy (tg_lostBy hG _ _ (by first | assumption | exact ⟨by omega, by omega⟩ | exact ⟨by decide, by decide⟩) (by first | assumption | exact ⟨by omega, by omega⟩ | exact ⟨by decide, by decide⟩) hS (fun _ => hD _)) rfl am_obG rfl (Nat.le_of_ble_eq_true rfl) (Nat.le_of_ble_eq_true rfl) ?_
                exact sx_iret dX2_loss_74 rfl (by first | (exfalso; omega) | (have hC : gloC (gP h0) a b = 0 := (by unfold gloC; simp only [if_pos c8, if_neg c13, if_neg c21, if_pos c32, if_pos c46, if_neg c51, if_pos c62]); unfold gloR; rw [if_pos hC])) (by first | (exfalso; omega) | (have hC : gloC (gP h0) a b = 0 := (by unfold gloC; simp only [if_pos c8, if_neg c13, if_neg c21, if_pos c32, if_pos c46, if_neg c51, if_pos c62]); unfold gloM; rw [if_pos hC]))
              · -- 62f
                refine sx_ldc dX2_loss_65 kc_X2_94 ?_
                exact sx_iret dX2_loss_67 rfl (by first | (exfalso; omega) | (have hC : gloC (gP h0) a b = -1000002 := (by unfold gloC; simp only [if_pos c8, if_neg c13, if_neg c21, if_pos c32, if_pos c46, if_neg c51, if_neg c62]); unfold gloR; rw [if_neg (by rw [hC]; decide)]; first | done | exact congrArg (fun z => some (Sum.inl z)) hC)) (by first | (exfalso; omega) | (have hC : gloC (gP h0) a b = -1000002 := (by unfold gloC; simp only [if_pos c8, if_neg c13, if_neg c21, if_pos c32, if_pos c46, if_neg c51, if_neg c62]); unfold gloM; rw [if_neg (by rw [hC]; decide)]; first | done | exact congrArg (fun z => some (Sum.inl z)) hC))
        · -- 32f
          refine sx_ldc dX2_loss_35 kc_X2_59 ?_
          exact sx_iret dX2_loss_37 rfl (by first | (exfalso; omega) | (have hC : gloC (gP h0) a b = -1000001 := (by unfold gloC; simp only [if_pos c8, if_neg c13, if_neg c21, if_neg c32]); unfold gloR; rw [if_neg (by rw [hC]; decide)]; first | done | exact congrArg (fun z => some (Sum.inl z)) hC)) (by first | (exfalso; omega) | (have hC : gloC (gP h0) a b = -1000001 := (by unfold gloC; simp only [if_pos c8, if_neg c13, if_neg c21, if_neg c32]); unfold gloM; rw [if_neg (by rw [hC]; decide)]; first | done | exact congrArg (fun z => some (Sum.inl z)) hC))
    · -- 13f
      refine sx_ldc dX2_loss_16 kc_X2_59 ?_
      exact sx_iret dX2_loss_18 rfl (by first | (exfalso; omega) | (have hC : gloC (gP h0) a b = -1000001 := (by unfold gloC; simp only [if_pos c8, if_pos c13]); unfold gloR; rw [if_neg (by rw [hC]; decide)]; first | done | exact congrArg (fun z => some (Sum.inl z)) hC)) (by first | (exfalso; omega) | (have hC : gloC (gP h0) a b = -1000001 := (by unfold gloC; simp only [if_pos c8, if_pos c13]); unfold gloM; rw [if_neg (by rw [hC]; decide)]; first | done | exact congrArg (fun z => some (Sum.inl z)) hC))
set_option maxHeartbeats 4000000 in
set_option maxRecDepth 100000 in
theorem tg_safe {h0 : am_H} {Z : am_M} (hG : AG h0) (hW : WM (gP h0)) (hS : YS (gP h0)) (hD : ∀ a, YS (ydie (gP h0) a).2)  : Ct 5 Y2_safe [.inr (6, 0)] (some (.inl (gsf (gP h0) Z (gP h0 0 0).toNat).1)) (am_U h0 (h0.2 1) Z) (am_U h0 (h0.2 1) (gsf (gP h0) Z (gP h0 0 0).toNat).2) := by
  refine Ct_of (by decide +kernel) (Nat.le_of_ble_eq_true rfl) ?_
  show Sx 5 Y2_safe (am_U h0 (h0.2 1) (gsf (gP h0) Z (gP h0 0 0).toNat).2) (some (.inl (gsf (gP h0) Z (gP h0 0 0).toNat).1)) 0 [some (.inr (6, 0)), none, none] [] (am_U h0 (h0.2 1) Z)
  refine sx_vh (fun hV => ?_)
  have hR : ∀ j k, am_R (gP h0 j k) := fun j k => by
    have := hV.1 (h0.2 0) j k
    rwa [gZ_p hG] at this
  obtain ⟨w0, w2, w1, w5, w8, w12, wb⟩ := id hW
  refine sx_iconst dX2_safe_0 ?_
  refine sx_istore_n dX2_safe_1 (by decide) ?_
  refine sx_iconst dX2_safe_2 ?_
  refine sx_istore_n dX2_safe_3 (by decide) ?_
  have loop4 : ∀ (n : Nat) (g : Int) (c : Nat) (Z2 : am_M), (gP h0 0 0 - c).toNat = n → (c : Int) ≤ gP h0 0 0 → gsf (gP h0) Z c = (g, Z2) → Sx 5 Y2_safe (am_U h0 (h0.2 1) (gsf (gP h0) Z (gP h0 0 0).toNat).2) (some (.inl (gsf (gP h0) Z (gP h0 0 0).toNat).1)) 4 [some (.inr (6, 0)), some (.inl g), some (.inl (c : Int))] [] (am_U h0 (h0.2 1) Z2) := by
    intro n
    induction n using Nat.strongRecOn with
    | _ n ih4 =>
      intro g c Z2 hn hle hq
      refine sx_iload_n dX2_safe_4 rfl ?_
      refine sx_aload_n dX2_safe_5 rfl ?_
      refine gg_getp dX2_safe_6 fl_X2_23 rfl ?_
      refine gz_geti hG dX2_safe_9 fl_X2_165 (by decide) (fun r9 => ?_)
      refine sx_icmp_ge (tgt := 47) dX2_safe_12 (by decide) (by first | omega | assumption | exact glR_R _ _ _ | (with_reducible first | exact hR _ _ | exact rd_R hR _ _ | exact am_R_and _ _ | exact am_R_or _ _ | exact am_R_xor _ _ | exact am_R_shl _ _ | exact am_R_shr _ _ | exact bit_R _ _) | (exact ⟨by omega, by omega⟩) | exact hR _ _) (by first | omega | assumption | exact glR_R _ _ _ | (with_reducible first | exact hR _ _ | exact rd_R hR _ _ | exact am_R_and _ _ | exact am_R_or _ _ | exact am_R_xor _ _ | exact am_R_shl _ _ | exact am_R_shr _ _ | exact bit_R _ _) | (exact ⟨by omega, by omega⟩) | exact hR _ _) (fun c12 => ?_) (fun c12 => ?_)
      · -- 12t
        refine sx_iload_n dX2_safe_47 rfl ?_
        exact sx_iret dX2_safe_48 rfl (by rw [show (gP h0 0 0).toNat = c by omega, hq]) (by rw [show (gP h0 0 0).toNat = c by omega, hq])
      · -- 12f
        refine sx_aload_n dX2_safe_15 rfl ?_
        refine gg_getp dX2_safe_16 fl_X2_23 rfl ?_
        refine sx_iload_n dX2_safe_19 rfl ?_
        refine sx_callVi dX2_safe_20 ml_X2_64 mv0_lives (Ct_p hG (ty_lives (hG.2.2 0) _)) rfl (am_obM (hG.2.2 0)) rfl (Nat.le_of_ble_eq_true rfl) (Nat.le_of_ble_eq_true rfl) ?_
        refine sx_ifB_eq (tgt := 41) dX2_safe_23 (by decide) (fun c23 => ?_) (fun c23 => ?_)
        · -- 23t
          refine sx_iinc dX2_safe_41 rfl (by decide) ?_
          refine sx_goto (tgt := 4) dX2_safe_44 (by decide) ?_
          exact ih4 _ (by omega) _ (c + 1) _ rfl (by omega) (by simp only [gsf, hq]; rw [if_neg c23])
        · -- 23f
          refine sx_aload_n dX2_safe_26 rfl ?_
          refine sx_iload_n dX2_safe_27 rfl ?_
          refine sx_iconst dX2_safe_28 ?_
          refine sx_callVi dX2_safe_29 ml_X2_162 mv2_lostBy (tg_lostBy hG _ _ (by first | assumption | exact ⟨by omega, by omega⟩ | exact ⟨by decide, by decide⟩) (by first | assumption | exact ⟨by omega, by omega⟩ | exact ⟨by decide, by decide⟩) hS (fun _ => hD _)) rfl am_obG rfl (Nat.le_of_ble_eq_true rfl) (Nat.le_of_ble_eq_true rfl) ?_
          refine sx_if_ne (tgt := 41) dX2_safe_32 (by decide) (by first | omega | assumption | exact glR_R _ _ _ | (with_reducible first | exact hR _ _ | exact rd_R hR _ _ | exact am_R_and _ _ | exact am_R_or _ _ | exact am_R_xor _ _ | exact am_R_shl _ _ | exact am_R_shr _ _ | exact bit_R _ _) | (exact ⟨by omega, by omega⟩) | exact hR _ _) (fun c32 => ?_) (fun c32 => ?_)
          · -- 32t
            refine sx_iinc dX2_safe_41 rfl (by decide) ?_
            refine sx_goto (tgt := 4) dX2_safe_44 (by decide) ?_
            exact ih4 _ (by omega) _ (c + 1) _ rfl (by omega) (by simp only [gsf, hq]; rw [if_pos c23, if_neg c32])
          · -- 32f
            refine sx_iload_n dX2_safe_35 rfl ?_
            refine sx_iconst dX2_safe_36 ?_
            refine sx_iload_n dX2_safe_37 rfl ?_
            refine sx_ishl dX2_safe_38 ?_
            refine sx_ior dX2_safe_39 ?_
            refine sx_istore_n dX2_safe_40 (by decide) ?_
            refine sx_iinc dX2_safe_41 rfl (by decide) ?_
            refine sx_goto (tgt := 4) dX2_safe_44 (by decide) ?_
            exact ih4 _ (by omega) _ (c + 1) _ rfl (by omega) (by simp only [gsf, hq]; rw [if_pos c23, if_pos c32])
  exact loop4 _ 0 0 Z rfl (by omega) rfl
set_option maxHeartbeats 4000000 in
set_option maxRecDepth 100000 in
theorem tg_worstTwo {h0 : am_H} {Z : am_M} (hG : AG h0) (k : Int) (hW : WM (gP h0)) (hkR : am_R k) (hS : YS (gP h0)) (hD : ∀ a, YS (ydie (gP h0) a).2)  : Ct 5 Y2_worstTwo [.inr (6, 0), .inl k] (some (.inl (gwR (gP h0) Z k))) (am_U h0 (h0.2 1) Z) (am_U h0 (h0.2 1) (gwZ (gP h0) Z k)) := by
  refine Ct_of (by decide +kernel) (Nat.le_of_ble_eq_true rfl) ?_
  show Sx 5 Y2_worstTwo (am_U h0 (h0.2 1) (gwZ (gP h0) Z k)) (some (.inl (gwR (gP h0) Z k))) 0 [some (.inr (6, 0)), some (.inl k), none, none, none, none, none] [] (am_U h0 (h0.2 1) Z)
  refine sx_vh (fun hV => ?_)
  have hR : ∀ j k, am_R (gP h0 j k) := fun j k => by
    have := hV.1 (h0.2 0) j k
    rwa [gZ_p hG] at this
  obtain ⟨w0, w2, w1, w5, w8, w12, wb⟩ := id hW
  refine sx_iload_n dX2_worstTwo_0 rfl ?_
  refine sx_if_eq (tgt := 12) dX2_worstTwo_1 (by decide) (by first | omega | assumption | exact glR_R _ _ _ | (with_reducible first | exact hR _ _ | exact rd_R hR _ _ | exact am_R_and _ _ | exact am_R_or _ _ | exact am_R_xor _ _ | exact am_R_shl _ _ | exact am_R_shr _ _ | exact bit_R _ _) | (exact ⟨by omega, by omega⟩) | exact hR _ _) (fun c1 => ?_) (fun c1 => ?_)
  · -- 1t
    have hk01 : k = 0 ∨ k = 1 := by omega
    refine sx_iconst dX2_worstTwo_12 ?_
    refine sx_istore_n dX2_worstTwo_13 (by decide) ?_
    refine sx_iconst dX2_worstTwo_14 ?_
    refine sx_istore_n dX2_worstTwo_15 (by decide) ?_
    refine sx_iconst dX2_worstTwo_16 ?_
    refine sx_istore dX2_worstTwo_17 (by decide) ?_
    have loop19 : ∀ (n : Nat) (mo pr : Int) (a : Nat) (Z1 : am_M), (gP h0 0 0 - a).toNat = n → (a : Int) ≤ gP h0 0 0 → gwo (gP h0) Z a = (mo, pr, Z1) → Sx 5 Y2_worstTwo (am_U h0 (h0.2 1) (gwZ (gP h0) Z k)) (some (.inl (gwR (gP h0) Z k))) 19 [some (.inr (6, 0)), some (.inl k), some (.inl mo), some (.inl pr), some (.inl (a : Int)), none, none] [] (am_U h0 (h0.2 1) Z1) := by
      intro n
      induction n using Nat.strongRecOn with
      | _ n ih19 =>
        intro mo pr a Z1 hna hla hqa
        have hmR : am_R mo := by have := gwo_b (M := gP h0) (Z := Z) a; rwa [hqa] at this
        refine sx_iload dX2_worstTwo_19 rfl ?_
        refine sx_aload_n dX2_worstTwo_21 rfl ?_
        refine gg_getp dX2_worstTwo_22 fl_X2_23 rfl ?_
        refine gz_geti hG dX2_worstTwo_25 fl_X2_165 (by decide) (fun r25 => ?_)
        refine sx_icmp_ge (tgt := 117) dX2_worstTwo_28 (by decide) (by first | omega | assumption | exact glR_R _ _ _ | (with_reducible first | exact hR _ _ | exact rd_R hR _ _ | exact am_R_and _ _ | exact am_R_or _ _ | exact am_R_xor _ _ | exact am_R_shl _ _ | exact am_R_shr _ _ | exact bit_R _ _) | (exact ⟨by omega, by omega⟩) | exact hR _ _) (by first | omega | assumption | exact glR_R _ _ _ | (with_reducible first | exact hR _ _ | exact rd_R hR _ _ | exact am_R_and _ _ | exact am_R_or _ _ | exact am_R_xor _ _ | exact am_R_shl _ _ | exact am_R_shr _ _ | exact bit_R _ _) | (exact ⟨by omega, by omega⟩) | exact hR _ _) (fun c28 => ?_) (fun c28 => ?_)
        · -- 28t
          refine sx_iload_n dX2_worstTwo_117 rfl ?_
          refine sx_iconst dX2_worstTwo_118 ?_
          refine sx_icmp_ne (tgt := 125) dX2_worstTwo_119 (by decide) (by first | omega | assumption | exact glR_R _ _ _ | (with_reducible first | exact hR _ _ | exact rd_R hR _ _ | exact am_R_and _ _ | exact am_R_or _ _ | exact am_R_xor _ _ | exact am_R_shl _ _ | exact am_R_shr _ _ | exact bit_R _ _) | (exact ⟨by omega, by omega⟩) | exact hR _ _) ⟨by decide, by decide⟩ (fun c119 => ?_) (fun c119 => ?_)
          · -- 119t
            refine sx_iload_n dX2_worstTwo_125 rfl ?_
            refine sx_if_ne (tgt := 133) dX2_worstTwo_126 (by decide) (by first | omega | assumption | exact glR_R _ _ _ | (with_reducible first | exact hR _ _ | exact rd_R hR _ _ | exact am_R_and _ _ | exact am_R_or _ _ | exact am_R_xor _ _ | exact am_R_shl _ _ | exact am_R_shr _ _ | exact bit_R _ _) | (exact ⟨by omega, by omega⟩) | exact hR _ _) (fun c126 => ?_) (fun c126 => ?_)
            · -- 126t
              refine sx_iload_n dX2_worstTwo_133 rfl ?_
              exact sx_iret dX2_worstTwo_134 rfl (by first | (exfalso; omega) | (have hA : (gP h0 0 0).toNat = a := (by omega); unfold gwR; rw [if_pos hk01, hA, hqa]; first | done | rfl | (first | rw [if_pos c119] | (rw [if_neg c119]; first | rw [if_pos c126] | rw [if_neg c126])))) (by first | (exfalso; omega) | (have hA : (gP h0 0 0).toNat = a := (by omega); unfold gwZ; rw [if_pos hk01, hA, hqa]; first | done | rfl | (first | rw [if_pos c119] | (rw [if_neg c119]; first | rw [if_pos c126] | rw [if_neg c126]))))
            · -- 126f
              refine sx_iload_n dX2_worstTwo_129 rfl ?_
              refine sx_goto (tgt := 134) dX2_worstTwo_130 (by decide) ?_
              exact sx_iret dX2_worstTwo_134 rfl (by first | (exfalso; omega) | (have hA : (gP h0 0 0).toNat = a := (by omega); unfold gwR; rw [if_pos hk01, hA, hqa]; first | done | rfl | (first | rw [if_pos c119] | (rw [if_neg c119]; first | rw [if_pos c126] | rw [if_neg c126])))) (by first | (exfalso; omega) | (have hA : (gP h0 0 0).toNat = a := (by omega); unfold gwZ; rw [if_pos hk01, hA, hqa]; first | done | rfl | (first | rw [if_pos c119] | (rw [if_neg c119]; first | rw [if_pos c126] | rw [if_neg c126]))))
          · -- 119f
            refine sx_ldc dX2_worstTwo_122 kc_X2_101 ?_
            exact sx_iret dX2_worstTwo_124 rfl (by first | (exfalso; omega) | (have hA : (gP h0 0 0).toNat = a := (by omega); unfold gwR; rw [if_pos hk01, hA, hqa]; first | done | rfl | (first | rw [if_pos c119] | (rw [if_neg c119]; first | rw [if_pos c126] | rw [if_neg c126])))) (by first | (exfalso; omega) | (have hA : (gP h0 0 0).toNat = a := (by omega); unfold gwZ; rw [if_pos hk01, hA, hqa]; first | done | rfl | (first | rw [if_pos c119] | (rw [if_neg c119]; first | rw [if_pos c126] | rw [if_neg c126]))))
        · -- 28f
          refine sx_iconst dX2_worstTwo_31 ?_
          refine sx_istore dX2_worstTwo_32 (by decide) ?_
          have loop34 : ∀ (n : Nat) (m2 p2 : Int) (b : Nat) (Z2 : am_M), (gP h0 0 0 - b).toNat = n → (b : Int) ≤ gP h0 0 0 → gwi (gP h0) a (mo, pr, Z1) b = (m2, p2, Z2) → Sx 5 Y2_worstTwo (am_U h0 (h0.2 1) (gwZ (gP h0) Z k)) (some (.inl (gwR (gP h0) Z k))) 34 [some (.inr (6, 0)), some (.inl k), some (.inl m2), some (.inl p2), some (.inl (a : Int)), some (.inl (b : Int)), none] [] (am_U h0 (h0.2 1) Z2) := by
            intro n
            induction n using Nat.strongRecOn with
            | _ n ih34 =>
              intro m2 p2 b Z2 hnb hlb hqb
              have hm2R : am_R m2 := by have := gwi_b (M := gP h0) (a := a) (s := (mo, pr, Z1)) hmR b; rwa [hqb] at this
              refine sx_iload dX2_worstTwo_34 rfl ?_
              refine sx_aload_n dX2_worstTwo_36 rfl ?_
              refine gg_getp dX2_worstTwo_37 fl_X2_23 rfl ?_
              refine gz_geti hG dX2_worstTwo_40 fl_X2_165 (by decide) (fun r40 => ?_)
              refine sx_icmp_ge (tgt := 111) dX2_worstTwo_43 (by decide) (by first | omega | assumption | exact glR_R _ _ _ | (with_reducible first | exact hR _ _ | exact rd_R hR _ _ | exact am_R_and _ _ | exact am_R_or _ _ | exact am_R_xor _ _ | exact am_R_shl _ _ | exact am_R_shr _ _ | exact bit_R _ _) | (exact ⟨by omega, by omega⟩) | exact hR _ _) (by first | omega | assumption | exact glR_R _ _ _ | (with_reducible first | exact hR _ _ | exact rd_R hR _ _ | exact am_R_and _ _ | exact am_R_or _ _ | exact am_R_xor _ _ | exact am_R_shl _ _ | exact am_R_shr _ _ | exact bit_R _ _) | (exact ⟨by omega, by omega⟩) | exact hR _ _) (fun c43 => ?_) (fun c43 => ?_)
              · -- 43t
                refine sx_iinc dX2_worstTwo_111 rfl (by decide) ?_
                refine sx_goto (tgt := 19) dX2_worstTwo_114 (by decide) ?_
                exact sx_forget 5 (ih19 _ (by omega) _ _ (a + 1) _ rfl (by omega) (by simp only [gwo, hqa]; rw [show (gP h0 0 0).toNat = b by omega, hqb]))
              · -- 43f
                refine sx_iload dX2_worstTwo_46 rfl ?_
                refine sx_iload dX2_worstTwo_48 rfl ?_
                refine sx_icmp_eq (tgt := 105) dX2_worstTwo_50 (by decide) (by first | omega | assumption | exact glR_R _ _ _ | (with_reducible first | exact hR _ _ | exact rd_R hR _ _ | exact am_R_and _ _ | exact am_R_or _ _ | exact am_R_xor _ _ | exact am_R_shl _ _ | exact am_R_shr _ _ | exact bit_R _ _) | (exact ⟨by omega, by omega⟩) | exact hR _ _) (by first | omega | assumption | exact glR_R _ _ _ | (with_reducible first | exact hR _ _ | exact rd_R hR _ _ | exact am_R_and _ _ | exact am_R_or _ _ | exact am_R_xor _ _ | exact am_R_shl _ _ | exact am_R_shr _ _ | exact bit_R _ _) | (exact ⟨by omega, by omega⟩) | exact hR _ _) (fun c50 => ?_) (fun c50 => ?_)
                · -- 50t
                  refine sx_iinc dX2_worstTwo_105 rfl (by decide) ?_
                  refine sx_goto (tgt := 34) dX2_worstTwo_108 (by decide) ?_
                  exact (ih34 _ (by omega) _ _ (b + 1) _ rfl (by omega) (by simp only [gwi, hqb]; simp only [if_pos c50]))
                · -- 50f
                  refine sx_aload_n dX2_worstTwo_53 rfl ?_
                  refine gg_getp dX2_worstTwo_54 fl_X2_23 rfl ?_
                  refine sx_iload dX2_worstTwo_57 rfl ?_
                  refine sx_callVi dX2_worstTwo_59 ml_X2_64 mv0_lives (Ct_p hG (ty_lives (hG.2.2 0) _)) rfl (am_obM (hG.2.2 0)) rfl (Nat.le_of_ble_eq_true rfl) (Nat.le_of_ble_eq_true rfl) ?_
                  refine sx_ifB_eq (tgt := 105) dX2_worstTwo_62 (by decide) (fun c62 => ?_) (fun c62 => ?_)
                  · -- 62t
                    refine sx_iinc dX2_worstTwo_105 rfl (by decide) ?_
                    refine sx_goto (tgt := 34) dX2_worstTwo_108 (by decide) ?_
                    exact (ih34 _ (by omega) _ _ (b + 1) _ rfl (by omega) (by simp only [gwi, hqb]; simp only [if_neg c50, if_neg c62]))
                  · -- 62f
                    refine sx_aload_n dX2_worstTwo_65 rfl ?_
                    refine gg_getp dX2_worstTwo_66 fl_X2_23 rfl ?_
                    refine sx_iload dX2_worstTwo_69 rfl ?_
                    refine sx_callVi dX2_worstTwo_71 ml_X2_64 mv0_lives (Ct_p hG (ty_lives (hG.2.2 0) _)) rfl (am_obM (hG.2.2 0)) rfl (Nat.le_of_ble_eq_true rfl) (Nat.le_of_ble_eq_true rfl) ?_
                    refine sx_ifB_eq (tgt := 105) dX2_worstTwo_74 (by decide) (fun c74 => ?_) (fun c74 => ?_)
                    · -- 74t
                      refine sx_iinc dX2_worstTwo_105 rfl (by decide) ?_
                      refine sx_goto (tgt := 34) dX2_worstTwo_108 (by decide) ?_
                      exact (ih34 _ (by omega) _ _ (b + 1) _ rfl (by omega) (by simp only [gwi, hqb]; simp only [if_neg c50, if_pos c62, if_neg c74]))
                    · -- 74f
                      refine sx_aload_n dX2_worstTwo_77 rfl ?_
                      refine sx_iload dX2_worstTwo_78 rfl ?_
                      refine sx_iload dX2_worstTwo_80 rfl ?_
                      refine sx_callVi dX2_worstTwo_82 ml_X2_162 mv2_lostBy (tg_lostBy hG _ _ (by first | assumption | exact ⟨by omega, by omega⟩ | exact ⟨by decide, by decide⟩) (by first | assumption | exact ⟨by omega, by omega⟩ | exact ⟨by decide, by decide⟩) hS (fun _ => hD _)) rfl am_obG rfl (Nat.le_of_ble_eq_true rfl) (Nat.le_of_ble_eq_true rfl) ?_
                      refine sx_istore dX2_worstTwo_85 (by decide) ?_
                      refine sx_iload dX2_worstTwo_87 rfl ?_
                      refine sx_iload_n dX2_worstTwo_89 rfl ?_
                      refine sx_icmp_le (tgt := 105) dX2_worstTwo_90 (by decide) (by first | omega | assumption | exact glR_R _ _ _ | (with_reducible first | exact hR _ _ | exact rd_R hR _ _ | exact am_R_and _ _ | exact am_R_or _ _ | exact am_R_xor _ _ | exact am_R_shl _ _ | exact am_R_shr _ _ | exact bit_R _ _) | (exact ⟨by omega, by omega⟩) | exact hR _ _) (by first | omega | assumption | exact glR_R _ _ _ | (with_reducible first | exact hR _ _ | exact rd_R hR _ _ | exact am_R_and _ _ | exact am_R_or _ _ | exact am_R_xor _ _ | exact am_R_shl _ _ | exact am_R_shr _ _ | exact bit_R _ _) | (exact ⟨by omega, by omega⟩) | exact hR _ _) (fun c90 => ?_) (fun c90 => ?_)
                      · -- 90t
                        refine sx_iinc dX2_worstTwo_105 rfl (by decide) ?_
                        refine sx_goto (tgt := 34) dX2_worstTwo_108 (by decide) ?_
                        exact sx_forget 6 (ih34 _ (by omega) _ _ (b + 1) _ rfl (by omega) (by simp only [gwi, hqb]; simp only [if_neg c50, if_pos c62, if_pos c74, if_pos c90, if_neg (Int.not_lt.mpr c90)]))
                      · -- 90f
                        refine sx_iload dX2_worstTwo_93 rfl ?_
                        refine sx_istore_n dX2_worstTwo_95 (by decide) ?_
                        refine sx_bipush dX2_worstTwo_96 rfl ?_
                        refine sx_iload dX2_worstTwo_98 rfl ?_
                        refine sx_imul dX2_worstTwo_100 ?_
                        refine sx_iload dX2_worstTwo_101 rfl ?_
                        refine sx_iadd dX2_worstTwo_103 ?_
                        refine sx_istore_n dX2_worstTwo_104 (by decide) ?_
                        refine sx_iinc dX2_worstTwo_105 rfl (by decide) ?_
                        refine sx_goto (tgt := 34) dX2_worstTwo_108 (by decide) ?_
                        exact sx_forget 6 (ih34 _ (by omega) _ _ (b + 1) _ rfl (by omega) (by simp only [gwi, hqb]; simp only [if_neg c50, if_pos c62, if_pos c74, if_pos c90, if_neg (Int.not_le.mpr c90)]))
          exact loop34 _ _ _ 0 _ rfl (by omega) rfl
    exact loop19 _ (-1) 0 0 Z rfl (by omega) rfl
  · -- 1f
    refine sx_iload_n dX2_worstTwo_4 rfl ?_
    refine sx_iconst dX2_worstTwo_5 ?_
    refine sx_icmp_eq (tgt := 12) dX2_worstTwo_6 (by decide) (by first | omega | assumption | exact glR_R _ _ _ | (with_reducible first | exact hR _ _ | exact rd_R hR _ _ | exact am_R_and _ _ | exact am_R_or _ _ | exact am_R_xor _ _ | exact am_R_shl _ _ | exact am_R_shr _ _ | exact bit_R _ _) | (exact ⟨by omega, by omega⟩) | exact hR _ _) ⟨by decide, by decide⟩ (fun c6 => ?_) (fun c6 => ?_)
    · -- 6t
      have hk01 : k = 0 ∨ k = 1 := by omega
      refine sx_iconst dX2_worstTwo_12 ?_
      refine sx_istore_n dX2_worstTwo_13 (by decide) ?_
      refine sx_iconst dX2_worstTwo_14 ?_
      refine sx_istore_n dX2_worstTwo_15 (by decide) ?_
      refine sx_iconst dX2_worstTwo_16 ?_
      refine sx_istore dX2_worstTwo_17 (by decide) ?_
      have loop19 : ∀ (n : Nat) (mo pr : Int) (a : Nat) (Z1 : am_M), (gP h0 0 0 - a).toNat = n → (a : Int) ≤ gP h0 0 0 → gwo (gP h0) Z a = (mo, pr, Z1) → Sx 5 Y2_worstTwo (am_U h0 (h0.2 1) (gwZ (gP h0) Z k)) (some (.inl (gwR (gP h0) Z k))) 19 [some (.inr (6, 0)), some (.inl k), some (.inl mo), some (.inl pr), some (.inl (a : Int)), none, none] [] (am_U h0 (h0.2 1) Z1) := by
        intro n
        induction n using Nat.strongRecOn with
        | _ n ih19 =>
          intro mo pr a Z1 hna hla hqa
          have hmR : am_R mo := by have := gwo_b (M := gP h0) (Z := Z) a; rwa [hqa] at this
          refine sx_iload dX2_worstTwo_19 rfl ?_
          refine sx_aload_n dX2_worstTwo_21 rfl ?_
          refine gg_getp dX2_worstTwo_22 fl_X2_23 rfl ?_
          refine gz_geti hG dX2_worstTwo_25 fl_X2_165 (by decide) (fun r25 => ?_)
          refine sx_icmp_ge (tgt := 117) dX2_worstTwo_28 (by decide) (by first | omega | assumption | exact glR_R _ _ _ | (with_reducible first | exact hR _ _ | exact rd_R hR _ _ | exact am_R_and _ _ | exact am_R_or _ _ | exact am_R_xor _ _ | exact am_R_shl _ _ | exact am_R_shr _ _ | exact bit_R _ _) | (exact ⟨by omega, by omega⟩) | exact hR _ _) (by first | omega | assumption | exact glR_R _ _ _ | (with_reducible first | exact hR _ _ | exact rd_R hR _ _ | exact am_R_and _ _ | exact am_R_or _ _ | exact am_R_xor _ _ | exact am_R_shl _ _ | exact am_R_shr _ _ | exact bit_R _ _) | (exact ⟨by omega, by omega⟩) | exact hR _ _) (fun c28 => ?_) (fun c28 => ?_)
          · -- 28t
            refine sx_iload_n dX2_worstTwo_117 rfl ?_
            refine sx_iconst dX2_worstTwo_118 ?_
            refine sx_icmp_ne (tgt := 125) dX2_worstTwo_119 (by decide) (by first | omega | assumption | exact glR_R _ _ _ | (with_reducible first | exact hR _ _ | exact rd_R hR _ _ | exact am_R_and _ _ | exact am_R_or _ _ | exact am_R_xor _ _ | exact am_R_shl _ _ | exact am_R_shr _ _ | exact bit_R _ _) | (exact ⟨by omega, by omega⟩) | exact hR _ _) ⟨by decide, by decide⟩ (fun c119 => ?_) (fun c119 => ?_)
            · -- 119t
              refine sx_iload_n dX2_worstTwo_125 rfl ?_
              refine sx_if_ne (tgt := 133) dX2_worstTwo_126 (by decide) (by first | omega | assumption | exact glR_R _ _ _ | (with_reducible first | exact hR _ _ | exact rd_R hR _ _ | exact am_R_and _ _ | exact am_R_or _ _ | exact am_R_xor _ _ | exact am_R_shl _ _ | exact am_R_shr _ _ | exact bit_R _ _) | (exact ⟨by omega, by omega⟩) | exact hR _ _) (fun c126 => ?_) (fun c126 => ?_)
              · -- 126t
                refine sx_iload_n dX2_worstTwo_133 rfl ?_
                exact sx_iret dX2_worstTwo_134 rfl (by first | (exfalso; omega) | (have hA : (gP h0 0 0).toNat = a := (by omega); unfold gwR; rw [if_pos hk01, hA, hqa]; first | done | rfl | (first | rw [if_pos c119] | (rw [if_neg c119]; first | rw [if_pos c126] | rw [if_neg c126])))) (by first | (exfalso; omega) | (have hA : (gP h0 0 0).toNat = a := (by omega); unfold gwZ; rw [if_pos hk01, hA, hqa]; first | done | rfl | (first | rw [if_pos c119] | (rw [if_neg c119]; first | rw [if_pos c126] | rw [if_neg c126]))))
              · -- 126f
                refine sx_iload_n dX2_worstTwo_129 rfl ?_
                refine sx_goto (tgt := 134) dX2_worstTwo_130 (by decide) ?_
                exact sx_iret dX2_worstTwo_134 rfl (by first | (exfalso; omega) | (have hA : (gP h0 0 0).toNat = a := (by omega); unfold gwR; rw [if_pos hk01, hA, hqa]; first | done | rfl | (first | rw [if_pos c119] | (rw [if_neg c119]; first | rw [if_pos c126] | rw [if_neg c126])))) (by first | (exfalso; omega) | (have hA : (gP h0 0 0).toNat = a := (by omega); unfold gwZ; rw [if_pos hk01, hA, hqa]; first | done | rfl | (first | rw [if_pos c119] | (rw [if_neg c119]; first | rw [if_pos c126] | rw [if_neg c126]))))
            · -- 119f
              refine sx_ldc dX2_worstTwo_122 kc_X2_101 ?_
              exact sx_iret dX2_worstTwo_124 rfl (by first | (exfalso; omega) | (have hA : (gP h0 0 0).toNat = a := (by omega); unfold gwR; rw [if_pos hk01, hA, hqa]; first | done | rfl | (first | rw [if_pos c119] | (rw [if_neg c119]; first | rw [if_pos c126] | rw [if_neg c126])))) (by first | (exfalso; omega) | (have hA : (gP h0 0 0).toNat = a := (by omega); unfold gwZ; rw [if_pos hk01, hA, hqa]; first | done | rfl | (first | rw [if_pos c119] | (rw [if_neg c119]; first | rw [if_pos c126] | rw [if_neg c126]))))
          · -- 28f
            refine sx_iconst dX2_worstTwo_31 ?_
            refine sx_istore dX2_worstTwo_32 (by decide) ?_
            have loop34 : ∀ (n : Nat) (m2 p2 : Int) (b : Nat) (Z2 : am_M), (gP h0 0 0 - b).toNat = n → (b : Int) ≤ gP h0 0 0 → gwi (gP h0) a (mo, pr, Z1) b = (m2, p2, Z2) → Sx 5 Y2_worstTwo (am_U h0 (h0.2 1) (gwZ (gP h0) Z k)) (some (.inl (gwR (gP h0) Z k))) 34 [some (.inr (6, 0)), some (.inl k), some (.inl m2), some (.inl p2), some (.inl (a : Int)), some (.inl (b : Int)), none] [] (am_U h0 (h0.2 1) Z2) := by
              intro n
              induction n using Nat.strongRecOn with
              | _ n ih34 =>
                intro m2 p2 b Z2 hnb hlb hqb
                have hm2R : am_R m2 := by have := gwi_b (M := gP h0) (a := a) (s := (mo, pr, Z1)) hmR b; rwa [hqb] at this
                refine sx_iload dX2_worstTwo_34 rfl ?_
                refine sx_aload_n dX2_worstTwo_36 rfl ?_
                refine gg_getp dX2_worstTwo_37 fl_X2_23 rfl ?_
                refine gz_geti hG dX2_worstTwo_40 fl_X2_165 (by decide) (fun r40 => ?_)
                refine sx_icmp_ge (tgt := 111) dX2_worstTwo_43 (by decide) (by first | omega | assumption | exact glR_R _ _ _ | (with_reducible first | exact hR _ _ | exact rd_R hR _ _ | exact am_R_and _ _ | exact am_R_or _ _ | exact am_R_xor _ _ | exact am_R_shl _ _ | exact am_R_shr _ _ | exact bit_R _ _) | (exact ⟨by omega, by omega⟩) | exact hR _ _) (by first | omega | assumption | exact glR_R _ _ _ | (with_reducible first | exact hR _ _ | exact rd_R hR _ _ | exact am_R_and _ _ | exact am_R_or _ _ | exact am_R_xor _ _ | exact am_R_shl _ _ | exact am_R_shr _ _ | exact bit_R _ _) | (exact ⟨by omega, by omega⟩) | exact hR _ _) (fun c43 => ?_) (fun c43 => ?_)
                · -- 43t
                  refine sx_iinc dX2_worstTwo_111 rfl (by decide) ?_
                  refine sx_goto (tgt := 19) dX2_worstTwo_114 (by decide) ?_
                  exact sx_forget 5 (ih19 _ (by omega) _ _ (a + 1) _ rfl (by omega) (by simp only [gwo, hqa]; rw [show (gP h0 0 0).toNat = b by omega, hqb]))
                · -- 43f
                  refine sx_iload dX2_worstTwo_46 rfl ?_
                  refine sx_iload dX2_worstTwo_48 rfl ?_
                  refine sx_icmp_eq (tgt := 105) dX2_worstTwo_50 (by decide) (by first | omega | assumption | exact glR_R _ _ _ | (with_reducible first | exact hR _ _ | exact rd_R hR _ _ | exact am_R_and _ _ | exact am_R_or _ _ | exact am_R_xor _ _ | exact am_R_shl _ _ | exact am_R_shr _ _ | exact bit_R _ _) | (exact ⟨by omega, by omega⟩) | exact hR _ _) (by first | omega | assumption | exact glR_R _ _ _ | (with_reducible first | exact hR _ _ | exact rd_R hR _ _ | exact am_R_and _ _ | exact am_R_or _ _ | exact am_R_xor _ _ | exact am_R_shl _ _ | exact am_R_shr _ _ | exact bit_R _ _) | (exact ⟨by omega, by omega⟩) | exact hR _ _) (fun c50 => ?_) (fun c50 => ?_)
                  · -- 50t
                    refine sx_iinc dX2_worstTwo_105 rfl (by decide) ?_
                    refine sx_goto (tgt := 34) dX2_worstTwo_108 (by decide) ?_
                    exact (ih34 _ (by omega) _ _ (b + 1) _ rfl (by omega) (by simp only [gwi, hqb]; simp only [if_pos c50]))
                  · -- 50f
                    refine sx_aload_n dX2_worstTwo_53 rfl ?_
                    refine gg_getp dX2_worstTwo_54 fl_X2_23 rfl ?_
                    refine sx_iload dX2_worstTwo_57 rfl ?_
                    refine sx_callVi dX2_worstTwo_59 ml_X2_64 mv0_lives (Ct_p hG (ty_lives (hG.2.2 0) _)) rfl (am_obM (hG.2.2 0)) rfl (Nat.le_of_ble_eq_true rfl) (Nat.le_of_ble_eq_true rfl) ?_
                    refine sx_ifB_eq (tgt := 105) dX2_worstTwo_62 (by decide) (fun c62 => ?_) (fun c62 => ?_)
                    · -- 62t
                      refine sx_iinc dX2_worstTwo_105 rfl (by decide) ?_
                      refine sx_goto (tgt := 34) dX2_worstTwo_108 (by decide) ?_
                      exact (ih34 _ (by omega) _ _ (b + 1) _ rfl (by omega) (by simp only [gwi, hqb]; simp only [if_neg c50, if_neg c62]))
                    · -- 62f
                      refine sx_aload_n dX2_worstTwo_65 rfl ?_
                      refine gg_getp dX2_worstTwo_66 fl_X2_23 rfl ?_
                      refine sx_iload dX2_worstTwo_69 rfl ?_
                      refine sx_callVi dX2_worstTwo_71 ml_X2_64 mv0_lives (Ct_p hG (ty_lives (hG.2.2 0) _)) rfl (am_obM (hG.2.2 0)) rfl (Nat.le_of_ble_eq_true rfl) (Nat.le_of_ble_eq_true rfl) ?_
                      refine sx_ifB_eq (tgt := 105) dX2_worstTwo_74 (by decide) (fun c74 => ?_) (fun c74 => ?_)
                      · -- 74t
                        refine sx_iinc dX2_worstTwo_105 rfl (by decide) ?_
                        refine sx_goto (tgt := 34) dX2_worstTwo_108 (by decide) ?_
                        exact (ih34 _ (by omega) _ _ (b + 1) _ rfl (by omega) (by simp only [gwi, hqb]; simp only [if_neg c50, if_pos c62, if_neg c74]))
                      · -- 74f
                        refine sx_aload_n dX2_worstTwo_77 rfl ?_
                        refine sx_iload dX2_worstTwo_78 rfl ?_
                        refine sx_iload dX2_worstTwo_80 rfl ?_
                        refine sx_callVi dX2_worstTwo_82 ml_X2_162 mv2_lostBy (tg_lostBy hG _ _ (by first | assumption | exact ⟨by omega, by omega⟩ | exact ⟨by decide, by decide⟩) (by first | assumption | exact ⟨by omega, by omega⟩ | exact ⟨by decide, by decide⟩) hS (fun _ => hD _)) rfl am_obG rfl (Nat.le_of_ble_eq_true rfl) (Nat.le_of_ble_eq_true rfl) ?_
                        refine sx_istore dX2_worstTwo_85 (by decide) ?_
                        refine sx_iload dX2_worstTwo_87 rfl ?_
                        refine sx_iload_n dX2_worstTwo_89 rfl ?_
                        refine sx_icmp_le (tgt := 105) dX2_worstTwo_90 (by decide) (by first | omega | assumption | exact glR_R _ _ _ | (with_reducible first | exact hR _ _ | exact rd_R hR _ _ | exact am_R_and _ _ | exact am_R_or _ _ | exact am_R_xor _ _ | exact am_R_shl _ _ | exact am_R_shr _ _ | exact bit_R _ _) | (exact ⟨by omega, by omega⟩) | exact hR _ _) (by first | omega | assumption | exact glR_R _ _ _ | (with_reducible first | exact hR _ _ | exact rd_R hR _ _ | exact am_R_and _ _ | exact am_R_or _ _ | exact am_R_xor _ _ | exact am_R_shl _ _ | exact am_R_shr _ _ | exact bit_R _ _) | (exact ⟨by omega, by omega⟩) | exact hR _ _) (fun c90 => ?_) (fun c90 => ?_)
                        · -- 90t
                          refine sx_iinc dX2_worstTwo_105 rfl (by decide) ?_
                          refine sx_goto (tgt := 34) dX2_worstTwo_108 (by decide) ?_
                          exact sx_forget 6 (ih34 _ (by omega) _ _ (b + 1) _ rfl (by omega) (by simp only [gwi, hqb]; simp only [if_neg c50, if_pos c62, if_pos c74, if_pos c90, if_neg (Int.not_lt.mpr c90)]))
                        · -- 90f
                          refine sx_iload dX2_worstTwo_93 rfl ?_
                          refine sx_istore_n dX2_worstTwo_95 (by decide) ?_
                          refine sx_bipush dX2_worstTwo_96 rfl ?_
                          refine sx_iload dX2_worstTwo_98 rfl ?_
                          refine sx_imul dX2_worstTwo_100 ?_
                          refine sx_iload dX2_worstTwo_101 rfl ?_
                          refine sx_iadd dX2_worstTwo_103 ?_
                          refine sx_istore_n dX2_worstTwo_104 (by decide) ?_
                          refine sx_iinc dX2_worstTwo_105 rfl (by decide) ?_
                          refine sx_goto (tgt := 34) dX2_worstTwo_108 (by decide) ?_
                          exact sx_forget 6 (ih34 _ (by omega) _ _ (b + 1) _ rfl (by omega) (by simp only [gwi, hqb]; simp only [if_neg c50, if_pos c62, if_pos c74, if_pos c90, if_neg (Int.not_le.mpr c90)]))
            exact loop34 _ _ _ 0 _ rfl (by omega) rfl
      exact loop19 _ (-1) 0 0 Z rfl (by omega) rfl
    · -- 6f
      refine sx_ldc dX2_worstTwo_9 kc_X2_59 ?_
      exact sx_iret dX2_worstTwo_11 rfl (by unfold gwR; rw [if_neg (by omega)]) (by unfold gwZ; rw [if_neg (by omega)])
set_option maxHeartbeats 4000000 in
set_option maxRecDepth 100000 in
theorem tg_calm {h0 : am_H} {Z : am_M} (hG : AG h0) (hW : WM (gP h0)) (hS : YS (gP h0)) (hC : ∀ k : Nat, k ≤ 24 → YS (gcZ (gP h0) k))  : Ct 4 Y2_calm [.inr (6, 0)] (some (.inl (gcl 25 0 (gcZ (gP h0) 0)).1)) (am_U h0 (h0.2 1) Z) (am_U h0 (h0.2 1) (gcl 25 0 (gcZ (gP h0) 0)).2) := by
  refine Ct_of (by decide +kernel) (Nat.le_of_ble_eq_true rfl) ?_
  show Sx 4 Y2_calm (am_U h0 (h0.2 1) (gcl 25 0 (gcZ (gP h0) 0)).2) (some (.inl (gcl 25 0 (gcZ (gP h0) 0)).1)) 0 [some (.inr (6, 0)), none, none] [] (am_U h0 (h0.2 1) Z)
  refine sx_vh (fun hV => ?_)
  have hR : ∀ j k, am_R (gP h0 j k) := fun j k => by
    have := hV.1 (h0.2 0) j k
    rwa [gZ_p hG] at this
  obtain ⟨w0, w2, w1, w5, w8, w12, wb⟩ := id hW
  refine sx_aload_n dX2_calm_0 rfl ?_
  refine sx_callVr dX2_calm_1 ml_X2_34 mv2_freshTrial (tg_freshTrial hG) rfl am_obG rfl (Nat.le_of_ble_eq_true rfl) (Nat.le_of_ble_eq_true rfl) ?_
  refine sx_astore_n dX2_calm_4 (by decide) ?_
  refine sx_aload_n dX2_calm_5 rfl ?_
  refine sx_iconst dX2_calm_6 ?_
  refine mm_put (hG.2.2 1) dX2_calm_7 fl_X2_168 (by decide) ⟨by decide, by decide⟩ ?_
  refine sx_heq (am_U h0 (h0.2 1) (gcZ (gP h0) 0)) rfl ?_
  refine sx_iconst dX2_calm_10 ?_
  refine sx_istore_n dX2_calm_11 (by decide) ?_
  have loop12 : ∀ (n : Nat) (t : Nat) (Z2 : am_M), (25 - t) = n → t ≤ 25 → Z2 = gcZ (gP h0) t → gcl (25 - t) (t : Int) Z2 = gcl 25 0 (gcZ (gP h0) 0) → Sx 4 Y2_calm (am_U h0 (h0.2 1) (gcl 25 0 (gcZ (gP h0) 0)).2) (some (.inl (gcl 25 0 (gcZ (gP h0) 0)).1)) 12 [some (.inr (6, 0)), some (.inr (h0.2 1, 0)), some (.inl (t : Int))] [] (am_U h0 (h0.2 1) Z2) := by
    intro n
    induction n using Nat.strongRecOn with
    | _ n ih12 =>
      intro t Z2 hn hle hZ hq
      refine sx_iload_n dX2_calm_12 rfl ?_
      refine sx_bipush dX2_calm_13 rfl ?_
      refine sx_icmp_gt (tgt := 44) dX2_calm_15 (by decide) (by first | omega | assumption | (with_reducible first | exact hR _ _ | exact rd_R hR _ _ | exact am_R_and _ _ | exact am_R_or _ _ | exact am_R_xor _ _ | exact am_R_shl _ _ | exact am_R_shr _ _ | exact bit_R _ _ | exact ybc_R _ | exact yps_R _ _) | (exact ⟨by omega, by omega⟩) | exact hR _ _) ⟨by decide, by decide⟩ (fun c15 => ?_) (fun c15 => ?_)
      · -- 15t
        refine sx_ldc dX2_calm_44 kc_X2_101 ?_
        exact sx_iret dX2_calm_46 rfl (by first | (exfalso; omega) | (rw [← hq, show 25 - t = 0 by omega]; done) | (rw [← hq, show 25 - t = 0 by omega]; rfl) | (rw [← hq, h25]; simp only [gcl]; first | rw [if_pos c22] | rw [if_neg c22, if_pos c32])) (by first | (exfalso; omega) | (rw [← hq, show 25 - t = 0 by omega]; done) | (rw [← hq, show 25 - t = 0 by omega]; rfl) | (rw [← hq, h25]; simp only [gcl]; first | rw [if_pos c22] | rw [if_neg c22, if_pos c32]))
      · -- 15f
        have hSt : YS Z2 := by rw [hZ]; exact hC t (by omega)
        have hwb := yww_b hSt.1
        have htb := ytick_b Z2 1
        have h25 : 25 - t = (25 - (t + 1)) + 1 := by omega
        refine sx_aload_n dX2_calm_18 rfl ?_
        refine sx_callVi dX2_calm_19 ml_X2_171 mv0_wordsWaiting (ty_wordsWaiting (hG.2.2 1)) rfl (am_obM (hG.2.2 1)) rfl (Nat.le_of_ble_eq_true rfl) (Nat.le_of_ble_eq_true rfl) ?_
        refine sx_if_ne (tgt := 27) dX2_calm_22 (by decide) (by first | omega | assumption | (with_reducible first | exact hR _ _ | exact rd_R hR _ _ | exact am_R_and _ _ | exact am_R_or _ _ | exact am_R_xor _ _ | exact am_R_shl _ _ | exact am_R_shr _ _ | exact bit_R _ _ | exact ybc_R _ | exact yps_R _ _) | (exact ⟨by omega, by omega⟩) | exact hR _ _) (fun c22 => ?_) (fun c22 => ?_)
        · -- 22t
          refine sx_aload_n dX2_calm_27 rfl ?_
          refine sx_iconst dX2_calm_28 ?_
          refine sx_callVi dX2_calm_29 ml_X2_159 mv0_goTicks (ty_goTicks (hG.2.2 1) _ hSt.1 (by exact ⟨by decide, by decide⟩) hSt.2.1 (hSt.2.2.2.1 _)) rfl (am_obM (hG.2.2 1)) rfl (Nat.le_of_ble_eq_true rfl) (Nat.le_of_ble_eq_true rfl) ?_
          refine sx_if_gt (tgt := 38) dX2_calm_32 (by decide) (by first | omega | assumption | (with_reducible first | exact hR _ _ | exact rd_R hR _ _ | exact am_R_and _ _ | exact am_R_or _ _ | exact am_R_xor _ _ | exact am_R_shl _ _ | exact am_R_shr _ _ | exact bit_R _ _ | exact ybc_R _ | exact yps_R _ _) | (exact ⟨by omega, by omega⟩) | exact hR _ _) (fun c32 => ?_) (fun c32 => ?_)
          · -- 32t
            refine sx_iinc dX2_calm_38 rfl (by decide) ?_
            refine sx_goto (tgt := 12) dX2_calm_41 (by decide) ?_
            exact ih12 _ (by omega) (t + 1) _ rfl (by omega) (by rw [hZ]; rfl) (by rw [← hq, h25]; simp only [gcl]; rw [if_neg c22, if_neg (Int.not_le.mpr c32)]; rfl)
          · -- 32f
            refine sx_ldc dX2_calm_35 kc_X2_101 ?_
            exact sx_iret dX2_calm_37 rfl (by first | (exfalso; omega) | (rw [← hq, show 25 - t = 0 by omega]; done) | (rw [← hq, show 25 - t = 0 by omega]; rfl) | (rw [← hq, h25]; simp only [gcl]; first | rw [if_pos c22] | rw [if_neg c22, if_pos c32])) (by first | (exfalso; omega) | (rw [← hq, show 25 - t = 0 by omega]; done) | (rw [← hq, show 25 - t = 0 by omega]; rfl) | (rw [← hq, h25]; simp only [gcl]; first | rw [if_pos c22] | rw [if_neg c22, if_pos c32]))
        · -- 22f
          refine sx_iload_n dX2_calm_25 rfl ?_
          exact sx_iret dX2_calm_26 rfl (by first | (exfalso; omega) | (rw [← hq, show 25 - t = 0 by omega]; done) | (rw [← hq, show 25 - t = 0 by omega]; rfl) | (rw [← hq, h25]; simp only [gcl]; first | rw [if_pos c22] | rw [if_neg c22, if_pos c32])) (by first | (exfalso; omega) | (rw [← hq, show 25 - t = 0 by omega]; done) | (rw [← hq, show 25 - t = 0 by omega]; rfl) | (rw [← hq, h25]; simp only [gcl]; first | rw [if_pos c22] | rw [if_neg c22, if_pos c32]))
  exact loop12 _ 0 _ rfl (by omega) rfl rfl
set_option maxHeartbeats 4000000 in
set_option maxRecDepth 100000 in
theorem tg_heir {h0 : am_H} {Z : am_M} (hG : AG h0) (f : Int) (hW : WM (gP h0)) (hfR : am_R f) (hS : YS (gP h0))  : Ct 3 Y2_heir [.inr (6, 0), .inl f] (some (.inl (ghR (gP h0) Z f))) (am_U h0 (h0.2 1) Z) (am_U h0 (h0.2 1) (ghZ (gP h0) Z f)) := by
  refine Ct_of (by decide +kernel) (Nat.le_of_ble_eq_true rfl) ?_
  show Sx 3 Y2_heir (am_U h0 (h0.2 1) (ghZ (gP h0) Z f)) (some (.inl (ghR (gP h0) Z f))) 0 [some (.inr (6, 0)), some (.inl f), none, none, none] [] (am_U h0 (h0.2 1) Z)
  refine sx_vh (fun hV => ?_)
  have hR : ∀ j k, am_R (gP h0 j k) := fun j k => by
    have := hV.1 (h0.2 0) j k
    rwa [gZ_p hG] at this
  obtain ⟨w0, w2, w1, w5, w8, w12, wb⟩ := id hW
  refine sx_iload_n dX2_heir_0 rfl ?_
  refine sx_callSi dX2_heir_1 ml_X2_138 ms2_isFamily (ty_isFamily _ hfR) rfl rfl (Nat.le_of_ble_eq_true rfl) (Nat.le_of_ble_eq_true rfl) ?_
  refine sx_ifB_ne (tgt := 10) dX2_heir_4 (by decide) (fun c4 => ?_) (fun c4 => ?_)
  · -- 4t
    refine sx_aload_n dX2_heir_10 rfl ?_
    refine gg_getp dX2_heir_11 fl_X2_23 rfl ?_
    refine gz_getr (j := 5) hG dX2_heir_14 fl_X2_144 (by decide) ?_
    refine sx_iload_n dX2_heir_17 rfl ?_
    refine gz_ild (n := 3) hG dX2_heir_18 (by decide) rfl (by decide) (by first | omega | assumption | exact ⟨by omega, by omega⟩ | (exact ⟨by have := cntW_R (fun w => rd (gP h0) 10 w == (c : Int)) (gP h0 0 2).toNat; unfold ykb; omega, by have := cntW_R (fun w => rd (gP h0) 10 w == (c : Int)) (gP h0 0 2).toNat; unfold ykb; omega⟩) | (exact ⟨by have := (yempty_b (gP h0) c).1; omega, by have := (yempty_b (gP h0) c).2; omega⟩) | exact hR _ _) (by first | omega | assumption | exact ⟨by omega, by omega⟩ | (exact ⟨by have := cntW_R (fun w => rd (gP h0) 10 w == (c : Int)) (gP h0 0 2).toNat; unfold ykb; omega, by have := cntW_R (fun w => rd (gP h0) 10 w == (c : Int)) (gP h0 0 2).toNat; unfold ykb; omega⟩) | (exact ⟨by have := (yempty_b (gP h0) c).1; omega, by have := (yempty_b (gP h0) c).2; omega⟩) | exact hR _ _) (fun r18 => ?_)
    refine sx_iconst dX2_heir_19 ?_
    refine sx_icmp_eq (tgt := 26) dX2_heir_20 (by decide) (by first | omega | assumption | exact ⟨by omega, by omega⟩ | (exact ⟨by have := cntW_R (fun w => rd (gP h0) 10 w == (c : Int)) (gP h0 0 2).toNat; unfold ykb; omega, by have := cntW_R (fun w => rd (gP h0) 10 w == (c : Int)) (gP h0 0 2).toNat; unfold ykb; omega⟩) | (exact ⟨by have := (yempty_b (gP h0) c).1; omega, by have := (yempty_b (gP h0) c).2; omega⟩) | exact hR _ _) ⟨by decide, by decide⟩ (fun c20 => ?_) (fun c20 => ?_)
    · -- 20t
      refine sx_ldc dX2_heir_26 kc_X2_101 ?_
      refine sx_istore_n dX2_heir_28 (by decide) ?_
      refine sx_bipush dX2_heir_29 rfl ?_
      refine sx_istore_n dX2_heir_31 (by decide) ?_
      refine sx_iconst dX2_heir_32 ?_
      refine sx_istore dX2_heir_33 (by decide) ?_
      have loop35 : ∀ (n : Nat) (hr fw : Int) (c : Nat) (Z2 : am_M), (gP h0 0 0 - c).toNat = n → (c : Int) ≤ gP h0 0 0 → ghr (gP h0) Z f c = (hr, fw, Z2) → Sx 3 Y2_heir (am_U h0 (h0.2 1) (ghZ (gP h0) Z f)) (some (.inl (ghR (gP h0) Z f))) 35 [some (.inr (6, 0)), some (.inl f), some (.inl hr), some (.inl fw), some (.inl (c : Int))] [] (am_U h0 (h0.2 1) Z2) := by
        intro n
        induction n using Nat.strongRecOn with
        | _ n ih35 =>
          intro hr fw c Z2 hn hle hq
          have hfw := ghr_b (M := gP h0) (Z := Z) (f := f) c
          rw [hq] at hfw
          replace hfw : 0 ≤ fw ∧ fw ≤ 7 := hfw
          refine sx_iload dX2_heir_35 rfl ?_
          refine sx_aload_n dX2_heir_37 rfl ?_
          refine gg_getp dX2_heir_38 fl_X2_23 rfl ?_
          refine gz_geti hG dX2_heir_41 fl_X2_165 (by decide) (fun r41 => ?_)
          refine sx_icmp_ge (tgt := 105) dX2_heir_44 (by decide) (by first | omega | assumption | exact ⟨by omega, by omega⟩ | (exact ⟨by have := cntW_R (fun w => rd (gP h0) 10 w == (c : Int)) (gP h0 0 2).toNat; unfold ykb; omega, by have := cntW_R (fun w => rd (gP h0) 10 w == (c : Int)) (gP h0 0 2).toNat; unfold ykb; omega⟩) | (exact ⟨by have := (yempty_b (gP h0) c).1; omega, by have := (yempty_b (gP h0) c).2; omega⟩) | exact hR _ _) (by first | omega | assumption | exact ⟨by omega, by omega⟩ | (exact ⟨by have := cntW_R (fun w => rd (gP h0) 10 w == (c : Int)) (gP h0 0 2).toNat; unfold ykb; omega, by have := cntW_R (fun w => rd (gP h0) 10 w == (c : Int)) (gP h0 0 2).toNat; unfold ykb; omega⟩) | (exact ⟨by have := (yempty_b (gP h0) c).1; omega, by have := (yempty_b (gP h0) c).2; omega⟩) | exact hR _ _) (fun c44 => ?_) (fun c44 => ?_)
          · -- 44t
            refine sx_iload_n dX2_heir_105 rfl ?_
            exact sx_iret dX2_heir_106 rfl (by have hA : (gP h0 0 0).toNat = c := (by omega); unfold ghR; rw [if_pos c4, if_pos c20, hA, hq]) (by have hA : (gP h0 0 0).toNat = c := (by omega); unfold ghZ; rw [if_pos c4, if_pos c20, hA, hq])
          · -- 44f
            refine sx_aload_n dX2_heir_47 rfl ?_
            refine gg_getp dX2_heir_48 fl_X2_23 rfl ?_
            refine gz_getr (j := 1) hG dX2_heir_51 fl_X2_60 (by decide) ?_
            refine sx_iload dX2_heir_54 rfl ?_
            refine gz_ild (n := 8) hG dX2_heir_56 (by decide) rfl (by decide) (by first | omega | assumption | exact ⟨by omega, by omega⟩ | (exact ⟨by have := cntW_R (fun w => rd (gP h0) 10 w == (c : Int)) (gP h0 0 2).toNat; unfold ykb; omega, by have := cntW_R (fun w => rd (gP h0) 10 w == (c : Int)) (gP h0 0 2).toNat; unfold ykb; omega⟩) | (exact ⟨by have := (yempty_b (gP h0) c).1; omega, by have := (yempty_b (gP h0) c).2; omega⟩) | exact hR _ _) (by first | omega | assumption | exact ⟨by omega, by omega⟩ | (exact ⟨by have := cntW_R (fun w => rd (gP h0) 10 w == (c : Int)) (gP h0 0 2).toNat; unfold ykb; omega, by have := cntW_R (fun w => rd (gP h0) 10 w == (c : Int)) (gP h0 0 2).toNat; unfold ykb; omega⟩) | (exact ⟨by have := (yempty_b (gP h0) c).1; omega, by have := (yempty_b (gP h0) c).2; omega⟩) | exact hR _ _) (fun r56 => ?_)
            refine sx_iload_n dX2_heir_57 rfl ?_
            refine sx_icmp_ne (tgt := 99) dX2_heir_58 (by decide) (by first | omega | assumption | exact ⟨by omega, by omega⟩ | (exact ⟨by have := cntW_R (fun w => rd (gP h0) 10 w == (c : Int)) (gP h0 0 2).toNat; unfold ykb; omega, by have := cntW_R (fun w => rd (gP h0) 10 w == (c : Int)) (gP h0 0 2).toNat; unfold ykb; omega⟩) | (exact ⟨by have := (yempty_b (gP h0) c).1; omega, by have := (yempty_b (gP h0) c).2; omega⟩) | exact hR _ _) (by first | omega | assumption | exact ⟨by omega, by omega⟩ | (exact ⟨by have := cntW_R (fun w => rd (gP h0) 10 w == (c : Int)) (gP h0 0 2).toNat; unfold ykb; omega, by have := cntW_R (fun w => rd (gP h0) 10 w == (c : Int)) (gP h0 0 2).toNat; unfold ykb; omega⟩) | (exact ⟨by have := (yempty_b (gP h0) c).1; omega, by have := (yempty_b (gP h0) c).2; omega⟩) | exact hR _ _) (fun c58 => ?_) (fun c58 => ?_)
            · -- 58t
              refine sx_iinc dX2_heir_99 rfl (by decide) ?_
              refine sx_goto (tgt := 35) dX2_heir_102 (by decide) ?_
              exact ih35 _ (by omega) _ _ (c + 1) _ rfl (by omega) (by simp only [ghr, hq]; simp only [if_neg c58])
            · -- 58f
              refine sx_aload_n dX2_heir_61 rfl ?_
              refine gg_getp dX2_heir_62 fl_X2_23 rfl ?_
              refine sx_iload dX2_heir_65 rfl ?_
              refine sx_callVi dX2_heir_67 ml_X2_70 mv0_keptBy (Ct_p hG (ty_keptBy (hG.2.2 0) _ hW (by exact ⟨by omega, by omega⟩))) rfl (am_obM (hG.2.2 0)) rfl (Nat.le_of_ble_eq_true rfl) (Nat.le_of_ble_eq_true rfl) ?_
              refine sx_iload_n dX2_heir_70 rfl ?_
              refine sx_icmp_ge (tgt := 99) dX2_heir_71 (by decide) (by first | omega | assumption | exact ⟨by omega, by omega⟩ | (exact ⟨by have := cntW_R (fun w => rd (gP h0) 10 w == (c : Int)) (gP h0 0 2).toNat; unfold ykb; omega, by have := cntW_R (fun w => rd (gP h0) 10 w == (c : Int)) (gP h0 0 2).toNat; unfold ykb; omega⟩) | (exact ⟨by have := (yempty_b (gP h0) c).1; omega, by have := (yempty_b (gP h0) c).2; omega⟩) | exact hR _ _) (by first | omega | assumption | exact ⟨by omega, by omega⟩ | (exact ⟨by have := cntW_R (fun w => rd (gP h0) 10 w == (c : Int)) (gP h0 0 2).toNat; unfold ykb; omega, by have := cntW_R (fun w => rd (gP h0) 10 w == (c : Int)) (gP h0 0 2).toNat; unfold ykb; omega⟩) | (exact ⟨by have := (yempty_b (gP h0) c).1; omega, by have := (yempty_b (gP h0) c).2; omega⟩) | exact hR _ _) (fun c71 => ?_) (fun c71 => ?_)
              · -- 71t
                refine sx_iinc dX2_heir_99 rfl (by decide) ?_
                refine sx_goto (tgt := 35) dX2_heir_102 (by decide) ?_
                exact ih35 _ (by omega) _ _ (c + 1) _ rfl (by omega) (by simp only [ghr, hq]; simp only [if_pos c58, if_pos c71, if_neg (Int.not_lt.mpr c71)])
              · -- 71f
                refine sx_aload_n dX2_heir_74 rfl ?_
                refine sx_callVr dX2_heir_75 ml_X2_34 mv2_freshTrial (tg_freshTrial hG) rfl am_obG rfl (Nat.le_of_ble_eq_true rfl) (Nat.le_of_ble_eq_true rfl) ?_
                refine sx_iload dX2_heir_78 rfl ?_
                refine sx_callVi dX2_heir_80 ml_X2_120 mv0_emptyChip (ty_emptyChip (hG.2.2 1) _ hW (by exact ⟨by omega, by omega⟩) (hS.2.2.2.2.1 _)) rfl (am_obM (hG.2.2 1)) rfl (Nat.le_of_ble_eq_true rfl) (Nat.le_of_ble_eq_true rfl) ?_
                refine sx_if_lt (tgt := 99) dX2_heir_83 (by decide) (by first | omega | assumption | exact ⟨by omega, by omega⟩ | (exact ⟨by have := cntW_R (fun w => rd (gP h0) 10 w == (c : Int)) (gP h0 0 2).toNat; unfold ykb; omega, by have := cntW_R (fun w => rd (gP h0) 10 w == (c : Int)) (gP h0 0 2).toNat; unfold ykb; omega⟩) | (exact ⟨by have := (yempty_b (gP h0) c).1; omega, by have := (yempty_b (gP h0) c).2; omega⟩) | exact hR _ _) (fun c83 => ?_) (fun c83 => ?_)
                · -- 83t
                  refine sx_iinc dX2_heir_99 rfl (by decide) ?_
                  refine sx_goto (tgt := 35) dX2_heir_102 (by decide) ?_
                  exact ih35 _ (by omega) _ _ (c + 1) _ rfl (by omega) (by simp only [ghr, hq]; simp only [if_pos c58, if_pos c71, if_neg (Int.not_le.mpr c71), if_pos c83, if_neg (Int.not_le.mpr c83)])
                · -- 83f
                  refine sx_iload dX2_heir_86 rfl ?_
                  refine sx_istore_n dX2_heir_88 (by decide) ?_
                  refine sx_aload_n dX2_heir_89 rfl ?_
                  refine gg_getp dX2_heir_90 fl_X2_23 rfl ?_
                  refine sx_iload dX2_heir_93 rfl ?_
                  refine sx_callVi dX2_heir_95 ml_X2_70 mv0_keptBy (Ct_p hG (ty_keptBy (hG.2.2 0) _ hW (by exact ⟨by omega, by omega⟩))) rfl (am_obM (hG.2.2 0)) rfl (Nat.le_of_ble_eq_true rfl) (Nat.le_of_ble_eq_true rfl) ?_
                  refine sx_istore_n dX2_heir_98 (by decide) ?_
                  refine sx_iinc dX2_heir_99 rfl (by decide) ?_
                  refine sx_goto (tgt := 35) dX2_heir_102 (by decide) ?_
                  exact ih35 _ (by omega) _ _ (c + 1) _ rfl (by omega) (by simp only [ghr, hq]; simp only [if_pos c58, if_pos c71, if_neg (Int.not_le.mpr c71), if_pos c83, if_neg (Int.not_lt.mpr c83)])
      exact loop35 _ _ _ 0 _ rfl (by omega) rfl
    · -- 20f
      refine sx_ldc dX2_heir_23 kc_X2_94 ?_
      exact sx_iret dX2_heir_25 rfl (by unfold ghR; simp only [if_pos c4, if_neg c20]) (by unfold ghZ; simp only [if_pos c4, if_neg c20])
  · -- 4f
    refine sx_ldc dX2_heir_7 kc_X2_59 ?_
    exact sx_iret dX2_heir_9 rfl (by unfold ghR; simp only [if_neg c4]) (by unfold ghZ; simp only [if_neg c4])
