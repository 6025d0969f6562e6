set_option maxHeartbeats 4000000 in
set_option maxRecDepth 100000 in
theorem tz_readOrder {h0 : am_H} {O : am_M} (hT : TO O) (hnx : O 2 4 < O 2 1)  : Ct 1 Y1_readOrder [.inr (6, 2)] (some (.inl (if (rdo O).1 = true then 1 else 0))) (am_U h0 6 O) (am_U h0 6 (rdo O).2) := by
  refine Ct_of (by decide +kernel) (Nat.le_of_ble_eq_true rfl) ?_
  show Sx 1 Y1_readOrder (am_U h0 6 (rdo O).2) (some (.inl (if (rdo O).1 = true then 1 else 0))) 0 [some (.inr (6, 2)), none] [] (am_U h0 6 O)
  refine oo_vh (fun hR => ?_)
  obtain ⟨q1, q2, q3, q4⟩ := id hT
  refine sx_aload_n dX1_readOrder_0 rfl ?_
  refine sx_aload_n dX1_readOrder_1 rfl ?_
  refine oo_getr dX1_readOrder_2 fl_X1_9 ?_
  refine sx_aload_n dX1_readOrder_5 rfl ?_
  refine oo_geti dX1_readOrder_6 fl_X1_15 (by decide) (fun r6 => ?_)
  refine oo_cld dX1_readOrder_9 (by first | omega | assumption | (with_reducible first | exact hR _ _ | exact rd_R hR _ _ | exact am_R_and _ _ | exact am_R_or _ _ | exact am_R_xor _ _ | exact am_R_shl _ _ | exact am_R_shr _ _ | exact bit_R _ _) | (exact ⟨by omega, by omega⟩) | exact hR _ _) (by first | omega | assumption | (with_reducible first | exact hR _ _ | exact rd_R hR _ _ | exact am_R_and _ _ | exact am_R_or _ _ | exact am_R_xor _ _ | exact am_R_shl _ _ | exact am_R_shr _ _ | exact bit_R _ _) | (exact ⟨by omega, by omega⟩) | exact hR _ _) rfl (fun r9 => ?_)
  refine oo_put dX1_readOrder_10 fl_X1_32 (by decide) (by first | omega | assumption | (with_reducible first | exact hR _ _ | exact rd_R hR _ _ | exact am_R_and _ _ | exact am_R_or _ _ | exact am_R_xor _ _ | exact am_R_shl _ _ | exact am_R_shr _ _ | exact bit_R _ _) | (exact ⟨by omega, by omega⟩) | exact hR _ _) ?_
  refine sx_aload_n dX1_readOrder_13 rfl ?_
  refine sx_dup dX1_readOrder_14 ?_
  refine oo_geti dX1_readOrder_15 fl_X1_15 (by decide) (fun r15 => ?_)
  show Sx 1 Y1_readOrder _ _ _ _ [.inl (O 2 4), .inr (6, 2)] _
  refine sx_iconst dX1_readOrder_18 ?_
  refine sx_iadd dX1_readOrder_19 ?_
  refine oo_put dX1_readOrder_20 fl_X1_15 (by decide) (by first | omega | assumption | (with_reducible first | exact hR _ _ | exact rd_R hR _ _ | exact am_R_and _ _ | exact am_R_or _ _ | exact am_R_xor _ _ | exact am_R_shl _ _ | exact am_R_shr _ _ | exact bit_R _ _) | (exact ⟨by omega, by omega⟩) | exact hR _ _) ?_
  refine sx_heq (am_U h0 6 (or1 O)) rfl ?_
  have hT1 := TO_1 hT hnx
  have hT6 := TO_6 hT1
  have hb1 := onR_b (or1 O)
  have hb2 := onR_b (ohX (o6 (or1 O)) 44)
  refine sx_aload_n dX1_readOrder_23 rfl ?_
  refine oo_geti dX1_readOrder_24 fl_X1_32 (by decide) (fun r24 => ?_)
  show Sx 1 Y1_readOrder _ _ _ _ [.inl (O 3 (O 2 4).toNat)] _
  refine sx_bipush dX1_readOrder_27 rfl ?_
  refine sx_icmp_eq (tgt := 41) dX1_readOrder_29 (by decide) (by first | omega | assumption | (with_reducible first | exact hR _ _ | exact rd_R hR _ _ | exact am_R_and _ _ | exact am_R_or _ _ | exact am_R_xor _ _ | exact am_R_shl _ _ | exact am_R_shr _ _ | exact bit_R _ _) | (exact ⟨by omega, by omega⟩) | exact hR _ _) ⟨by decide, by decide⟩ (fun c29 => ?_) (fun c29 => ?_)
  · -- 29t
    refine sx_iconst dX1_readOrder_41 ?_
    refine sx_goto (tgt := 46) dX1_readOrder_42 (by decide) ?_
    refine sx_istore_n dX1_readOrder_46 (by decide) ?_
    refine sx_iload_n dX1_readOrder_47 rfl ?_
    refine sx_if_ne (tgt := 89) dX1_readOrder_48 (by decide) ⟨by decide, by decide⟩ (fun _ => ?_) (fun q => absurd q (by decide))
    have t2t : t2 (O 3 (O 2 4).toNat) = true := by
      unfold t2
      simp [c29]
    have tokt : tok (O 3 (O 2 4).toNat) = true := by
      unfold tok
      simp [t2t]
    refine sx_aload_n dX1_readOrder_89 rfl ?_
    refine sx_aload_n dX1_readOrder_90 rfl ?_
    refine sx_callVi dX1_readOrder_91 ml_X1_72 mv1_readNumber (tz_readNumber hT1) rfl am_obO rfl (Nat.le_of_ble_eq_true rfl) (Nat.le_of_ble_eq_true rfl) ?_
    refine oo_put dX1_readOrder_94 fl_X1_35 (by decide) (by first | omega | assumption | (with_reducible first | exact hR _ _ | exact rd_R hR _ _ | exact am_R_and _ _ | exact am_R_or _ _ | exact am_R_xor _ _ | exact am_R_shl _ _ | exact am_R_shr _ _ | exact bit_R _ _) | (exact ⟨by omega, by omega⟩) | exact hR _ _) ?_
    refine sx_heq (am_U h0 6 (o6 (or1 O))) rfl ?_
    refine sx_aload_n dX1_readOrder_97 rfl ?_
    refine oo_geti dX1_readOrder_98 fl_X1_35 (by decide) (fun r98 => ?_)
    show Sx 1 Y1_readOrder _ _ _ _ [.inl (onR (or1 O))] _
    refine sx_iconst dX1_readOrder_101 ?_
    refine sx_icmp_ne (tgt := 107) dX1_readOrder_102 (by decide) (by first | omega | assumption | (with_reducible first | exact hR _ _ | exact rd_R hR _ _ | exact am_R_and _ _ | exact am_R_or _ _ | exact am_R_xor _ _ | exact am_R_shl _ _ | exact am_R_shr _ _ | exact bit_R _ _) | (exact ⟨by omega, by omega⟩) | exact hR _ _) ⟨by decide, by decide⟩ (fun c102 => ?_) (fun c102 => ?_)
    · -- 102t
      have n1 : ¬ onN (or1 O) = 0 := fun q => c102 (hb1.2.2.mpr q)
      refine sx_iload_n dX1_readOrder_107 rfl ?_
      refine sx_if_eq (tgt := 142) dX1_readOrder_108 (by decide) ⟨by decide, by decide⟩ (fun q => absurd q (by decide)) (fun _ => ?_)
      refine sx_aload_n dX1_readOrder_111 rfl ?_
      refine sx_aload_n dX1_readOrder_112 rfl ?_
      refine sx_bipush dX1_readOrder_113 rfl ?_
      refine sx_callVi dX1_readOrder_115 ml_X1_76 mv1_skip (tz_skip _ hT6 (by exact ⟨by decide, by decide⟩)) rfl am_obO rfl (Nat.le_of_ble_eq_true rfl) (Nat.le_of_ble_eq_true rfl) ?_
      refine sx_ifB_eq (tgt := 128) dX1_readOrder_118 (by decide) (fun c118 => ?_) (fun c118 => ?_)
      · -- 118t
        refine sx_iconst dX1_readOrder_128 ?_
        refine oo_put dX1_readOrder_129 fl_X1_61 (by decide) ⟨by decide, by decide⟩ ?_
        refine sx_heq (am_U h0 6 (am_u2 (ohX (o6 (or1 O)) 44) 2 7 (-1))) rfl ?_
        refine sx_aload_n dX1_readOrder_132 rfl ?_
        refine oo_geti dX1_readOrder_133 fl_X1_61 (by decide) (fun r133 => ?_)
        show Sx 1 Y1_readOrder _ _ _ _ [.inl (-1)] _
        refine sx_iconst dX1_readOrder_136 ?_
        refine sx_icmp_ne (tgt := 142) dX1_readOrder_137 (by decide) ⟨by decide, by decide⟩ ⟨by decide, by decide⟩ (fun q => absurd q (by decide)) (fun _ => ?_)
        skip
        refine sx_iconst dX1_readOrder_140 ?_
        exact sx_zret dX1_readOrder_141 rfl (by decide) (by unfold rdo orf; rw [if_pos tokt, if_neg n1, if_pos t2t, if_neg c118]; try rfl) (by unfold rdo orf; rw [if_pos tokt, if_neg n1, if_pos t2t, if_neg c118]; try rfl)
      · -- 118f
        refine sx_aload_n dX1_readOrder_121 rfl ?_
        refine sx_callVi dX1_readOrder_122 ml_X1_72 mv1_readNumber (tz_readNumber (TO_has hT6)) rfl am_obO rfl (Nat.le_of_ble_eq_true rfl) (Nat.le_of_ble_eq_true rfl) ?_
        refine sx_goto (tgt := 129) dX1_readOrder_125 (by decide) ?_
        refine oo_put dX1_readOrder_129 fl_X1_61 (by decide) (by first | omega | assumption | (with_reducible first | exact hR _ _ | exact rd_R hR _ _ | exact am_R_and _ _ | exact am_R_or _ _ | exact am_R_xor _ _ | exact am_R_shl _ _ | exact am_R_shr _ _ | exact bit_R _ _) | (exact ⟨by omega, by omega⟩) | exact hR _ _) ?_
        refine sx_heq (am_U h0 6 (o7 (ohX (o6 (or1 O)) 44))) rfl ?_
        refine sx_aload_n dX1_readOrder_132 rfl ?_
        refine oo_geti dX1_readOrder_133 fl_X1_61 (by decide) (fun r133 => ?_)
        show Sx 1 Y1_readOrder _ _ _ _ [.inl (onR (ohX (o6 (or1 O)) 44))] _
        refine sx_iconst dX1_readOrder_136 ?_
        refine sx_icmp_ne (tgt := 142) dX1_readOrder_137 (by decide) (by first | omega | assumption | (with_reducible first | exact hR _ _ | exact rd_R hR _ _ | exact am_R_and _ _ | exact am_R_or _ _ | exact am_R_xor _ _ | exact am_R_shl _ _ | exact am_R_shr _ _ | exact bit_R _ _) | (exact ⟨by omega, by omega⟩) | exact hR _ _) ⟨by decide, by decide⟩ (fun c137 => ?_) (fun c137 => ?_)
        · -- 137t
          have n2 : ¬ onN (ohX (o6 (or1 O)) 44) = 0 := fun q => c137 (hb2.2.2.mpr q)
          refine sx_aload_n dX1_readOrder_142 rfl ?_
          refine sx_bipush dX1_readOrder_143 rfl ?_
          refine sx_callVi dX1_readOrder_145 ml_X1_76 mv1_skip (tz_skip _ (by first | exact TO_7 (TO_has hT6) | exact hT6) (by exact ⟨by decide, by decide⟩)) rfl am_obO rfl (Nat.le_of_ble_eq_true rfl) (Nat.le_of_ble_eq_true rfl) ?_
          exact sx_zret dX1_readOrder_148 rfl (by first | decide | (split <;> simp)) (by unfold rdo orf; rw [if_pos tokt, if_neg n1, if_pos t2t, if_pos c118, if_neg n2]; try rfl) (by unfold rdo orf; rw [if_pos tokt, if_neg n1, if_pos t2t, if_pos c118, if_neg n2]; try rfl)
        · -- 137f
          have n2 : onN (ohX (o6 (or1 O)) 44) = 0 := hb2.2.2.mp c137
          refine sx_iconst dX1_readOrder_140 ?_
          exact sx_zret dX1_readOrder_141 rfl (by decide) (by unfold rdo orf; rw [if_pos tokt, if_neg n1, if_pos t2t, if_pos c118, if_pos n2]; try rfl) (by unfold rdo orf; rw [if_pos tokt, if_neg n1, if_pos t2t, if_pos c118, if_pos n2]; try rfl)
    · -- 102f
      have n1 := hb1.2.2.mp c102
      refine sx_iconst dX1_readOrder_105 ?_
      exact sx_zret dX1_readOrder_106 rfl (by decide) (by unfold rdo orf; rw [if_pos tokt, if_pos n1]; try rfl) (by unfold rdo orf; rw [if_pos tokt, if_pos n1]; try rfl)
  · -- 29f
    refine sx_aload_n dX1_readOrder_32 rfl ?_
    refine oo_geti dX1_readOrder_33 fl_X1_32 (by decide) (fun r33 => ?_)
    show Sx 1 Y1_readOrder _ _ _ _ [.inl (O 3 (O 2 4).toNat)] _
    refine sx_bipush dX1_readOrder_36 rfl ?_
    refine sx_icmp_ne (tgt := 45) dX1_readOrder_38 (by decide) (by first | omega | assumption | (with_reducible first | exact hR _ _ | exact rd_R hR _ _ | exact am_R_and _ _ | exact am_R_or _ _ | exact am_R_xor _ _ | exact am_R_shl _ _ | exact am_R_shr _ _ | exact bit_R _ _) | (exact ⟨by omega, by omega⟩) | exact hR _ _) ⟨by decide, by decide⟩ (fun c38 => ?_) (fun c38 => ?_)
    · -- 38t
      refine sx_iconst dX1_readOrder_45 ?_
      refine sx_istore_n dX1_readOrder_46 (by decide) ?_
      refine sx_iload_n dX1_readOrder_47 rfl ?_
      refine sx_if_ne (tgt := 89) dX1_readOrder_48 (by decide) ⟨by decide, by decide⟩ (fun q => absurd q (by decide)) (fun _ => ?_)
      have t2f : t2 (O 3 (O 2 4).toNat) = false := by
        unfold t2
        simp [c29, c38]
      have nt2 : ¬ t2 (O 3 (O 2 4).toNat) = true := by rw [t2f]; decide
      refine sx_aload_n dX1_readOrder_51 rfl ?_
      refine oo_geti dX1_readOrder_52 fl_X1_32 (by decide) (fun r52 => ?_)
      show Sx 1 Y1_readOrder _ _ _ _ [.inl (O 3 (O 2 4).toNat)] _
      refine sx_bipush dX1_readOrder_55 rfl ?_
      refine sx_icmp_eq (tgt := 89) dX1_readOrder_57 (by decide) (by first | omega | assumption | (with_reducible first | exact hR _ _ | exact rd_R hR _ _ | exact am_R_and _ _ | exact am_R_or _ _ | exact am_R_xor _ _ | exact am_R_shl _ _ | exact am_R_shr _ _ | exact bit_R _ _) | (exact ⟨by omega, by omega⟩) | exact hR _ _) ⟨by decide, by decide⟩ (fun c57 => ?_) (fun c57 => ?_)
      · -- 57t
        have tokt : tok (O 3 (O 2 4).toNat) = true := by
          unfold tok
          simp [c57]
        refine sx_aload_n dX1_readOrder_89 rfl ?_
        refine sx_aload_n dX1_readOrder_90 rfl ?_
        refine sx_callVi dX1_readOrder_91 ml_X1_72 mv1_readNumber (tz_readNumber hT1) rfl am_obO rfl (Nat.le_of_ble_eq_true rfl) (Nat.le_of_ble_eq_true rfl) ?_
        refine oo_put dX1_readOrder_94 fl_X1_35 (by decide) (by first | omega | assumption | (with_reducible first | exact hR _ _ | exact rd_R hR _ _ | exact am_R_and _ _ | exact am_R_or _ _ | exact am_R_xor _ _ | exact am_R_shl _ _ | exact am_R_shr _ _ | exact bit_R _ _) | (exact ⟨by omega, by omega⟩) | exact hR _ _) ?_
        refine sx_heq (am_U h0 6 (o6 (or1 O))) rfl ?_
        refine sx_aload_n dX1_readOrder_97 rfl ?_
        refine oo_geti dX1_readOrder_98 fl_X1_35 (by decide) (fun r98 => ?_)
        show Sx 1 Y1_readOrder _ _ _ _ [.inl (onR (or1 O))] _
        refine sx_iconst dX1_readOrder_101 ?_
        refine sx_icmp_ne (tgt := 107) dX1_readOrder_102 (by decide) (by first | omega | assumption | (with_reducible first | exact hR _ _ | exact rd_R hR _ _ | exact am_R_and _ _ | exact am_R_or _ _ | exact am_R_xor _ _ | exact am_R_shl _ _ | exact am_R_shr _ _ | exact bit_R _ _) | (exact ⟨by omega, by omega⟩) | exact hR _ _) ⟨by decide, by decide⟩ (fun c102 => ?_) (fun c102 => ?_)
        · -- 102t
          have n1 : ¬ onN (or1 O) = 0 := fun q => c102 (hb1.2.2.mpr q)
          refine sx_iload_n dX1_readOrder_107 rfl ?_
          refine sx_if_eq (tgt := 142) dX1_readOrder_108 (by decide) ⟨by decide, by decide⟩ (fun _ => ?_) (fun q => absurd q (by decide))
          skip
          refine sx_aload_n dX1_readOrder_142 rfl ?_
          refine sx_bipush dX1_readOrder_143 rfl ?_
          refine sx_callVi dX1_readOrder_145 ml_X1_76 mv1_skip (tz_skip _ (by first | exact TO_7 (TO_has hT6) | exact hT6) (by exact ⟨by decide, by decide⟩)) rfl am_obO rfl (Nat.le_of_ble_eq_true rfl) (Nat.le_of_ble_eq_true rfl) ?_
          exact sx_zret dX1_readOrder_148 rfl (by first | decide | (split <;> simp)) (by unfold rdo orf; rw [if_pos tokt, if_neg n1, if_neg nt2]; try rfl) (by unfold rdo orf; rw [if_pos tokt, if_neg n1, if_neg nt2]; try rfl)
        · -- 102f
          have n1 := hb1.2.2.mp c102
          refine sx_iconst dX1_readOrder_105 ?_
          exact sx_zret dX1_readOrder_106 rfl (by decide) (by unfold rdo orf; rw [if_pos tokt, if_pos n1]; try rfl) (by unfold rdo orf; rw [if_pos tokt, if_pos n1]; try rfl)
      · -- 57f
        refine sx_aload_n dX1_readOrder_60 rfl ?_
        refine oo_geti dX1_readOrder_61 fl_X1_32 (by decide) (fun r61 => ?_)
        show Sx 1 Y1_readOrder _ _ _ _ [.inl (O 3 (O 2 4).toNat)] _
        refine sx_bipush dX1_readOrder_64 rfl ?_
        refine sx_icmp_eq (tgt := 89) dX1_readOrder_66 (by decide) (by first | omega | assumption | (with_reducible first | exact hR _ _ | exact rd_R hR _ _ | exact am_R_and _ _ | exact am_R_or _ _ | exact am_R_xor _ _ | exact am_R_shl _ _ | exact am_R_shr _ _ | exact bit_R _ _) | (exact ⟨by omega, by omega⟩) | exact hR _ _) ⟨by decide, by decide⟩ (fun c66 => ?_) (fun c66 => ?_)
        · -- 66t
          have tokt : tok (O 3 (O 2 4).toNat) = true := by
            unfold tok
            simp [c66]
          refine sx_aload_n dX1_readOrder_89 rfl ?_
          refine sx_aload_n dX1_readOrder_90 rfl ?_
          refine sx_callVi dX1_readOrder_91 ml_X1_72 mv1_readNumber (tz_readNumber hT1) rfl am_obO rfl (Nat.le_of_ble_eq_true rfl) (Nat.le_of_ble_eq_true rfl) ?_
          refine oo_put dX1_readOrder_94 fl_X1_35 (by decide) (by first | omega | assumption | (with_reducible first | exact hR _ _ | exact rd_R hR _ _ | exact am_R_and _ _ | exact am_R_or _ _ | exact am_R_xor _ _ | exact am_R_shl _ _ | exact am_R_shr _ _ | exact bit_R _ _) | (exact ⟨by omega, by omega⟩) | exact hR _ _) ?_
          refine sx_heq (am_U h0 6 (o6 (or1 O))) rfl ?_
          refine sx_aload_n dX1_readOrder_97 rfl ?_
          refine oo_geti dX1_readOrder_98 fl_X1_35 (by decide) (fun r98 => ?_)
          show Sx 1 Y1_readOrder _ _ _ _ [.inl (onR (or1 O))] _
          refine sx_iconst dX1_readOrder_101 ?_
          refine sx_icmp_ne (tgt := 107) dX1_readOrder_102 (by decide) (by first | omega | assumption | (with_reducible first | exact hR _ _ | exact rd_R hR _ _ | exact am_R_and _ _ | exact am_R_or _ _ | exact am_R_xor _ _ | exact am_R_shl _ _ | exact am_R_shr _ _ | exact bit_R _ _) | (exact ⟨by omega, by omega⟩) | exact hR _ _) ⟨by decide, by decide⟩ (fun c102 => ?_) (fun c102 => ?_)
          · -- 102t
            have n1 : ¬ onN (or1 O) = 0 := fun q => c102 (hb1.2.2.mpr q)
            refine sx_iload_n dX1_readOrder_107 rfl ?_
            refine sx_if_eq (tgt := 142) dX1_readOrder_108 (by decide) ⟨by decide, by decide⟩ (fun _ => ?_) (fun q => absurd q (by decide))
            skip
            refine sx_aload_n dX1_readOrder_142 rfl ?_
            refine sx_bipush dX1_readOrder_143 rfl ?_
            refine sx_callVi dX1_readOrder_145 ml_X1_76 mv1_skip (tz_skip _ (by first | exact TO_7 (TO_has hT6) | exact hT6) (by exact ⟨by decide, by decide⟩)) rfl am_obO rfl (Nat.le_of_ble_eq_true rfl) (Nat.le_of_ble_eq_true rfl) ?_
            exact sx_zret dX1_readOrder_148 rfl (by first | decide | (split <;> simp)) (by unfold rdo orf; rw [if_pos tokt, if_neg n1, if_neg nt2]; try rfl) (by unfold rdo orf; rw [if_pos tokt, if_neg n1, if_neg nt2]; try rfl)
          · -- 102f
            have n1 := hb1.2.2.mp c102
            refine sx_iconst dX1_readOrder_105 ?_
            exact sx_zret dX1_readOrder_106 rfl (by decide) (by unfold rdo orf; rw [if_pos tokt, if_pos n1]; try rfl) (by unfold rdo orf; rw [if_pos tokt, if_pos n1]; try rfl)
        · -- 66f
          refine sx_aload_n dX1_readOrder_69 rfl ?_
          refine oo_geti dX1_readOrder_70 fl_X1_32 (by decide) (fun r70 => ?_)
          show Sx 1 Y1_readOrder _ _ _ _ [.inl (O 3 (O 2 4).toNat)] _
          refine sx_bipush dX1_readOrder_73 rfl ?_
          refine sx_icmp_eq (tgt := 89) dX1_readOrder_75 (by decide) (by first | omega | assumption | (with_reducible first | exact hR _ _ | exact rd_R hR _ _ | exact am_R_and _ _ | exact am_R_or _ _ | exact am_R_xor _ _ | exact am_R_shl _ _ | exact am_R_shr _ _ | exact bit_R _ _) | (exact ⟨by omega, by omega⟩) | exact hR _ _) ⟨by decide, by decide⟩ (fun c75 => ?_) (fun c75 => ?_)
          · -- 75t
            have tokt : tok (O 3 (O 2 4).toNat) = true := by
              unfold tok
              simp [c75]
            refine sx_aload_n dX1_readOrder_89 rfl ?_
            refine sx_aload_n dX1_readOrder_90 rfl ?_
            refine sx_callVi dX1_readOrder_91 ml_X1_72 mv1_readNumber (tz_readNumber hT1) rfl am_obO rfl (Nat.le_of_ble_eq_true rfl) (Nat.le_of_ble_eq_true rfl) ?_
            refine oo_put dX1_readOrder_94 fl_X1_35 (by decide) (by first | omega | assumption | (with_reducible first | exact hR _ _ | exact rd_R hR _ _ | exact am_R_and _ _ | exact am_R_or _ _ | exact am_R_xor _ _ | exact am_R_shl _ _ | exact am_R_shr _ _ | exact bit_R _ _) | (exact ⟨by omega, by omega⟩) | exact hR _ _) ?_
            refine sx_heq (am_U h0 6 (o6 (or1 O))) rfl ?_
            refine sx_aload_n dX1_readOrder_97 rfl ?_
            refine oo_geti dX1_readOrder_98 fl_X1_35 (by decide) (fun r98 => ?_)
            show Sx 1 Y1_readOrder _ _ _ _ [.inl (onR (or1 O))] _
            refine sx_iconst dX1_readOrder_101 ?_
            refine sx_icmp_ne (tgt := 107) dX1_readOrder_102 (by decide) (by first | omega | assumption | (with_reducible first | exact hR _ _ | exact rd_R hR _ _ | exact am_R_and _ _ | exact am_R_or _ _ | exact am_R_xor _ _ | exact am_R_shl _ _ | exact am_R_shr _ _ | exact bit_R _ _) | (exact ⟨by omega, by omega⟩) | exact hR _ _) ⟨by decide, by decide⟩ (fun c102 => ?_) (fun c102 => ?_)
            · -- 102t
              have n1 : ¬ onN (or1 O) = 0 := fun q => c102 (hb1.2.2.mpr q)
              refine sx_iload_n dX1_readOrder_107 rfl ?_
              refine sx_if_eq (tgt := 142) dX1_readOrder_108 (by decide) ⟨by decide, by decide⟩ (fun _ => ?_) (fun q => absurd q (by decide))
              skip
              refine sx_aload_n dX1_readOrder_142 rfl ?_
              refine sx_bipush dX1_readOrder_143 rfl ?_
              refine sx_callVi dX1_readOrder_145 ml_X1_76 mv1_skip (tz_skip _ (by first | exact TO_7 (TO_has hT6) | exact hT6) (by exact ⟨by decide, by decide⟩)) rfl am_obO rfl (Nat.le_of_ble_eq_true rfl) (Nat.le_of_ble_eq_true rfl) ?_
              exact sx_zret dX1_readOrder_148 rfl (by first | decide | (split <;> simp)) (by unfold rdo orf; rw [if_pos tokt, if_neg n1, if_neg nt2]; try rfl) (by unfold rdo orf; rw [if_pos tokt, if_neg n1, if_neg nt2]; try rfl)
            · -- 102f
              have n1 := hb1.2.2.mp c102
              refine sx_iconst dX1_readOrder_105 ?_
              exact sx_zret dX1_readOrder_106 rfl (by decide) (by unfold rdo orf; rw [if_pos tokt, if_pos n1]; try rfl) (by unfold rdo orf; rw [if_pos tokt, if_pos n1]; try rfl)
          · -- 75f
            refine sx_aload_n dX1_readOrder_78 rfl ?_
            refine oo_geti dX1_readOrder_79 fl_X1_32 (by decide) (fun r79 => ?_)
            show Sx 1 Y1_readOrder _ _ _ _ [.inl (O 3 (O 2 4).toNat)] _
            refine sx_bipush dX1_readOrder_82 rfl ?_
            refine sx_icmp_eq (tgt := 89) dX1_readOrder_84 (by decide) (by first | omega | assumption | (with_reducible first | exact hR _ _ | exact rd_R hR _ _ | exact am_R_and _ _ | exact am_R_or _ _ | exact am_R_xor _ _ | exact am_R_shl _ _ | exact am_R_shr _ _ | exact bit_R _ _) | (exact ⟨by omega, by omega⟩) | exact hR _ _) ⟨by decide, by decide⟩ (fun c84 => ?_) (fun c84 => ?_)
            · -- 84t
              have tokt : tok (O 3 (O 2 4).toNat) = true := by
                unfold tok
                simp [c84]
              refine sx_aload_n dX1_readOrder_89 rfl ?_
              refine sx_aload_n dX1_readOrder_90 rfl ?_
              refine sx_callVi dX1_readOrder_91 ml_X1_72 mv1_readNumber (tz_readNumber hT1) rfl am_obO rfl (Nat.le_of_ble_eq_true rfl) (Nat.le_of_ble_eq_true rfl) ?_
              refine oo_put dX1_readOrder_94 fl_X1_35 (by decide) (by first | omega | assumption | (with_reducible first | exact hR _ _ | exact rd_R hR _ _ | exact am_R_and _ _ | exact am_R_or _ _ | exact am_R_xor _ _ | exact am_R_shl _ _ | exact am_R_shr _ _ | exact bit_R _ _) | (exact ⟨by omega, by omega⟩) | exact hR _ _) ?_
              refine sx_heq (am_U h0 6 (o6 (or1 O))) rfl ?_
              refine sx_aload_n dX1_readOrder_97 rfl ?_
              refine oo_geti dX1_readOrder_98 fl_X1_35 (by decide) (fun r98 => ?_)
              show Sx 1 Y1_readOrder _ _ _ _ [.inl (onR (or1 O))] _
              refine sx_iconst dX1_readOrder_101 ?_
              refine sx_icmp_ne (tgt := 107) dX1_readOrder_102 (by decide) (by first | omega | assumption | (with_reducible first | exact hR _ _ | exact rd_R hR _ _ | exact am_R_and _ _ | exact am_R_or _ _ | exact am_R_xor _ _ | exact am_R_shl _ _ | exact am_R_shr _ _ | exact bit_R _ _) | (exact ⟨by omega, by omega⟩) | exact hR _ _) ⟨by decide, by decide⟩ (fun c102 => ?_) (fun c102 => ?_)
              · -- 102t
                have n1 : ¬ onN (or1 O) = 0 := fun q => c102 (hb1.2.2.mpr q)
                refine sx_iload_n dX1_readOrder_107 rfl ?_
                refine sx_if_eq (tgt := 142) dX1_readOrder_108 (by decide) ⟨by decide, by decide⟩ (fun _ => ?_) (fun q => absurd q (by decide))
                skip
                refine sx_aload_n dX1_readOrder_142 rfl ?_
                refine sx_bipush dX1_readOrder_143 rfl ?_
                refine sx_callVi dX1_readOrder_145 ml_X1_76 mv1_skip (tz_skip _ (by first | exact TO_7 (TO_has hT6) | exact hT6) (by exact ⟨by decide, by decide⟩)) rfl am_obO rfl (Nat.le_of_ble_eq_true rfl) (Nat.le_of_ble_eq_true rfl) ?_
                exact sx_zret dX1_readOrder_148 rfl (by first | decide | (split <;> simp)) (by unfold rdo orf; rw [if_pos tokt, if_neg n1, if_neg nt2]; try rfl) (by unfold rdo orf; rw [if_pos tokt, if_neg n1, if_neg nt2]; try rfl)
              · -- 102f
                have n1 := hb1.2.2.mp c102
                refine sx_iconst dX1_readOrder_105 ?_
                exact sx_zret dX1_readOrder_106 rfl (by decide) (by unfold rdo orf; rw [if_pos tokt, if_pos n1]; try rfl) (by unfold rdo orf; rw [if_pos tokt, if_pos n1]; try rfl)
            · -- 84f
              have tokf : tok (O 3 (O 2 4).toNat) = false := by
                unfold tok
                simp [t2f, c57, c66, c75, c84]
              have ntok : ¬ tok (O 3 (O 2 4).toNat) = true := by rw [tokf]; decide
              refine sx_iconst dX1_readOrder_87 ?_
              exact sx_zret dX1_readOrder_88 rfl (by decide) (by unfold rdo orf; rw [if_neg ntok]; try rfl) (by unfold rdo orf; rw [if_neg ntok]; try rfl)
    · -- 38f
      refine sx_iconst dX1_readOrder_41 ?_
      refine sx_goto (tgt := 46) dX1_readOrder_42 (by decide) ?_
      refine sx_istore_n dX1_readOrder_46 (by decide) ?_
      refine sx_iload_n dX1_readOrder_47 rfl ?_
      refine sx_if_ne (tgt := 89) dX1_readOrder_48 (by decide) ⟨by decide, by decide⟩ (fun _ => ?_) (fun q => absurd q (by decide))
      have t2t : t2 (O 3 (O 2 4).toNat) = true := by
        unfold t2
        simp [c38]
      have tokt : tok (O 3 (O 2 4).toNat) = true := by
        unfold tok
        simp [t2t]
      refine sx_aload_n dX1_readOrder_89 rfl ?_
      refine sx_aload_n dX1_readOrder_90 rfl ?_
      refine sx_callVi dX1_readOrder_91 ml_X1_72 mv1_readNumber (tz_readNumber hT1) rfl am_obO rfl (Nat.le_of_ble_eq_true rfl) (Nat.le_of_ble_eq_true rfl) ?_
      refine oo_put dX1_readOrder_94 fl_X1_35 (by decide) (by first | omega | assumption | (with_reducible first | exact hR _ _ | exact rd_R hR _ _ | exact am_R_and _ _ | exact am_R_or _ _ | exact am_R_xor _ _ | exact am_R_shl _ _ | exact am_R_shr _ _ | exact bit_R _ _) | (exact ⟨by omega, by omega⟩) | exact hR _ _) ?_
      refine sx_heq (am_U h0 6 (o6 (or1 O))) rfl ?_
      refine sx_aload_n dX1_readOrder_97 rfl ?_
      refine oo_geti dX1_readOrder_98 fl_X1_35 (by decide) (fun r98 => ?_)
      show Sx 1 Y1_readOrder _ _ _ _ [.inl (onR (or1 O))] _
      refine sx_iconst dX1_readOrder_101 ?_
      refine sx_icmp_ne (tgt := 107) dX1_readOrder_102 (by decide) (by first | omega | assumption | (with_reducible first | exact hR _ _ | exact rd_R hR _ _ | exact am_R_and _ _ | exact am_R_or _ _ | exact am_R_xor _ _ | exact am_R_shl _ _ | exact am_R_shr _ _ | exact bit_R _ _) | (exact ⟨by omega, by omega⟩) | exact hR _ _) ⟨by decide, by decide⟩ (fun c102 => ?_) (fun c102 => ?_)
      · -- 102t
        have n1 : ¬ onN (or1 O) = 0 := fun q => c102 (hb1.2.2.mpr q)
        refine sx_iload_n dX1_readOrder_107 rfl ?_
        refine sx_if_eq (tgt := 142) dX1_readOrder_108 (by decide) ⟨by decide, by decide⟩ (fun q => absurd q (by decide)) (fun _ => ?_)
        refine sx_aload_n dX1_readOrder_111 rfl ?_
        refine sx_aload_n dX1_readOrder_112 rfl ?_
        refine sx_bipush dX1_readOrder_113 rfl ?_
        refine sx_callVi dX1_readOrder_115 ml_X1_76 mv1_skip (tz_skip _ hT6 (by exact ⟨by decide, by decide⟩)) rfl am_obO rfl (Nat.le_of_ble_eq_true rfl) (Nat.le_of_ble_eq_true rfl) ?_
        refine sx_ifB_eq (tgt := 128) dX1_readOrder_118 (by decide) (fun c118 => ?_) (fun c118 => ?_)
        · -- 118t
          refine sx_iconst dX1_readOrder_128 ?_
          refine oo_put dX1_readOrder_129 fl_X1_61 (by decide) ⟨by decide, by decide⟩ ?_
          refine sx_heq (am_U h0 6 (am_u2 (ohX (o6 (or1 O)) 44) 2 7 (-1))) rfl ?_
          refine sx_aload_n dX1_readOrder_132 rfl ?_
          refine oo_geti dX1_readOrder_133 fl_X1_61 (by decide) (fun r133 => ?_)
          show Sx 1 Y1_readOrder _ _ _ _ [.inl (-1)] _
          refine sx_iconst dX1_readOrder_136 ?_
          refine sx_icmp_ne (tgt := 142) dX1_readOrder_137 (by decide) ⟨by decide, by decide⟩ ⟨by decide, by decide⟩ (fun q => absurd q (by decide)) (fun _ => ?_)
          skip
          refine sx_iconst dX1_readOrder_140 ?_
          exact sx_zret dX1_readOrder_141 rfl (by decide) (by unfold rdo orf; rw [if_pos tokt, if_neg n1, if_pos t2t, if_neg c118]; try rfl) (by unfold rdo orf; rw [if_pos tokt, if_neg n1, if_pos t2t, if_neg c118]; try rfl)
        · -- 118f
          refine sx_aload_n dX1_readOrder_121 rfl ?_
          refine sx_callVi dX1_readOrder_122 ml_X1_72 mv1_readNumber (tz_readNumber (TO_has hT6)) rfl am_obO rfl (Nat.le_of_ble_eq_true rfl) (Nat.le_of_ble_eq_true rfl) ?_
          refine sx_goto (tgt := 129) dX1_readOrder_125 (by decide) ?_
          refine oo_put dX1_readOrder_129 fl_X1_61 (by decide) (by first | omega | assumption | (with_reducible first | exact hR _ _ | exact rd_R hR _ _ | exact am_R_and _ _ | exact am_R_or _ _ | exact am_R_xor _ _ | exact am_R_shl _ _ | exact am_R_shr _ _ | exact bit_R _ _) | (exact ⟨by omega, by omega⟩) | exact hR _ _) ?_
          refine sx_heq (am_U h0 6 (o7 (ohX (o6 (or1 O)) 44))) rfl ?_
          refine sx_aload_n dX1_readOrder_132 rfl ?_
          refine oo_geti dX1_readOrder_133 fl_X1_61 (by decide) (fun r133 => ?_)
          show Sx 1 Y1_readOrder _ _ _ _ [.inl (onR (ohX (o6 (or1 O)) 44))] _
          refine sx_iconst dX1_readOrder_136 ?_
          refine sx_icmp_ne (tgt := 142) dX1_readOrder_137 (by decide) (by first | omega | assumption | (with_reducible first | exact hR _ _ | exact rd_R hR _ _ | exact am_R_and _ _ | exact am_R_or _ _ | exact am_R_xor _ _ | exact am_R_shl _ _ | exact am_R_shr _ _ | exact bit_R _ _) | (exact ⟨by omega, by omega⟩) | exact hR _ _) ⟨by decide, by decide⟩ (fun c137 => ?_) (fun c137 => ?_)
          · -- 137t
            have n2 : ¬ onN (ohX (o6 (or1 O)) 44) = 0 := fun q => c137 (hb2.2.2.mpr q)
            refine sx_aload_n dX1_readOrder_142 rfl ?_
            refine sx_bipush dX1_readOrder_143 rfl ?_
            refine sx_callVi dX1_readOrder_145 ml_X1_76 mv1_skip (tz_skip _ (by first | exact TO_7 (TO_has hT6) | exact hT6) (by exact ⟨by decide, by decide⟩)) rfl am_obO rfl (Nat.le_of_ble_eq_true rfl) (Nat.le_of_ble_eq_true rfl) ?_
            exact sx_zret dX1_readOrder_148 rfl (by first | decide | (split <;> simp)) (by unfold rdo orf; rw [if_pos tokt, if_neg n1, if_pos t2t, if_pos c118, if_neg n2]; try rfl) (by unfold rdo orf; rw [if_pos tokt, if_neg n1, if_pos t2t, if_pos c118, if_neg n2]; try rfl)
          · -- 137f
            have n2 : onN (ohX (o6 (or1 O)) 44) = 0 := hb2.2.2.mp c137
            refine sx_iconst dX1_readOrder_140 ?_
            exact sx_zret dX1_readOrder_141 rfl (by decide) (by unfold rdo orf; rw [if_pos tokt, if_neg n1, if_pos t2t, if_pos c118, if_pos n2]; try rfl) (by unfold rdo orf; rw [if_pos tokt, if_neg n1, if_pos t2t, if_pos c118, if_pos n2]; try rfl)
      · -- 102f
        have n1 := hb1.2.2.mp c102
        refine sx_iconst dX1_readOrder_105 ?_
        exact sx_zret dX1_readOrder_106 rfl (by decide) (by unfold rdo orf; rw [if_pos tokt, if_pos n1]; try rfl) (by unfold rdo orf; rw [if_pos tokt, if_pos n1]; try rfl)
set_option maxHeartbeats 4000000 in
set_option maxRecDepth 100000 in
theorem tz_doOrder {h0 : am_H} {u : Nat} (hu : u < 6) {M O : am_M} (hS : YS M)  : Ct 4 Y1_doOrder [.inr (6, 2), .inr (u, 0)] (some (.inl (odo M O).1)) (am_U (am_U h0 u M) 6 O) (am_U (am_U h0 u (odo M O).2) 6 O) := by
  refine Ct_of (by decide +kernel) (Nat.le_of_ble_eq_true rfl) ?_
  show Sx 4 Y1_doOrder (am_U (am_U h0 u (odo M O).2) 6 O) (some (.inl (odo M O).1)) 0 [some (.inr (6, 2)), some (.inr (u, 0))] [] (am_U (am_U h0 u M) 6 O)
  refine oo_vh (fun hR => ?_)
  obtain ⟨hW, h3t, hyd, hyt, hye, hyb, hyk⟩ := hS
  refine sx_aload_n dX1_doOrder_0 rfl ?_
  refine oo_geti dX1_doOrder_1 fl_X1_32 (by decide) (fun r1 => ?_)
  by_cases hs4 : (O 2 5) = 98 ∨ (O 2 5) = 101 ∨ (O 2 5) = 107 ∨ (O 2 5) = 112 ∨ (O 2 5) = 116 ∨ (O 2 5) = 118
  · rcases hs4 with hs4 | hs4 | hs4 | hs4 | hs4 | hs4
    · rw [hs4]
      refine sx_lookup (tgt := 113) (off := 109) dX1_doOrder_4 ⟨by decide, by decide⟩ (by decide) rfl (by decide) ?_
      refine sx_aload_n dX1_doOrder_113 rfl ?_
      refine sx_aload_n dX1_doOrder_114 rfl ?_
      refine oo_geti dX1_doOrder_115 fl_X1_35 (by decide) (fun r115 => ?_)
      refine sx_aload_n dX1_doOrder_118 rfl ?_
      refine oo_geti dX1_doOrder_119 fl_X1_61 (by decide) (fun r119 => ?_)
      refine sx_callVi dX1_doOrder_122 ml_X1_68 mv0_breakRow (Ct_sw hu (ty_breakRow hu _ _ hW (by exact hR _ _) (by exact hR _ _) (hyb _ _))) rfl (am_obM hu) rfl (Nat.le_of_ble_eq_true rfl) (Nat.le_of_ble_eq_true rfl) ?_
      exact sx_iret dX1_doOrder_125 rfl (by unfold odo; first | (simp only [hs4]; simp; done) | (rw [not_or, not_or, not_or, not_or, not_or] at hs4; obtain ⟨z1, z2, z3, z4, z5, z6⟩ := hs4; rw [if_neg z3, if_neg z5, if_neg z2, if_neg z6, if_neg z4, if_neg z1])) (by unfold odo; first | (simp only [hs4]; simp; done) | (rw [not_or, not_or, not_or, not_or, not_or] at hs4; obtain ⟨z1, z2, z3, z4, z5, z6⟩ := hs4; rw [if_neg z3, if_neg z5, if_neg z2, if_neg z6, if_neg z4, if_neg z1]))
    · rw [hs4]
      refine sx_lookup (tgt := 82) (off := 78) dX1_doOrder_4 ⟨by decide, by decide⟩ (by decide) rfl (by decide) ?_
      refine sx_aload_n dX1_doOrder_82 rfl ?_
      refine sx_aload_n dX1_doOrder_83 rfl ?_
      refine oo_geti dX1_doOrder_84 fl_X1_35 (by decide) (fun r84 => ?_)
      refine sx_callVi dX1_doOrder_87 ml_X1_55 mv0_makeGodfather (Ct_sw hu (ty_makeGodfather hu _ hW (by exact hR _ _))) rfl (am_obM hu) rfl (Nat.le_of_ble_eq_true rfl) (Nat.le_of_ble_eq_true rfl) ?_
      exact sx_iret dX1_doOrder_90 rfl (by unfold odo; first | (simp only [hs4]; simp; done) | (rw [not_or, not_or, not_or, not_or, not_or] at hs4; obtain ⟨z1, z2, z3, z4, z5, z6⟩ := hs4; rw [if_neg z3, if_neg z5, if_neg z2, if_neg z6, if_neg z4, if_neg z1])) (by unfold odo; first | (simp only [hs4]; simp; done) | (rw [not_or, not_or, not_or, not_or, not_or] at hs4; obtain ⟨z1, z2, z3, z4, z5, z6⟩ := hs4; rw [if_neg z3, if_neg z5, if_neg z2, if_neg z6, if_neg z4, if_neg z1]))
    · rw [hs4]
      refine sx_lookup (tgt := 64) (off := 60) dX1_doOrder_4 ⟨by decide, by decide⟩ (by decide) rfl (by decide) ?_
      refine sx_aload_n dX1_doOrder_64 rfl ?_
      refine sx_aload_n dX1_doOrder_65 rfl ?_
      refine oo_geti dX1_doOrder_66 fl_X1_35 (by decide) (fun r66 => ?_)
      refine sx_callVi dX1_doOrder_69 ml_X1_48 mv0_letDie (Ct_sw hu (ty_letDie hu _ hW (by exact hR _ _) (hyd _))) rfl (am_obM hu) rfl (Nat.le_of_ble_eq_true rfl) (Nat.le_of_ble_eq_true rfl) ?_
      exact sx_iret dX1_doOrder_72 rfl (by unfold odo; first | (simp only [hs4]; simp; done) | (rw [not_or, not_or, not_or, not_or, not_or] at hs4; obtain ⟨z1, z2, z3, z4, z5, z6⟩ := hs4; rw [if_neg z3, if_neg z5, if_neg z2, if_neg z6, if_neg z4, if_neg z1])) (by unfold odo; first | (simp only [hs4]; simp; done) | (rw [not_or, not_or, not_or, not_or, not_or] at hs4; obtain ⟨z1, z2, z3, z4, z5, z6⟩ := hs4; rw [if_neg z3, if_neg z5, if_neg z2, if_neg z6, if_neg z4, if_neg z1]))
    · rw [hs4]
      refine sx_lookup (tgt := 100) (off := 96) dX1_doOrder_4 ⟨by decide, by decide⟩ (by decide) rfl (by decide) ?_
      refine sx_aload_n dX1_doOrder_100 rfl ?_
      refine sx_aload_n dX1_doOrder_101 rfl ?_
      refine oo_geti dX1_doOrder_102 fl_X1_35 (by decide) (fun r102 => ?_)
      refine sx_aload_n dX1_doOrder_105 rfl ?_
      refine oo_geti dX1_doOrder_106 fl_X1_61 (by decide) (fun r106 => ?_)
      refine sx_callVi dX1_doOrder_109 ml_X1_64 mv0_putWord (Ct_sw hu (ty_putWord hu _ _ hW (by exact hR _ _) (by exact hR _ _))) rfl (am_obM hu) rfl (Nat.le_of_ble_eq_true rfl) (Nat.le_of_ble_eq_true rfl) ?_
      exact sx_iret dX1_doOrder_112 rfl (by unfold odo; first | (simp only [hs4]; simp; done) | (rw [not_or, not_or, not_or, not_or, not_or] at hs4; obtain ⟨z1, z2, z3, z4, z5, z6⟩ := hs4; rw [if_neg z3, if_neg z5, if_neg z2, if_neg z6, if_neg z4, if_neg z1])) (by unfold odo; first | (simp only [hs4]; simp; done) | (rw [not_or, not_or, not_or, not_or, not_or] at hs4; obtain ⟨z1, z2, z3, z4, z5, z6⟩ := hs4; rw [if_neg z3, if_neg z5, if_neg z2, if_neg z6, if_neg z4, if_neg z1]))
    · rw [hs4]
      refine sx_lookup (tgt := 73) (off := 69) dX1_doOrder_4 ⟨by decide, by decide⟩ (by decide) rfl (by decide) ?_
      refine sx_aload_n dX1_doOrder_73 rfl ?_
      refine sx_aload_n dX1_doOrder_74 rfl ?_
      refine oo_geti dX1_doOrder_75 fl_X1_35 (by decide) (fun r75 => ?_)
      refine sx_callVi dX1_doOrder_78 ml_X1_52 mv0_goTicks (Ct_sw hu (ty_goTicks hu _ hW (by exact hR _ _) h3t (hyt _))) rfl (am_obM hu) rfl (Nat.le_of_ble_eq_true rfl) (Nat.le_of_ble_eq_true rfl) ?_
      exact sx_iret dX1_doOrder_81 rfl (by unfold odo; first | (simp only [hs4]; simp; done) | (rw [not_or, not_or, not_or, not_or, not_or] at hs4; obtain ⟨z1, z2, z3, z4, z5, z6⟩ := hs4; rw [if_neg z3, if_neg z5, if_neg z2, if_neg z6, if_neg z4, if_neg z1])) (by unfold odo; first | (simp only [hs4]; simp; done) | (rw [not_or, not_or, not_or, not_or, not_or] at hs4; obtain ⟨z1, z2, z3, z4, z5, z6⟩ := hs4; rw [if_neg z3, if_neg z5, if_neg z2, if_neg z6, if_neg z4, if_neg z1]))
    · rw [hs4]
      refine sx_lookup (tgt := 91) (off := 87) dX1_doOrder_4 ⟨by decide, by decide⟩ (by decide) rfl (by decide) ?_
      refine sx_aload_n dX1_doOrder_91 rfl ?_
      refine sx_aload_n dX1_doOrder_92 rfl ?_
      refine oo_geti dX1_doOrder_93 fl_X1_35 (by decide) (fun r93 => ?_)
      refine sx_callVi dX1_doOrder_96 ml_X1_58 mv0_emptyChip (Ct_sw hu (ty_emptyChip hu _ hW (by exact hR _ _) (hye _))) rfl (am_obM hu) rfl (Nat.le_of_ble_eq_true rfl) (Nat.le_of_ble_eq_true rfl) ?_
      exact sx_iret dX1_doOrder_99 rfl (by unfold odo; first | (simp only [hs4]; simp; done) | (rw [not_or, not_or, not_or, not_or, not_or] at hs4; obtain ⟨z1, z2, z3, z4, z5, z6⟩ := hs4; rw [if_neg z3, if_neg z5, if_neg z2, if_neg z6, if_neg z4, if_neg z1])) (by unfold odo; first | (simp only [hs4]; simp; done) | (rw [not_or, not_or, not_or, not_or, not_or] at hs4; obtain ⟨z1, z2, z3, z4, z5, z6⟩ := hs4; rw [if_neg z3, if_neg z5, if_neg z2, if_neg z6, if_neg z4, if_neg z1]))
  · refine sx_lookup (tgt := 126) (off := 122) dX1_doOrder_4 (by first | omega | assumption | (with_reducible first | exact hR _ _ | exact rd_R hR _ _ | exact am_R_and _ _ | exact am_R_or _ _ | exact am_R_xor _ _ | exact am_R_shl _ _ | exact am_R_shr _ _ | exact bit_R _ _) | (exact ⟨by omega, by omega⟩) | exact hR _ _) (by decide) (by rw [Op.lookupswitch.offset_cons, if_neg (by omega)]; rw [Op.lookupswitch.offset_cons, if_neg (by omega)]; rw [Op.lookupswitch.offset_cons, if_neg (by omega)]; rw [Op.lookupswitch.offset_cons, if_neg (by omega)]; rw [Op.lookupswitch.offset_cons, if_neg (by omega)]; rw [Op.lookupswitch.offset_cons, if_neg (by omega)]; rfl) (by decide) ?_
    refine sx_ldc dX1_doOrder_126 kc_X1_71 ?_
    exact sx_iret dX1_doOrder_128 rfl (by unfold odo; first | (simp only [hs4]; simp; done) | (rw [not_or, not_or, not_or, not_or, not_or] at hs4; obtain ⟨z1, z2, z3, z4, z5, z6⟩ := hs4; rw [if_neg z3, if_neg z5, if_neg z2, if_neg z6, if_neg z4, if_neg z1])) (by unfold odo; first | (simp only [hs4]; simp; done) | (rw [not_or, not_or, not_or, not_or, not_or] at hs4; obtain ⟨z1, z2, z3, z4, z5, z6⟩ := hs4; rw [if_neg z3, if_neg z5, if_neg z2, if_neg z6, if_neg z4, if_neg z1]))
set_option maxHeartbeats 4000000 in
set_option maxRecDepth 100000 in
theorem tz_doAll {h0 : am_H} {u : Nat} (hu : u < 6) {M O : am_M} (hTO : 0 ≤ O 2 1 ∧ O 2 1 ≤ 60) {P : Nat → am_M → Prop} (hP : ∀ i M, i ≤ 60 → P i M → YS M) (hPo : ∀ i M O, P i M → P (i + 1) (odo M O).2) (hPM : P 0 M)  : Ct 5 Y1_doAll [.inr (6, 2), .inr (u, 0)] (some (.inl (oA M O).1)) (am_U (am_U h0 u M) 6 O) (am_U (am_U h0 u (oA M O).2.1) 6 (oA M O).2.2) := by
  refine Ct_of (by decide +kernel) (Nat.le_of_ble_eq_true rfl) ?_
  show Sx 5 Y1_doAll (am_U (am_U h0 u (oA M O).2.1) 6 (oA M O).2.2) (some (.inl (oA M O).1)) 0 [some (.inr (6, 2)), some (.inr (u, 0)), none] [] (am_U (am_U h0 u M) 6 O)
  refine oo_vh (fun hR => ?_)
  have hTi : TO (oini O) := by
    unfold oini TO
    rw [show am_u2 (am_u2 O 2 4 0) 2 3 0 2 4 = 0 by rw [am_u2_rd _ _ (Or.inr (by decide)), am_u2_hit], show am_u2 (am_u2 O 2 4 0) 2 3 0 2 1 = O 2 1 by rw [am_u2_rd _ _ (Or.inr (by decide)), am_u2_rd _ _ (Or.inr (by decide))]]
    omega
  refine sx_iconst dX1_doAll_0 ?_
  refine sx_istore_n dX1_doAll_1 (by decide) ?_
  refine sx_aload_n dX1_doAll_2 rfl ?_
  refine sx_iconst dX1_doAll_3 ?_
  refine oo_put dX1_doAll_4 fl_X1_15 (by decide) ⟨by decide, by decide⟩ ?_
  refine sx_aload_n dX1_doAll_7 rfl ?_
  refine sx_iconst dX1_doAll_8 ?_
  refine oo_put dX1_doAll_9 fl_X1_19 (by decide) ⟨by decide, by decide⟩ ?_
  have loop12 : ∀ (n : Nat) (i : Nat) (N Q : am_M), (60 - i) = n → i ≤ 60 → oall (60 - i) ((i : Int), N, Q) = oA M O → P i N → TO Q → Q 2 3 = 0 → Sx 5 Y1_doAll (am_U (am_U h0 u (oA M O).2.1) 6 (oA M O).2.2) (some (.inl (oA M O).1)) 12 [some (.inr (6, 2)), some (.inr (u, 0)), some (.inl (i : Int))] [] (am_U (am_U h0 u N) 6 Q) := by
    intro n
    induction n using Nat.strongRecOn with
    | _ n ih12 =>
      intro i N Q hn hi hq hPN hTQ h0r
      obtain ⟨q1, q2, q3, q4⟩ := id hTQ
      refine oo_vh (fun hR => ?_)
      refine sx_iload_n dX1_doAll_12 rfl ?_
      refine sx_bipush dX1_doAll_13 rfl ?_
      refine sx_icmp_ge (tgt := 108) dX1_doAll_15 (by decide) (by first | omega | assumption | (with_reducible first | exact hR _ _ | exact rd_R hR _ _ | exact am_R_and _ _ | exact am_R_or _ _ | exact am_R_xor _ _ | exact am_R_shl _ _ | exact am_R_shr _ _ | exact bit_R _ _) | (exact ⟨by omega, by omega⟩) | exact hR _ _) ⟨by decide, by decide⟩ (fun c15 => ?_) (fun c15 => ?_)
      · -- 15t
        refine sx_iload_n dX1_doAll_108 rfl ?_
        have e8 : oA M O = ((i : Int), N, Q) := hq.symm.trans (by first | exact oall_end (by omega) | (rw [show 60 - i = 0 by omega]; rfl))
        exact sx_iret dX1_doAll_109 rfl (by first | rw [e9] | rw [e8]) (by first | rw [e9, hm, ho] | rw [e8])
      · -- 15f
        refine sx_aload_n dX1_doAll_18 rfl ?_
        refine oo_geti dX1_doAll_19 fl_X1_15 (by decide) (fun r19 => ?_)
        refine sx_aload_n dX1_doAll_22 rfl ?_
        refine oo_geti dX1_doAll_23 fl_X1_22 (by decide) (fun r23 => ?_)
        refine sx_icmp_ge (tgt := 108) dX1_doAll_26 (by decide) (by first | omega | assumption | (with_reducible first | exact hR _ _ | exact rd_R hR _ _ | exact am_R_and _ _ | exact am_R_or _ _ | exact am_R_xor _ _ | exact am_R_shl _ _ | exact am_R_shr _ _ | exact bit_R _ _) | (exact ⟨by omega, by omega⟩) | exact hR _ _) (by first | omega | assumption | (with_reducible first | exact hR _ _ | exact rd_R hR _ _ | exact am_R_and _ _ | exact am_R_or _ _ | exact am_R_xor _ _ | exact am_R_shl _ _ | exact am_R_shr _ _ | exact bit_R _ _) | (exact ⟨by omega, by omega⟩) | exact hR _ _) (fun c26 => ?_) (fun c26 => ?_)
        · -- 26t
          refine sx_iload_n dX1_doAll_108 rfl ?_
          have e8 : oA M O = ((i : Int), N, Q) := hq.symm.trans (by first | exact oall_end (by omega) | (rw [show 60 - i = 0 by omega]; rfl))
          exact sx_iret dX1_doAll_109 rfl (by first | rw [e9] | rw [e8]) (by first | rw [e9, hm, ho] | rw [e8])
        · -- 26f
          refine sx_aload_n dX1_doAll_29 rfl ?_
          refine sx_aload_n dX1_doAll_30 rfl ?_
          refine oo_geti dX1_doAll_31 fl_X1_15 (by decide) (fun r31 => ?_)
          refine oo_put dX1_doAll_34 fl_X1_25 (by decide) (by first | omega | assumption | (with_reducible first | exact hR _ _ | exact rd_R hR _ _ | exact am_R_and _ _ | exact am_R_or _ _ | exact am_R_xor _ _ | exact am_R_shl _ _ | exact am_R_shr _ _ | exact bit_R _ _) | (exact ⟨by omega, by omega⟩) | exact hR _ _) ?_
          refine sx_heq (am_U (am_U h0 u N) 6 (os Q)) rfl ?_
          have hTs : TO (os Q) := TO_u hTQ (by decide) (by decide)
          have hns : os Q 2 4 < os Q 2 1 := by rw [(os_at Q).1, (os_at Q).2.1]; exact c26
          obtain ⟨hTq, hq4, hq1, hq3, hq23, hq22⟩ := oq_at hTQ c26
          have h30 : oq Q 2 3 = 0 := hq23.trans h0r
          have hob := odo_b (hP i _ (by omega) hPN).1 (oq Q)
          refine sx_aload_n dX1_doAll_37 rfl ?_
          refine sx_callVi dX1_doAll_38 ml_X1_28 mv1_readOrder (tz_readOrder hTs hns) rfl am_obO rfl (Nat.le_of_ble_eq_true rfl) (Nat.le_of_ble_eq_true rfl) ?_
          show Sx 5 Y1_doAll _ _ _ _ [.inl (if oG Q = true then 1 else 0)] _
          refine sx_heq (am_U (am_U h0 u N) 6 (oq Q)) rfl ?_
          refine oo_vh (fun hRq => ?_)
          refine sx_ifB_ne (tgt := 52) dX1_doAll_41 (by decide) (fun c41 => ?_) (fun c41 => ?_)
          · -- 41t
            refine sx_aload_n dX1_doAll_52 rfl ?_
            refine oo_geti dX1_doAll_53 fl_X1_32 (by decide) (fun r53 => ?_)
            refine sx_bipush dX1_doAll_56 rfl ?_
            refine sx_icmp_eq (tgt := 80) dX1_doAll_58 (by decide) (by first | omega | assumption | (with_reducible first | exact hR _ _ | exact rd_R hR _ _ | exact am_R_and _ _ | exact am_R_or _ _ | exact am_R_xor _ _ | exact am_R_shl _ _ | exact am_R_shr _ _ | exact bit_R _ _) | (exact ⟨by omega, by omega⟩) | exact hR _ _) ⟨by decide, by decide⟩ (fun c58 => ?_) (fun c58 => ?_)
            · -- 58t
              refine sx_aload_n dX1_doAll_80 rfl ?_
              refine sx_aload_n dX1_doAll_81 rfl ?_
              refine sx_callVi dX1_doAll_82 ml_X1_44 mv1_doOrder (tz_doOrder hu (hP i _ (by omega) hPN)) rfl am_obO rfl (Nat.le_of_ble_eq_true rfl) (Nat.le_of_ble_eq_true rfl) ?_
              refine sx_if_ge (tgt := 93) dX1_doAll_85 (by decide) (by first | omega | assumption | (with_reducible first | exact hR _ _ | exact rd_R hR _ _ | exact am_R_and _ _ | exact am_R_or _ _ | exact am_R_xor _ _ | exact am_R_shl _ _ | exact am_R_shr _ _ | exact bit_R _ _) | (exact ⟨by omega, by omega⟩) | exact hR _ _) (fun c85 => ?_) (fun c85 => ?_)
              · -- 85t
                refine sx_aload_n dX1_doAll_93 rfl ?_
                refine oo_geti dX1_doAll_94 fl_X1_19 (by decide) (fun r94 => ?_)
                show Sx 5 Y1_doAll _ _ _ _ [.inl (oq Q 2 3)] _
                rw [h30]
                have hr : oR N Q = 0 := by unfold oR; simp only [if_pos c15, if_neg (Int.not_le.mpr c15), if_pos c26, if_neg (Int.not_le.mpr c26), if_pos c41, if_pos c58, if_pos c85, if_neg (Int.not_lt.mpr c85)]
                have hm : oM N Q = (odo N (oq Q)).2 := by unfold oM; simp only [if_pos c15, if_neg (Int.not_le.mpr c15), if_pos c26, if_neg (Int.not_le.mpr c26), if_pos c41, if_pos c58, if_pos c85, if_neg (Int.not_lt.mpr c85)]
                refine sx_if_eq (tgt := 102) dX1_doAll_97 (by decide) ⟨by decide, by decide⟩ (fun _ => ?_) (fun q => absurd q (by decide))
                refine sx_iinc dX1_doAll_102 rfl (by decide) ?_
                refine sx_goto (tgt := 12) dX1_doAll_105 (by decide) ?_
                exact ih12 _ (by omega) (i + 1) _ _ rfl (by omega) (by rw [← hq, show 60 - i = (60 - (i + 1)) + 1 by omega, oall_go c26 hr, hm, oR_0 hr]; rfl) (hPo _ _ _ hPN) hTq h30
              · -- 85f
                refine sx_aload_n dX1_doAll_88 rfl ?_
                refine sx_iconst dX1_doAll_89 ?_
                refine oo_put dX1_doAll_90 fl_X1_19 (by decide) ⟨by decide, by decide⟩ ?_
                refine sx_aload_n dX1_doAll_93 rfl ?_
                refine oo_geti dX1_doAll_94 fl_X1_19 (by decide) (fun r94 => ?_)
                show Sx 5 Y1_doAll _ _ _ _ [.inl 3] _
                have hr : oR N Q = 3 := by unfold oR; simp only [if_pos c15, if_neg (Int.not_le.mpr c15), if_pos c26, if_neg (Int.not_le.mpr c26), if_pos c41, if_pos c58, if_pos c85, if_neg (Int.not_le.mpr c85)]
                have hm : oM N Q = (odo N (oq Q)).2 := by unfold oM; simp only [if_pos c15, if_neg (Int.not_le.mpr c15), if_pos c26, if_neg (Int.not_le.mpr c26), if_pos c41, if_pos c58, if_pos c85, if_neg (Int.not_le.mpr c85)]
                have ho : oO N Q = am_u2 (oq Q) 2 3 3 := by unfold oO; rw [hr]; rfl
                refine sx_if_eq (tgt := 102) dX1_doAll_97 (by decide) ⟨by decide, by decide⟩ (fun q => absurd q (by decide)) (fun _ => ?_)
                refine sx_iload_n dX1_doAll_100 rfl ?_
                have e9 : oA M O = ((i : Int), oM N Q, oO N Q) := hq.symm.trans (by rw [show 60 - i = (60 - (i + 1)) + 1 by omega]; exact oall_stop c26 (by rw [hr]; decide))
                exact sx_iret dX1_doAll_101 rfl (by first | rw [e9] | rw [e8]) (by first | rw [e9, hm, ho] | rw [e8])
            · -- 58f
              refine sx_aload_n dX1_doAll_61 rfl ?_
              refine sx_aload_n dX1_doAll_62 rfl ?_
              refine oo_geti dX1_doAll_63 fl_X1_35 (by decide) (fun r63 => ?_)
              refine sx_callVi dX1_doAll_66 ml_X1_38 mv0_hasChip (Ct_sw hu (ty_hasChip hu _ (by exact hRq _ _))) rfl (am_obM hu) rfl (Nat.le_of_ble_eq_true rfl) (Nat.le_of_ble_eq_true rfl) ?_
              refine sx_ifB_ne (tgt := 80) dX1_doAll_69 (by decide) (fun c69 => ?_) (fun c69 => ?_)
              · -- 69t
                refine sx_aload_n dX1_doAll_80 rfl ?_
                refine sx_aload_n dX1_doAll_81 rfl ?_
                refine sx_callVi dX1_doAll_82 ml_X1_44 mv1_doOrder (tz_doOrder hu (hP i _ (by omega) hPN)) rfl am_obO rfl (Nat.le_of_ble_eq_true rfl) (Nat.le_of_ble_eq_true rfl) ?_
                refine sx_if_ge (tgt := 93) dX1_doAll_85 (by decide) (by first | omega | assumption | (with_reducible first | exact hR _ _ | exact rd_R hR _ _ | exact am_R_and _ _ | exact am_R_or _ _ | exact am_R_xor _ _ | exact am_R_shl _ _ | exact am_R_shr _ _ | exact bit_R _ _) | (exact ⟨by omega, by omega⟩) | exact hR _ _) (fun c85 => ?_) (fun c85 => ?_)
                · -- 85t
                  refine sx_aload_n dX1_doAll_93 rfl ?_
                  refine oo_geti dX1_doAll_94 fl_X1_19 (by decide) (fun r94 => ?_)
                  show Sx 5 Y1_doAll _ _ _ _ [.inl (oq Q 2 3)] _
                  rw [h30]
                  have hr : oR N Q = 0 := by unfold oR; simp only [if_pos c15, if_neg (Int.not_le.mpr c15), if_pos c26, if_neg (Int.not_le.mpr c26), if_pos c41, if_neg c58, if_pos c69, if_pos c85, if_neg (Int.not_lt.mpr c85)]
                  have hm : oM N Q = (odo N (oq Q)).2 := by unfold oM; simp only [if_pos c15, if_neg (Int.not_le.mpr c15), if_pos c26, if_neg (Int.not_le.mpr c26), if_pos c41, if_neg c58, if_pos c69, if_pos c85, if_neg (Int.not_lt.mpr c85)]
                  refine sx_if_eq (tgt := 102) dX1_doAll_97 (by decide) ⟨by decide, by decide⟩ (fun _ => ?_) (fun q => absurd q (by decide))
                  refine sx_iinc dX1_doAll_102 rfl (by decide) ?_
                  refine sx_goto (tgt := 12) dX1_doAll_105 (by decide) ?_
                  exact ih12 _ (by omega) (i + 1) _ _ rfl (by omega) (by rw [← hq, show 60 - i = (60 - (i + 1)) + 1 by omega, oall_go c26 hr, hm, oR_0 hr]; rfl) (hPo _ _ _ hPN) hTq h30
                · -- 85f
                  refine sx_aload_n dX1_doAll_88 rfl ?_
                  refine sx_iconst dX1_doAll_89 ?_
                  refine oo_put dX1_doAll_90 fl_X1_19 (by decide) ⟨by decide, by decide⟩ ?_
                  refine sx_aload_n dX1_doAll_93 rfl ?_
                  refine oo_geti dX1_doAll_94 fl_X1_19 (by decide) (fun r94 => ?_)
                  show Sx 5 Y1_doAll _ _ _ _ [.inl 3] _
                  have hr : oR N Q = 3 := by unfold oR; simp only [if_pos c15, if_neg (Int.not_le.mpr c15), if_pos c26, if_neg (Int.not_le.mpr c26), if_pos c41, if_neg c58, if_pos c69, if_pos c85, if_neg (Int.not_le.mpr c85)]
                  have hm : oM N Q = (odo N (oq Q)).2 := by unfold oM; simp only [if_pos c15, if_neg (Int.not_le.mpr c15), if_pos c26, if_neg (Int.not_le.mpr c26), if_pos c41, if_neg c58, if_pos c69, if_pos c85, if_neg (Int.not_le.mpr c85)]
                  have ho : oO N Q = am_u2 (oq Q) 2 3 3 := by unfold oO; rw [hr]; rfl
                  refine sx_if_eq (tgt := 102) dX1_doAll_97 (by decide) ⟨by decide, by decide⟩ (fun q => absurd q (by decide)) (fun _ => ?_)
                  refine sx_iload_n dX1_doAll_100 rfl ?_
                  have e9 : oA M O = ((i : Int), oM N Q, oO N Q) := hq.symm.trans (by rw [show 60 - i = (60 - (i + 1)) + 1 by omega]; exact oall_stop c26 (by rw [hr]; decide))
                  exact sx_iret dX1_doAll_101 rfl (by first | rw [e9] | rw [e8]) (by first | rw [e9, hm, ho] | rw [e8])
              · -- 69f
                refine sx_aload_n dX1_doAll_72 rfl ?_
                refine sx_iconst dX1_doAll_73 ?_
                refine oo_put dX1_doAll_74 fl_X1_19 (by decide) ⟨by decide, by decide⟩ ?_
                refine sx_goto (tgt := 93) dX1_doAll_77 (by decide) ?_
                refine sx_aload_n dX1_doAll_93 rfl ?_
                refine oo_geti dX1_doAll_94 fl_X1_19 (by decide) (fun r94 => ?_)
                show Sx 5 Y1_doAll _ _ _ _ [.inl 2] _
                have hr : oR N Q = 2 := by unfold oR; simp only [if_pos c15, if_neg (Int.not_le.mpr c15), if_pos c26, if_neg (Int.not_le.mpr c26), if_pos c41, if_neg c58, if_neg c69]
                have hm : oM N Q = N := by unfold oM; simp only [if_pos c15, if_neg (Int.not_le.mpr c15), if_pos c26, if_neg (Int.not_le.mpr c26), if_pos c41, if_neg c58, if_neg c69]
                have ho : oO N Q = am_u2 (oq Q) 2 3 2 := by unfold oO; rw [hr]; rfl
                refine sx_if_eq (tgt := 102) dX1_doAll_97 (by decide) ⟨by decide, by decide⟩ (fun q => absurd q (by decide)) (fun _ => ?_)
                refine sx_iload_n dX1_doAll_100 rfl ?_
                have e9 : oA M O = ((i : Int), oM N Q, oO N Q) := hq.symm.trans (by rw [show 60 - i = (60 - (i + 1)) + 1 by omega]; exact oall_stop c26 (by rw [hr]; decide))
                exact sx_iret dX1_doAll_101 rfl (by first | rw [e9] | rw [e8]) (by first | rw [e9, hm, ho] | rw [e8])
          · -- 41f
            refine sx_aload_n dX1_doAll_44 rfl ?_
            refine sx_iconst dX1_doAll_45 ?_
            refine oo_put dX1_doAll_46 fl_X1_19 (by decide) ⟨by decide, by decide⟩ ?_
            refine sx_goto (tgt := 93) dX1_doAll_49 (by decide) ?_
            refine sx_aload_n dX1_doAll_93 rfl ?_
            refine oo_geti dX1_doAll_94 fl_X1_19 (by decide) (fun r94 => ?_)
            show Sx 5 Y1_doAll _ _ _ _ [.inl 1] _
            have hr : oR N Q = 1 := by unfold oR; simp only [if_pos c15, if_neg (Int.not_le.mpr c15), if_pos c26, if_neg (Int.not_le.mpr c26), if_neg c41]
            have hm : oM N Q = N := by unfold oM; simp only [if_pos c15, if_neg (Int.not_le.mpr c15), if_pos c26, if_neg (Int.not_le.mpr c26), if_neg c41]
            have ho : oO N Q = am_u2 (oq Q) 2 3 1 := by unfold oO; rw [hr]; rfl
            refine sx_if_eq (tgt := 102) dX1_doAll_97 (by decide) ⟨by decide, by decide⟩ (fun q => absurd q (by decide)) (fun _ => ?_)
            refine sx_iload_n dX1_doAll_100 rfl ?_
            have e9 : oA M O = ((i : Int), oM N Q, oO N Q) := hq.symm.trans (by rw [show 60 - i = (60 - (i + 1)) + 1 by omega]; exact oall_stop c26 (by rw [hr]; decide))
            exact sx_iret dX1_doAll_101 rfl (by first | rw [e9] | rw [e8]) (by first | rw [e9, hm, ho] | rw [e8])
  exact loop12 _ 0 M (oini O) rfl (by omega) rfl hPM hTi (am_u2_hit _ _ _ _)
