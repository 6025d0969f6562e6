set_option maxHeartbeats 4000000 in
set_option maxRecDepth 100000 in
theorem ty_breakRow {h0 : am_H} {u : Nat} (hu : u < 6) {M : am_M} (c r : Int) (hW : WM M) (hcR : am_R c) (hrR : am_R r) (hy : YB M c r)  : Ct 3 Y0_breakRow [.inr (u, 0), .inl c, .inl r] (some (.inl (ybreak M c r).1)) (am_U h0 u M) (am_U h0 u (ybreak M c r).2) := by
  refine Ct_of (by decide +kernel) (Nat.le_of_ble_eq_true rfl) ?_
  show Sx 3 Y0_breakRow (am_U h0 u (ybreak M c r).2) (some (.inl (ybreak M c r).1)) 0 [some (.inr (u, 0)), some (.inl c), some (.inl r), none, none, none] [] (am_U h0 u M)
  refine mm_vh (fun hR => ?_)
  obtain ⟨w0, w2, w1, w5, w8, w12, wb⟩ := id hW
  refine sx_aload_n dX0_breakRow_0 rfl ?_
  refine sx_iload_n dX0_breakRow_1 rfl ?_
  refine sx_callVi dX0_breakRow_2 ml_X0_97 mv0_hasChip (ty_hasChip hu _ hcR) rfl (am_obM hu) rfl (Nat.le_of_ble_eq_true rfl) (Nat.le_of_ble_eq_true rfl) ?_
  refine sx_ifB_eq (tgt := 15) dX0_breakRow_5 (by decide) (fun c5 => ?_) (fun c5 => ?_)
  · -- 5t
    refine sx_ldc dX0_breakRow_15 kc_X0_95 ?_
    exact sx_iret dX0_breakRow_17 rfl (by unfold ybreak; simp only [if_neg c5]) (by unfold ybreak; simp only [if_neg c5])
  · -- 5f
    refine sx_iload_n dX0_breakRow_8 rfl ?_
    refine sx_callNi dX0_breakRow_9 (List.mem_of_getElem? (i := 1) rfl) ms2_isRow (ty_isRow _ hrR) rfl rfl (Nat.le_of_ble_eq_true rfl) (Nat.le_of_ble_eq_true rfl) ?_
    refine sx_ifB_ne (tgt := 18) dX0_breakRow_12 (by decide) (fun c12 => ?_) (fun c12 => ?_)
    · -- 12t
      have hc8 : 0 ≤ c ∧ c < 8 := ⟨c5.1, by omega⟩
      have hf9 := w1 c hc8.1 hc8.2
      obtain ⟨hb1, hb2⟩ := hy c5 c12
      have hWB := WM_br0 hW hc8 c12
      refine sx_aload_n dX0_breakRow_18 rfl ?_
      refine sx_iload_n dX0_breakRow_19 rfl ?_
      refine sx_callVi dX0_breakRow_20 ml_X0_79 mv0_lives (ty_lives hu _) rfl (am_obM hu) rfl (Nat.le_of_ble_eq_true rfl) (Nat.le_of_ble_eq_true rfl) ?_
      refine sx_ifB_eq (tgt := 35) dX0_breakRow_23 (by decide) (fun c23 => ?_) (fun c23 => ?_)
      · -- 23t
        refine sx_ldc dX0_breakRow_35 kc_X0_103 ?_
        exact sx_iret dX0_breakRow_37 rfl (by unfold ybreak; simp only [if_pos c5, if_pos c12, if_neg c23]) (by unfold ybreak; simp only [if_pos c5, if_pos c12, if_neg c23])
      · -- 23f
        refine sx_aload_n dX0_breakRow_26 rfl ?_
        refine sx_iload_n dX0_breakRow_27 rfl ?_
        refine sx_iload_n dX0_breakRow_28 rfl ?_
        refine sx_callVi dX0_breakRow_29 ml_X0_124 mv0_isBroken (ty_isBroken hu _ _ hc8) rfl (am_obM hu) rfl (Nat.le_of_ble_eq_true rfl) (Nat.le_of_ble_eq_true rfl) ?_
        refine sx_ifB_eq (tgt := 38) dX0_breakRow_32 (by decide) (fun c32 => ?_) (fun c32 => ?_)
        · -- 32t
          refine sx_aload_n dX0_breakRow_38 rfl ?_
          refine mm_getr (j := 3) hu dX0_breakRow_39 fl_X0_18 (by decide) ?_
          refine sx_iload_n dX0_breakRow_42 rfl ?_
          refine mm_ild (n := 8) hu dX0_breakRow_43 (by decide) rfl (by decide) (by first | omega | assumption | (with_reducible first | exact hR _ _ | exact rd_R hR _ _ | exact am_R_and _ _ | exact am_R_or _ _ | exact am_R_xor _ _ | exact am_R_shl _ _ | exact am_R_shr _ _ | exact bit_R _ _ | exact ybc_R _ | exact yps_R _ _) | (exact ⟨by omega, by omega⟩) | exact hR _ _) (by first | omega | assumption | (with_reducible first | exact hR _ _ | exact rd_R hR _ _ | exact am_R_and _ _ | exact am_R_or _ _ | exact am_R_xor _ _ | exact am_R_shl _ _ | exact am_R_shr _ _ | exact bit_R _ _ | exact ybc_R _ | exact yps_R _ _) | (exact ⟨by omega, by omega⟩) | exact hR _ _) rfl (fun r43 => ?_)
          show Sx 3 Y0_breakRow _ _ _ _ [.inl (rd M 3 c)] _
          refine sx_if_le (tgt := 51) dX0_breakRow_44 (by decide) (by first | omega | assumption | (with_reducible first | exact hR _ _ | exact rd_R hR _ _ | exact am_R_and _ _ | exact am_R_or _ _ | exact am_R_xor _ _ | exact am_R_shl _ _ | exact am_R_shr _ _ | exact bit_R _ _ | exact ybc_R _ | exact yps_R _ _) | (exact ⟨by omega, by omega⟩) | exact hR _ _) (fun c44 => ?_) (fun c44 => ?_)
          · -- 44t
            refine sx_iconst dX0_breakRow_51 ?_
            refine sx_istore_n dX0_breakRow_52 (by decide) ?_
            refine sx_iload_n dX0_breakRow_53 rfl ?_
            refine sx_if_eq (tgt := 70) dX0_breakRow_54 (by decide) ⟨by decide, by decide⟩ (fun _ => ?_) (fun q => absurd q (by decide))
            refine sx_aload_n dX0_breakRow_70 rfl ?_
            refine mm_getr (j := 2) hu dX0_breakRow_71 fl_X0_15 (by decide) ?_
            refine sx_iload_n dX0_breakRow_74 rfl ?_
            refine sx_dup2 dX0_breakRow_75 ?_
            refine mm_ild (n := 8) hu dX0_breakRow_76 (by decide) rfl (by decide) (by first | omega | assumption | (with_reducible first | exact hR _ _ | exact rd_R hR _ _ | exact am_R_and _ _ | exact am_R_or _ _ | exact am_R_xor _ _ | exact am_R_shl _ _ | exact am_R_shr _ _ | exact bit_R _ _ | exact ybc_R _ | exact yps_R _ _) | (exact ⟨by omega, by omega⟩) | exact hR _ _) (by first | omega | assumption | (with_reducible first | exact hR _ _ | exact rd_R hR _ _ | exact am_R_and _ _ | exact am_R_or _ _ | exact am_R_xor _ _ | exact am_R_shl _ _ | exact am_R_shr _ _ | exact bit_R _ _ | exact ybc_R _ | exact yps_R _ _) | (exact ⟨by omega, by omega⟩) | exact hR _ _) rfl (fun r76 => ?_)
            refine sx_iconst dX0_breakRow_77 ?_
            refine sx_iload_n dX0_breakRow_78 rfl ?_
            refine sx_ishl dX0_breakRow_79 ?_
            refine sx_ior dX0_breakRow_80 ?_
            refine mm_ist (n := 8) hu dX0_breakRow_81 (by decide) rfl (by decide) (by first | omega | assumption | (with_reducible first | exact hR _ _ | exact rd_R hR _ _ | exact am_R_and _ _ | exact am_R_or _ _ | exact am_R_xor _ _ | exact am_R_shl _ _ | exact am_R_shr _ _ | exact bit_R _ _ | exact ybc_R _ | exact yps_R _ _) | (exact ⟨by omega, by omega⟩) | exact hR _ _) (by first | omega | assumption | (with_reducible first | exact hR _ _ | exact rd_R hR _ _ | exact am_R_and _ _ | exact am_R_or _ _ | exact am_R_xor _ _ | exact am_R_shl _ _ | exact am_R_shr _ _ | exact bit_R _ _ | exact ybc_R _ | exact yps_R _ _) | (exact ⟨by omega, by omega⟩) | exact hR _ _) rfl (by first | omega | assumption | (with_reducible first | exact hR _ _ | exact rd_R hR _ _ | exact am_R_and _ _ | exact am_R_or _ _ | exact am_R_xor _ _ | exact am_R_shl _ _ | exact am_R_shr _ _ | exact bit_R _ _ | exact ybc_R _ | exact yps_R _ _) | (exact ⟨by omega, by omega⟩) | exact hR _ _) ?_
            refine sx_heq (am_U h0 u (ybr0 M c r)) (by unfold ybr0; first | (rw [if_pos c44]; rfl) | (rw [if_neg (Int.not_le.mpr c44)]; rfl)) ?_
            refine mm_vh (fun hRB => ?_)
            have eb5 : ybr0 M c r 5 = M 5 := by unfold ybr0; split <;> exact wr_row _ _ _ (by decide)
            have eb1 : ybr0 M c r 1 = M 1 := by unfold ybr0; split <;> exact wr_row _ _ _ (by decide)
            refine sx_aload_n dX0_breakRow_82 rfl ?_
            refine sx_iload_n dX0_breakRow_83 rfl ?_
            refine sx_callVi dX0_breakRow_84 ml_X0_107 mv0_isGodfather (ty_isGodfather hu _ hWB hc8) rfl (am_obM hu) rfl (Nat.le_of_ble_eq_true rfl) (Nat.le_of_ble_eq_true rfl) ?_
            rw [show rd (ybr0 M c r) 1 c = rd M 1 c by unfold rd; rw [eb1], show rd (ybr0 M c r) 5 (rd M 1 c) = rd M 5 (rd M 1 c) by unfold rd; rw [eb5]]
            refine sx_ifB_eq (tgt := 102) dX0_breakRow_87 (by decide) (fun c87 => ?_) (fun c87 => ?_)
            · -- 87t
              refine sx_aload_n dX0_breakRow_102 rfl ?_
              refine mm_getr (j := 4) hu dX0_breakRow_103 fl_X0_21 (by decide) ?_
              refine sx_iload_n dX0_breakRow_106 rfl ?_
              refine sx_bipush dX0_breakRow_107 rfl ?_
              refine sx_imul dX0_breakRow_109 ?_
              refine sx_iload_n dX0_breakRow_110 rfl ?_
              refine sx_iadd dX0_breakRow_111 ?_
              refine mm_ild (n := 48) hu dX0_breakRow_112 (by decide) rfl (by decide) (by first | omega | assumption | (with_reducible first | exact hR _ _ | exact rd_R hR _ _ | exact am_R_and _ _ | exact am_R_or _ _ | exact am_R_xor _ _ | exact am_R_shl _ _ | exact am_R_shr _ _ | exact bit_R _ _ | exact ybc_R _ | exact yps_R _ _) | (exact ⟨by omega, by omega⟩) | exact hR _ _) (by first | omega | assumption | (with_reducible first | exact hR _ _ | exact rd_R hR _ _ | exact am_R_and _ _ | exact am_R_or _ _ | exact am_R_xor _ _ | exact am_R_shl _ _ | exact am_R_shr _ _ | exact bit_R _ _ | exact ybc_R _ | exact yps_R _ _) | (exact ⟨by omega, by omega⟩) | exact hR _ _) rfl (fun r112 => ?_)
              show Sx 3 Y0_breakRow _ _ _ _ [.inl (ybrw M c r)] _
              refine sx_istore dX0_breakRow_113 (by decide) ?_
              refine sx_aload_n dX0_breakRow_115 rfl ?_
              refine sx_iload dX0_breakRow_116 rfl ?_
              refine sx_callVi dX0_breakRow_118 ml_X0_114 mv0_loseUnlessSummed (ty_loseUnlessSummed hu _ hWB (hb2 c87) (by exact hRB _ _)) rfl (am_obM hu) rfl (Nat.le_of_ble_eq_true rfl) (Nat.le_of_ble_eq_true rfl) ?_
              refine sx_istore dX0_breakRow_121 (by decide) ?_
              refine sx_iload_n dX0_breakRow_123 rfl ?_
              refine sx_if_ne (tgt := 133) dX0_breakRow_124 (by decide) ⟨by decide, by decide⟩ (fun q => absurd q (by decide)) (fun _ => ?_)
              refine sx_aload_n dX0_breakRow_127 rfl ?_
              refine sx_iload dX0_breakRow_128 rfl ?_
              refine sx_callVv dX0_breakRow_130 ml_X0_117 mv0_letWait (ty_letWait hu _ (WM_YSr hWB (hb2 c87)) (YSr_let (hb2 c87)) (by exact hRB _ _)) rfl (am_obM hu) rfl (Nat.le_of_ble_eq_true rfl) (Nat.le_of_ble_eq_true rfl) ?_
              refine sx_iload dX0_breakRow_133 rfl ?_
              exact sx_iret dX0_breakRow_135 rfl (by unfold ybreak; simp only [if_pos c5, if_pos c12, if_pos c23, if_neg c32, if_pos c44, if_neg (Int.not_lt.mpr c44), if_neg c87]) (by unfold ybreak; simp only [if_pos c5, if_pos c12, if_pos c23, if_neg c32, if_pos c44, if_neg (Int.not_lt.mpr c44), if_neg c87])
            · -- 87f
              refine sx_aload_n dX0_breakRow_90 rfl ?_
              refine sx_aload_n dX0_breakRow_91 rfl ?_
              refine mm_getr (j := 1) hu dX0_breakRow_92 fl_X0_9 (by decide) ?_
              refine sx_iload_n dX0_breakRow_95 rfl ?_
              refine mm_ild (n := 8) hu dX0_breakRow_96 (by decide) rfl (by decide) (by first | omega | assumption | (with_reducible first | exact hR _ _ | exact rd_R hR _ _ | exact am_R_and _ _ | exact am_R_or _ _ | exact am_R_xor _ _ | exact am_R_shl _ _ | exact am_R_shr _ _ | exact bit_R _ _ | exact ybc_R _ | exact yps_R _ _) | (exact ⟨by omega, by omega⟩) | exact hR _ _) (by first | omega | assumption | (with_reducible first | exact hR _ _ | exact rd_R hR _ _ | exact am_R_and _ _ | exact am_R_or _ _ | exact am_R_xor _ _ | exact am_R_shl _ _ | exact am_R_shr _ _ | exact bit_R _ _ | exact ybc_R _ | exact yps_R _ _) | (exact ⟨by omega, by omega⟩) | exact hR _ _) rfl (fun r96 => ?_)
              show Sx 3 Y0_breakRow _ _ _ _ [.inl (rd (ybr0 M c r) 1 c), .inr (u, 0)] _
              rw [show rd (ybr0 M c r) 1 c = rd M 1 c by unfold rd; rw [eb1]]
              refine sx_iload_n dX0_breakRow_97 rfl ?_
              refine sx_callVi dX0_breakRow_98 ml_X0_110 mv0_loseWaiting (ty_loseWaiting hu _ _ hWB hf9 c12 (hb1 c87)) rfl (am_obM hu) rfl (Nat.le_of_ble_eq_true rfl) (Nat.le_of_ble_eq_true rfl) ?_
              exact sx_iret dX0_breakRow_101 rfl (by unfold ybreak; simp only [if_pos c5, if_pos c12, if_pos c23, if_neg c32, if_pos c44, if_neg (Int.not_lt.mpr c44), if_pos c87]) (by unfold ybreak; simp only [if_pos c5, if_pos c12, if_pos c23, if_neg c32, if_pos c44, if_neg (Int.not_lt.mpr c44), if_pos c87])
          · -- 44f
            refine sx_iconst dX0_breakRow_47 ?_
            refine sx_goto (tgt := 52) dX0_breakRow_48 (by decide) ?_
            refine sx_istore_n dX0_breakRow_52 (by decide) ?_
            refine sx_iload_n dX0_breakRow_53 rfl ?_
            refine sx_if_eq (tgt := 70) dX0_breakRow_54 (by decide) ⟨by decide, by decide⟩ (fun q => absurd q (by decide)) (fun _ => ?_)
            have q44 : 0 < M 3 c.toNat := c44
            refine sx_aload_n dX0_breakRow_57 rfl ?_
            refine mm_getr (j := 3) hu dX0_breakRow_58 fl_X0_18 (by decide) ?_
            refine sx_iload_n dX0_breakRow_61 rfl ?_
            refine sx_dup2 dX0_breakRow_62 ?_
            refine mm_ild (n := 8) hu dX0_breakRow_63 (by decide) rfl (by decide) (by first | omega | assumption | (with_reducible first | exact hR _ _ | exact rd_R hR _ _ | exact am_R_and _ _ | exact am_R_or _ _ | exact am_R_xor _ _ | exact am_R_shl _ _ | exact am_R_shr _ _ | exact bit_R _ _ | exact ybc_R _ | exact yps_R _ _) | (exact ⟨by omega, by omega⟩) | exact hR _ _) (by first | omega | assumption | (with_reducible first | exact hR _ _ | exact rd_R hR _ _ | exact am_R_and _ _ | exact am_R_or _ _ | exact am_R_xor _ _ | exact am_R_shl _ _ | exact am_R_shr _ _ | exact bit_R _ _ | exact ybc_R _ | exact yps_R _ _) | (exact ⟨by omega, by omega⟩) | exact hR _ _) rfl (fun r63 => ?_)
            refine sx_iconst dX0_breakRow_64 ?_
            refine sx_isub dX0_breakRow_65 ?_
            refine mm_ist (n := 8) hu dX0_breakRow_66 (by decide) rfl (by decide) (by omega) (by omega) rfl (by exact ⟨by have := r63.1; omega, by have := r63.2; omega⟩) ?_
            refine sx_goto (tgt := 82) dX0_breakRow_67 (by decide) ?_
            refine sx_heq (am_U h0 u (ybr0 M c r)) (by unfold ybr0; first | (rw [if_pos c44]; rfl) | (rw [if_neg (Int.not_le.mpr c44)]; rfl)) ?_
            refine mm_vh (fun hRB => ?_)
            have eb5 : ybr0 M c r 5 = M 5 := by unfold ybr0; split <;> exact wr_row _ _ _ (by decide)
            have eb1 : ybr0 M c r 1 = M 1 := by unfold ybr0; split <;> exact wr_row _ _ _ (by decide)
            refine sx_aload_n dX0_breakRow_82 rfl ?_
            refine sx_iload_n dX0_breakRow_83 rfl ?_
            refine sx_callVi dX0_breakRow_84 ml_X0_107 mv0_isGodfather (ty_isGodfather hu _ hWB hc8) rfl (am_obM hu) rfl (Nat.le_of_ble_eq_true rfl) (Nat.le_of_ble_eq_true rfl) ?_
            rw [show rd (ybr0 M c r) 1 c = rd M 1 c by unfold rd; rw [eb1], show rd (ybr0 M c r) 5 (rd M 1 c) = rd M 5 (rd M 1 c) by unfold rd; rw [eb5]]
            refine sx_ifB_eq (tgt := 102) dX0_breakRow_87 (by decide) (fun c87 => ?_) (fun c87 => ?_)
            · -- 87t
              refine sx_aload_n dX0_breakRow_102 rfl ?_
              refine mm_getr (j := 4) hu dX0_breakRow_103 fl_X0_21 (by decide) ?_
              refine sx_iload_n dX0_breakRow_106 rfl ?_
              refine sx_bipush dX0_breakRow_107 rfl ?_
              refine sx_imul dX0_breakRow_109 ?_
              refine sx_iload_n dX0_breakRow_110 rfl ?_
              refine sx_iadd dX0_breakRow_111 ?_
              refine mm_ild (n := 48) hu dX0_breakRow_112 (by decide) rfl (by decide) (by first | omega | assumption | (with_reducible first | exact hR _ _ | exact rd_R hR _ _ | exact am_R_and _ _ | exact am_R_or _ _ | exact am_R_xor _ _ | exact am_R_shl _ _ | exact am_R_shr _ _ | exact bit_R _ _ | exact ybc_R _ | exact yps_R _ _) | (exact ⟨by omega, by omega⟩) | exact hR _ _) (by first | omega | assumption | (with_reducible first | exact hR _ _ | exact rd_R hR _ _ | exact am_R_and _ _ | exact am_R_or _ _ | exact am_R_xor _ _ | exact am_R_shl _ _ | exact am_R_shr _ _ | exact bit_R _ _ | exact ybc_R _ | exact yps_R _ _) | (exact ⟨by omega, by omega⟩) | exact hR _ _) rfl (fun r112 => ?_)
              show Sx 3 Y0_breakRow _ _ _ _ [.inl (ybrw M c r)] _
              refine sx_istore dX0_breakRow_113 (by decide) ?_
              refine sx_aload_n dX0_breakRow_115 rfl ?_
              refine sx_iload dX0_breakRow_116 rfl ?_
              refine sx_callVi dX0_breakRow_118 ml_X0_114 mv0_loseUnlessSummed (ty_loseUnlessSummed hu _ hWB (hb2 c87) (by exact hRB _ _)) rfl (am_obM hu) rfl (Nat.le_of_ble_eq_true rfl) (Nat.le_of_ble_eq_true rfl) ?_
              refine sx_istore dX0_breakRow_121 (by decide) ?_
              refine sx_iload_n dX0_breakRow_123 rfl ?_
              refine sx_if_ne (tgt := 133) dX0_breakRow_124 (by decide) ⟨by decide, by decide⟩ (fun _ => ?_) (fun q => absurd q (by decide))
              refine sx_iload dX0_breakRow_133 rfl ?_
              exact sx_iret dX0_breakRow_135 rfl (by unfold ybreak; simp only [if_pos c5, if_pos c12, if_pos c23, if_neg c32, if_pos c44, if_neg (Int.not_le.mpr c44), if_neg c87]) (by unfold ybreak; simp only [if_pos c5, if_pos c12, if_pos c23, if_neg c32, if_pos c44, if_neg (Int.not_le.mpr c44), if_neg c87])
            · -- 87f
              refine sx_aload_n dX0_breakRow_90 rfl ?_
              refine sx_aload_n dX0_breakRow_91 rfl ?_
              refine mm_getr (j := 1) hu dX0_breakRow_92 fl_X0_9 (by decide) ?_
              refine sx_iload_n dX0_breakRow_95 rfl ?_
              refine mm_ild (n := 8) hu dX0_breakRow_96 (by decide) rfl (by decide) (by first | omega | assumption | (with_reducible first | exact hR _ _ | exact rd_R hR _ _ | exact am_R_and _ _ | exact am_R_or _ _ | exact am_R_xor _ _ | exact am_R_shl _ _ | exact am_R_shr _ _ | exact bit_R _ _ | exact ybc_R _ | exact yps_R _ _) | (exact ⟨by omega, by omega⟩) | exact hR _ _) (by first | omega | assumption | (with_reducible first | exact hR _ _ | exact rd_R hR _ _ | exact am_R_and _ _ | exact am_R_or _ _ | exact am_R_xor _ _ | exact am_R_shl _ _ | exact am_R_shr _ _ | exact bit_R _ _ | exact ybc_R _ | exact yps_R _ _) | (exact ⟨by omega, by omega⟩) | exact hR _ _) rfl (fun r96 => ?_)
              show Sx 3 Y0_breakRow _ _ _ _ [.inl (rd (ybr0 M c r) 1 c), .inr (u, 0)] _
              rw [show rd (ybr0 M c r) 1 c = rd M 1 c by unfold rd; rw [eb1]]
              refine sx_iload_n dX0_breakRow_97 rfl ?_
              refine sx_callVi dX0_breakRow_98 ml_X0_110 mv0_loseWaiting (ty_loseWaiting hu _ _ hWB hf9 c12 (hb1 c87)) rfl (am_obM hu) rfl (Nat.le_of_ble_eq_true rfl) (Nat.le_of_ble_eq_true rfl) ?_
              exact sx_iret dX0_breakRow_101 rfl (by unfold ybreak; simp only [if_pos c5, if_pos c12, if_pos c23, if_neg c32, if_pos c44, if_neg (Int.not_le.mpr c44), if_pos c87]) (by unfold ybreak; simp only [if_pos c5, if_pos c12, if_pos c23, if_neg c32, if_pos c44, if_neg (Int.not_le.mpr c44), if_pos c87])
        · -- 32f
          refine sx_ldc dX0_breakRow_35 kc_X0_103 ?_
          exact sx_iret dX0_breakRow_37 rfl (by unfold ybreak; simp only [if_pos c5, if_pos c12, if_pos c23, if_pos c32]) (by unfold ybreak; simp only [if_pos c5, if_pos c12, if_pos c23, if_pos c32])
    · -- 12f
      refine sx_ldc dX0_breakRow_15 kc_X0_95 ?_
      exact sx_iret dX0_breakRow_17 rfl (by unfold ybreak; simp only [if_pos c5, if_neg c12]) (by unfold ybreak; simp only [if_pos c5, if_neg c12])
set_option maxHeartbeats 4000000 in
set_option maxRecDepth 100000 in
theorem ty_putWord {h0 : am_H} {u : Nat} (hu : u < 6) {M : am_M} (c v : Int) (hW : WM M) (hcR : am_R c) (hvR : am_R v)  : Ct 2 Y0_putWord [.inr (u, 0), .inl c, .inl v] (some (.inl (yput M c v).1)) (am_U h0 u M) (am_U h0 u (yput M c v).2) := by
  refine Ct_of (by decide +kernel) (Nat.le_of_ble_eq_true rfl) ?_
  show Sx 2 Y0_putWord (am_U h0 u (yput M c v).2) (some (.inl (yput M c v).1)) 0 [some (.inr (u, 0)), some (.inl c), some (.inl v), none] [] (am_U h0 u M)
  refine mm_vh (fun hR => ?_)
  obtain ⟨w0, w2, w1, w5, w8, w12, wb⟩ := id hW
  refine sx_aload_n dX0_putWord_0 rfl ?_
  refine sx_iload_n dX0_putWord_1 rfl ?_
  refine sx_callVi dX0_putWord_2 ml_X0_97 mv0_hasChip (ty_hasChip hu _ hcR) rfl (am_obM hu) rfl (Nat.le_of_ble_eq_true rfl) (Nat.le_of_ble_eq_true rfl) ?_
  refine sx_ifB_eq (tgt := 15) dX0_putWord_5 (by decide) (fun c5 => ?_) (fun c5 => ?_)
  · -- 5t
    refine sx_ldc dX0_putWord_15 kc_X0_95 ?_
    exact sx_iret dX0_putWord_17 rfl (by unfold yput; simp only [if_neg c5]) (by unfold yput; simp only [if_neg c5])
  · -- 5f
    refine sx_iload_n dX0_putWord_8 rfl ?_
    refine sx_callNi dX0_putWord_9 (List.mem_of_getElem? (i := 2) rfl) ms2_isValue (ty_isValue _ hvR) rfl rfl (Nat.le_of_ble_eq_true rfl) (Nat.le_of_ble_eq_true rfl) ?_
    refine sx_ifB_ne (tgt := 18) dX0_putWord_12 (by decide) (fun c12 => ?_) (fun c12 => ?_)
    · -- 12t
      have hc8 : 0 ≤ c ∧ c < 8 := ⟨c5.1, by omega⟩
      refine sx_aload_n dX0_putWord_18 rfl ?_
      refine sx_iload_n dX0_putWord_19 rfl ?_
      refine sx_callVi dX0_putWord_20 ml_X0_83 mv0_placeSet (ty_placeSet hu _ hW hc8) rfl (am_obM hu) rfl (Nat.le_of_ble_eq_true rfl) (Nat.le_of_ble_eq_true rfl) ?_
      refine sx_if_ne (tgt := 29) dX0_putWord_23 (by decide) (by first | omega | assumption | (with_reducible first | exact hR _ _ | exact rd_R hR _ _ | exact am_R_and _ _ | exact am_R_or _ _ | exact am_R_xor _ _ | exact am_R_shl _ _ | exact am_R_shr _ _ | exact bit_R _ _ | exact ybc_R _ | exact yps_R _ _) | (exact ⟨by omega, by omega⟩) | exact hR _ _) (fun c23 => ?_) (fun c23 => ?_)
      · -- 23t
        refine sx_aload_n dX0_putWord_29 rfl ?_
        refine mm_geti hu dX0_putWord_30 fl_X0_64 (by decide) (fun r30 => ?_)
        refine sx_bipush dX0_putWord_33 rfl ?_
        refine sx_icmp_lt (tgt := 41) dX0_putWord_35 (by decide) (by first | omega | assumption | (with_reducible first | exact hR _ _ | exact rd_R hR _ _ | exact am_R_and _ _ | exact am_R_or _ _ | exact am_R_xor _ _ | exact am_R_shl _ _ | exact am_R_shr _ _ | exact bit_R _ _ | exact ybc_R _ | exact yps_R _ _) | (exact ⟨by omega, by omega⟩) | exact hR _ _) ⟨by decide, by decide⟩ (fun c35 => ?_) (fun c35 => ?_)
        · -- 35t
          refine sx_aload_n dX0_putWord_41 rfl ?_
          refine mm_geti hu dX0_putWord_42 fl_X0_64 (by decide) (fun r42 => ?_)
          refine sx_istore_n dX0_putWord_45 (by decide) ?_
          refine sx_aload_n dX0_putWord_46 rfl ?_
          refine sx_dup dX0_putWord_47 ?_
          refine mm_geti hu dX0_putWord_48 fl_X0_64 (by decide) (fun r48 => ?_)
          refine sx_iconst dX0_putWord_51 ?_
          refine sx_iadd dX0_putWord_52 ?_
          refine mm_put hu dX0_putWord_53 fl_X0_64 (by decide) (by first | omega | assumption | (with_reducible first | exact hR _ _ | exact rd_R hR _ _ | exact am_R_and _ _ | exact am_R_or _ _ | exact am_R_xor _ _ | exact am_R_shl _ _ | exact am_R_shr _ _ | exact bit_R _ _ | exact ybc_R _ | exact yps_R _ _) | (exact ⟨by omega, by omega⟩) | exact hR _ _) ?_
          refine sx_aload_n dX0_putWord_56 rfl ?_
          refine mm_getr (j := 9) hu dX0_putWord_57 fl_X0_36 (by decide) ?_
          refine sx_iload_n dX0_putWord_60 rfl ?_
          refine sx_iload_n dX0_putWord_61 rfl ?_
          refine mm_ist (n := 24) hu dX0_putWord_62 (by decide) rfl (by decide) (by first | omega | assumption | (with_reducible first | exact hR _ _ | exact rd_R hR _ _ | exact am_R_and _ _ | exact am_R_or _ _ | exact am_R_xor _ _ | exact am_R_shl _ _ | exact am_R_shr _ _ | exact bit_R _ _ | exact ybc_R _ | exact yps_R _ _) | (exact ⟨by omega, by omega⟩) | exact hR _ _) (by first | omega | assumption | (with_reducible first | exact hR _ _ | exact rd_R hR _ _ | exact am_R_and _ _ | exact am_R_or _ _ | exact am_R_xor _ _ | exact am_R_shl _ _ | exact am_R_shr _ _ | exact bit_R _ _ | exact ybc_R _ | exact yps_R _ _) | (exact ⟨by omega, by omega⟩) | exact hR _ _) rfl (by first | omega | assumption | (with_reducible first | exact hR _ _ | exact rd_R hR _ _ | exact am_R_and _ _ | exact am_R_or _ _ | exact am_R_xor _ _ | exact am_R_shl _ _ | exact am_R_shr _ _ | exact bit_R _ _ | exact ybc_R _ | exact yps_R _ _) | (exact ⟨by omega, by omega⟩) | exact hR _ _) ?_
          refine sx_heq (am_U h0 u (ypu1 M v)) rfl ?_
          have hW1 : WM (ypu1 M v) := WM_wr (WM_0 hW (by omega) (by omega)) (by decide) (by decide) (by omega) (by omega) (by omega) (by omega)
          refine sx_aload_n dX0_putWord_63 rfl ?_
          refine sx_iload_n dX0_putWord_64 rfl ?_
          refine sx_iload_n dX0_putWord_65 rfl ?_
          refine sx_callVv dX0_putWord_66 ml_X0_131 mv0_keepAtLowest (ty_keepAtLowest hu _ _ hW1 (by omega) hc8 (by exact hR _ _) hcR) rfl (am_obM hu) rfl (Nat.le_of_ble_eq_true rfl) (Nat.le_of_ble_eq_true rfl) ?_
          refine sx_iload_n dX0_putWord_69 rfl ?_
          exact sx_iret dX0_putWord_70 rfl (by unfold yput; simp only [if_pos c5, if_pos c12, if_neg c23, if_pos c35, if_neg (Int.not_le.mpr c35)]) (by unfold yput; simp only [if_pos c5, if_pos c12, if_neg c23, if_pos c35, if_neg (Int.not_le.mpr c35)])
        · -- 35f
          refine sx_ldc dX0_putWord_38 kc_X0_96 ?_
          exact sx_iret dX0_putWord_40 rfl (by unfold yput; simp only [if_pos c5, if_pos c12, if_neg c23, if_pos c35, if_neg (Int.not_lt.mpr c35)]) (by unfold yput; simp only [if_pos c5, if_pos c12, if_neg c23, if_pos c35, if_neg (Int.not_lt.mpr c35)])
      · -- 23f
        refine sx_ldc dX0_putWord_26 kc_X0_103 ?_
        exact sx_iret dX0_putWord_28 rfl (by unfold yput; simp only [if_pos c5, if_pos c12, if_pos c23]) (by unfold yput; simp only [if_pos c5, if_pos c12, if_pos c23])
    · -- 12f
      refine sx_ldc dX0_putWord_15 kc_X0_95 ?_
      exact sx_iret dX0_putWord_17 rfl (by unfold yput; simp only [if_pos c5, if_neg c12]) (by unfold yput; simp only [if_pos c5, if_neg c12])
set_option maxHeartbeats 4000000 in
set_option maxRecDepth 100000 in
theorem ty_writeWord {h0 : am_H} {u : Nat} (hu : u < 6) {M : am_M} (w v : Int) (hW : WM M) (hwR : am_R w) (hvR : am_R v)  : Ct 1 Y0_writeWord [.inr (u, 0), .inl w, .inl v] (some (.inl (ywrite M w v).1)) (am_U h0 u M) (am_U h0 u (ywrite M w v).2) := by
  refine Ct_of (by decide +kernel) (Nat.le_of_ble_eq_true rfl) ?_
  show Sx 1 Y0_writeWord (am_U h0 u (ywrite M w v).2) (some (.inl (ywrite M w v).1)) 0 [some (.inr (u, 0)), some (.inl w), some (.inl v), none] [] (am_U h0 u M)
  refine mm_vh (fun hR => ?_)
  obtain ⟨w0, w2, w1, w5, w8, w12, wb⟩ := id hW
  refine sx_aload_n dX0_writeWord_0 rfl ?_
  refine sx_iload_n dX0_writeWord_1 rfl ?_
  refine sx_callVi dX0_writeWord_2 ml_X0_135 mv0_hasWord (ty_hasWord hu _ hwR) rfl (am_obM hu) rfl (Nat.le_of_ble_eq_true rfl) (Nat.le_of_ble_eq_true rfl) ?_
  refine sx_ifB_eq (tgt := 15) dX0_writeWord_5 (by decide) (fun c5 => ?_) (fun c5 => ?_)
  · -- 5t
    refine sx_ldc dX0_writeWord_15 kc_X0_95 ?_
    exact sx_iret dX0_writeWord_17 rfl (by unfold ywrite; simp only [if_neg c5]; try rfl) (by unfold ywrite; simp only [if_neg c5]; try rfl)
  · -- 5f
    refine sx_iload_n dX0_writeWord_8 rfl ?_
    refine sx_callNi dX0_writeWord_9 (List.mem_of_getElem? (i := 2) rfl) ms2_isValue (ty_isValue _ hvR) rfl rfl (Nat.le_of_ble_eq_true rfl) (Nat.le_of_ble_eq_true rfl) ?_
    refine sx_ifB_ne (tgt := 18) dX0_writeWord_12 (by decide) (fun c12 => ?_) (fun c12 => ?_)
    · -- 12t
      have hw24 : 0 ≤ w ∧ w < 24 := ⟨c5.1, by omega⟩
      refine sx_aload_n dX0_writeWord_18 rfl ?_
      refine mm_getr (j := 10) hu dX0_writeWord_19 fl_X0_39 (by decide) ?_
      refine sx_iload_n dX0_writeWord_22 rfl ?_
      refine mm_ild (n := 24) hu dX0_writeWord_23 (by decide) rfl (by decide) (by first | omega | assumption | (with_reducible first | exact hR _ _ | exact rd_R hR _ _ | exact am_R_and _ _ | exact am_R_or _ _ | exact am_R_xor _ _ | exact am_R_shl _ _ | exact am_R_shr _ _ | exact bit_R _ _ | exact ybc_R _ | exact yps_R _ _) | (exact ⟨by omega, by omega⟩) | exact hR _ _) (by first | omega | assumption | (with_reducible first | exact hR _ _ | exact rd_R hR _ _ | exact am_R_and _ _ | exact am_R_or _ _ | exact am_R_xor _ _ | exact am_R_shl _ _ | exact am_R_shr _ _ | exact bit_R _ _ | exact ybc_R _ | exact yps_R _ _) | (exact ⟨by omega, by omega⟩) | exact hR _ _) rfl (fun r23 => ?_)
      show Sx 1 Y0_writeWord _ _ _ _ [.inl (rd M 10 w)] _
      refine sx_iconst dX0_writeWord_24 ?_
      refine sx_icmp_ne (tgt := 31) dX0_writeWord_25 (by decide) (by first | omega | assumption | (with_reducible first | exact hR _ _ | exact rd_R hR _ _ | exact am_R_and _ _ | exact am_R_or _ _ | exact am_R_xor _ _ | exact am_R_shl _ _ | exact am_R_shr _ _ | exact bit_R _ _ | exact ybc_R _ | exact yps_R _ _) | (exact ⟨by omega, by omega⟩) | exact hR _ _) ⟨by decide, by decide⟩ (fun c25 => ?_) (fun c25 => ?_)
      · -- 25t
        refine sx_aload_n dX0_writeWord_31 rfl ?_
        refine mm_getr (j := 9) hu dX0_writeWord_32 fl_X0_36 (by decide) ?_
        refine sx_iload_n dX0_writeWord_35 rfl ?_
        refine mm_ild (n := 24) hu dX0_writeWord_36 (by decide) rfl (by decide) (by first | omega | assumption | (with_reducible first | exact hR _ _ | exact rd_R hR _ _ | exact am_R_and _ _ | exact am_R_or _ _ | exact am_R_xor _ _ | exact am_R_shl _ _ | exact am_R_shr _ _ | exact bit_R _ _ | exact ybc_R _ | exact yps_R _ _) | (exact ⟨by omega, by omega⟩) | exact hR _ _) (by first | omega | assumption | (with_reducible first | exact hR _ _ | exact rd_R hR _ _ | exact am_R_and _ _ | exact am_R_or _ _ | exact am_R_xor _ _ | exact am_R_shl _ _ | exact am_R_shr _ _ | exact bit_R _ _ | exact ybc_R _ | exact yps_R _ _) | (exact ⟨by omega, by omega⟩) | exact hR _ _) rfl (fun r36 => ?_)
        refine sx_istore_n dX0_writeWord_37 (by decide) ?_
        refine sx_aload_n dX0_writeWord_38 rfl ?_
        refine mm_getr (j := 9) hu dX0_writeWord_39 fl_X0_36 (by decide) ?_
        refine sx_iload_n dX0_writeWord_42 rfl ?_
        refine sx_iload_n dX0_writeWord_43 rfl ?_
        refine mm_ist (n := 24) hu dX0_writeWord_44 (by decide) rfl (by decide) (by first | omega | assumption | (with_reducible first | exact hR _ _ | exact rd_R hR _ _ | exact am_R_and _ _ | exact am_R_or _ _ | exact am_R_xor _ _ | exact am_R_shl _ _ | exact am_R_shr _ _ | exact bit_R _ _ | exact ybc_R _ | exact yps_R _ _) | (exact ⟨by omega, by omega⟩) | exact hR _ _) (by first | omega | assumption | (with_reducible first | exact hR _ _ | exact rd_R hR _ _ | exact am_R_and _ _ | exact am_R_or _ _ | exact am_R_xor _ _ | exact am_R_shl _ _ | exact am_R_shr _ _ | exact bit_R _ _ | exact ybc_R _ | exact yps_R _ _) | (exact ⟨by omega, by omega⟩) | exact hR _ _) rfl (by first | omega | assumption | (with_reducible first | exact hR _ _ | exact rd_R hR _ _ | exact am_R_and _ _ | exact am_R_or _ _ | exact am_R_xor _ _ | exact am_R_shl _ _ | exact am_R_shr _ _ | exact bit_R _ _ | exact ybc_R _ | exact yps_R _ _) | (exact ⟨by omega, by omega⟩) | exact hR _ _) ?_
        refine sx_iload_n dX0_writeWord_45 rfl ?_
        exact sx_iret dX0_writeWord_46 rfl (by unfold ywrite; simp only [if_pos c5, if_pos c12, if_neg c25]; try rfl) (by unfold ywrite; simp only [if_pos c5, if_pos c12, if_neg c25]; try rfl)
      · -- 25f
        refine sx_ldc dX0_writeWord_28 kc_X0_103 ?_
        exact sx_iret dX0_writeWord_30 rfl (by unfold ywrite; simp only [if_pos c5, if_pos c12, if_pos c25]; try rfl) (by unfold ywrite; simp only [if_pos c5, if_pos c12, if_pos c25]; try rfl)
    · -- 12f
      refine sx_ldc dX0_writeWord_15 kc_X0_95 ?_
      exact sx_iret dX0_writeWord_17 rfl (by unfold ywrite; simp only [if_pos c5, if_neg c12]; try rfl) (by unfold ywrite; simp only [if_pos c5, if_neg c12]; try rfl)
set_option maxHeartbeats 4000000 in
set_option maxRecDepth 100000 in
theorem ty_carryWord {h0 : am_H} {u : Nat} (hu : u < 6) {M : am_M} (w c : Int) (hW : WM M) (hwR : am_R w) (hcR : am_R c) (hk : (0 ≤ w ∧ w < M 0 2) → ¬ rd M 10 w = -1 → YK M w)  : Ct 2 Y0_carryWord [.inr (u, 0), .inl w, .inl c] (some (.inl (ycarry M w c).1)) (am_U h0 u M) (am_U h0 u (ycarry M w c).2) := by
  refine Ct_of (by decide +kernel) (Nat.le_of_ble_eq_true rfl) ?_
  show Sx 2 Y0_carryWord (am_U h0 u (ycarry M w c).2) (some (.inl (ycarry M w c).1)) 0 [some (.inr (u, 0)), some (.inl w), some (.inl c)] [] (am_U h0 u M)
  refine mm_vh (fun hR => ?_)
  obtain ⟨w0, w2, w1, w5, w8, w12, wb⟩ := id hW
  refine sx_aload_n dX0_carryWord_0 rfl ?_
  refine sx_iload_n dX0_carryWord_1 rfl ?_
  refine sx_callVi dX0_carryWord_2 ml_X0_135 mv0_hasWord (ty_hasWord hu _ hwR) rfl (am_obM hu) rfl (Nat.le_of_ble_eq_true rfl) (Nat.le_of_ble_eq_true rfl) ?_
  refine sx_ifB_eq (tgt := 16) dX0_carryWord_5 (by decide) (fun c5 => ?_) (fun c5 => ?_)
  · -- 5t
    refine sx_ldc dX0_carryWord_16 kc_X0_95 ?_
    exact sx_iret dX0_carryWord_18 rfl (by unfold ycarry; simp only [if_neg c5]) (by unfold ycarry; simp only [if_neg c5])
  · -- 5f
    refine sx_aload_n dX0_carryWord_8 rfl ?_
    refine sx_iload_n dX0_carryWord_9 rfl ?_
    refine sx_callVi dX0_carryWord_10 ml_X0_97 mv0_hasChip (ty_hasChip hu _ hcR) rfl (am_obM hu) rfl (Nat.le_of_ble_eq_true rfl) (Nat.le_of_ble_eq_true rfl) ?_
    refine sx_ifB_ne (tgt := 19) dX0_carryWord_13 (by decide) (fun c13 => ?_) (fun c13 => ?_)
    · -- 13t
      have hw24 : 0 ≤ w ∧ w < 24 := ⟨c5.1, by omega⟩
      have hc8 : 0 ≤ c ∧ c < 8 := ⟨c13.1, by omega⟩
      refine sx_aload_n dX0_carryWord_19 rfl ?_
      refine mm_getr (j := 10) hu dX0_carryWord_20 fl_X0_39 (by decide) ?_
      refine sx_iload_n dX0_carryWord_23 rfl ?_
      refine mm_ild (n := 24) hu dX0_carryWord_24 (by decide) rfl (by decide) (by first | omega | assumption | (with_reducible first | exact hR _ _ | exact rd_R hR _ _ | exact am_R_and _ _ | exact am_R_or _ _ | exact am_R_xor _ _ | exact am_R_shl _ _ | exact am_R_shr _ _ | exact bit_R _ _ | exact ybc_R _ | exact yps_R _ _) | (exact ⟨by omega, by omega⟩) | exact hR _ _) (by first | omega | assumption | (with_reducible first | exact hR _ _ | exact rd_R hR _ _ | exact am_R_and _ _ | exact am_R_or _ _ | exact am_R_xor _ _ | exact am_R_shl _ _ | exact am_R_shr _ _ | exact bit_R _ _ | exact ybc_R _ | exact yps_R _ _) | (exact ⟨by omega, by omega⟩) | exact hR _ _) rfl (fun r24 => ?_)
      show Sx 2 Y0_carryWord _ _ _ _ [.inl (rd M 10 w)] _
      refine sx_iconst dX0_carryWord_25 ?_
      refine sx_icmp_eq (tgt := 47) dX0_carryWord_26 (by decide) (by first | omega | assumption | (with_reducible first | exact hR _ _ | exact rd_R hR _ _ | exact am_R_and _ _ | exact am_R_or _ _ | exact am_R_xor _ _ | exact am_R_shl _ _ | exact am_R_shr _ _ | exact bit_R _ _ | exact ybc_R _ | exact yps_R _ _) | (exact ⟨by omega, by omega⟩) | exact hR _ _) ⟨by decide, by decide⟩ (fun c26 => ?_) (fun c26 => ?_)
      · -- 26t
        refine sx_ldc dX0_carryWord_47 kc_X0_103 ?_
        exact sx_iret dX0_carryWord_49 rfl (by unfold ycarry; simp only [if_pos c5, if_pos c13, if_pos c26]) (by unfold ycarry; simp only [if_pos c5, if_pos c13, if_pos c26])
      · -- 26f
        refine sx_aload_n dX0_carryWord_29 rfl ?_
        refine mm_getr (j := 10) hu dX0_carryWord_30 fl_X0_39 (by decide) ?_
        refine sx_iload_n dX0_carryWord_33 rfl ?_
        refine mm_ild (n := 24) hu dX0_carryWord_34 (by decide) rfl (by decide) (by first | omega | assumption | (with_reducible first | exact hR _ _ | exact rd_R hR _ _ | exact am_R_and _ _ | exact am_R_or _ _ | exact am_R_xor _ _ | exact am_R_shl _ _ | exact am_R_shr _ _ | exact bit_R _ _ | exact ybc_R _ | exact yps_R _ _) | (exact ⟨by omega, by omega⟩) | exact hR _ _) (by first | omega | assumption | (with_reducible first | exact hR _ _ | exact rd_R hR _ _ | exact am_R_and _ _ | exact am_R_or _ _ | exact am_R_xor _ _ | exact am_R_shl _ _ | exact am_R_shr _ _ | exact bit_R _ _ | exact ybc_R _ | exact yps_R _ _) | (exact ⟨by omega, by omega⟩) | exact hR _ _) rfl (fun r34 => ?_)
        show Sx 2 Y0_carryWord _ _ _ _ [.inl (rd M 10 w)] _
        refine sx_iload_n dX0_carryWord_35 rfl ?_
        refine sx_icmp_eq (tgt := 47) dX0_carryWord_36 (by decide) (by first | omega | assumption | (with_reducible first | exact hR _ _ | exact rd_R hR _ _ | exact am_R_and _ _ | exact am_R_or _ _ | exact am_R_xor _ _ | exact am_R_shl _ _ | exact am_R_shr _ _ | exact bit_R _ _ | exact ybc_R _ | exact yps_R _ _) | (exact ⟨by omega, by omega⟩) | exact hR _ _) (by first | omega | assumption | (with_reducible first | exact hR _ _ | exact rd_R hR _ _ | exact am_R_and _ _ | exact am_R_or _ _ | exact am_R_xor _ _ | exact am_R_shl _ _ | exact am_R_shr _ _ | exact bit_R _ _ | exact ybc_R _ | exact yps_R _ _) | (exact ⟨by omega, by omega⟩) | exact hR _ _) (fun c36 => ?_) (fun c36 => ?_)
        · -- 36t
          refine sx_ldc dX0_carryWord_47 kc_X0_103 ?_
          exact sx_iret dX0_carryWord_49 rfl (by unfold ycarry; simp only [if_pos c5, if_pos c13, if_neg c26, if_pos c36]) (by unfold ycarry; simp only [if_pos c5, if_pos c13, if_neg c26, if_pos c36])
        · -- 36f
          refine sx_aload_n dX0_carryWord_39 rfl ?_
          refine sx_iload_n dX0_carryWord_40 rfl ?_
          refine sx_callVi dX0_carryWord_41 ml_X0_83 mv0_placeSet (ty_placeSet hu _ hW hc8) rfl (am_obM hu) rfl (Nat.le_of_ble_eq_true rfl) (Nat.le_of_ble_eq_true rfl) ?_
          refine sx_if_ne (tgt := 50) dX0_carryWord_44 (by decide) (by first | omega | assumption | (with_reducible first | exact hR _ _ | exact rd_R hR _ _ | exact am_R_and _ _ | exact am_R_or _ _ | exact am_R_xor _ _ | exact am_R_shl _ _ | exact am_R_shr _ _ | exact bit_R _ _ | exact ybc_R _ | exact yps_R _ _) | (exact ⟨by omega, by omega⟩) | exact hR _ _) (fun c44 => ?_) (fun c44 => ?_)
          · -- 44t
            refine sx_aload_n dX0_carryWord_50 rfl ?_
            refine sx_iload_n dX0_carryWord_51 rfl ?_
            refine sx_callVv dX0_carryWord_52 ml_X0_138 mv0_takeFromChip (ty_takeFromChip hu _ hW (hk c5 c26)) rfl (am_obM hu) rfl (Nat.le_of_ble_eq_true rfl) (Nat.le_of_ble_eq_true rfl) ?_
            refine sx_aload_n dX0_carryWord_55 rfl ?_
            refine sx_iload_n dX0_carryWord_56 rfl ?_
            refine sx_iload_n dX0_carryWord_57 rfl ?_
            refine sx_callVv dX0_carryWord_58 ml_X0_131 mv0_keepAtLowest (ty_keepAtLowest hu _ _ (WM_take hW (hk c5 c26)) hw24 hc8 hwR hcR) rfl (am_obM hu) rfl (Nat.le_of_ble_eq_true rfl) (Nat.le_of_ble_eq_true rfl) ?_
            refine sx_aload_n dX0_carryWord_61 rfl ?_
            refine mm_getr (j := 11) hu dX0_carryWord_62 fl_X0_42 (by decide) ?_
            refine sx_iload_n dX0_carryWord_65 rfl ?_
            refine mm_ild (n := 24) hu dX0_carryWord_66 (by decide) rfl (by decide) (by first | omega | assumption | (with_reducible first | exact hR _ _ | exact rd_R hR _ _ | exact am_R_and _ _ | exact am_R_or _ _ | exact am_R_xor _ _ | exact am_R_shl _ _ | exact am_R_shr _ _ | exact bit_R _ _ | exact ybc_R _ | exact yps_R _ _) | (exact ⟨by omega, by omega⟩) | exact hR _ _) (by first | omega | assumption | (with_reducible first | exact hR _ _ | exact rd_R hR _ _ | exact am_R_and _ _ | exact am_R_or _ _ | exact am_R_xor _ _ | exact am_R_shl _ _ | exact am_R_shr _ _ | exact bit_R _ _ | exact ybc_R _ | exact yps_R _ _) | (exact ⟨by omega, by omega⟩) | exact hR _ _) rfl (fun r66 => ?_)
            show Sx 2 Y0_carryWord _ _ _ _ [.inl (rd (ykal (ytake M w) w c) 11 w)] _
            exact sx_iret dX0_carryWord_67 rfl (by unfold ycarry; simp only [if_pos c5, if_pos c13, if_neg c26, if_neg c36, if_neg c44]) (by unfold ycarry; simp only [if_pos c5, if_pos c13, if_neg c26, if_neg c36, if_neg c44])
          · -- 44f
            refine sx_ldc dX0_carryWord_47 kc_X0_103 ?_
            exact sx_iret dX0_carryWord_49 rfl (by unfold ycarry; simp only [if_pos c5, if_pos c13, if_neg c26, if_neg c36, if_pos c44]) (by unfold ycarry; simp only [if_pos c5, if_pos c13, if_neg c26, if_neg c36, if_pos c44])
    · -- 13f
      refine sx_ldc dX0_carryWord_16 kc_X0_95 ?_
      exact sx_iret dX0_carryWord_18 rfl (by unfold ycarry; simp only [if_pos c5, if_neg c13]) (by unfold ycarry; simp only [if_pos c5, if_neg c13])
set_option maxHeartbeats 4000000 in
set_option maxRecDepth 100000 in
theorem ty_emptyChip {h0 : am_H} {u : Nat} (hu : u < 6) {M : am_M} (c : Int) (hW : WM M) (hcR : am_R c) (hs0 : (0 ≤ c ∧ c < M 0 0) → ¬ rd M 5 (rd M 1 c) = c → ∀ n : Nat, n < 6 → (yem M c n).2.2 = true → rd (yem M c n).1 4 (c * 6 + n) ≠ -1 → YK (yem M c n).1 (rd (yem M c n).1 4 (c * 6 + n)))  : Ct 2 Y0_emptyChip [.inr (u, 0), .inl c] (some (.inl (yempty M c).1)) (am_U h0 u M) (am_U h0 u (yempty M c).2) := by
  refine Ct_of (by decide +kernel) (Nat.le_of_ble_eq_true rfl) ?_
  show Sx 2 Y0_emptyChip (am_U h0 u (yempty M c).2) (some (.inl (yempty M c).1)) 0 [some (.inr (u, 0)), some (.inl c), none, none, none, none] [] (am_U h0 u M)
  refine mm_vh (fun hR => ?_)
  obtain ⟨w0, w2, w1, w5, w8, w12, wb⟩ := id hW
  refine sx_aload_n dX0_emptyChip_0 rfl ?_
  refine sx_iload_n dX0_emptyChip_1 rfl ?_
  refine sx_callVi dX0_emptyChip_2 ml_X0_97 mv0_hasChip (ty_hasChip hu _ hcR) rfl (am_obM hu) rfl (Nat.le_of_ble_eq_true rfl) (Nat.le_of_ble_eq_true rfl) ?_
  refine sx_ifB_ne (tgt := 11) dX0_emptyChip_5 (by decide) (fun c5 => ?_) (fun c5 => ?_)
  · -- 5t
    have hc8 : 0 ≤ c ∧ c < 8 := ⟨c5.1, by omega⟩
    refine sx_aload_n dX0_emptyChip_11 rfl ?_
    refine sx_iload_n dX0_emptyChip_12 rfl ?_
    refine sx_callVi dX0_emptyChip_13 ml_X0_79 mv0_lives (ty_lives hu _) rfl (am_obM hu) rfl (Nat.le_of_ble_eq_true rfl) (Nat.le_of_ble_eq_true rfl) ?_
    refine sx_ifB_eq (tgt := 27) dX0_emptyChip_16 (by decide) (fun c16 => ?_) (fun c16 => ?_)
    · -- 16t
      refine sx_ldc dX0_emptyChip_27 kc_X0_103 ?_
      exact sx_iret dX0_emptyChip_29 rfl (by unfold yempty; simp only [if_pos c5, if_neg c16]) (by unfold yempty; simp only [if_pos c5, if_neg c16])
    · -- 16f
      refine sx_aload_n dX0_emptyChip_19 rfl ?_
      refine sx_iload_n dX0_emptyChip_20 rfl ?_
      refine sx_callVi dX0_emptyChip_21 ml_X0_107 mv0_isGodfather (ty_isGodfather hu _ hW hc8) rfl (am_obM hu) rfl (Nat.le_of_ble_eq_true rfl) (Nat.le_of_ble_eq_true rfl) ?_
      refine sx_ifB_eq (tgt := 30) dX0_emptyChip_24 (by decide) (fun c24 => ?_) (fun c24 => ?_)
      · -- 24t
        have hs := hs0 c5 c24
        refine sx_iconst dX0_emptyChip_30 ?_
        refine sx_istore_n dX0_emptyChip_31 (by decide) ?_
        refine sx_iconst dX0_emptyChip_32 ?_
        refine sx_istore_n dX0_emptyChip_33 (by decide) ?_
        have loop34 : ∀ (n : Nat) (n1 : Nat) (N : am_M) (k : Int), (6 - n1) = n → n1 ≤ 6 → yem M c n1 = (N, k, true) → Sx 2 Y0_emptyChip (am_U h0 u (yempty M c).2) (some (.inl (yempty M c).1)) 34 [some (.inr (u, 0)), some (.inl c), some (.inl k), some (.inl (n1 : Int)), none, none] [] (am_U h0 u N) := by
          intro n
          induction n using Nat.strongRecOn with
          | _ n ih34 =>
            intro n1 N k hn hle hq
            have hWN := WM_em hW hs n1 hle
            rw [hq] at hWN
            replace hWN : WM N := hWN
            have hkb := yem_b M c n1
            rw [hq] at hkb
            replace hkb : 0 ≤ k ∧ k ≤ n1 := hkb
            refine mm_vh (fun hRN => ?_)
            refine sx_iload_n dX0_emptyChip_34 rfl ?_
            refine sx_bipush dX0_emptyChip_35 rfl ?_
            refine sx_icmp_ge (tgt := 104) dX0_emptyChip_37 (by decide) (by first | omega | assumption | (with_reducible first | exact hRN _ _ | exact hR _ _ | exact rd_R hR _ _ | exact am_R_and _ _ | exact am_R_or _ _ | exact am_R_xor _ _ | exact am_R_shl _ _ | exact am_R_shr _ _ | exact bit_R _ _ | exact ybc_R _) | (exact ⟨by omega, by omega⟩) | exact hR _ _) ⟨by decide, by decide⟩ (fun c37 => ?_) (fun c37 => ?_)
            · -- 37t
              refine sx_iload_n dX0_emptyChip_104 rfl ?_
              exact sx_iret dX0_emptyChip_105 rfl (by obtain rfl : n1 = 6 := (by omega); unfold yempty; simp only [if_pos c5, if_pos c16, if_neg c24, hq]; try rfl) (by obtain rfl : n1 = 6 := (by omega); unfold yempty; simp only [if_pos c5, if_pos c16, if_neg c24, hq]; try rfl)
            · -- 37f
              refine sx_aload_n dX0_emptyChip_40 rfl ?_
              refine mm_getr (j := 4) hu dX0_emptyChip_41 fl_X0_21 (by decide) ?_
              refine sx_iload_n dX0_emptyChip_44 rfl ?_
              refine sx_bipush dX0_emptyChip_45 rfl ?_
              refine sx_imul dX0_emptyChip_47 ?_
              refine sx_iload_n dX0_emptyChip_48 rfl ?_
              refine sx_iadd dX0_emptyChip_49 ?_
              refine mm_ild (n := 48) hu dX0_emptyChip_50 (by decide) rfl (by decide) (by first | omega | assumption | (with_reducible first | exact hRN _ _ | exact hR _ _ | exact rd_R hR _ _ | exact am_R_and _ _ | exact am_R_or _ _ | exact am_R_xor _ _ | exact am_R_shl _ _ | exact am_R_shr _ _ | exact bit_R _ _ | exact ybc_R _) | (exact ⟨by omega, by omega⟩) | exact hR _ _) (by first | omega | assumption | (with_reducible first | exact hRN _ _ | exact hR _ _ | exact rd_R hR _ _ | exact am_R_and _ _ | exact am_R_or _ _ | exact am_R_xor _ _ | exact am_R_shl _ _ | exact am_R_shr _ _ | exact bit_R _ _ | exact ybc_R _) | (exact ⟨by omega, by omega⟩) | exact hR _ _) rfl (fun r50 => ?_)
              show Sx 2 Y0_emptyChip _ _ _ _ [.inl (rd N 4 (c * 6 + n1))] _
              refine sx_istore dX0_emptyChip_51 (by decide) ?_
              refine sx_iload dX0_emptyChip_53 rfl ?_
              refine sx_iconst dX0_emptyChip_55 ?_
              refine sx_icmp_eq (tgt := 98) dX0_emptyChip_56 (by decide) (by first | omega | assumption | (with_reducible first | exact hRN _ _ | exact hR _ _ | exact rd_R hR _ _ | exact am_R_and _ _ | exact am_R_or _ _ | exact am_R_xor _ _ | exact am_R_shl _ _ | exact am_R_shr _ _ | exact bit_R _ _ | exact ybc_R _) | (exact ⟨by omega, by omega⟩) | exact hR _ _) ⟨by decide, by decide⟩ (fun c56 => ?_) (fun c56 => ?_)
              · -- 56t
                refine sx_iinc dX0_emptyChip_98 rfl (by decide) ?_
                refine sx_goto (tgt := 34) dX0_emptyChip_101 (by decide) ?_
                exact sx_forget 4 (ih34 _ (by omega) (n1 + 1) _ _ rfl (by omega) (by rw [yem_t hq]; simp only [if_pos c56]))
              · -- 56f
                have hYK := hs n1 (by omega) (by rw [hq]) (by rw [hq]; exact c56)
                rw [hq] at hYK
                replace hYK : YK N (rd N 4 (c * 6 + n1)) := hYK
                have hcf := ychf_b N (rd N 1 c) c hWN
                have hfN := hWN.2.2.1 c hc8.1 hc8.2
                refine sx_aload_n dX0_emptyChip_59 rfl ?_
                refine sx_aload_n dX0_emptyChip_60 rfl ?_
                refine mm_getr (j := 1) hu dX0_emptyChip_61 fl_X0_9 (by decide) ?_
                refine sx_iload_n dX0_emptyChip_64 rfl ?_
                refine mm_ild (n := 8) hu dX0_emptyChip_65 (by decide) rfl (by decide) (by first | omega | assumption | (with_reducible first | exact hRN _ _ | exact hR _ _ | exact rd_R hR _ _ | exact am_R_and _ _ | exact am_R_or _ _ | exact am_R_xor _ _ | exact am_R_shl _ _ | exact am_R_shr _ _ | exact bit_R _ _ | exact ybc_R _) | (exact ⟨by omega, by omega⟩) | exact hR _ _) (by first | omega | assumption | (with_reducible first | exact hRN _ _ | exact hR _ _ | exact rd_R hR _ _ | exact am_R_and _ _ | exact am_R_or _ _ | exact am_R_xor _ _ | exact am_R_shl _ _ | exact am_R_shr _ _ | exact bit_R _ _ | exact ybc_R _) | (exact ⟨by omega, by omega⟩) | exact hR _ _) rfl (fun r65 => ?_)
                show Sx 2 Y0_emptyChip _ _ _ _ [.inl (rd N 1 c), .inr (u, 0)] _
                refine sx_iload_n dX0_emptyChip_66 rfl ?_
                refine sx_callVi dX0_emptyChip_67 ml_X0_141 mv0_chipFor (ty_chipFor hu _ _ hWN (by exact hRN _ _) hcR) rfl (am_obM hu) rfl (Nat.le_of_ble_eq_true rfl) (Nat.le_of_ble_eq_true rfl) ?_
                refine sx_istore dX0_emptyChip_70 (by decide) ?_
                refine sx_iload dX0_emptyChip_72 rfl ?_
                refine sx_iconst dX0_emptyChip_74 ?_
                refine sx_icmp_ne (tgt := 81) dX0_emptyChip_75 (by decide) (by first | omega | assumption | (with_reducible first | exact hRN _ _ | exact hR _ _ | exact rd_R hR _ _ | exact am_R_and _ _ | exact am_R_or _ _ | exact am_R_xor _ _ | exact am_R_shl _ _ | exact am_R_shr _ _ | exact bit_R _ _ | exact ybc_R _) | (exact ⟨by omega, by omega⟩) | exact hR _ _) ⟨by decide, by decide⟩ (fun c75 => ?_) (fun c75 => ?_)
                · -- 75t
                  refine sx_aload_n dX0_emptyChip_81 rfl ?_
                  refine sx_iload dX0_emptyChip_82 rfl ?_
                  refine sx_callVv dX0_emptyChip_84 ml_X0_138 mv0_takeFromChip (ty_takeFromChip hu _ hWN hYK) rfl (am_obM hu) rfl (Nat.le_of_ble_eq_true rfl) (Nat.le_of_ble_eq_true rfl) ?_
                  refine sx_aload_n dX0_emptyChip_87 rfl ?_
                  refine sx_iload dX0_emptyChip_88 rfl ?_
                  refine sx_iload dX0_emptyChip_90 rfl ?_
                  refine sx_callVv dX0_emptyChip_92 ml_X0_131 mv0_keepAtLowest (ty_keepAtLowest hu _ _ (WM_take hWN hYK) hYK.1 (by omega) (by exact hRN _ _) (by exact ⟨by omega, by omega⟩)) rfl (am_obM hu) rfl (Nat.le_of_ble_eq_true rfl) (Nat.le_of_ble_eq_true rfl) ?_
                  refine sx_iinc dX0_emptyChip_95 rfl (by decide) ?_
                  refine sx_iinc dX0_emptyChip_98 rfl (by decide) ?_
                  refine sx_goto (tgt := 34) dX0_emptyChip_101 (by decide) ?_
                  exact sx_forget 5 (sx_forget 4 (ih34 _ (by omega) (n1 + 1) _ _ rfl (by omega) (by rw [yem_t hq]; simp only [if_neg c56, if_neg c75])))
                · -- 75f
                  refine sx_ldc dX0_emptyChip_78 kc_X0_103 ?_
                  exact sx_iret dX0_emptyChip_80 rfl (by have h6 : yem M c 6 = (N, k, false) := (yem_stop (n := n1 + 1) (by rw [yem_t hq]; simp only [if_neg c56, if_pos c75]) (by omega)).trans (by rw [yem_t hq]; simp only [if_neg c56, if_pos c75]); unfold yempty; simp only [if_pos c5, if_pos c16, if_neg c24, h6]; try rfl) (by have h6 : yem M c 6 = (N, k, false) := (yem_stop (n := n1 + 1) (by rw [yem_t hq]; simp only [if_neg c56, if_pos c75]) (by omega)).trans (by rw [yem_t hq]; simp only [if_neg c56, if_pos c75]); unfold yempty; simp only [if_pos c5, if_pos c16, if_neg c24, h6]; try rfl)
        exact loop34 _ 0 M 0 rfl (by omega) rfl
      · -- 24f
        refine sx_ldc dX0_emptyChip_27 kc_X0_103 ?_
        exact sx_iret dX0_emptyChip_29 rfl (by unfold yempty; simp only [if_pos c5, if_pos c16, if_pos c24]) (by unfold yempty; simp only [if_pos c5, if_pos c16, if_pos c24])
  · -- 5f
    refine sx_ldc dX0_emptyChip_8 kc_X0_95 ?_
    exact sx_iret dX0_emptyChip_10 rfl (by unfold yempty; simp only [if_neg c5]) (by unfold yempty; simp only [if_neg c5])
set_option maxHeartbeats 4000000 in
set_option maxRecDepth 100000 in
theorem ty_raiseFirst {h0 : am_H} {u : Nat} (hu : u < 6) {M : am_M} (f : Int) (hW : WM M) (hf : 0 ≤ f ∧ f ≤ 2) (hy : YRf M f)  : Ct 2 Y0_raiseFirst [.inr (u, 0), .inl f] none (am_U h0 u M) (am_U h0 u (yra M f)) := by
  refine Ct_of (by decide +kernel) (Nat.le_of_ble_eq_true rfl) ?_
  show Sx 2 Y0_raiseFirst (am_U h0 u (yra M f)) none 0 [some (.inr (u, 0)), some (.inl f), none, none, none] [] (am_U h0 u M)
  refine mm_vh (fun hR => ?_)
  obtain ⟨w0, w2, w1, w5, w8, w12, wb⟩ := id hW
  refine sx_aload_n dX0_raiseFirst_0 rfl ?_
  refine mm_getr (j := 8) hu dX0_raiseFirst_1 fl_X0_33 (by decide) ?_
  refine sx_iload_n dX0_raiseFirst_4 rfl ?_
  refine mm_ild (n := 3) hu dX0_raiseFirst_5 (by decide) rfl (by decide) (by first | omega | assumption | (with_reducible first | exact hR _ _ | exact rd_R hR _ _ | exact am_R_and _ _ | exact am_R_or _ _ | exact am_R_xor _ _ | exact am_R_shl _ _ | exact am_R_shr _ _ | exact bit_R _ _ | exact ybc_R _ | exact yps_R _ _) | (exact ⟨by omega, by omega⟩) | exact hR _ _) (by first | omega | assumption | (with_reducible first | exact hR _ _ | exact rd_R hR _ _ | exact am_R_and _ _ | exact am_R_or _ _ | exact am_R_xor _ _ | exact am_R_shl _ _ | exact am_R_shr _ _ | exact bit_R _ _ | exact ybc_R _ | exact yps_R _ _) | (exact ⟨by omega, by omega⟩) | exact hR _ _) rfl (fun r5 => ?_)
  show Sx 2 Y0_raiseFirst _ _ _ _ [.inl (rd M 8 f)] _
  refine sx_if_ne (tgt := 10) dX0_raiseFirst_6 (by decide) (by first | omega | assumption | (with_reducible first | exact hR _ _ | exact rd_R hR _ _ | exact am_R_and _ _ | exact am_R_or _ _ | exact am_R_xor _ _ | exact am_R_shl _ _ | exact am_R_shr _ _ | exact bit_R _ _ | exact ybc_R _ | exact yps_R _ _) | (exact ⟨by omega, by omega⟩) | exact hR _ _) (fun c6 => ?_) (fun c6 => ?_)
  · -- 6t
    obtain ⟨⟨hw24, h11⟩, hq8, h13, h04⟩ := hy.resolve_left c6
    have hW1 := WM_r1 hW hf h11.1
    have hcf := ychf_b (yr1 M f) f (-1) hW1
    have e8 : rd (yr1 M f) 8 (rd (yr1 M f) 12 (rd M 7 (f * 6))) = rd M 8 (rd M 12 (rd M 7 (f * 6))) := by
      unfold yr1
      rw [rd_wrj _ _ _ _ (by decide), rd_wrj _ _ _ _ (by decide)]
    refine sx_aload_n dX0_raiseFirst_10 rfl ?_
    refine mm_getr (j := 7) hu dX0_raiseFirst_11 fl_X0_30 (by decide) ?_
    refine sx_iload_n dX0_raiseFirst_14 rfl ?_
    refine sx_bipush dX0_raiseFirst_15 rfl ?_
    refine sx_imul dX0_raiseFirst_17 ?_
    refine mm_ild (n := 18) hu dX0_raiseFirst_18 (by decide) rfl (by decide) (by first | omega | assumption | (with_reducible first | exact hR _ _ | exact rd_R hR _ _ | exact am_R_and _ _ | exact am_R_or _ _ | exact am_R_xor _ _ | exact am_R_shl _ _ | exact am_R_shr _ _ | exact bit_R _ _ | exact ybc_R _ | exact yps_R _ _) | (exact ⟨by omega, by omega⟩) | exact hR _ _) (by first | omega | assumption | (with_reducible first | exact hR _ _ | exact rd_R hR _ _ | exact am_R_and _ _ | exact am_R_or _ _ | exact am_R_xor _ _ | exact am_R_shl _ _ | exact am_R_shr _ _ | exact bit_R _ _ | exact ybc_R _ | exact yps_R _ _) | (exact ⟨by omega, by omega⟩) | exact hR _ _) rfl (fun r18 => ?_)
    show Sx 2 Y0_raiseFirst _ _ _ _ [.inl (rd M 7 (f * 6))] _
    refine sx_istore_n dX0_raiseFirst_19 (by decide) ?_
    refine sx_iload_n dX0_raiseFirst_20 rfl ?_
    refine sx_bipush dX0_raiseFirst_21 rfl ?_
    refine sx_imul dX0_raiseFirst_23 ?_
    refine sx_aload_n dX0_raiseFirst_24 rfl ?_
    refine mm_getr (j := 11) hu dX0_raiseFirst_25 fl_X0_42 (by decide) ?_
    refine sx_iload_n dX0_raiseFirst_28 rfl ?_
    refine mm_ild (n := 24) hu dX0_raiseFirst_29 (by decide) rfl (by decide) (by first | omega | assumption | (with_reducible first | exact hR _ _ | exact rd_R hR _ _ | exact am_R_and _ _ | exact am_R_or _ _ | exact am_R_xor _ _ | exact am_R_shl _ _ | exact am_R_shr _ _ | exact bit_R _ _ | exact ybc_R _ | exact yps_R _ _) | (exact ⟨by omega, by omega⟩) | exact hR _ _) (by first | omega | assumption | (with_reducible first | exact hR _ _ | exact rd_R hR _ _ | exact am_R_and _ _ | exact am_R_or _ _ | exact am_R_xor _ _ | exact am_R_shl _ _ | exact am_R_shr _ _ | exact bit_R _ _ | exact ybc_R _ | exact yps_R _ _) | (exact ⟨by omega, by omega⟩) | exact hR _ _) rfl (fun r29 => ?_)
    show Sx 2 Y0_raiseFirst _ _ _ _ [.inl (rd M 11 (rd M 7 (f * 6))), .inl (f * 6)] _
    refine sx_iadd dX0_raiseFirst_30 ?_
    refine sx_istore_n dX0_raiseFirst_31 (by decide) ?_
    refine sx_aload_n dX0_raiseFirst_32 rfl ?_
    refine mm_getr (j := 6) hu dX0_raiseFirst_33 fl_X0_27 (by decide) ?_
    refine sx_iload_n dX0_raiseFirst_36 rfl ?_
    refine sx_iconst dX0_raiseFirst_37 ?_
    refine mm_ist (n := 18) hu dX0_raiseFirst_38 (by decide) rfl (by decide) (by first | omega | assumption | (with_reducible first | exact hR _ _ | exact rd_R hR _ _ | exact am_R_and _ _ | exact am_R_or _ _ | exact am_R_xor _ _ | exact am_R_shl _ _ | exact am_R_shr _ _ | exact bit_R _ _ | exact ybc_R _ | exact yps_R _ _) | (exact ⟨by omega, by omega⟩) | exact hR _ _) (by first | omega | assumption | (with_reducible first | exact hR _ _ | exact rd_R hR _ _ | exact am_R_and _ _ | exact am_R_or _ _ | exact am_R_xor _ _ | exact am_R_shl _ _ | exact am_R_shr _ _ | exact bit_R _ _ | exact ybc_R _ | exact yps_R _ _) | (exact ⟨by omega, by omega⟩) | exact hR _ _) rfl ⟨by decide, by decide⟩ ?_
    refine sx_heq (am_U h0 u (yr1 M f)) rfl ?_
    refine sx_aload_n dX0_raiseFirst_39 rfl ?_
    refine sx_iload_n dX0_raiseFirst_40 rfl ?_
    refine sx_iconst dX0_raiseFirst_41 ?_
    refine sx_callVi dX0_raiseFirst_42 ml_X0_141 mv0_chipFor (ty_chipFor hu _ _ hW1 (by exact ⟨by omega, by omega⟩) (by exact ⟨by omega, by omega⟩)) rfl (am_obM hu) rfl (Nat.le_of_ble_eq_true rfl) (Nat.le_of_ble_eq_true rfl) ?_
    refine sx_istore dX0_raiseFirst_45 (by decide) ?_
    refine sx_iload dX0_raiseFirst_47 rfl ?_
    refine sx_iconst dX0_raiseFirst_49 ?_
    refine sx_icmp_ne (tgt := 61) dX0_raiseFirst_50 (by decide) (by first | omega | assumption | (with_reducible first | exact hR _ _ | exact rd_R hR _ _ | exact am_R_and _ _ | exact am_R_or _ _ | exact am_R_xor _ _ | exact am_R_shl _ _ | exact am_R_shr _ _ | exact bit_R _ _ | exact ybc_R _ | exact yps_R _ _) | (exact ⟨by omega, by omega⟩) | exact hR _ _) ⟨by decide, by decide⟩ (fun c50 => ?_) (fun c50 => ?_)
    · -- 50t
      refine sx_aload_n dX0_raiseFirst_61 rfl ?_
      refine sx_iload_n dX0_raiseFirst_62 rfl ?_
      refine sx_callVv dX0_raiseFirst_63 ml_X0_148 mv0_leaveQueue (ty_leaveQueue hu _ hW1 hw24 (by rw [e8]; exact hq8) (by exact hR _ _)) rfl (am_obM hu) rfl (Nat.le_of_ble_eq_true rfl) (Nat.le_of_ble_eq_true rfl) ?_
      refine sx_aload_n dX0_raiseFirst_66 rfl ?_
      refine sx_iload_n dX0_raiseFirst_67 rfl ?_
      refine sx_iload dX0_raiseFirst_68 rfl ?_
      refine sx_callVv dX0_raiseFirst_70 ml_X0_131 mv0_keepAtLowest (ty_keepAtLowest hu _ _ (WM_lv hW1 hw24 (by rw [e8]; exact hq8)) hw24 (by omega) (by exact hR _ _) (by exact ⟨by omega, by omega⟩)) rfl (am_obM hu) rfl (Nat.le_of_ble_eq_true rfl) (Nat.le_of_ble_eq_true rfl) ?_
      refine sx_heq (am_U h0 u (yr2 M f)) rfl ?_
      refine mm_vh (fun hR2 => ?_)
      have h23 := yr2_13 M f (rd M 7 (f * 6))
      have h213 := hR2 13 (rd M 7 (f * 6)).toNat
      replace h213 : am_R (rd (yr2 M f) 13 (rd M 7 (f * 6))) := h213
      rw [h23] at h213
      have h204 := hR 0 4
      refine sx_aload_n dX0_raiseFirst_73 rfl ?_
      refine mm_getr (j := 13) hu dX0_raiseFirst_74 fl_X0_48 (by decide) ?_
      refine sx_iload_n dX0_raiseFirst_77 rfl ?_
      refine sx_dup2 dX0_raiseFirst_78 ?_
      refine mm_ild (n := 24) hu dX0_raiseFirst_79 (by decide) rfl (by decide) (by first | omega | assumption | (with_reducible first | exact hR _ _ | exact rd_R hR _ _ | exact am_R_and _ _ | exact am_R_or _ _ | exact am_R_xor _ _ | exact am_R_shl _ _ | exact am_R_shr _ _ | exact bit_R _ _ | exact ybc_R _ | exact yps_R _ _) | (exact ⟨by omega, by omega⟩) | exact hR _ _) (by first | omega | assumption | (with_reducible first | exact hR _ _ | exact rd_R hR _ _ | exact am_R_and _ _ | exact am_R_or _ _ | exact am_R_xor _ _ | exact am_R_shl _ _ | exact am_R_shr _ _ | exact bit_R _ _ | exact ybc_R _ | exact yps_R _ _) | (exact ⟨by omega, by omega⟩) | exact hR _ _) rfl (fun r79 => ?_)
      show Sx 2 Y0_raiseFirst _ _ _ _ [.inl (rd (yr2 M f) 13 (rd M 7 (f * 6))), .inl (rd M 7 (f * 6)), .inr (u, 13)] _
      rw [h23]
      refine sx_iconst dX0_raiseFirst_80 ?_
      refine sx_iadd dX0_raiseFirst_81 ?_
      refine mm_ist (n := 24) hu dX0_raiseFirst_82 (by decide) rfl (by decide) (by omega) (by omega) rfl (by exact ⟨by have := h213.1; omega, by omega⟩) ?_
      refine sx_heq (am_U h0 u (yr3 M f)) (by unfold yr3; rw [h23]; rfl) ?_
      refine sx_aload_n dX0_raiseFirst_83 rfl ?_
      refine sx_dup dX0_raiseFirst_84 ?_
      refine mm_geti hu dX0_raiseFirst_85 fl_X0_70 (by decide) (fun r85 => ?_)
      show Sx 2 Y0_raiseFirst _ _ _ _ [.inl (yr3 M f 0 4), .inr (u, 0)] _
      rw [show yr3 M f 0 = M 0 from yr3_0 M f]
      refine sx_iconst dX0_raiseFirst_88 ?_
      refine sx_iadd dX0_raiseFirst_89 ?_
      refine mm_put hu dX0_raiseFirst_90 fl_X0_70 (by decide) (by exact ⟨by have := h204.1; omega, by omega⟩) ?_
      exact sx_vret dX0_raiseFirst_93 rfl rfl (by unfold yra; simp only [if_neg c6, if_neg c50]; rw [show yr3 M f 0 4 = M 0 4 by rw [yr3_0]])
    · -- 50f
      refine sx_aload_n dX0_raiseFirst_53 rfl ?_
      refine mm_getr (j := 6) hu dX0_raiseFirst_54 fl_X0_27 (by decide) ?_
      refine sx_iload_n dX0_raiseFirst_57 rfl ?_
      refine sx_iload_n dX0_raiseFirst_58 rfl ?_
      refine mm_ist (n := 18) hu dX0_raiseFirst_59 (by decide) rfl (by decide) (by first | omega | assumption | (with_reducible first | exact hR _ _ | exact rd_R hR _ _ | exact am_R_and _ _ | exact am_R_or _ _ | exact am_R_xor _ _ | exact am_R_shl _ _ | exact am_R_shr _ _ | exact bit_R _ _ | exact ybc_R _ | exact yps_R _ _) | (exact ⟨by omega, by omega⟩) | exact hR _ _) (by first | omega | assumption | (with_reducible first | exact hR _ _ | exact rd_R hR _ _ | exact am_R_and _ _ | exact am_R_or _ _ | exact am_R_xor _ _ | exact am_R_shl _ _ | exact am_R_shr _ _ | exact bit_R _ _ | exact ybc_R _ | exact yps_R _ _) | (exact ⟨by omega, by omega⟩) | exact hR _ _) rfl (by first | omega | assumption | (with_reducible first | exact hR _ _ | exact rd_R hR _ _ | exact am_R_and _ _ | exact am_R_or _ _ | exact am_R_xor _ _ | exact am_R_shl _ _ | exact am_R_shr _ _ | exact bit_R _ _ | exact ybc_R _ | exact yps_R _ _) | (exact ⟨by omega, by omega⟩) | exact hR _ _) ?_
      exact sx_vret dX0_raiseFirst_60 rfl rfl (by unfold yra; simp only [if_neg c6, if_pos c50]; try rfl)
  · -- 6f
    exact sx_vret dX0_raiseFirst_9 rfl rfl (by unfold yra; simp only [if_pos c6])
set_option maxHeartbeats 4000000 in
set_option maxRecDepth 100000 in
theorem ty_goTicks {h0 : am_H} {u : Nat} (hu : u < 6) {M : am_M} (t : Int) (hW : WM M) (htR : am_R t) (h3t : 0 ≤ M 0 3 ∧ M 0 3 ≤ 100000) (hy : YT M t)  : Ct 3 Y0_goTicks [.inr (u, 0), .inl t] (some (.inl (ytick M t).1)) (am_U h0 u M) (am_U h0 u (ytick M t).2) := by
  refine Ct_of (by decide +kernel) (Nat.le_of_ble_eq_true rfl) ?_
  show Sx 3 Y0_goTicks (am_U h0 u (ytick M t).2) (some (.inl (ytick M t).1)) 0 [some (.inr (u, 0)), some (.inl t), none, none, none, none] [] (am_U h0 u M)
  refine mm_vh (fun hR => ?_)
  obtain ⟨w0, w2, w1, w5, w8, w12, wb⟩ := id hW
  refine sx_iload_n dX0_goTicks_0 rfl ?_
  refine sx_iconst dX0_goTicks_1 ?_
  refine sx_icmp_lt (tgt := 11) dX0_goTicks_2 (by decide) (by first | omega | assumption | (with_reducible first | exact hR _ _ | exact rd_R hR _ _ | exact am_R_and _ _ | exact am_R_or _ _ | exact am_R_xor _ _ | exact am_R_shl _ _ | exact am_R_shr _ _ | exact bit_R _ _) | (exact ⟨by omega, by omega⟩) | exact hR _ _ | exact hRN _ _ | exact hRf _ _) ⟨by decide, by decide⟩ (fun c2 => ?_) (fun c2 => ?_)
  · -- 2t
    refine sx_ldc dX0_goTicks_11 kc_X0_95 ?_
    exact sx_iret dX0_goTicks_13 rfl (by unfold ytick; simp only [if_pos c2, if_neg (Int.not_le.mpr c2)]) (by unfold ytick; simp only [if_pos c2, if_neg (Int.not_le.mpr c2)])
  · -- 2f
    refine sx_iload_n dX0_goTicks_5 rfl ?_
    refine sx_bipush dX0_goTicks_6 rfl ?_
    refine sx_icmp_le (tgt := 14) dX0_goTicks_8 (by decide) (by first | omega | assumption | (with_reducible first | exact hR _ _ | exact rd_R hR _ _ | exact am_R_and _ _ | exact am_R_or _ _ | exact am_R_xor _ _ | exact am_R_shl _ _ | exact am_R_shr _ _ | exact bit_R _ _) | (exact ⟨by omega, by omega⟩) | exact hR _ _ | exact hRN _ _ | exact hRf _ _) ⟨by decide, by decide⟩ (fun c8 => ?_) (fun c8 => ?_)
    · -- 8t
      refine sx_aload_n dX0_goTicks_14 rfl ?_
      refine mm_geti hu dX0_goTicks_15 fl_X0_67 (by decide) (fun r15 => ?_)
      refine sx_iload_n dX0_goTicks_18 rfl ?_
      refine sx_iadd dX0_goTicks_19 ?_
      have h03 := hR 0 3
      refine sx_ldc dX0_goTicks_20 kc_X0_144 ?_
      refine sx_icmp_le (tgt := 28) dX0_goTicks_22 (by decide) (by first | omega | assumption | (with_reducible first | exact hR _ _ | exact rd_R hR _ _ | exact am_R_and _ _ | exact am_R_or _ _ | exact am_R_xor _ _ | exact am_R_shl _ _ | exact am_R_shr _ _ | exact bit_R _ _) | (exact ⟨by omega, by omega⟩) | exact hR _ _ | exact hRN _ _ | exact hRf _ _) ⟨by decide, by decide⟩ (fun c22 => ?_) (fun c22 => ?_)
      · -- 22t
        refine sx_aload_n dX0_goTicks_28 rfl ?_
        refine sx_dup dX0_goTicks_29 ?_
        refine mm_geti hu dX0_goTicks_30 fl_X0_67 (by decide) (fun r30 => ?_)
        refine sx_iload_n dX0_goTicks_33 rfl ?_
        refine sx_iadd dX0_goTicks_34 ?_
        refine mm_put hu dX0_goTicks_35 fl_X0_67 (by decide) (by first | omega | assumption | (with_reducible first | exact hR _ _ | exact rd_R hR _ _ | exact am_R_and _ _ | exact am_R_or _ _ | exact am_R_xor _ _ | exact am_R_shl _ _ | exact am_R_shr _ _ | exact bit_R _ _) | (exact ⟨by omega, by omega⟩) | exact hR _ _ | exact hRN _ _ | exact hRf _ _) ?_
        refine sx_heq (am_U h0 u (yt0 M t)) rfl ?_
        refine sx_aload_n dX0_goTicks_38 rfl ?_
        refine mm_geti hu dX0_goTicks_39 fl_X0_70 (by decide) (fun r39 => ?_)
        show Sx 3 Y0_goTicks _ _ _ _ [.inl (M 0 4)] _
        refine sx_istore_n dX0_goTicks_42 (by decide) ?_
        refine sx_iconst dX0_goTicks_43 ?_
        refine sx_istore_n dX0_goTicks_44 (by decide) ?_
        have loop45 : ∀ (n : Nat) (k : Nat) (N : am_M), (t - k).toNat = n → (k : Int) ≤ t → N = ytI (yt0 M t) k → ytN N (t.toNat - k) = ytN (yt0 M t) t.toNat → Sx 3 Y0_goTicks (am_U h0 u (ytick M t).2) (some (.inl (ytick M t).1)) 45 [some (.inr (u, 0)), some (.inl t), some (.inl (M 0 4)), some (.inl (k : Int)), none, none] [] (am_U h0 u N) := by
          intro n
          induction n using Nat.strongRecOn with
          | _ n ih45 =>
            intro k N hn hle hN hq
            have h04 := hR 0 4
            refine sx_iload_n dX0_goTicks_45 rfl ?_
            refine sx_iload_n dX0_goTicks_46 rfl ?_
            refine sx_icmp_ge (tgt := 95) dX0_goTicks_47 (by decide) (by first | omega | assumption | (with_reducible first | exact hR _ _ | exact rd_R hR _ _ | exact am_R_and _ _ | exact am_R_or _ _ | exact am_R_xor _ _ | exact am_R_shl _ _ | exact am_R_shr _ _ | exact bit_R _ _) | (exact ⟨by omega, by omega⟩) | exact hR _ _ | exact hRN _ _ | exact hRf _ _) (by first | omega | assumption | (with_reducible first | exact hR _ _ | exact rd_R hR _ _ | exact am_R_and _ _ | exact am_R_or _ _ | exact am_R_xor _ _ | exact am_R_shl _ _ | exact am_R_shr _ _ | exact bit_R _ _) | (exact ⟨by omega, by omega⟩) | exact hR _ _ | exact hRN _ _ | exact hRf _ _) (fun c47 => ?_) (fun c47 => ?_)
            · -- 47t
              refine sx_aload_n dX0_goTicks_95 rfl ?_
              refine mm_geti hu dX0_goTicks_96 fl_X0_70 (by decide) (fun r96 => ?_)
              refine sx_iload_n dX0_goTicks_99 rfl ?_
              refine sx_isub dX0_goTicks_100 ?_
              exact sx_iret dX0_goTicks_101 rfl (by first | (have e9 : ytN (am_u2 M 0 3 (M 0 3 + t)) t.toNat = N := hq.symm.trans (by rw [show t.toNat - k = 0 by omega]; rfl); unfold ytick; simp only [if_pos c2, if_neg (Int.not_lt.mpr c2), if_pos c8, if_neg (Int.not_lt.mpr c8), if_pos c22, if_neg (Int.not_lt.mpr c22), if_pos c47, if_neg (Int.not_lt.mpr c47)]; rw [e9]) | (have e9 : ytN (am_u2 M 0 3 (M 0 3 + t)) t.toNat = yt1 N := hq.symm.trans (by rw [show t.toNat - k = (t.toNat - (k + 1)) + 1 by omega, ytN_1 c83]); unfold ytick; simp only [if_pos c2, if_neg (Int.not_lt.mpr c2), if_pos c8, if_neg (Int.not_lt.mpr c8), if_pos c22, if_neg (Int.not_lt.mpr c22), if_pos c47, if_neg (Int.not_lt.mpr c47)]; rw [e9])) (by first | (have e9 : ytN (am_u2 M 0 3 (M 0 3 + t)) t.toNat = N := hq.symm.trans (by rw [show t.toNat - k = 0 by omega]; rfl); unfold ytick; simp only [if_pos c2, if_neg (Int.not_lt.mpr c2), if_pos c8, if_neg (Int.not_lt.mpr c8), if_pos c22, if_neg (Int.not_lt.mpr c22), if_pos c47, if_neg (Int.not_lt.mpr c47)]; rw [e9]) | (have e9 : ytN (am_u2 M 0 3 (M 0 3 + t)) t.toNat = yt1 N := hq.symm.trans (by rw [show t.toNat - k = (t.toNat - (k + 1)) + 1 by omega, ytN_1 c83]); unfold ytick; simp only [if_pos c2, if_neg (Int.not_lt.mpr c2), if_pos c8, if_neg (Int.not_lt.mpr c8), if_pos c22, if_neg (Int.not_lt.mpr c22), if_pos c47, if_neg (Int.not_lt.mpr c47)]; rw [e9]))
            · -- 47f
              have h3 : YR3 N := by rw [hN]; exact hy c22 k (by omega)
              refine sx_aload_n dX0_goTicks_50 rfl ?_
              refine mm_geti hu dX0_goTicks_51 fl_X0_70 (by decide) (fun r51 => ?_)
              refine mm_vh (fun hRN => ?_)
              refine sx_istore dX0_goTicks_54 (by decide) ?_
              refine sx_iconst dX0_goTicks_56 ?_
              refine sx_istore dX0_goTicks_57 (by decide) ?_
              have loop59 : ∀ (n : Nat) (f : Nat), (3 - f) = n → f ≤ 3 → Sx 3 Y0_goTicks (am_U h0 u (ytick M t).2) (some (.inl (ytick M t).1)) 59 [some (.inr (u, 0)), some (.inl t), some (.inl (M 0 4)), some (.inl (k : Int)), some (.inl (N 0 4)), some (.inl (f : Int))] [] (am_U h0 u (yrI N f)) := by
                intro n
                induction n using Nat.strongRecOn with
                | _ n ih59 =>
                  intro f hm hfl
                  refine sx_iload dX0_goTicks_59 rfl ?_
                  refine sx_iconst dX0_goTicks_61 ?_
                  refine sx_icmp_ge (tgt := 77) dX0_goTicks_62 (by decide) (by first | omega | assumption | (with_reducible first | exact hR _ _ | exact rd_R hR _ _ | exact am_R_and _ _ | exact am_R_or _ _ | exact am_R_xor _ _ | exact am_R_shl _ _ | exact am_R_shr _ _ | exact bit_R _ _) | (exact ⟨by omega, by omega⟩) | exact hR _ _ | exact hRN _ _ | exact hRf _ _) ⟨by decide, by decide⟩ (fun c62 => ?_) (fun c62 => ?_)
                  · -- 62t
                    obtain rfl : f = 3 := by omega
                    refine sx_heq (am_U h0 u (yt1 N)) rfl ?_
                    refine mm_vh (fun hRf => ?_)
                    refine sx_aload_n dX0_goTicks_77 rfl ?_
                    refine mm_geti hu dX0_goTicks_78 fl_X0_70 (by decide) (fun r78 => ?_)
                    refine sx_iload dX0_goTicks_81 rfl ?_
                    refine sx_icmp_ne (tgt := 89) dX0_goTicks_83 (by decide) (by first | omega | assumption | (with_reducible first | exact hR _ _ | exact rd_R hR _ _ | exact am_R_and _ _ | exact am_R_or _ _ | exact am_R_xor _ _ | exact am_R_shl _ _ | exact am_R_shr _ _ | exact bit_R _ _) | (exact ⟨by omega, by omega⟩) | exact hR _ _ | exact hRN _ _ | exact hRf _ _) (by first | omega | assumption | (with_reducible first | exact hR _ _ | exact rd_R hR _ _ | exact am_R_and _ _ | exact am_R_or _ _ | exact am_R_xor _ _ | exact am_R_shl _ _ | exact am_R_shr _ _ | exact bit_R _ _) | (exact ⟨by omega, by omega⟩) | exact hR _ _ | exact hRN _ _ | exact hRf _ _) (fun c83 => ?_) (fun c83 => ?_)
                    · -- 83t
                      refine sx_iinc dX0_goTicks_89 rfl (by decide) ?_
                      refine sx_goto (tgt := 45) dX0_goTicks_92 (by decide) ?_
                      exact sx_forget 5 (sx_forget 4 (ih45 _ (by omega) (k + 1) _ rfl (by omega) (by rw [hN]; rfl) (by rw [← hq, show t.toNat - k = (t.toNat - (k + 1)) + 1 by omega, ytN_2 c83])))
                    · -- 83f
                      refine sx_goto (tgt := 95) dX0_goTicks_86 (by decide) ?_
                      refine sx_aload_n dX0_goTicks_95 rfl ?_
                      refine mm_geti hu dX0_goTicks_96 fl_X0_70 (by decide) (fun r96 => ?_)
                      refine sx_iload_n dX0_goTicks_99 rfl ?_
                      refine sx_isub dX0_goTicks_100 ?_
                      exact sx_iret dX0_goTicks_101 rfl (by first | (have e9 : ytN (am_u2 M 0 3 (M 0 3 + t)) t.toNat = N := hq.symm.trans (by rw [show t.toNat - k = 0 by omega]; rfl); unfold ytick; simp only [if_pos c2, if_neg (Int.not_lt.mpr c2), if_pos c8, if_neg (Int.not_lt.mpr c8), if_pos c22, if_neg (Int.not_lt.mpr c22), if_pos c47, if_neg (Int.not_le.mpr c47), if_pos c62, if_neg (Int.not_lt.mpr c62), if_pos c83]; rw [e9]) | (have e9 : ytN (am_u2 M 0 3 (M 0 3 + t)) t.toNat = yt1 N := hq.symm.trans (by rw [show t.toNat - k = (t.toNat - (k + 1)) + 1 by omega, ytN_1 c83]); unfold ytick; simp only [if_pos c2, if_neg (Int.not_lt.mpr c2), if_pos c8, if_neg (Int.not_lt.mpr c8), if_pos c22, if_neg (Int.not_lt.mpr c22), if_pos c47, if_neg (Int.not_le.mpr c47), if_pos c62, if_neg (Int.not_lt.mpr c62), if_pos c83]; rw [e9])) (by first | (have e9 : ytN (am_u2 M 0 3 (M 0 3 + t)) t.toNat = N := hq.symm.trans (by rw [show t.toNat - k = 0 by omega]; rfl); unfold ytick; simp only [if_pos c2, if_neg (Int.not_lt.mpr c2), if_pos c8, if_neg (Int.not_lt.mpr c8), if_pos c22, if_neg (Int.not_lt.mpr c22), if_pos c47, if_neg (Int.not_le.mpr c47), if_pos c62, if_neg (Int.not_lt.mpr c62), if_pos c83]; rw [e9]) | (have e9 : ytN (am_u2 M 0 3 (M 0 3 + t)) t.toNat = yt1 N := hq.symm.trans (by rw [show t.toNat - k = (t.toNat - (k + 1)) + 1 by omega, ytN_1 c83]); unfold ytick; simp only [if_pos c2, if_neg (Int.not_lt.mpr c2), if_pos c8, if_neg (Int.not_lt.mpr c8), if_pos c22, if_neg (Int.not_lt.mpr c22), if_pos c47, if_neg (Int.not_le.mpr c47), if_pos c62, if_neg (Int.not_lt.mpr c62), if_pos c83]; rw [e9]))
                  · -- 62f
                    refine sx_aload_n dX0_goTicks_65 rfl ?_
                    refine sx_iload dX0_goTicks_66 rfl ?_
                    refine sx_callVv dX0_goTicks_68 ml_X0_145 mv0_raiseFirst (ty_raiseFirst hu _ (WM_rI h3 f (by omega)) (by omega) (YR3_f h3 f (by omega))) rfl (am_obM hu) rfl (Nat.le_of_ble_eq_true rfl) (Nat.le_of_ble_eq_true rfl) ?_
                    refine sx_iinc dX0_goTicks_71 rfl (by decide) ?_
                    refine sx_goto (tgt := 59) dX0_goTicks_74 (by decide) ?_
                    exact ih59 _ (by omega) (f + 1) rfl (by omega)
              exact loop59 _ 0 rfl (by omega)
        exact loop45 _ 0 (yt0 M t) rfl (by omega) rfl rfl
      · -- 22f
        refine sx_ldc dX0_goTicks_25 kc_X0_96 ?_
        exact sx_iret dX0_goTicks_27 rfl (by unfold ytick; simp only [if_pos c2, if_neg (Int.not_lt.mpr c2), if_pos c8, if_neg (Int.not_lt.mpr c8), if_pos c22, if_neg (Int.not_le.mpr c22)]) (by unfold ytick; simp only [if_pos c2, if_neg (Int.not_lt.mpr c2), if_pos c8, if_neg (Int.not_lt.mpr c8), if_pos c22, if_neg (Int.not_le.mpr c22)])
    · -- 8f
      refine sx_ldc dX0_goTicks_11 kc_X0_95 ?_
      exact sx_iret dX0_goTicks_13 rfl (by unfold ytick; simp only [if_pos c2, if_neg (Int.not_lt.mpr c2), if_pos c8, if_neg (Int.not_le.mpr c8)]) (by unfold ytick; simp only [if_pos c2, if_neg (Int.not_lt.mpr c2), if_pos c8, if_neg (Int.not_le.mpr c8)])
