set_option maxHeartbeats 4000000 in
set_option maxRecDepth 100000 in
theorem ty_letWait {h0 : am_H} {u : Nat} (hu : u < 6) {M : am_M} (w : Int) (hW : WM M) (hk : w = -1 ∨ ((0 ≤ w ∧ w < 24) ∧ rd M 10 w = -1) ∨ (YK M w ∧ rd M 8 (rd M 12 w) ≤ 5)) (hwR : am_R w)  : Ct 1 Y0_letWait [.inr (u, 0), .inl w] none (am_U h0 u M) (am_U h0 u (ylet M w)) := by
  refine Ct_of (by decide +kernel) (Nat.le_of_ble_eq_true rfl) ?_
  show Sx 1 Y0_letWait (am_U h0 u (ylet M w)) none 0 [some (.inr (u, 0)), some (.inl w), none] [] (am_U h0 u M)
  refine mm_vh (fun hR => ?_)
  obtain ⟨w0, w2, w1, w5, w8, w12, wb⟩ := id hW
  refine sx_iload_n dX0_letWait_0 rfl ?_
  refine sx_iconst dX0_letWait_1 ?_
  refine sx_icmp_eq (tgt := 15) dX0_letWait_2 (by decide) (by first | omega | assumption | (with_reducible first | exact hR _ _ | exact rd_R hR _ _ | exact am_R_and _ _ | exact am_R_or _ _ | exact am_R_xor _ _ | exact am_R_shl _ _ | exact am_R_shr _ _ | exact bit_R _ _ | exact ybc_R _ | exact yrk_R _ _ _) | (exact ⟨by omega, by omega⟩) | exact hR _ _) ⟨by decide, by decide⟩ (fun c2 => ?_) (fun c2 => ?_)
  · -- 2t
    exact sx_vret dX0_letWait_15 rfl rfl (by unfold ylet; first | rw [if_pos c2] | (split <;> first | rfl | rw [if_pos (show rd M 10 w = -1 from c12)]))
  · -- 2f
    have hw9 : 0 ≤ w ∧ w < 24 := by
      rcases hk with hk | hk | hk
      · exact absurd hk c2
      · exact hk.1
      · exact hk.1.1
    refine sx_aload_n dX0_letWait_5 rfl ?_
    refine mm_getr (j := 10) hu dX0_letWait_6 fl_X0_39 (by decide) ?_
    refine sx_iload_n dX0_letWait_9 rfl ?_
    refine mm_ild (n := 24) hu dX0_letWait_10 (by decide) rfl (by decide) (by first | omega | assumption | (with_reducible first | exact hR _ _ | exact rd_R hR _ _ | exact am_R_and _ _ | exact am_R_or _ _ | exact am_R_xor _ _ | exact am_R_shl _ _ | exact am_R_shr _ _ | exact bit_R _ _ | exact ybc_R _ | exact yrk_R _ _ _) | (exact ⟨by omega, by omega⟩) | exact hR _ _) (by first | omega | assumption | (with_reducible first | exact hR _ _ | exact rd_R hR _ _ | exact am_R_and _ _ | exact am_R_or _ _ | exact am_R_xor _ _ | exact am_R_shl _ _ | exact am_R_shr _ _ | exact bit_R _ _ | exact ybc_R _ | exact yrk_R _ _ _) | (exact ⟨by omega, by omega⟩) | exact hR _ _) rfl (fun r10 => ?_)
    refine sx_iconst dX0_letWait_11 ?_
    refine sx_icmp_ne (tgt := 16) dX0_letWait_12 (by decide) (by first | omega | assumption | (with_reducible first | exact hR _ _ | exact rd_R hR _ _ | exact am_R_and _ _ | exact am_R_or _ _ | exact am_R_xor _ _ | exact am_R_shl _ _ | exact am_R_shr _ _ | exact bit_R _ _ | exact ybc_R _ | exact yrk_R _ _ _) | (exact ⟨by omega, by omega⟩) | exact hR _ _) ⟨by decide, by decide⟩ (fun c12 => ?_) (fun c12 => ?_)
    · -- 12t
      have hkk : YK M w ∧ rd M 8 (rd M 12 w) ≤ 5 := by
        rcases hk with hk | hk | hk
        · exact absurd hk c2
        · exact absurd (show rd M 10 w = -1 from hk.2) c12
        · exact hk
      refine sx_aload_n dX0_letWait_16 rfl ?_
      refine sx_iload_n dX0_letWait_17 rfl ?_
      refine sx_callVv dX0_letWait_18 ml_X0_138 mv0_takeFromChip (ty_takeFromChip hu _ hW hkk.1) rfl (am_obM hu) rfl (Nat.le_of_ble_eq_true rfl) (Nat.le_of_ble_eq_true rfl) ?_
      obtain ⟨hkY, h85⟩ := hkk
      have hWt := WM_take hW hkY
      have h12 := w12 w hkY.1.1 hkY.1.2
      have h8 := w8 _ h12.1.1 h12.1.2
      have e12 : rd (ytake M w) 12 w = rd M 12 w := ytake_rd _ (by decide) (by decide)
      have e11 : rd (ytake M w) 11 w = rd M 11 w := ytake_rd _ (by decide) (by decide)
      have e8 : rd (yle1 M w) 8 (rd (ytake M w) 12 w) = rd M 8 (rd M 12 w) := by
        unfold yle1
        rw [rd_wrj _ _ _ _ (by decide), e12]
        exact ytake_rd _ (by decide) (by decide)
      have e82 : rd (yle2 M w) 8 (rd (ytake M w) 12 w) = rd M 8 (rd M 12 w) := by
        unfold yle2
        rw [rd_wrj _ _ _ _ (by decide)]; exact e8
      have hkr := hkY.2.2
      have hw9 := hkY.1
      refine sx_aload_n dX0_letWait_21 rfl ?_
      refine mm_getr (j := 12) hu dX0_letWait_22 fl_X0_45 (by decide) ?_
      refine sx_iload_n dX0_letWait_25 rfl ?_
      refine mm_ild (n := 24) hu dX0_letWait_26 (by decide) rfl (by decide) (by first | omega | assumption | (with_reducible first | exact hR _ _ | exact rd_R hR _ _ | exact am_R_and _ _ | exact am_R_or _ _ | exact am_R_xor _ _ | exact am_R_shl _ _ | exact am_R_shr _ _ | exact bit_R _ _ | exact ybc_R _ | exact yrk_R _ _ _) | (exact ⟨by omega, by omega⟩) | exact hR _ _) (by first | omega | assumption | (with_reducible first | exact hR _ _ | exact rd_R hR _ _ | exact am_R_and _ _ | exact am_R_or _ _ | exact am_R_xor _ _ | exact am_R_shl _ _ | exact am_R_shr _ _ | exact bit_R _ _ | exact ybc_R _ | exact yrk_R _ _ _) | (exact ⟨by omega, by omega⟩) | exact hR _ _) rfl (fun r26 => ?_)
      show Sx 1 Y0_letWait _ _ _ _ [.inl (rd (ytake M w) 12 w)] _
      rw [e12]
      refine sx_istore_n dX0_letWait_27 (by decide) ?_
      refine sx_aload_n dX0_letWait_28 rfl ?_
      refine mm_getr (j := 6) hu dX0_letWait_29 fl_X0_27 (by decide) ?_
      refine sx_iload_n dX0_letWait_32 rfl ?_
      refine sx_bipush dX0_letWait_33 rfl ?_
      refine sx_imul dX0_letWait_35 ?_
      refine sx_aload_n dX0_letWait_36 rfl ?_
      refine mm_getr (j := 11) hu dX0_letWait_37 fl_X0_42 (by decide) ?_
      refine sx_iload_n dX0_letWait_40 rfl ?_
      refine mm_ild (n := 24) hu dX0_letWait_41 (by decide) rfl (by decide) (by first | omega | assumption | (with_reducible first | exact hR _ _ | exact rd_R hR _ _ | exact am_R_and _ _ | exact am_R_or _ _ | exact am_R_xor _ _ | exact am_R_shl _ _ | exact am_R_shr _ _ | exact bit_R _ _ | exact ybc_R _ | exact yrk_R _ _ _) | (exact ⟨by omega, by omega⟩) | exact hR _ _) (by first | omega | assumption | (with_reducible first | exact hR _ _ | exact rd_R hR _ _ | exact am_R_and _ _ | exact am_R_or _ _ | exact am_R_xor _ _ | exact am_R_shl _ _ | exact am_R_shr _ _ | exact bit_R _ _ | exact ybc_R _ | exact yrk_R _ _ _) | (exact ⟨by omega, by omega⟩) | exact hR _ _) rfl (fun r41 => ?_)
      show Sx 1 Y0_letWait _ _ _ _ [.inl (rd (ytake M w) 11 w), .inl (rd M 12 w * 6), .inr (u, 6)] _
      rw [e11]
      refine sx_iadd dX0_letWait_42 ?_
      refine sx_iload_n dX0_letWait_43 rfl ?_
      refine mm_ist (n := 18) hu dX0_letWait_44 (by decide) rfl (by decide) (by first | omega | assumption | (with_reducible first | exact hR _ _ | exact rd_R hR _ _ | exact am_R_and _ _ | exact am_R_or _ _ | exact am_R_xor _ _ | exact am_R_shl _ _ | exact am_R_shr _ _ | exact bit_R _ _ | exact ybc_R _ | exact yrk_R _ _ _) | (exact ⟨by omega, by omega⟩) | exact hR _ _) (by first | omega | assumption | (with_reducible first | exact hR _ _ | exact rd_R hR _ _ | exact am_R_and _ _ | exact am_R_or _ _ | exact am_R_xor _ _ | exact am_R_shl _ _ | exact am_R_shr _ _ | exact bit_R _ _ | exact ybc_R _ | exact yrk_R _ _ _) | (exact ⟨by omega, by omega⟩) | exact hR _ _) rfl (by first | omega | assumption | (with_reducible first | exact hR _ _ | exact rd_R hR _ _ | exact am_R_and _ _ | exact am_R_or _ _ | exact am_R_xor _ _ | exact am_R_shl _ _ | exact am_R_shr _ _ | exact bit_R _ _ | exact ybc_R _ | exact yrk_R _ _ _) | (exact ⟨by omega, by omega⟩) | exact hR _ _) ?_
      refine sx_heq (am_U h0 u (yle1 M w)) (by unfold yle1; rw [e12, e11]; rfl) ?_
      refine sx_aload_n dX0_letWait_45 rfl ?_
      refine mm_getr (j := 7) hu dX0_letWait_46 fl_X0_30 (by decide) ?_
      refine sx_iload_n dX0_letWait_49 rfl ?_
      refine sx_bipush dX0_letWait_50 rfl ?_
      refine sx_imul dX0_letWait_52 ?_
      refine sx_aload_n dX0_letWait_53 rfl ?_
      refine mm_getr (j := 8) hu dX0_letWait_54 fl_X0_33 (by decide) ?_
      refine sx_iload_n dX0_letWait_57 rfl ?_
      refine mm_ild (n := 3) hu dX0_letWait_58 (by decide) rfl (by decide) (by first | omega | assumption | (with_reducible first | exact hR _ _ | exact rd_R hR _ _ | exact am_R_and _ _ | exact am_R_or _ _ | exact am_R_xor _ _ | exact am_R_shl _ _ | exact am_R_shr _ _ | exact bit_R _ _ | exact ybc_R _ | exact yrk_R _ _ _) | (exact ⟨by omega, by omega⟩) | exact hR _ _) (by first | omega | assumption | (with_reducible first | exact hR _ _ | exact rd_R hR _ _ | exact am_R_and _ _ | exact am_R_or _ _ | exact am_R_xor _ _ | exact am_R_shl _ _ | exact am_R_shr _ _ | exact bit_R _ _ | exact ybc_R _ | exact yrk_R _ _ _) | (exact ⟨by omega, by omega⟩) | exact hR _ _) rfl (fun r58 => ?_)
      show Sx 1 Y0_letWait _ _ _ _ [.inl (rd (yle1 M w) 8 (rd M 12 w)), .inl (rd M 12 w * 6), .inr (u, 7)] _
      rw [← e12, e8, e12]
      refine sx_iadd dX0_letWait_59 ?_
      refine sx_iload_n dX0_letWait_60 rfl ?_
      refine mm_ist (n := 18) hu dX0_letWait_61 (by decide) rfl (by decide) (by first | omega | assumption | (with_reducible first | exact hR _ _ | exact rd_R hR _ _ | exact am_R_and _ _ | exact am_R_or _ _ | exact am_R_xor _ _ | exact am_R_shl _ _ | exact am_R_shr _ _ | exact bit_R _ _ | exact ybc_R _ | exact yrk_R _ _ _) | (exact ⟨by omega, by omega⟩) | exact hR _ _) (by first | omega | assumption | (with_reducible first | exact hR _ _ | exact rd_R hR _ _ | exact am_R_and _ _ | exact am_R_or _ _ | exact am_R_xor _ _ | exact am_R_shl _ _ | exact am_R_shr _ _ | exact bit_R _ _ | exact ybc_R _ | exact yrk_R _ _ _) | (exact ⟨by omega, by omega⟩) | exact hR _ _) rfl (by first | omega | assumption | (with_reducible first | exact hR _ _ | exact rd_R hR _ _ | exact am_R_and _ _ | exact am_R_or _ _ | exact am_R_xor _ _ | exact am_R_shl _ _ | exact am_R_shr _ _ | exact bit_R _ _ | exact ybc_R _ | exact yrk_R _ _ _) | (exact ⟨by omega, by omega⟩) | exact hR _ _) ?_
      refine sx_heq (am_U h0 u (yle2 M w)) (by unfold yle2; rw [e8, e12]; rfl) ?_
      refine sx_aload_n dX0_letWait_62 rfl ?_
      refine mm_getr (j := 8) hu dX0_letWait_63 fl_X0_33 (by decide) ?_
      refine sx_iload_n dX0_letWait_66 rfl ?_
      refine sx_dup2 dX0_letWait_67 ?_
      refine mm_ild (n := 3) hu dX0_letWait_68 (by decide) rfl (by decide) (by first | omega | assumption | (with_reducible first | exact hR _ _ | exact rd_R hR _ _ | exact am_R_and _ _ | exact am_R_or _ _ | exact am_R_xor _ _ | exact am_R_shl _ _ | exact am_R_shr _ _ | exact bit_R _ _ | exact ybc_R _ | exact yrk_R _ _ _) | (exact ⟨by omega, by omega⟩) | exact hR _ _) (by first | omega | assumption | (with_reducible first | exact hR _ _ | exact rd_R hR _ _ | exact am_R_and _ _ | exact am_R_or _ _ | exact am_R_xor _ _ | exact am_R_shl _ _ | exact am_R_shr _ _ | exact bit_R _ _ | exact ybc_R _ | exact yrk_R _ _ _) | (exact ⟨by omega, by omega⟩) | exact hR _ _) rfl (fun r68 => ?_)
      show Sx 1 Y0_letWait _ _ _ _ [.inl (rd (yle2 M w) 8 (rd M 12 w)), .inl (rd M 12 w), .inr (u, 8)] _
      rw [← e12, e82, e12]
      refine sx_iconst dX0_letWait_69 ?_
      refine sx_iadd dX0_letWait_70 ?_
      refine mm_ist (n := 3) hu dX0_letWait_71 (by decide) rfl (by decide) (by first | omega | assumption | (with_reducible first | exact hR _ _ | exact rd_R hR _ _ | exact am_R_and _ _ | exact am_R_or _ _ | exact am_R_xor _ _ | exact am_R_shl _ _ | exact am_R_shr _ _ | exact bit_R _ _ | exact ybc_R _ | exact yrk_R _ _ _) | (exact ⟨by omega, by omega⟩) | exact hR _ _) (by first | omega | assumption | (with_reducible first | exact hR _ _ | exact rd_R hR _ _ | exact am_R_and _ _ | exact am_R_or _ _ | exact am_R_xor _ _ | exact am_R_shl _ _ | exact am_R_shr _ _ | exact bit_R _ _ | exact ybc_R _ | exact yrk_R _ _ _) | (exact ⟨by omega, by omega⟩) | exact hR _ _) rfl (by first | omega | assumption | (with_reducible first | exact hR _ _ | exact rd_R hR _ _ | exact am_R_and _ _ | exact am_R_or _ _ | exact am_R_xor _ _ | exact am_R_shl _ _ | exact am_R_shr _ _ | exact bit_R _ _ | exact ybc_R _ | exact yrk_R _ _ _) | (exact ⟨by omega, by omega⟩) | exact hR _ _) ?_
      exact sx_vret dX0_letWait_72 rfl rfl (by unfold ylet; rw [if_neg c2, if_neg (show ¬ rd M 10 w = -1 from c12)]; unfold yle3; rw [e82, e12]; rfl)
    · -- 12f
      exact sx_vret dX0_letWait_15 rfl rfl (by unfold ylet; first | rw [if_pos c2] | (split <;> first | rfl | rw [if_pos (show rd M 10 w = -1 from c12)]))
set_option maxHeartbeats 4000000 in
set_option maxRecDepth 100000 in
theorem ty_leaveQueue {h0 : am_H} {u : Nat} (hu : u < 6) {M : am_M} (w : Int) (hW : WM M) (hw : 0 ≤ w ∧ w < 24) (hq8 : 1 ≤ rd M 8 (rd M 12 w)) (hwR : am_R w)  : Ct 0 Y0_leaveQueue [.inr (u, 0), .inl w] none (am_U h0 u M) (am_U h0 u (ylv M w)) := by
  refine Ct_of (by decide +kernel) (Nat.le_of_ble_eq_true rfl) ?_
  show Sx 0 Y0_leaveQueue (am_U h0 u (ylv M w)) none 0 [some (.inr (u, 0)), some (.inl w), none, none, none, none] [] (am_U h0 u M)
  refine mm_vh (fun hR => ?_)
  obtain ⟨w0, w2, w1, w5, w8, w12, wb⟩ := id hW
  refine sx_aload_n dX0_leaveQueue_0 rfl ?_
  refine mm_getr (j := 12) hu dX0_leaveQueue_1 fl_X0_45 (by decide) ?_
  refine sx_iload_n dX0_leaveQueue_4 rfl ?_
  refine mm_ild (n := 24) hu dX0_leaveQueue_5 (by decide) rfl (by decide) (by first | omega | assumption | (with_reducible first | exact hRN _ _ | exact hR _ _ | exact rd_R hR _ _ | exact am_R_and _ _ | exact am_R_or _ _ | exact am_R_xor _ _ | exact am_R_shl _ _ | exact am_R_shr _ _ | exact bit_R _ _) | (exact ⟨by omega, by omega⟩) | exact hR _ _) (by first | omega | assumption | (with_reducible first | exact hRN _ _ | exact hR _ _ | exact rd_R hR _ _ | exact am_R_and _ _ | exact am_R_or _ _ | exact am_R_xor _ _ | exact am_R_shl _ _ | exact am_R_shr _ _ | exact bit_R _ _) | (exact ⟨by omega, by omega⟩) | exact hR _ _) rfl (fun r5 => ?_)
  show Sx 0 Y0_leaveQueue _ _ _ _ [.inl (rd M 12 w)] _
  have h12 := w12 w hw.1 hw.2
  have h8 := w8 _ h12.1.1 h12.1.2
  refine sx_istore_n dX0_leaveQueue_6 (by decide) ?_
  refine sx_aload_n dX0_leaveQueue_7 rfl ?_
  refine mm_getr (j := 8) hu dX0_leaveQueue_8 fl_X0_33 (by decide) ?_
  refine sx_iload_n dX0_leaveQueue_11 rfl ?_
  refine mm_ild (n := 3) hu dX0_leaveQueue_12 (by decide) rfl (by decide) (by first | omega | assumption | (with_reducible first | exact hRN _ _ | exact hR _ _ | exact rd_R hR _ _ | exact am_R_and _ _ | exact am_R_or _ _ | exact am_R_xor _ _ | exact am_R_shl _ _ | exact am_R_shr _ _ | exact bit_R _ _) | (exact ⟨by omega, by omega⟩) | exact hR _ _) (by first | omega | assumption | (with_reducible first | exact hRN _ _ | exact hR _ _ | exact rd_R hR _ _ | exact am_R_and _ _ | exact am_R_or _ _ | exact am_R_xor _ _ | exact am_R_shl _ _ | exact am_R_shr _ _ | exact bit_R _ _) | (exact ⟨by omega, by omega⟩) | exact hR _ _) rfl (fun r12 => ?_)
  show Sx 0 Y0_leaveQueue _ _ _ _ [.inl (rd M 8 (rd M 12 w))] _
  refine sx_iconst dX0_leaveQueue_13 ?_
  refine sx_isub dX0_leaveQueue_14 ?_
  refine sx_istore_n dX0_leaveQueue_15 (by decide) ?_
  refine sx_iconst dX0_leaveQueue_16 ?_
  refine sx_istore dX0_leaveQueue_17 (by decide) ?_
  refine sx_iload_n dX0_leaveQueue_19 rfl ?_
  refine sx_bipush dX0_leaveQueue_20 rfl ?_
  refine sx_imul dX0_leaveQueue_22 ?_
  refine sx_istore dX0_leaveQueue_23 (by decide) ?_
  have loop25 : ∀ (n : Nat) (i : Nat) (N : am_M) (b : Bool) (pl : Int), (rd M 8 (rd M 12 w) - 1 - i).toNat = n → (i : Int) ≤ rd M 8 (rd M 12 w) - 1 → ylq M (rd M 12 w) w i = (N, b) → pl = rd M 12 w * 6 + i → Sx 0 Y0_leaveQueue (am_U h0 u (ylv M w)) none 25 [some (.inr (u, 0)), some (.inl w), some (.inl (rd M 12 w)), some (.inl (rd M 8 (rd M 12 w) - 1)), some (.inl (if b = true then 1 else 0)), some (.inl pl)] [] (am_U h0 u N) := by
    intro n
    induction n using Nat.strongRecOn with
    | _ n ih25 =>
      intro i N b pl hn hle hq hpl
      have hNr : N 7 = N 7 := rfl
      refine mm_vh (fun hRN => ?_)
      refine sx_iload dX0_leaveQueue_25 rfl ?_
      refine sx_iload_n dX0_leaveQueue_27 rfl ?_
      refine sx_bipush dX0_leaveQueue_28 rfl ?_
      refine sx_imul dX0_leaveQueue_30 ?_
      refine sx_iload_n dX0_leaveQueue_31 rfl ?_
      refine sx_iadd dX0_leaveQueue_32 ?_
      refine sx_icmp_ge (tgt := 86) dX0_leaveQueue_33 (by decide) (by first | omega | assumption | (with_reducible first | exact hRN _ _ | exact hR _ _ | exact rd_R hR _ _ | exact am_R_and _ _ | exact am_R_or _ _ | exact am_R_xor _ _ | exact am_R_shl _ _ | exact am_R_shr _ _ | exact bit_R _ _) | (exact ⟨by omega, by omega⟩) | exact hR _ _) (by first | omega | assumption | (with_reducible first | exact hRN _ _ | exact hR _ _ | exact rd_R hR _ _ | exact am_R_and _ _ | exact am_R_or _ _ | exact am_R_xor _ _ | exact am_R_shl _ _ | exact am_R_shr _ _ | exact bit_R _ _) | (exact ⟨by omega, by omega⟩) | exact hR _ _) (fun c33 => ?_) (fun c33 => ?_)
      · -- 33t
        try subst hpl
        refine sx_aload_n dX0_leaveQueue_86 rfl ?_
        refine mm_getr (j := 8) hu dX0_leaveQueue_87 fl_X0_33 (by decide) ?_
        refine sx_iload_n dX0_leaveQueue_90 rfl ?_
        refine sx_iload_n dX0_leaveQueue_91 rfl ?_
        refine mm_ist (n := 3) hu dX0_leaveQueue_92 (by decide) rfl (by decide) (by first | omega | assumption | (with_reducible first | exact hRN _ _ | exact hR _ _ | exact rd_R hR _ _ | exact am_R_and _ _ | exact am_R_or _ _ | exact am_R_xor _ _ | exact am_R_shl _ _ | exact am_R_shr _ _ | exact bit_R _ _) | (exact ⟨by omega, by omega⟩) | exact hR _ _) (by first | omega | assumption | (with_reducible first | exact hRN _ _ | exact hR _ _ | exact rd_R hR _ _ | exact am_R_and _ _ | exact am_R_or _ _ | exact am_R_xor _ _ | exact am_R_shl _ _ | exact am_R_shr _ _ | exact bit_R _ _) | (exact ⟨by omega, by omega⟩) | exact hR _ _) rfl (by first | omega | assumption | (with_reducible first | exact hRN _ _ | exact hR _ _ | exact rd_R hR _ _ | exact am_R_and _ _ | exact am_R_or _ _ | exact am_R_xor _ _ | exact am_R_shl _ _ | exact am_R_shr _ _ | exact bit_R _ _) | (exact ⟨by omega, by omega⟩) | exact hR _ _) ?_
        exact sx_vret dX0_leaveQueue_93 rfl rfl (by have hi : (rd M 8 (rd M 12 w) - 1).toNat = i := (by omega); unfold ylv; rw [hi, hq]; rfl)
      · -- 33f
        refine sx_iload dX0_leaveQueue_36 rfl ?_
        refine sx_ifB_ne (tgt := 52) dX0_leaveQueue_38 (by decide) (fun c38 => ?_) (fun c38 => ?_)
        · -- 38t
          refine sx_iconst dX0_leaveQueue_52 ?_
          refine sx_goto (tgt := 57) dX0_leaveQueue_53 (by decide) ?_
          refine sx_istore dX0_leaveQueue_57 (by decide) ?_
          refine sx_iload dX0_leaveQueue_59 rfl ?_
          refine sx_if_eq (tgt := 80) dX0_leaveQueue_61 (by decide) ⟨by decide, by decide⟩ (fun q => absurd q (by decide)) (fun _ => ?_)
          try subst hpl
          refine sx_aload_n dX0_leaveQueue_64 rfl ?_
          refine mm_getr (j := 7) hu dX0_leaveQueue_65 fl_X0_30 (by decide) ?_
          refine sx_iload dX0_leaveQueue_68 rfl ?_
          refine sx_aload_n dX0_leaveQueue_70 rfl ?_
          refine mm_getr (j := 7) hu dX0_leaveQueue_71 fl_X0_30 (by decide) ?_
          refine sx_iload dX0_leaveQueue_74 rfl ?_
          refine sx_iconst dX0_leaveQueue_76 ?_
          refine sx_iadd dX0_leaveQueue_77 ?_
          refine mm_ild (n := 18) hu dX0_leaveQueue_78 (by decide) rfl (by decide) (by first | omega | assumption | (with_reducible first | exact hRN _ _ | exact hR _ _ | exact rd_R hR _ _ | exact am_R_and _ _ | exact am_R_or _ _ | exact am_R_xor _ _ | exact am_R_shl _ _ | exact am_R_shr _ _ | exact bit_R _ _) | (exact ⟨by omega, by omega⟩) | exact hR _ _) (by first | omega | assumption | (with_reducible first | exact hRN _ _ | exact hR _ _ | exact rd_R hR _ _ | exact am_R_and _ _ | exact am_R_or _ _ | exact am_R_xor _ _ | exact am_R_shl _ _ | exact am_R_shr _ _ | exact bit_R _ _) | (exact ⟨by omega, by omega⟩) | exact hR _ _) rfl (fun r78 => ?_)
          refine mm_ist (n := 18) hu dX0_leaveQueue_79 (by decide) rfl (by decide) (by first | omega | assumption | (with_reducible first | exact hRN _ _ | exact hR _ _ | exact rd_R hR _ _ | exact am_R_and _ _ | exact am_R_or _ _ | exact am_R_xor _ _ | exact am_R_shl _ _ | exact am_R_shr _ _ | exact bit_R _ _) | (exact ⟨by omega, by omega⟩) | exact hR _ _) (by first | omega | assumption | (with_reducible first | exact hRN _ _ | exact hR _ _ | exact rd_R hR _ _ | exact am_R_and _ _ | exact am_R_or _ _ | exact am_R_xor _ _ | exact am_R_shl _ _ | exact am_R_shr _ _ | exact bit_R _ _) | (exact ⟨by omega, by omega⟩) | exact hR _ _) rfl (by first | omega | assumption | (with_reducible first | exact hRN _ _ | exact hR _ _ | exact rd_R hR _ _ | exact am_R_and _ _ | exact am_R_or _ _ | exact am_R_xor _ _ | exact am_R_shl _ _ | exact am_R_shr _ _ | exact bit_R _ _) | (exact ⟨by omega, by omega⟩) | exact hR _ _) ?_
          refine sx_iinc dX0_leaveQueue_80 rfl (by decide) ?_
          refine sx_goto (tgt := 25) dX0_leaveQueue_83 (by decide) ?_
          try subst hpl
          exact ih25 _ (by omega) (i + 1) _ true _ rfl (by omega) (by simp only [ylq, hq]; rw [if_pos c38]; try rfl) (by omega)
        · -- 38f
          subst hpl
          refine sx_aload_n dX0_leaveQueue_41 rfl ?_
          refine mm_getr (j := 7) hu dX0_leaveQueue_42 fl_X0_30 (by decide) ?_
          refine sx_iload dX0_leaveQueue_45 rfl ?_
          refine mm_ild (n := 18) hu dX0_leaveQueue_47 (by decide) rfl (by decide) (by first | omega | assumption | (with_reducible first | exact hRN _ _ | exact hR _ _ | exact rd_R hR _ _ | exact am_R_and _ _ | exact am_R_or _ _ | exact am_R_xor _ _ | exact am_R_shl _ _ | exact am_R_shr _ _ | exact bit_R _ _) | (exact ⟨by omega, by omega⟩) | exact hR _ _) (by first | omega | assumption | (with_reducible first | exact hRN _ _ | exact hR _ _ | exact rd_R hR _ _ | exact am_R_and _ _ | exact am_R_or _ _ | exact am_R_xor _ _ | exact am_R_shl _ _ | exact am_R_shr _ _ | exact bit_R _ _) | (exact ⟨by omega, by omega⟩) | exact hR _ _) rfl (fun r47 => ?_)
          refine sx_iload_n dX0_leaveQueue_48 rfl ?_
          refine sx_icmp_ne (tgt := 56) dX0_leaveQueue_49 (by decide) (by first | omega | assumption | (with_reducible first | exact hRN _ _ | exact hR _ _ | exact rd_R hR _ _ | exact am_R_and _ _ | exact am_R_or _ _ | exact am_R_xor _ _ | exact am_R_shl _ _ | exact am_R_shr _ _ | exact bit_R _ _) | (exact ⟨by omega, by omega⟩) | exact hR _ _) (by first | omega | assumption | (with_reducible first | exact hRN _ _ | exact hR _ _ | exact rd_R hR _ _ | exact am_R_and _ _ | exact am_R_or _ _ | exact am_R_xor _ _ | exact am_R_shl _ _ | exact am_R_shr _ _ | exact bit_R _ _) | (exact ⟨by omega, by omega⟩) | exact hR _ _) (fun c49 => ?_) (fun c49 => ?_)
          · -- 49t
            refine sx_iconst dX0_leaveQueue_56 ?_
            refine sx_istore dX0_leaveQueue_57 (by decide) ?_
            refine sx_iload dX0_leaveQueue_59 rfl ?_
            refine sx_if_eq (tgt := 80) dX0_leaveQueue_61 (by decide) ⟨by decide, by decide⟩ (fun _ => ?_) (fun q => absurd q (by decide))
            refine sx_iinc dX0_leaveQueue_80 rfl (by decide) ?_
            refine sx_goto (tgt := 25) dX0_leaveQueue_83 (by decide) ?_
            try subst hpl
            exact ih25 _ (by omega) (i + 1) _ false _ rfl (by omega) (by simp only [ylq, hq]; rw [if_neg c38, if_neg (show ¬ rd N 7 (rd M 12 w * 6 + i) = w from c49)]; try rfl) (by omega)
          · -- 49f
            refine sx_iconst dX0_leaveQueue_52 ?_
            refine sx_goto (tgt := 57) dX0_leaveQueue_53 (by decide) ?_
            refine sx_istore dX0_leaveQueue_57 (by decide) ?_
            refine sx_iload dX0_leaveQueue_59 rfl ?_
            refine sx_if_eq (tgt := 80) dX0_leaveQueue_61 (by decide) ⟨by decide, by decide⟩ (fun q => absurd q (by decide)) (fun _ => ?_)
            try subst hpl
            refine sx_aload_n dX0_leaveQueue_64 rfl ?_
            refine mm_getr (j := 7) hu dX0_leaveQueue_65 fl_X0_30 (by decide) ?_
            refine sx_iload dX0_leaveQueue_68 rfl ?_
            refine sx_aload_n dX0_leaveQueue_70 rfl ?_
            refine mm_getr (j := 7) hu dX0_leaveQueue_71 fl_X0_30 (by decide) ?_
            refine sx_iload dX0_leaveQueue_74 rfl ?_
            refine sx_iconst dX0_leaveQueue_76 ?_
            refine sx_iadd dX0_leaveQueue_77 ?_
            refine mm_ild (n := 18) hu dX0_leaveQueue_78 (by decide) rfl (by decide) (by first | omega | assumption | (with_reducible first | exact hRN _ _ | exact hR _ _ | exact rd_R hR _ _ | exact am_R_and _ _ | exact am_R_or _ _ | exact am_R_xor _ _ | exact am_R_shl _ _ | exact am_R_shr _ _ | exact bit_R _ _) | (exact ⟨by omega, by omega⟩) | exact hR _ _) (by first | omega | assumption | (with_reducible first | exact hRN _ _ | exact hR _ _ | exact rd_R hR _ _ | exact am_R_and _ _ | exact am_R_or _ _ | exact am_R_xor _ _ | exact am_R_shl _ _ | exact am_R_shr _ _ | exact bit_R _ _) | (exact ⟨by omega, by omega⟩) | exact hR _ _) rfl (fun r78 => ?_)
            refine mm_ist (n := 18) hu dX0_leaveQueue_79 (by decide) rfl (by decide) (by first | omega | assumption | (with_reducible first | exact hRN _ _ | exact hR _ _ | exact rd_R hR _ _ | exact am_R_and _ _ | exact am_R_or _ _ | exact am_R_xor _ _ | exact am_R_shl _ _ | exact am_R_shr _ _ | exact bit_R _ _) | (exact ⟨by omega, by omega⟩) | exact hR _ _) (by first | omega | assumption | (with_reducible first | exact hRN _ _ | exact hR _ _ | exact rd_R hR _ _ | exact am_R_and _ _ | exact am_R_or _ _ | exact am_R_xor _ _ | exact am_R_shl _ _ | exact am_R_shr _ _ | exact bit_R _ _) | (exact ⟨by omega, by omega⟩) | exact hR _ _) rfl (by first | omega | assumption | (with_reducible first | exact hRN _ _ | exact hR _ _ | exact rd_R hR _ _ | exact am_R_and _ _ | exact am_R_or _ _ | exact am_R_xor _ _ | exact am_R_shl _ _ | exact am_R_shr _ _ | exact bit_R _ _) | (exact ⟨by omega, by omega⟩) | exact hR _ _) ?_
            refine sx_iinc dX0_leaveQueue_80 rfl (by decide) ?_
            refine sx_goto (tgt := 25) dX0_leaveQueue_83 (by decide) ?_
            try subst hpl
            exact ih25 _ (by omega) (i + 1) _ true _ rfl (by omega) (by simp only [ylq, hq]; rw [if_neg c38, if_pos (show rd N 7 (rd M 12 w * 6 + i) = w from c49)]; try rfl) (by omega)
  exact loop25 _ 0 M false _ rfl (by omega) rfl (by omega)
set_option maxHeartbeats 4000000 in
set_option maxRecDepth 100000 in
theorem ty_loseWaiting {h0 : am_H} {u : Nat} (hu : u < 6) {M : am_M} (f r : Int) (hW : WM M) (hf : 0 ≤ f ∧ f ≤ 2) (hr : 0 ≤ r ∧ r ≤ 5) (hy : YW M f r)  : Ct 1 Y0_loseWaiting [.inr (u, 0), .inl f, .inl r] (some (.inl (ylwR M f r))) (am_U h0 u M) (am_U h0 u (ylwM M f r)) := by
  refine Ct_of (by decide +kernel) (Nat.le_of_ble_eq_true rfl) ?_
  show Sx 1 Y0_loseWaiting (am_U h0 u (ylwM M f r)) (some (.inl (ylwR M f r))) 0 [some (.inr (u, 0)), some (.inl f), some (.inl r), none] [] (am_U h0 u M)
  refine mm_vh (fun hR => ?_)
  obtain ⟨w0, w2, w1, w5, w8, w12, wb⟩ := id hW
  refine sx_aload_n dX0_loseWaiting_0 rfl ?_
  refine mm_getr (j := 6) hu dX0_loseWaiting_1 fl_X0_27 (by decide) ?_
  refine sx_iload_n dX0_loseWaiting_4 rfl ?_
  refine sx_bipush dX0_loseWaiting_5 rfl ?_
  refine sx_imul dX0_loseWaiting_7 ?_
  refine sx_iload_n dX0_loseWaiting_8 rfl ?_
  refine sx_iadd dX0_loseWaiting_9 ?_
  refine mm_ild (n := 18) hu dX0_loseWaiting_10 (by decide) rfl (by decide) (by first | omega | assumption | (with_reducible first | exact hR _ _ | exact rd_R hR _ _ | exact am_R_and _ _ | exact am_R_or _ _ | exact am_R_xor _ _ | exact am_R_shl _ _ | exact am_R_shr _ _ | exact bit_R _ _ | exact ybc_R _ | exact yrk_R _ _ _) | (exact ⟨by omega, by omega⟩) | exact hR _ _) (by first | omega | assumption | (with_reducible first | exact hR _ _ | exact rd_R hR _ _ | exact am_R_and _ _ | exact am_R_or _ _ | exact am_R_xor _ _ | exact am_R_shl _ _ | exact am_R_shr _ _ | exact bit_R _ _ | exact ybc_R _ | exact yrk_R _ _ _) | (exact ⟨by omega, by omega⟩) | exact hR _ _) rfl (fun r10 => ?_)
  show Sx 1 Y0_loseWaiting _ _ _ _ [.inl (rd M 6 (f * 6 + r))] _
  refine sx_istore_n dX0_loseWaiting_11 (by decide) ?_
  refine sx_iload_n dX0_loseWaiting_12 rfl ?_
  refine sx_iconst dX0_loseWaiting_13 ?_
  refine sx_icmp_ne (tgt := 19) dX0_loseWaiting_14 (by decide) (by first | omega | assumption | (with_reducible first | exact hR _ _ | exact rd_R hR _ _ | exact am_R_and _ _ | exact am_R_or _ _ | exact am_R_xor _ _ | exact am_R_shl _ _ | exact am_R_shr _ _ | exact bit_R _ _ | exact ybc_R _ | exact yrk_R _ _ _) | (exact ⟨by omega, by omega⟩) | exact hR _ _) ⟨by decide, by decide⟩ (fun c14 => ?_) (fun c14 => ?_)
  · -- 14t
    obtain ⟨hy1, hy2⟩ : (0 ≤ rd M 6 (f * 6 + r) ∧ rd M 6 (f * 6 + r) < 24) ∧ 1 ≤ rd M 8 (rd M 12 (rd M 6 (f * 6 + r))) := by
      rcases hy with hy | hy
      · exact absurd hy c14
      · exact hy
    refine sx_aload_n dX0_loseWaiting_19 rfl ?_
    refine mm_getr (j := 6) hu dX0_loseWaiting_20 fl_X0_27 (by decide) ?_
    refine sx_iload_n dX0_loseWaiting_23 rfl ?_
    refine sx_bipush dX0_loseWaiting_24 rfl ?_
    refine sx_imul dX0_loseWaiting_26 ?_
    refine sx_iload_n dX0_loseWaiting_27 rfl ?_
    refine sx_iadd dX0_loseWaiting_28 ?_
    refine sx_iconst dX0_loseWaiting_29 ?_
    refine mm_ist (n := 18) hu dX0_loseWaiting_30 (by decide) rfl (by decide) (by first | omega | assumption | (with_reducible first | exact hR _ _ | exact rd_R hR _ _ | exact am_R_and _ _ | exact am_R_or _ _ | exact am_R_xor _ _ | exact am_R_shl _ _ | exact am_R_shr _ _ | exact bit_R _ _ | exact ybc_R _ | exact yrk_R _ _ _) | (exact ⟨by omega, by omega⟩) | exact hR _ _) (by first | omega | assumption | (with_reducible first | exact hR _ _ | exact rd_R hR _ _ | exact am_R_and _ _ | exact am_R_or _ _ | exact am_R_xor _ _ | exact am_R_shl _ _ | exact am_R_shr _ _ | exact bit_R _ _ | exact ybc_R _ | exact yrk_R _ _ _) | (exact ⟨by omega, by omega⟩) | exact hR _ _) rfl ⟨by decide, by decide⟩ ?_
    refine sx_heq (am_U h0 u (wr M 6 (f * 6 + r) (-1))) rfl ?_
    refine sx_aload_n dX0_loseWaiting_31 rfl ?_
    refine sx_iload_n dX0_loseWaiting_32 rfl ?_
    refine sx_callVv dX0_loseWaiting_33 ml_X0_148 mv0_leaveQueue (ty_leaveQueue hu _ (WM_wr hW (by decide) (by decide) (by omega) (by omega) (by omega) (by omega)) hy1 (by rw [rd_wrj _ _ _ _ (by decide), rd_wrj _ _ _ _ (by decide)]; exact hy2) (by exact ⟨by omega, by omega⟩)) rfl (am_obM hu) rfl (Nat.le_of_ble_eq_true rfl) (Nat.le_of_ble_eq_true rfl) ?_
    refine sx_aload_n dX0_loseWaiting_36 rfl ?_
    refine mm_getr (j := 11) hu dX0_loseWaiting_37 fl_X0_42 (by decide) ?_
    refine sx_iload_n dX0_loseWaiting_40 rfl ?_
    refine sx_iconst dX0_loseWaiting_41 ?_
    refine mm_ist (n := 24) hu dX0_loseWaiting_42 (by decide) rfl (by decide) (by first | omega | assumption | (with_reducible first | exact hR _ _ | exact rd_R hR _ _ | exact am_R_and _ _ | exact am_R_or _ _ | exact am_R_xor _ _ | exact am_R_shl _ _ | exact am_R_shr _ _ | exact bit_R _ _ | exact ybc_R _ | exact yrk_R _ _ _) | (exact ⟨by omega, by omega⟩) | exact hR _ _) (by first | omega | assumption | (with_reducible first | exact hR _ _ | exact rd_R hR _ _ | exact am_R_and _ _ | exact am_R_or _ _ | exact am_R_xor _ _ | exact am_R_shl _ _ | exact am_R_shr _ _ | exact bit_R _ _ | exact ybc_R _ | exact yrk_R _ _ _) | (exact ⟨by omega, by omega⟩) | exact hR _ _) rfl ⟨by decide, by decide⟩ ?_
    refine sx_iconst dX0_loseWaiting_43 ?_
    exact sx_iret dX0_loseWaiting_44 rfl (by unfold ylwR; rw [if_neg c14]) (by unfold ylwM; rw [if_neg c14]; rfl)
  · -- 14f
    refine sx_iconst dX0_loseWaiting_17 ?_
    exact sx_iret dX0_loseWaiting_18 rfl (by unfold ylwR; rw [if_pos c14]) (by unfold ylwM; rw [if_pos c14])
set_option maxHeartbeats 4000000 in
set_option maxRecDepth 100000 in
theorem ty_loseUnlessSummed {h0 : am_H} {u : Nat} (hu : u < 6) {M : am_M} (w : Int) (hW : WM M) (hk : YSr M w) (hwR : am_R w)  : Ct 2 Y0_loseUnlessSummed [.inr (u, 0), .inl w] (some (.inl (ylsR M w))) (am_U h0 u M) (am_U h0 u (ylsM M w)) := by
  refine Ct_of (by decide +kernel) (Nat.le_of_ble_eq_true rfl) ?_
  show Sx 2 Y0_loseUnlessSummed (am_U h0 u (ylsM M w)) (some (.inl (ylsR M w))) 0 [some (.inr (u, 0)), some (.inl w), none, none, none] [] (am_U h0 u M)
  refine mm_vh (fun hR => ?_)
  obtain ⟨w0, w2, w1, w5, w8, w12, wb⟩ := id hW
  refine sx_iload_n dX0_loseUnlessSummed_0 rfl ?_
  refine sx_iconst dX0_loseUnlessSummed_1 ?_
  refine sx_icmp_ne (tgt := 7) dX0_loseUnlessSummed_2 (by decide) (by first | omega | assumption | (with_reducible first | exact hR _ _ | exact rd_R hR _ _ | exact am_R_and _ _ | exact am_R_or _ _ | exact am_R_xor _ _ | exact am_R_shl _ _ | exact am_R_shr _ _ | exact bit_R _ _ | exact ybc_R _ | exact yrk_R _ _ _) | (exact ⟨by omega, by omega⟩) | exact hR _ _) ⟨by decide, by decide⟩ (fun c2 => ?_) (fun c2 => ?_)
  · -- 2t
    have hk2 : YK M w ∧ (ylsC M w = false → YW (yls1 M w) (rd M 12 w) (rd M 11 w)) := by
      rcases hk with hk | hk
      · exact absurd hk c2
      · exact ⟨hk.1, hk.2.1⟩
    obtain ⟨hkY, hyw⟩ := hk2
    have hw9 := hkY.1
    have hr9 := hkY.2.2
    have h12 := w12 w hw9.1 hw9.2
    refine sx_aload_n dX0_loseUnlessSummed_7 rfl ?_
    refine mm_getr (j := 12) hu dX0_loseUnlessSummed_8 fl_X0_45 (by decide) ?_
    refine sx_iload_n dX0_loseUnlessSummed_11 rfl ?_
    refine mm_ild (n := 24) hu dX0_loseUnlessSummed_12 (by decide) rfl (by decide) (by first | omega | assumption | (with_reducible first | exact hR _ _ | exact rd_R hR _ _ | exact am_R_and _ _ | exact am_R_or _ _ | exact am_R_xor _ _ | exact am_R_shl _ _ | exact am_R_shr _ _ | exact bit_R _ _ | exact ybc_R _ | exact yrk_R _ _ _) | (exact ⟨by omega, by omega⟩) | exact hR _ _) (by first | omega | assumption | (with_reducible first | exact hR _ _ | exact rd_R hR _ _ | exact am_R_and _ _ | exact am_R_or _ _ | exact am_R_xor _ _ | exact am_R_shl _ _ | exact am_R_shr _ _ | exact bit_R _ _ | exact ybc_R _ | exact yrk_R _ _ _) | (exact ⟨by omega, by omega⟩) | exact hR _ _) rfl (fun r12 => ?_)
    show Sx 2 Y0_loseUnlessSummed _ _ _ _ [.inl (rd M 12 w)] _
    refine sx_istore_n dX0_loseUnlessSummed_13 (by decide) ?_
    refine sx_aload_n dX0_loseUnlessSummed_14 rfl ?_
    refine mm_getr (j := 11) hu dX0_loseUnlessSummed_15 fl_X0_42 (by decide) ?_
    refine sx_iload_n dX0_loseUnlessSummed_18 rfl ?_
    refine mm_ild (n := 24) hu dX0_loseUnlessSummed_19 (by decide) rfl (by decide) (by first | omega | assumption | (with_reducible first | exact hR _ _ | exact rd_R hR _ _ | exact am_R_and _ _ | exact am_R_or _ _ | exact am_R_xor _ _ | exact am_R_shl _ _ | exact am_R_shr _ _ | exact bit_R _ _ | exact ybc_R _ | exact yrk_R _ _ _) | (exact ⟨by omega, by omega⟩) | exact hR _ _) (by first | omega | assumption | (with_reducible first | exact hR _ _ | exact rd_R hR _ _ | exact am_R_and _ _ | exact am_R_or _ _ | exact am_R_xor _ _ | exact am_R_shl _ _ | exact am_R_shr _ _ | exact bit_R _ _ | exact ybc_R _ | exact yrk_R _ _ _) | (exact ⟨by omega, by omega⟩) | exact hR _ _) rfl (fun r19 => ?_)
    show Sx 2 Y0_loseUnlessSummed _ _ _ _ [.inl (rd M 11 w)] _
    refine sx_istore_n dX0_loseUnlessSummed_20 (by decide) ?_
    refine sx_aload_n dX0_loseUnlessSummed_21 rfl ?_
    refine sx_iload_n dX0_loseUnlessSummed_22 rfl ?_
    refine sx_callVi dX0_loseUnlessSummed_23 ml_X0_104 mv0_guardedRows (ty_guardedRows hu _ hW h12.1) rfl (am_obM hu) rfl (Nat.le_of_ble_eq_true rfl) (Nat.le_of_ble_eq_true rfl) ?_
    refine sx_iload_n dX0_loseUnlessSummed_26 rfl ?_
    refine sx_ishr dX0_loseUnlessSummed_27 ?_
    refine sx_iconst dX0_loseUnlessSummed_28 ?_
    refine sx_iand dX0_loseUnlessSummed_29 ?_
    refine sx_iconst dX0_loseUnlessSummed_30 ?_
    show Sx 2 Y0_loseUnlessSummed _ _ _ _ [.inl 1, .inl (bit (ygd M (rd M 12 w)) (rd M 11 w))] _
    refine sx_icmp_ne (tgt := 38) dX0_loseUnlessSummed_31 (by decide) (by first | omega | assumption | (with_reducible first | exact hR _ _ | exact rd_R hR _ _ | exact am_R_and _ _ | exact am_R_or _ _ | exact am_R_xor _ _ | exact am_R_shl _ _ | exact am_R_shr _ _ | exact bit_R _ _ | exact ybc_R _ | exact yrk_R _ _ _) | (exact ⟨by omega, by omega⟩) | exact hR _ _) ⟨by decide, by decide⟩ (fun c31 => ?_) (fun c31 => ?_)
    · -- 31t
      refine sx_iconst dX0_loseUnlessSummed_38 ?_
      refine sx_istore dX0_loseUnlessSummed_39 (by decide) ?_
      refine sx_iload dX0_loseUnlessSummed_41 rfl ?_
      refine sx_if_eq (tgt := 63) dX0_loseUnlessSummed_43 (by decide) ⟨by decide, by decide⟩ (fun _ => ?_) (fun q => absurd q (by decide))
      have hC : ylsC M w = false := by
        unfold ylsC
        first
        | (rw [show (bit (ygd M (rd M 12 w)) (rd M 11 w) == 1) = false from beq_eq_false_iff_ne.mpr c31]; rfl)
        | (rw [show (rd M 6 (rd M 12 w * 6 + rd M 11 w) == -1) = false from beq_eq_false_iff_ne.mpr c58]; exact Bool.and_false _)
      refine sx_aload_n dX0_loseUnlessSummed_63 rfl ?_
      refine sx_iload_n dX0_loseUnlessSummed_64 rfl ?_
      refine sx_callVv dX0_loseUnlessSummed_65 ml_X0_138 mv0_takeFromChip (ty_takeFromChip hu _ hW hkY) rfl (am_obM hu) rfl (Nat.le_of_ble_eq_true rfl) (Nat.le_of_ble_eq_true rfl) ?_
      refine sx_aload_n dX0_loseUnlessSummed_68 rfl ?_
      refine mm_getr (j := 11) hu dX0_loseUnlessSummed_69 fl_X0_42 (by decide) ?_
      refine sx_iload_n dX0_loseUnlessSummed_72 rfl ?_
      refine sx_iconst dX0_loseUnlessSummed_73 ?_
      refine mm_ist (n := 24) hu dX0_loseUnlessSummed_74 (by decide) rfl (by decide) (by first | omega | assumption | (with_reducible first | exact hR _ _ | exact rd_R hR _ _ | exact am_R_and _ _ | exact am_R_or _ _ | exact am_R_xor _ _ | exact am_R_shl _ _ | exact am_R_shr _ _ | exact bit_R _ _ | exact ybc_R _ | exact yrk_R _ _ _) | (exact ⟨by omega, by omega⟩) | exact hR _ _) (by first | omega | assumption | (with_reducible first | exact hR _ _ | exact rd_R hR _ _ | exact am_R_and _ _ | exact am_R_or _ _ | exact am_R_xor _ _ | exact am_R_shl _ _ | exact am_R_shr _ _ | exact bit_R _ _ | exact ybc_R _ | exact yrk_R _ _ _) | (exact ⟨by omega, by omega⟩) | exact hR _ _) rfl ⟨by decide, by decide⟩ ?_
      refine sx_heq (am_U h0 u (yls1 M w)) rfl ?_
      refine sx_iconst dX0_loseUnlessSummed_75 ?_
      refine sx_aload_n dX0_loseUnlessSummed_76 rfl ?_
      refine sx_iload_n dX0_loseUnlessSummed_77 rfl ?_
      refine sx_iload_n dX0_loseUnlessSummed_78 rfl ?_
      refine sx_callVi dX0_loseUnlessSummed_79 ml_X0_110 mv0_loseWaiting (ty_loseWaiting hu _ _ (WM_ls1 hW hkY) h12.1 hr9 (hyw hC)) rfl (am_obM hu) rfl (Nat.le_of_ble_eq_true rfl) (Nat.le_of_ble_eq_true rfl) ?_
      refine sx_iadd dX0_loseUnlessSummed_82 ?_
      exact sx_iret dX0_loseUnlessSummed_83 rfl (by unfold ylsR; rw [if_neg c2]; first | rw [if_pos hC] | rw [if_neg (by rw [hC]; decide)]) (by unfold ylsM; rw [if_neg c2]; first | rw [if_pos hC] | rw [if_neg (by rw [hC]; decide)])
    · -- 31f
      refine sx_iconst dX0_loseUnlessSummed_34 ?_
      refine sx_goto (tgt := 39) dX0_loseUnlessSummed_35 (by decide) ?_
      refine sx_istore dX0_loseUnlessSummed_39 (by decide) ?_
      refine sx_iload dX0_loseUnlessSummed_41 rfl ?_
      refine sx_if_eq (tgt := 63) dX0_loseUnlessSummed_43 (by decide) ⟨by decide, by decide⟩ (fun q => absurd q (by decide)) (fun _ => ?_)
      refine sx_aload_n dX0_loseUnlessSummed_46 rfl ?_
      refine mm_getr (j := 6) hu dX0_loseUnlessSummed_47 fl_X0_27 (by decide) ?_
      refine sx_iload_n dX0_loseUnlessSummed_50 rfl ?_
      refine sx_bipush dX0_loseUnlessSummed_51 rfl ?_
      refine sx_imul dX0_loseUnlessSummed_53 ?_
      refine sx_iload_n dX0_loseUnlessSummed_54 rfl ?_
      refine sx_iadd dX0_loseUnlessSummed_55 ?_
      refine mm_ild (n := 18) hu dX0_loseUnlessSummed_56 (by decide) rfl (by decide) (by first | omega | assumption | (with_reducible first | exact hR _ _ | exact rd_R hR _ _ | exact am_R_and _ _ | exact am_R_or _ _ | exact am_R_xor _ _ | exact am_R_shl _ _ | exact am_R_shr _ _ | exact bit_R _ _ | exact ybc_R _ | exact yrk_R _ _ _) | (exact ⟨by omega, by omega⟩) | exact hR _ _) (by first | omega | assumption | (with_reducible first | exact hR _ _ | exact rd_R hR _ _ | exact am_R_and _ _ | exact am_R_or _ _ | exact am_R_xor _ _ | exact am_R_shl _ _ | exact am_R_shr _ _ | exact bit_R _ _ | exact ybc_R _ | exact yrk_R _ _ _) | (exact ⟨by omega, by omega⟩) | exact hR _ _) rfl (fun r56 => ?_)
      show Sx 2 Y0_loseUnlessSummed _ _ _ _ [.inl (rd M 6 (rd M 12 w * 6 + rd M 11 w))] _
      refine sx_iconst dX0_loseUnlessSummed_57 ?_
      refine sx_icmp_ne (tgt := 63) dX0_loseUnlessSummed_58 (by decide) (by first | omega | assumption | (with_reducible first | exact hR _ _ | exact rd_R hR _ _ | exact am_R_and _ _ | exact am_R_or _ _ | exact am_R_xor _ _ | exact am_R_shl _ _ | exact am_R_shr _ _ | exact bit_R _ _ | exact ybc_R _ | exact yrk_R _ _ _) | (exact ⟨by omega, by omega⟩) | exact hR _ _) ⟨by decide, by decide⟩ (fun c58 => ?_) (fun c58 => ?_)
      · -- 58t
        have hC : ylsC M w = false := by
          unfold ylsC
          first
          | (rw [show (bit (ygd M (rd M 12 w)) (rd M 11 w) == 1) = false from beq_eq_false_iff_ne.mpr c31]; rfl)
          | (rw [show (rd M 6 (rd M 12 w * 6 + rd M 11 w) == -1) = false from beq_eq_false_iff_ne.mpr c58]; exact Bool.and_false _)
        refine sx_aload_n dX0_loseUnlessSummed_63 rfl ?_
        refine sx_iload_n dX0_loseUnlessSummed_64 rfl ?_
        refine sx_callVv dX0_loseUnlessSummed_65 ml_X0_138 mv0_takeFromChip (ty_takeFromChip hu _ hW hkY) rfl (am_obM hu) rfl (Nat.le_of_ble_eq_true rfl) (Nat.le_of_ble_eq_true rfl) ?_
        refine sx_aload_n dX0_loseUnlessSummed_68 rfl ?_
        refine mm_getr (j := 11) hu dX0_loseUnlessSummed_69 fl_X0_42 (by decide) ?_
        refine sx_iload_n dX0_loseUnlessSummed_72 rfl ?_
        refine sx_iconst dX0_loseUnlessSummed_73 ?_
        refine mm_ist (n := 24) hu dX0_loseUnlessSummed_74 (by decide) rfl (by decide) (by first | omega | assumption | (with_reducible first | exact hR _ _ | exact rd_R hR _ _ | exact am_R_and _ _ | exact am_R_or _ _ | exact am_R_xor _ _ | exact am_R_shl _ _ | exact am_R_shr _ _ | exact bit_R _ _ | exact ybc_R _ | exact yrk_R _ _ _) | (exact ⟨by omega, by omega⟩) | exact hR _ _) (by first | omega | assumption | (with_reducible first | exact hR _ _ | exact rd_R hR _ _ | exact am_R_and _ _ | exact am_R_or _ _ | exact am_R_xor _ _ | exact am_R_shl _ _ | exact am_R_shr _ _ | exact bit_R _ _ | exact ybc_R _ | exact yrk_R _ _ _) | (exact ⟨by omega, by omega⟩) | exact hR _ _) rfl ⟨by decide, by decide⟩ ?_
        refine sx_heq (am_U h0 u (yls1 M w)) rfl ?_
        refine sx_iconst dX0_loseUnlessSummed_75 ?_
        refine sx_aload_n dX0_loseUnlessSummed_76 rfl ?_
        refine sx_iload_n dX0_loseUnlessSummed_77 rfl ?_
        refine sx_iload_n dX0_loseUnlessSummed_78 rfl ?_
        refine sx_callVi dX0_loseUnlessSummed_79 ml_X0_110 mv0_loseWaiting (ty_loseWaiting hu _ _ (WM_ls1 hW hkY) h12.1 hr9 (hyw hC)) rfl (am_obM hu) rfl (Nat.le_of_ble_eq_true rfl) (Nat.le_of_ble_eq_true rfl) ?_
        refine sx_iadd dX0_loseUnlessSummed_82 ?_
        exact sx_iret dX0_loseUnlessSummed_83 rfl (by unfold ylsR; rw [if_neg c2]; first | rw [if_pos hC] | rw [if_neg (by rw [hC]; decide)]) (by unfold ylsM; rw [if_neg c2]; first | rw [if_pos hC] | rw [if_neg (by rw [hC]; decide)])
      · -- 58f
        have hC : ylsC M w = true := by
          unfold ylsC
          rw [show (bit (ygd M (rd M 12 w)) (rd M 11 w) == 1) = true from beq_iff_eq.mpr c31, show (rd M 6 (rd M 12 w * 6 + rd M 11 w) == -1) = true from beq_iff_eq.mpr c58]; rfl
        refine sx_iconst dX0_loseUnlessSummed_61 ?_
        exact sx_iret dX0_loseUnlessSummed_62 rfl (by unfold ylsR; rw [if_neg c2]; first | rw [if_pos hC] | rw [if_neg (by rw [hC]; decide)]) (by unfold ylsM; rw [if_neg c2]; first | rw [if_pos hC] | rw [if_neg (by rw [hC]; decide)])
  · -- 2f
    refine sx_iconst dX0_loseUnlessSummed_5 ?_
    exact sx_iret dX0_loseUnlessSummed_6 rfl (by unfold ylsR; rw [if_pos c2]) (by unfold ylsM; rw [if_pos c2])
