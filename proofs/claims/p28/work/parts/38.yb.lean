set_option maxHeartbeats 4000000 in
set_option maxRecDepth 100000 in
theorem ty_aheadOf {h0 : am_H} {u : Nat} (hu : u < 6) {M : am_M} (w : Int) (hW : WM M) (hw : 0 ≤ w ∧ w < 24) (hwR : am_R w)  : Ct 0 Y0_aheadOf [.inr (u, 0), .inl w] (some (.inl (yah M w))) (am_U h0 u M) (am_U h0 u M) := by
  refine Ct_of (by decide +kernel) (Nat.le_of_ble_eq_true rfl) ?_
  show Sx 0 Y0_aheadOf (am_U h0 u M) (some (.inl (yah M w))) 0 [some (.inr (u, 0)), some (.inl w), none, none] [] (am_U h0 u M)
  refine mm_vh (fun hR => ?_)
  obtain ⟨w0, w2, w1, w5, w8, w12, wb⟩ := id hW
  refine sx_aload_n dX0_aheadOf_0 rfl ?_
  refine mm_getr (j := 12) hu dX0_aheadOf_1 fl_X0_45 (by decide) ?_
  refine sx_iload_n dX0_aheadOf_4 rfl ?_
  refine mm_ild (n := 24) hu dX0_aheadOf_5 (by decide) rfl (by decide) (by first | omega | assumption | (with_reducible first | exact hR _ _ | exact rd_R hR _ _ | exact am_R_and _ _ | exact am_R_or _ _ | exact am_R_xor _ _ | exact am_R_shl _ _ | exact am_R_shr _ _ | exact bit_R _ _ | exact ybc_R _ | exact yrk_R _ _ _) | (exact ⟨by omega, by omega⟩) | exact hR _ _) (by first | omega | assumption | (with_reducible first | exact hR _ _ | exact rd_R hR _ _ | exact am_R_and _ _ | exact am_R_or _ _ | exact am_R_xor _ _ | exact am_R_shl _ _ | exact am_R_shr _ _ | exact bit_R _ _ | exact ybc_R _ | exact yrk_R _ _ _) | (exact ⟨by omega, by omega⟩) | exact hR _ _) rfl (fun r5 => ?_)
  show Sx 0 Y0_aheadOf _ _ _ _ [.inl (rd M 12 w)] _
  have h12 := w12 w hw.1 hw.2
  have h8 := w8 _ h12.1.1 h12.1.2
  refine sx_istore_n dX0_aheadOf_6 (by decide) ?_
  refine sx_iconst dX0_aheadOf_7 ?_
  refine sx_istore_n dX0_aheadOf_8 (by decide) ?_
  have loop9 : ∀ (n : Nat) (a : Nat), (rd M 8 (rd M 12 w) - a).toNat = n → (a : Int) ≤ rd M 8 (rd M 12 w) → yah M w = fstW (fun i => rd M 7 (rd M 12 w * 6 + i) == w) a ((rd M 8 (rd M 12 w)).toNat - a) → Sx 0 Y0_aheadOf (am_U h0 u M) (some (.inl (yah M w))) 9 [some (.inr (u, 0)), some (.inl w), some (.inl (rd M 12 w)), some (.inl (a : Int))] [] (am_U h0 u M) := by
    intro n
    induction n using Nat.strongRecOn with
    | _ n ih9 =>
      intro a hn hle hq
      refine sx_iload_n dX0_aheadOf_9 rfl ?_
      refine sx_aload_n dX0_aheadOf_10 rfl ?_
      refine mm_getr (j := 8) hu dX0_aheadOf_11 fl_X0_33 (by decide) ?_
      refine sx_iload_n dX0_aheadOf_14 rfl ?_
      refine mm_ild (n := 3) hu dX0_aheadOf_15 (by decide) rfl (by decide) (by first | omega | assumption | (with_reducible first | exact hR _ _ | exact rd_R hR _ _ | exact am_R_and _ _ | exact am_R_or _ _ | exact am_R_xor _ _ | exact am_R_shl _ _ | exact am_R_shr _ _ | exact bit_R _ _ | exact ybc_R _ | exact yrk_R _ _ _) | (exact ⟨by omega, by omega⟩) | exact hR _ _) (by first | omega | assumption | (with_reducible first | exact hR _ _ | exact rd_R hR _ _ | exact am_R_and _ _ | exact am_R_or _ _ | exact am_R_xor _ _ | exact am_R_shl _ _ | exact am_R_shr _ _ | exact bit_R _ _ | exact ybc_R _ | exact yrk_R _ _ _) | (exact ⟨by omega, by omega⟩) | exact hR _ _) rfl (fun r15 => ?_)
      show Sx 0 Y0_aheadOf _ _ _ _ [.inl (rd M 8 (rd M 12 w)), .inl (a : Int)] _
      refine sx_icmp_ge (tgt := 40) dX0_aheadOf_16 (by decide) (by first | omega | assumption | (with_reducible first | exact hR _ _ | exact rd_R hR _ _ | exact am_R_and _ _ | exact am_R_or _ _ | exact am_R_xor _ _ | exact am_R_shl _ _ | exact am_R_shr _ _ | exact bit_R _ _ | exact ybc_R _ | exact yrk_R _ _ _) | (exact ⟨by omega, by omega⟩) | exact hR _ _) (by first | omega | assumption | (with_reducible first | exact hR _ _ | exact rd_R hR _ _ | exact am_R_and _ _ | exact am_R_or _ _ | exact am_R_xor _ _ | exact am_R_shl _ _ | exact am_R_shr _ _ | exact bit_R _ _ | exact ybc_R _ | exact yrk_R _ _ _) | (exact ⟨by omega, by omega⟩) | exact hR _ _) (fun c16 => ?_) (fun c16 => ?_)
      · -- 16t
        refine sx_iload_n dX0_aheadOf_40 rfl ?_
        exact sx_iret dX0_aheadOf_41 rfl (by rw [hq]; first | (rw [show (rd M 8 (rd M 12 w)).toNat - a = ((rd M 8 (rd M 12 w)).toNat - (a + 1)) + 1 by omega]; simp only [fstW]; rw [if_pos (beq_iff_eq.mpr (show rd M 7 (rd M 12 w * 6 + a) = w from c31))]; done) | (rw [show (rd M 8 (rd M 12 w)).toNat - a = 0 by omega]; rfl)) rfl
      · -- 16f
        refine sx_aload_n dX0_aheadOf_19 rfl ?_
        refine mm_getr (j := 7) hu dX0_aheadOf_20 fl_X0_30 (by decide) ?_
        refine sx_iload_n dX0_aheadOf_23 rfl ?_
        refine sx_bipush dX0_aheadOf_24 rfl ?_
        refine sx_imul dX0_aheadOf_26 ?_
        refine sx_iload_n dX0_aheadOf_27 rfl ?_
        refine sx_iadd dX0_aheadOf_28 ?_
        refine mm_ild (n := 18) hu dX0_aheadOf_29 (by decide) rfl (by decide) (by first | omega | assumption | (with_reducible first | exact hR _ _ | exact rd_R hR _ _ | exact am_R_and _ _ | exact am_R_or _ _ | exact am_R_xor _ _ | exact am_R_shl _ _ | exact am_R_shr _ _ | exact bit_R _ _ | exact ybc_R _ | exact yrk_R _ _ _) | (exact ⟨by omega, by omega⟩) | exact hR _ _) (by first | omega | assumption | (with_reducible first | exact hR _ _ | exact rd_R hR _ _ | exact am_R_and _ _ | exact am_R_or _ _ | exact am_R_xor _ _ | exact am_R_shl _ _ | exact am_R_shr _ _ | exact bit_R _ _ | exact ybc_R _ | exact yrk_R _ _ _) | (exact ⟨by omega, by omega⟩) | exact hR _ _) rfl (fun r29 => ?_)
        refine sx_iload_n dX0_aheadOf_30 rfl ?_
        refine sx_icmp_eq (tgt := 40) dX0_aheadOf_31 (by decide) (by first | omega | assumption | (with_reducible first | exact hR _ _ | exact rd_R hR _ _ | exact am_R_and _ _ | exact am_R_or _ _ | exact am_R_xor _ _ | exact am_R_shl _ _ | exact am_R_shr _ _ | exact bit_R _ _ | exact ybc_R _ | exact yrk_R _ _ _) | (exact ⟨by omega, by omega⟩) | exact hR _ _) (by first | omega | assumption | (with_reducible first | exact hR _ _ | exact rd_R hR _ _ | exact am_R_and _ _ | exact am_R_or _ _ | exact am_R_xor _ _ | exact am_R_shl _ _ | exact am_R_shr _ _ | exact bit_R _ _ | exact ybc_R _ | exact yrk_R _ _ _) | (exact ⟨by omega, by omega⟩) | exact hR _ _) (fun c31 => ?_) (fun c31 => ?_)
        · -- 31t
          refine sx_iload_n dX0_aheadOf_40 rfl ?_
          exact sx_iret dX0_aheadOf_41 rfl (by rw [hq]; first | (rw [show (rd M 8 (rd M 12 w)).toNat - a = ((rd M 8 (rd M 12 w)).toNat - (a + 1)) + 1 by omega]; simp only [fstW]; rw [if_pos (beq_iff_eq.mpr (show rd M 7 (rd M 12 w * 6 + a) = w from c31))]; done) | (rw [show (rd M 8 (rd M 12 w)).toNat - a = 0 by omega]; rfl)) rfl
        · -- 31f
          refine sx_iinc dX0_aheadOf_34 rfl (by decide) ?_
          refine sx_goto (tgt := 9) dX0_aheadOf_37 (by decide) ?_
          exact ih9 _ (by omega) (a + 1) rfl (by omega) (by rw [hq, show (rd M 8 (rd M 12 w)).toNat - a = ((rd M 8 (rd M 12 w)).toNat - (a + 1)) + 1 by omega]; simp only [fstW]; rw [if_neg (by rw [beq_iff_eq]; exact c31)])
  exact loop9 _ 0 rfl (by omega) rfl
set_option maxHeartbeats 4000000 in
set_option maxRecDepth 100000 in
theorem ty_chipFor {h0 : am_H} {u : Nat} (hu : u < 6) {M : am_M} (f lo : Int) (hW : WM M) (hfR : am_R f) (hlo : am_R lo)  : Ct 1 Y0_chipFor [.inr (u, 0), .inl f, .inl lo] (some (.inl (ychf M f lo))) (am_U h0 u M) (am_U h0 u M) := by
  refine Ct_of (by decide +kernel) (Nat.le_of_ble_eq_true rfl) ?_
  show Sx 1 Y0_chipFor (am_U h0 u M) (some (.inl (ychf M f lo))) 0 [some (.inr (u, 0)), some (.inl f), some (.inl lo), none, none, none, none] [] (am_U h0 u M)
  refine mm_vh (fun hR => ?_)
  obtain ⟨w0, w2, w1, w5, w8, w12, wb⟩ := id hW
  refine sx_iconst dX0_chipFor_0 ?_
  refine sx_istore_n dX0_chipFor_1 (by decide) ?_
  refine sx_iconst dX0_chipFor_2 ?_
  refine sx_istore dX0_chipFor_3 (by decide) ?_
  refine sx_iconst dX0_chipFor_5 ?_
  refine sx_istore dX0_chipFor_6 (by decide) ?_
  have loop8 : ∀ (n : Nat) (g rk : Int) (c : Nat), (M 0 0 - c).toNat = n → (c : Int) ≤ M 0 0 → ybest M f lo c = (g, rk) → Sx 1 Y0_chipFor (am_U h0 u M) (some (.inl (ychf M f lo))) 8 [some (.inr (u, 0)), some (.inl f), some (.inl lo), some (.inl g), some (.inl rk), some (.inl (c : Int)), none] [] (am_U h0 u M) := by
    intro n
    induction n using Nat.strongRecOn with
    | _ n ih8 =>
      intro g rk c hn hle hq
      have hbb := ybest_b M f lo c
      rw [hq] at hbb
      replace hbb : (-1 ≤ g ∧ g < c) ∧ 0 ≤ rk ∧ rk ≤ 69 := hbb
      have hyb := ybc_b (yps M c)
      refine sx_iload dX0_chipFor_8 rfl ?_
      refine sx_aload_n dX0_chipFor_10 rfl ?_
      refine mm_geti hu dX0_chipFor_11 fl_X0_57 (by decide) (fun r11 => ?_)
      refine sx_icmp_ge (tgt := 73) dX0_chipFor_14 (by decide) (by first | omega | assumption | (with_reducible first | exact hR _ _ | exact rd_R hR _ _ | exact am_R_and _ _ | exact am_R_or _ _ | exact am_R_xor _ _ | exact am_R_shl _ _ | exact am_R_shr _ _ | exact bit_R _ _ | exact ybc_R _ | exact yrk_R _ _ _) | (exact ⟨by omega, by omega⟩) | exact hR _ _) (by first | omega | assumption | (with_reducible first | exact hR _ _ | exact rd_R hR _ _ | exact am_R_and _ _ | exact am_R_or _ _ | exact am_R_xor _ _ | exact am_R_shl _ _ | exact am_R_shr _ _ | exact bit_R _ _ | exact ybc_R _ | exact yrk_R _ _ _) | (exact ⟨by omega, by omega⟩) | exact hR _ _) (fun c14 => ?_) (fun c14 => ?_)
      · -- 14t
        refine sx_iload_n dX0_chipFor_73 rfl ?_
        exact sx_iret dX0_chipFor_74 rfl (by unfold ychf; rw [show (M 0 0).toNat = c by omega, hq]) rfl
      · -- 14f
        refine sx_aload_n dX0_chipFor_17 rfl ?_
        refine sx_iload dX0_chipFor_18 rfl ?_
        refine sx_callVi dX0_chipFor_20 ml_X0_83 mv0_placeSet (ty_placeSet hu _ hW (by omega)) rfl (am_obM hu) rfl (Nat.le_of_ble_eq_true rfl) (Nat.le_of_ble_eq_true rfl) ?_
        refine sx_callSi dX0_chipFor_23 ml_X0_87 ms6_bitCount (ty_bitCount _) rfl rfl (Nat.le_of_ble_eq_true rfl) (Nat.le_of_ble_eq_true rfl) ?_
        refine sx_istore dX0_chipFor_26 (by decide) ?_
        refine sx_iload dX0_chipFor_28 rfl ?_
        refine sx_if_le (tgt := 47) dX0_chipFor_30 (by decide) (by first | omega | assumption | (with_reducible first | exact hR _ _ | exact rd_R hR _ _ | exact am_R_and _ _ | exact am_R_or _ _ | exact am_R_xor _ _ | exact am_R_shl _ _ | exact am_R_shr _ _ | exact bit_R _ _ | exact ybc_R _ | exact yrk_R _ _ _) | (exact ⟨by omega, by omega⟩) | exact hR _ _) (fun c30 => ?_) (fun c30 => ?_)
        · -- 30t
          refine sx_iload dX0_chipFor_47 rfl ?_
          refine sx_iload dX0_chipFor_49 rfl ?_
          refine sx_icmp_le (tgt := 67) dX0_chipFor_51 (by decide) (by first | omega | assumption | (with_reducible first | exact hR _ _ | exact rd_R hR _ _ | exact am_R_and _ _ | exact am_R_or _ _ | exact am_R_xor _ _ | exact am_R_shl _ _ | exact am_R_shr _ _ | exact bit_R _ _ | exact ybc_R _ | exact yrk_R _ _ _) | (exact ⟨by omega, by omega⟩) | exact hR _ _) (by first | omega | assumption | (with_reducible first | exact hR _ _ | exact rd_R hR _ _ | exact am_R_and _ _ | exact am_R_or _ _ | exact am_R_xor _ _ | exact am_R_shl _ _ | exact am_R_shr _ _ | exact bit_R _ _ | exact ybc_R _ | exact yrk_R _ _ _) | (exact ⟨by omega, by omega⟩) | exact hR _ _) (fun c51 => ?_) (fun c51 => ?_)
          · -- 51t
            refine sx_iinc dX0_chipFor_67 rfl (by decide) ?_
            refine sx_goto (tgt := 8) dX0_chipFor_70 (by decide) ?_
            have ek : yrk M f c = ybc (yps M c) := if_pos c30
            exact sx_forget 6 (ih8 _ (by omega) _ _ (c + 1) rfl (by omega) (by simp only [ybest, hq]; rw [if_pos (by rw [ek]; exact c51)]))
          · -- 51f
            refine sx_iload dX0_chipFor_54 rfl ?_
            refine sx_iload_n dX0_chipFor_56 rfl ?_
            refine sx_icmp_eq (tgt := 67) dX0_chipFor_57 (by decide) (by first | omega | assumption | (with_reducible first | exact hR _ _ | exact rd_R hR _ _ | exact am_R_and _ _ | exact am_R_or _ _ | exact am_R_xor _ _ | exact am_R_shl _ _ | exact am_R_shr _ _ | exact bit_R _ _ | exact ybc_R _ | exact yrk_R _ _ _) | (exact ⟨by omega, by omega⟩) | exact hR _ _) (by first | omega | assumption | (with_reducible first | exact hR _ _ | exact rd_R hR _ _ | exact am_R_and _ _ | exact am_R_or _ _ | exact am_R_xor _ _ | exact am_R_shl _ _ | exact am_R_shr _ _ | exact bit_R _ _ | exact ybc_R _ | exact yrk_R _ _ _) | (exact ⟨by omega, by omega⟩) | exact hR _ _) (fun c57 => ?_) (fun c57 => ?_)
            · -- 57t
              refine sx_iinc dX0_chipFor_67 rfl (by decide) ?_
              refine sx_goto (tgt := 8) dX0_chipFor_70 (by decide) ?_
              have ek : yrk M f c = ybc (yps M c) := if_pos c30
              exact sx_forget 6 (ih8 _ (by omega) _ _ (c + 1) rfl (by omega) (by simp only [ybest, hq]; rw [if_neg (by rw [ek]; omega), if_pos c57]))
            · -- 57f
              refine sx_iload dX0_chipFor_60 rfl ?_
              refine sx_istore_n dX0_chipFor_62 (by decide) ?_
              refine sx_iload dX0_chipFor_63 rfl ?_
              refine sx_istore dX0_chipFor_65 (by decide) ?_
              refine sx_iinc dX0_chipFor_67 rfl (by decide) ?_
              refine sx_goto (tgt := 8) dX0_chipFor_70 (by decide) ?_
              have ek : yrk M f c = ybc (yps M c) := if_pos c30
              exact sx_forget 6 (ih8 _ (by omega) _ _ (c + 1) rfl (by omega) (by simp only [ybest, hq]; rw [if_neg (by rw [ek]; omega), if_neg c57]; rw [ek]))
        · -- 30f
          refine sx_aload_n dX0_chipFor_33 rfl ?_
          refine mm_getr (j := 1) hu dX0_chipFor_34 fl_X0_9 (by decide) ?_
          refine sx_iload dX0_chipFor_37 rfl ?_
          refine mm_ild (n := 8) hu dX0_chipFor_39 (by decide) rfl (by decide) (by first | omega | assumption | (with_reducible first | exact hR _ _ | exact rd_R hR _ _ | exact am_R_and _ _ | exact am_R_or _ _ | exact am_R_xor _ _ | exact am_R_shl _ _ | exact am_R_shr _ _ | exact bit_R _ _ | exact ybc_R _ | exact yrk_R _ _ _) | (exact ⟨by omega, by omega⟩) | exact hR _ _) (by first | omega | assumption | (with_reducible first | exact hR _ _ | exact rd_R hR _ _ | exact am_R_and _ _ | exact am_R_or _ _ | exact am_R_xor _ _ | exact am_R_shl _ _ | exact am_R_shr _ _ | exact bit_R _ _ | exact ybc_R _ | exact yrk_R _ _ _) | (exact ⟨by omega, by omega⟩) | exact hR _ _) rfl (fun r39 => ?_)
          refine sx_iload_n dX0_chipFor_40 rfl ?_
          refine sx_icmp_ne (tgt := 47) dX0_chipFor_41 (by decide) (by first | omega | assumption | (with_reducible first | exact hR _ _ | exact rd_R hR _ _ | exact am_R_and _ _ | exact am_R_or _ _ | exact am_R_xor _ _ | exact am_R_shl _ _ | exact am_R_shr _ _ | exact bit_R _ _ | exact ybc_R _ | exact yrk_R _ _ _) | (exact ⟨by omega, by omega⟩) | exact hR _ _) (by first | omega | assumption | (with_reducible first | exact hR _ _ | exact rd_R hR _ _ | exact am_R_and _ _ | exact am_R_or _ _ | exact am_R_xor _ _ | exact am_R_shl _ _ | exact am_R_shr _ _ | exact bit_R _ _ | exact ybc_R _ | exact yrk_R _ _ _) | (exact ⟨by omega, by omega⟩) | exact hR _ _) (fun c41 => ?_) (fun c41 => ?_)
          · -- 41t
            refine sx_iload dX0_chipFor_47 rfl ?_
            refine sx_iload dX0_chipFor_49 rfl ?_
            refine sx_icmp_le (tgt := 67) dX0_chipFor_51 (by decide) (by first | omega | assumption | (with_reducible first | exact hR _ _ | exact rd_R hR _ _ | exact am_R_and _ _ | exact am_R_or _ _ | exact am_R_xor _ _ | exact am_R_shl _ _ | exact am_R_shr _ _ | exact bit_R _ _ | exact ybc_R _ | exact yrk_R _ _ _) | (exact ⟨by omega, by omega⟩) | exact hR _ _) (by first | omega | assumption | (with_reducible first | exact hR _ _ | exact rd_R hR _ _ | exact am_R_and _ _ | exact am_R_or _ _ | exact am_R_xor _ _ | exact am_R_shl _ _ | exact am_R_shr _ _ | exact bit_R _ _ | exact ybc_R _ | exact yrk_R _ _ _) | (exact ⟨by omega, by omega⟩) | exact hR _ _) (fun c51 => ?_) (fun c51 => ?_)
            · -- 51t
              refine sx_iinc dX0_chipFor_67 rfl (by decide) ?_
              refine sx_goto (tgt := 8) dX0_chipFor_70 (by decide) ?_
              have ek : yrk M f c = ybc (yps M c) := by unfold yrk; rw [if_neg (Int.not_le.mpr c30), if_neg (show ¬ rd M 1 c = f from c41)]
              exact sx_forget 6 (ih8 _ (by omega) _ _ (c + 1) rfl (by omega) (by simp only [ybest, hq]; rw [if_pos (by rw [ek]; exact c51)]))
            · -- 51f
              refine sx_iload dX0_chipFor_54 rfl ?_
              refine sx_iload_n dX0_chipFor_56 rfl ?_
              refine sx_icmp_eq (tgt := 67) dX0_chipFor_57 (by decide) (by first | omega | assumption | (with_reducible first | exact hR _ _ | exact rd_R hR _ _ | exact am_R_and _ _ | exact am_R_or _ _ | exact am_R_xor _ _ | exact am_R_shl _ _ | exact am_R_shr _ _ | exact bit_R _ _ | exact ybc_R _ | exact yrk_R _ _ _) | (exact ⟨by omega, by omega⟩) | exact hR _ _) (by first | omega | assumption | (with_reducible first | exact hR _ _ | exact rd_R hR _ _ | exact am_R_and _ _ | exact am_R_or _ _ | exact am_R_xor _ _ | exact am_R_shl _ _ | exact am_R_shr _ _ | exact bit_R _ _ | exact ybc_R _ | exact yrk_R _ _ _) | (exact ⟨by omega, by omega⟩) | exact hR _ _) (fun c57 => ?_) (fun c57 => ?_)
              · -- 57t
                refine sx_iinc dX0_chipFor_67 rfl (by decide) ?_
                refine sx_goto (tgt := 8) dX0_chipFor_70 (by decide) ?_
                have ek : yrk M f c = ybc (yps M c) := by unfold yrk; rw [if_neg (Int.not_le.mpr c30), if_neg (show ¬ rd M 1 c = f from c41)]
                exact sx_forget 6 (ih8 _ (by omega) _ _ (c + 1) rfl (by omega) (by simp only [ybest, hq]; rw [if_neg (by rw [ek]; omega), if_pos c57]))
              · -- 57f
                refine sx_iload dX0_chipFor_60 rfl ?_
                refine sx_istore_n dX0_chipFor_62 (by decide) ?_
                refine sx_iload dX0_chipFor_63 rfl ?_
                refine sx_istore dX0_chipFor_65 (by decide) ?_
                refine sx_iinc dX0_chipFor_67 rfl (by decide) ?_
                refine sx_goto (tgt := 8) dX0_chipFor_70 (by decide) ?_
                have ek : yrk M f c = ybc (yps M c) := by unfold yrk; rw [if_neg (Int.not_le.mpr c30), if_neg (show ¬ rd M 1 c = f from c41)]
                exact sx_forget 6 (ih8 _ (by omega) _ _ (c + 1) rfl (by omega) (by simp only [ybest, hq]; rw [if_neg (by rw [ek]; omega), if_neg c57]; rw [ek]))
          · -- 41f
            refine sx_iinc dX0_chipFor_44 rfl (by decide) ?_
            refine sx_iload dX0_chipFor_47 rfl ?_
            refine sx_iload dX0_chipFor_49 rfl ?_
            refine sx_icmp_le (tgt := 67) dX0_chipFor_51 (by decide) (by first | omega | assumption | (with_reducible first | exact hR _ _ | exact rd_R hR _ _ | exact am_R_and _ _ | exact am_R_or _ _ | exact am_R_xor _ _ | exact am_R_shl _ _ | exact am_R_shr _ _ | exact bit_R _ _ | exact ybc_R _ | exact yrk_R _ _ _) | (exact ⟨by omega, by omega⟩) | exact hR _ _) (by first | omega | assumption | (with_reducible first | exact hR _ _ | exact rd_R hR _ _ | exact am_R_and _ _ | exact am_R_or _ _ | exact am_R_xor _ _ | exact am_R_shl _ _ | exact am_R_shr _ _ | exact bit_R _ _ | exact ybc_R _ | exact yrk_R _ _ _) | (exact ⟨by omega, by omega⟩) | exact hR _ _) (fun c51 => ?_) (fun c51 => ?_)
            · -- 51t
              refine sx_iinc dX0_chipFor_67 rfl (by decide) ?_
              refine sx_goto (tgt := 8) dX0_chipFor_70 (by decide) ?_
              have ek : yrk M f c = ybc (yps M c) + 6 := by unfold yrk; rw [if_neg (Int.not_le.mpr c30), if_pos (show rd M 1 c = f from c41)]
              exact sx_forget 6 (ih8 _ (by omega) _ _ (c + 1) rfl (by omega) (by simp only [ybest, hq]; rw [if_pos (by rw [ek]; exact c51)]))
            · -- 51f
              refine sx_iload dX0_chipFor_54 rfl ?_
              refine sx_iload_n dX0_chipFor_56 rfl ?_
              refine sx_icmp_eq (tgt := 67) dX0_chipFor_57 (by decide) (by first | omega | assumption | (with_reducible first | exact hR _ _ | exact rd_R hR _ _ | exact am_R_and _ _ | exact am_R_or _ _ | exact am_R_xor _ _ | exact am_R_shl _ _ | exact am_R_shr _ _ | exact bit_R _ _ | exact ybc_R _ | exact yrk_R _ _ _) | (exact ⟨by omega, by omega⟩) | exact hR _ _) (by first | omega | assumption | (with_reducible first | exact hR _ _ | exact rd_R hR _ _ | exact am_R_and _ _ | exact am_R_or _ _ | exact am_R_xor _ _ | exact am_R_shl _ _ | exact am_R_shr _ _ | exact bit_R _ _ | exact ybc_R _ | exact yrk_R _ _ _) | (exact ⟨by omega, by omega⟩) | exact hR _ _) (fun c57 => ?_) (fun c57 => ?_)
              · -- 57t
                refine sx_iinc dX0_chipFor_67 rfl (by decide) ?_
                refine sx_goto (tgt := 8) dX0_chipFor_70 (by decide) ?_
                have ek : yrk M f c = ybc (yps M c) + 6 := by unfold yrk; rw [if_neg (Int.not_le.mpr c30), if_pos (show rd M 1 c = f from c41)]
                exact sx_forget 6 (ih8 _ (by omega) _ _ (c + 1) rfl (by omega) (by simp only [ybest, hq]; rw [if_neg (by rw [ek]; omega), if_pos c57]))
              · -- 57f
                refine sx_iload dX0_chipFor_60 rfl ?_
                refine sx_istore_n dX0_chipFor_62 (by decide) ?_
                refine sx_iload dX0_chipFor_63 rfl ?_
                refine sx_istore dX0_chipFor_65 (by decide) ?_
                refine sx_iinc dX0_chipFor_67 rfl (by decide) ?_
                refine sx_goto (tgt := 8) dX0_chipFor_70 (by decide) ?_
                have ek : yrk M f c = ybc (yps M c) + 6 := by unfold yrk; rw [if_neg (Int.not_le.mpr c30), if_pos (show rd M 1 c = f from c41)]
                exact sx_forget 6 (ih8 _ (by omega) _ _ (c + 1) rfl (by omega) (by simp only [ybest, hq]; rw [if_neg (by rw [ek]; omega), if_neg c57]; rw [ek]))
  exact sx_forget 6 (loop8 _ _ _ 0 rfl (by omega) rfl)
set_option maxHeartbeats 4000000 in
set_option maxRecDepth 100000 in
theorem ty_keepAtLowest {h0 : am_H} {u : Nat} (hu : u < 6) {M : am_M} (w c : Int) (hW : WM M) (hw : 0 ≤ w ∧ w < 24) (hc : 0 ≤ c ∧ c < 8) (hwR : am_R w) (hcR : am_R c)  : Ct 1 Y0_keepAtLowest [.inr (u, 0), .inl w, .inl c] none (am_U h0 u M) (am_U h0 u (ykal M w c)) := by
  refine Ct_of (by decide +kernel) (Nat.le_of_ble_eq_true rfl) ?_
  show Sx 1 Y0_keepAtLowest (am_U h0 u (ykal M w c)) none 0 [some (.inr (u, 0)), some (.inl w), some (.inl c), none, none] [] (am_U h0 u M)
  refine mm_vh (fun hR => ?_)
  obtain ⟨w0, w2, w1, w5, w8, w12, wb⟩ := id hW
  refine sx_aload_n dX0_keepAtLowest_0 rfl ?_
  refine sx_iload_n dX0_keepAtLowest_1 rfl ?_
  refine sx_callVi dX0_keepAtLowest_2 ml_X0_83 mv0_placeSet (ty_placeSet hu _ hW hc) rfl (am_obM hu) rfl (Nat.le_of_ble_eq_true rfl) (Nat.le_of_ble_eq_true rfl) ?_
  refine sx_istore_n dX0_keepAtLowest_5 (by decide) ?_
  refine sx_iconst dX0_keepAtLowest_6 ?_
  refine sx_istore dX0_keepAtLowest_7 (by decide) ?_
  have loop9 : ∀ (n : Nat) (r : Nat), (6 - r) = n → r ≤ 6 → ylow M c = fstW (fun r => bit (yps M c) r == 1) r (6 - r) → Sx 1 Y0_keepAtLowest (am_U h0 u (ykal M w c)) none 9 [some (.inr (u, 0)), some (.inl w), some (.inl c), some (.inl (yps M c)), some (.inl (r : Int))] [] (am_U h0 u M) := by
    intro n
    induction n using Nat.strongRecOn with
    | _ n ih9 =>
      intro r hn hle hq
      refine sx_iload dX0_keepAtLowest_9 rfl ?_
      refine sx_bipush dX0_keepAtLowest_11 rfl ?_
      refine sx_icmp_ge (tgt := 73) dX0_keepAtLowest_13 (by decide) (by first | omega | assumption | (with_reducible first | exact hR _ _ | exact rd_R hR _ _ | exact am_R_and _ _ | exact am_R_or _ _ | exact am_R_xor _ _ | exact am_R_shl _ _ | exact am_R_shr _ _ | exact bit_R _ _ | exact ybc_R _ | exact yrk_R _ _ _) | (exact ⟨by omega, by omega⟩) | exact hR _ _) ⟨by decide, by decide⟩ (fun c13 => ?_) (fun c13 => ?_)
      · -- 13t
        exact sx_vret dX0_keepAtLowest_73 rfl rfl (by have h6 : r = 6 := (by omega); subst h6; unfold ykal; rw [if_neg (by rw [hq]; simp [fstW])])
      · -- 13f
        refine sx_iload_n dX0_keepAtLowest_16 rfl ?_
        refine sx_iload dX0_keepAtLowest_17 rfl ?_
        refine sx_ishr dX0_keepAtLowest_19 ?_
        refine sx_iconst dX0_keepAtLowest_20 ?_
        refine sx_iand dX0_keepAtLowest_21 ?_
        refine sx_iconst dX0_keepAtLowest_22 ?_
        refine sx_icmp_ne (tgt := 67) dX0_keepAtLowest_23 (by decide) (by first | omega | assumption | (with_reducible first | exact hR _ _ | exact rd_R hR _ _ | exact am_R_and _ _ | exact am_R_or _ _ | exact am_R_xor _ _ | exact am_R_shl _ _ | exact am_R_shr _ _ | exact bit_R _ _ | exact ybc_R _ | exact yrk_R _ _ _) | (exact ⟨by omega, by omega⟩) | exact hR _ _) ⟨by decide, by decide⟩ (fun c23 => ?_) (fun c23 => ?_)
        · -- 23t
          refine sx_iinc dX0_keepAtLowest_67 rfl (by decide) ?_
          refine sx_goto (tgt := 9) dX0_keepAtLowest_70 (by decide) ?_
          exact ih9 _ (by omega) (r + 1) rfl (by omega) (by rw [hq, show 6 - r = (6 - (r + 1)) + 1 by omega]; simp only [fstW]; rw [if_neg (by rw [beq_iff_eq]; exact c23)])
        · -- 23f
          have hl9 : ylow M c = r := by
            rw [hq, show 6 - r = (6 - (r + 1)) + 1 by omega]
            simp only [fstW]
            rw [if_pos (beq_iff_eq.mpr (show bit (yps M c) r = 1 from c23))]
          refine sx_aload_n dX0_keepAtLowest_26 rfl ?_
          refine mm_getr (j := 4) hu dX0_keepAtLowest_27 fl_X0_21 (by decide) ?_
          refine sx_iload_n dX0_keepAtLowest_30 rfl ?_
          refine sx_bipush dX0_keepAtLowest_31 rfl ?_
          refine sx_imul dX0_keepAtLowest_33 ?_
          refine sx_iload dX0_keepAtLowest_34 rfl ?_
          refine sx_iadd dX0_keepAtLowest_36 ?_
          refine sx_iload_n dX0_keepAtLowest_37 rfl ?_
          refine mm_ist (n := 48) hu dX0_keepAtLowest_38 (by decide) rfl (by decide) (by first | omega | assumption | (with_reducible first | exact hR _ _ | exact rd_R hR _ _ | exact am_R_and _ _ | exact am_R_or _ _ | exact am_R_xor _ _ | exact am_R_shl _ _ | exact am_R_shr _ _ | exact bit_R _ _ | exact ybc_R _ | exact yrk_R _ _ _) | (exact ⟨by omega, by omega⟩) | exact hR _ _) (by first | omega | assumption | (with_reducible first | exact hR _ _ | exact rd_R hR _ _ | exact am_R_and _ _ | exact am_R_or _ _ | exact am_R_xor _ _ | exact am_R_shl _ _ | exact am_R_shr _ _ | exact bit_R _ _ | exact ybc_R _ | exact yrk_R _ _ _) | (exact ⟨by omega, by omega⟩) | exact hR _ _) rfl (by first | omega | assumption | (with_reducible first | exact hR _ _ | exact rd_R hR _ _ | exact am_R_and _ _ | exact am_R_or _ _ | exact am_R_xor _ _ | exact am_R_shl _ _ | exact am_R_shr _ _ | exact bit_R _ _ | exact ybc_R _ | exact yrk_R _ _ _) | (exact ⟨by omega, by omega⟩) | exact hR _ _) ?_
          refine sx_aload_n dX0_keepAtLowest_39 rfl ?_
          refine mm_getr (j := 10) hu dX0_keepAtLowest_40 fl_X0_39 (by decide) ?_
          refine sx_iload_n dX0_keepAtLowest_43 rfl ?_
          refine sx_iload_n dX0_keepAtLowest_44 rfl ?_
          refine mm_ist (n := 24) hu dX0_keepAtLowest_45 (by decide) rfl (by decide) (by first | omega | assumption | (with_reducible first | exact hR _ _ | exact rd_R hR _ _ | exact am_R_and _ _ | exact am_R_or _ _ | exact am_R_xor _ _ | exact am_R_shl _ _ | exact am_R_shr _ _ | exact bit_R _ _ | exact ybc_R _ | exact yrk_R _ _ _) | (exact ⟨by omega, by omega⟩) | exact hR _ _) (by first | omega | assumption | (with_reducible first | exact hR _ _ | exact rd_R hR _ _ | exact am_R_and _ _ | exact am_R_or _ _ | exact am_R_xor _ _ | exact am_R_shl _ _ | exact am_R_shr _ _ | exact bit_R _ _ | exact ybc_R _ | exact yrk_R _ _ _) | (exact ⟨by omega, by omega⟩) | exact hR _ _) rfl (by first | omega | assumption | (with_reducible first | exact hR _ _ | exact rd_R hR _ _ | exact am_R_and _ _ | exact am_R_or _ _ | exact am_R_xor _ _ | exact am_R_shl _ _ | exact am_R_shr _ _ | exact bit_R _ _ | exact ybc_R _ | exact yrk_R _ _ _) | (exact ⟨by omega, by omega⟩) | exact hR _ _) ?_
          refine sx_aload_n dX0_keepAtLowest_46 rfl ?_
          refine mm_getr (j := 11) hu dX0_keepAtLowest_47 fl_X0_42 (by decide) ?_
          refine sx_iload_n dX0_keepAtLowest_50 rfl ?_
          refine sx_iload dX0_keepAtLowest_51 rfl ?_
          refine mm_ist (n := 24) hu dX0_keepAtLowest_53 (by decide) rfl (by decide) (by first | omega | assumption | (with_reducible first | exact hR _ _ | exact rd_R hR _ _ | exact am_R_and _ _ | exact am_R_or _ _ | exact am_R_xor _ _ | exact am_R_shl _ _ | exact am_R_shr _ _ | exact bit_R _ _ | exact ybc_R _ | exact yrk_R _ _ _) | (exact ⟨by omega, by omega⟩) | exact hR _ _) (by first | omega | assumption | (with_reducible first | exact hR _ _ | exact rd_R hR _ _ | exact am_R_and _ _ | exact am_R_or _ _ | exact am_R_xor _ _ | exact am_R_shl _ _ | exact am_R_shr _ _ | exact bit_R _ _ | exact ybc_R _ | exact yrk_R _ _ _) | (exact ⟨by omega, by omega⟩) | exact hR _ _) rfl (by first | omega | assumption | (with_reducible first | exact hR _ _ | exact rd_R hR _ _ | exact am_R_and _ _ | exact am_R_or _ _ | exact am_R_xor _ _ | exact am_R_shl _ _ | exact am_R_shr _ _ | exact bit_R _ _ | exact ybc_R _ | exact yrk_R _ _ _) | (exact ⟨by omega, by omega⟩) | exact hR _ _) ?_
          refine sx_aload_n dX0_keepAtLowest_54 rfl ?_
          refine mm_getr (j := 12) hu dX0_keepAtLowest_55 fl_X0_45 (by decide) ?_
          refine sx_iload_n dX0_keepAtLowest_58 rfl ?_
          refine sx_aload_n dX0_keepAtLowest_59 rfl ?_
          refine mm_getr (j := 1) hu dX0_keepAtLowest_60 fl_X0_9 (by decide) ?_
          refine sx_iload_n dX0_keepAtLowest_63 rfl ?_
          refine mm_vh (fun hR => ?_)
          refine mm_ild (n := 8) hu dX0_keepAtLowest_64 (by decide) rfl (by decide) (by first | omega | assumption | (with_reducible first | exact hR _ _ | exact rd_R hR _ _ | exact am_R_and _ _ | exact am_R_or _ _ | exact am_R_xor _ _ | exact am_R_shl _ _ | exact am_R_shr _ _ | exact bit_R _ _ | exact ybc_R _ | exact yrk_R _ _ _) | (exact ⟨by omega, by omega⟩) | exact hR _ _) (by first | omega | assumption | (with_reducible first | exact hR _ _ | exact rd_R hR _ _ | exact am_R_and _ _ | exact am_R_or _ _ | exact am_R_xor _ _ | exact am_R_shl _ _ | exact am_R_shr _ _ | exact bit_R _ _ | exact ybc_R _ | exact yrk_R _ _ _) | (exact ⟨by omega, by omega⟩) | exact hR _ _) rfl (fun r64 => ?_)
          skip
          refine mm_ist (n := 24) hu dX0_keepAtLowest_65 (by decide) rfl (by decide) (by first | omega | assumption | (with_reducible first | exact hR _ _ | exact rd_R hR _ _ | exact am_R_and _ _ | exact am_R_or _ _ | exact am_R_xor _ _ | exact am_R_shl _ _ | exact am_R_shr _ _ | exact bit_R _ _ | exact ybc_R _ | exact yrk_R _ _ _) | (exact ⟨by omega, by omega⟩) | exact hR _ _) (by first | omega | assumption | (with_reducible first | exact hR _ _ | exact rd_R hR _ _ | exact am_R_and _ _ | exact am_R_or _ _ | exact am_R_xor _ _ | exact am_R_shl _ _ | exact am_R_shr _ _ | exact bit_R _ _ | exact ybc_R _ | exact yrk_R _ _ _) | (exact ⟨by omega, by omega⟩) | exact hR _ _) rfl (by first | omega | assumption | (with_reducible first | exact hR _ _ | exact rd_R hR _ _ | exact am_R_and _ _ | exact am_R_or _ _ | exact am_R_xor _ _ | exact am_R_shl _ _ | exact am_R_shr _ _ | exact bit_R _ _ | exact ybc_R _ | exact yrk_R _ _ _) | (exact ⟨by omega, by omega⟩) | exact hR _ _) ?_
          exact sx_vret dX0_keepAtLowest_66 rfl rfl (by unfold ykal; rw [hl9, if_pos (by omega)]; rfl)
  exact loop9 _ 0 rfl (by omega) rfl
set_option maxHeartbeats 4000000 in
set_option maxRecDepth 100000 in
theorem ty_takeFromChip {h0 : am_H} {u : Nat} (hu : u < 6) {M : am_M} (w : Int) (hW : WM M) (hk : YK M w)  : Ct 0 Y0_takeFromChip [.inr (u, 0), .inl w] none (am_U h0 u M) (am_U h0 u (ytake M w)) := by
  refine Ct_of (by decide +kernel) (Nat.le_of_ble_eq_true rfl) ?_
  show Sx 0 Y0_takeFromChip (am_U h0 u (ytake M w)) none 0 [some (.inr (u, 0)), some (.inl w)] [] (am_U h0 u M)
  refine mm_vh (fun hR => ?_)
  obtain ⟨w0, w2, w1, w5, w8, w12, wb⟩ := id hW
  obtain ⟨hw, hkc, hkr⟩ := id hk
  unfold rd at hkc hkr
  refine sx_aload_n dX0_takeFromChip_0 rfl ?_
  refine mm_getr (j := 4) hu dX0_takeFromChip_1 fl_X0_21 (by decide) ?_
  refine sx_aload_n dX0_takeFromChip_4 rfl ?_
  refine mm_getr (j := 10) hu dX0_takeFromChip_5 fl_X0_39 (by decide) ?_
  refine sx_iload_n dX0_takeFromChip_8 rfl ?_
  refine mm_ild (n := 24) hu dX0_takeFromChip_9 (by decide) rfl (by decide) (by first | omega | assumption | (with_reducible first | exact hR _ _ | exact rd_R hR _ _ | exact am_R_and _ _ | exact am_R_or _ _ | exact am_R_xor _ _ | exact am_R_shl _ _ | exact am_R_shr _ _ | exact bit_R _ _ | exact ybc_R _ | exact yrk_R _ _ _) | (exact ⟨by omega, by omega⟩) | exact hR _ _) (by first | omega | assumption | (with_reducible first | exact hR _ _ | exact rd_R hR _ _ | exact am_R_and _ _ | exact am_R_or _ _ | exact am_R_xor _ _ | exact am_R_shl _ _ | exact am_R_shr _ _ | exact bit_R _ _ | exact ybc_R _ | exact yrk_R _ _ _) | (exact ⟨by omega, by omega⟩) | exact hR _ _) rfl (fun r9 => ?_)
  refine sx_bipush dX0_takeFromChip_10 rfl ?_
  refine sx_imul dX0_takeFromChip_12 ?_
  refine sx_aload_n dX0_takeFromChip_13 rfl ?_
  refine mm_getr (j := 11) hu dX0_takeFromChip_14 fl_X0_42 (by decide) ?_
  refine sx_iload_n dX0_takeFromChip_17 rfl ?_
  refine mm_ild (n := 24) hu dX0_takeFromChip_18 (by decide) rfl (by decide) (by first | omega | assumption | (with_reducible first | exact hR _ _ | exact rd_R hR _ _ | exact am_R_and _ _ | exact am_R_or _ _ | exact am_R_xor _ _ | exact am_R_shl _ _ | exact am_R_shr _ _ | exact bit_R _ _ | exact ybc_R _ | exact yrk_R _ _ _) | (exact ⟨by omega, by omega⟩) | exact hR _ _) (by first | omega | assumption | (with_reducible first | exact hR _ _ | exact rd_R hR _ _ | exact am_R_and _ _ | exact am_R_or _ _ | exact am_R_xor _ _ | exact am_R_shl _ _ | exact am_R_shr _ _ | exact bit_R _ _ | exact ybc_R _ | exact yrk_R _ _ _) | (exact ⟨by omega, by omega⟩) | exact hR _ _) rfl (fun r18 => ?_)
  refine sx_iadd dX0_takeFromChip_19 ?_
  refine sx_iconst dX0_takeFromChip_20 ?_
  refine mm_ist (n := 48) hu dX0_takeFromChip_21 (by decide) rfl (by decide) (by first | omega | assumption | (with_reducible first | exact hR _ _ | exact rd_R hR _ _ | exact am_R_and _ _ | exact am_R_or _ _ | exact am_R_xor _ _ | exact am_R_shl _ _ | exact am_R_shr _ _ | exact bit_R _ _ | exact ybc_R _ | exact yrk_R _ _ _) | (exact ⟨by omega, by omega⟩) | exact hR _ _) (by first | omega | assumption | (with_reducible first | exact hR _ _ | exact rd_R hR _ _ | exact am_R_and _ _ | exact am_R_or _ _ | exact am_R_xor _ _ | exact am_R_shl _ _ | exact am_R_shr _ _ | exact bit_R _ _ | exact ybc_R _ | exact yrk_R _ _ _) | (exact ⟨by omega, by omega⟩) | exact hR _ _) rfl ⟨by decide, by decide⟩ ?_
  refine sx_aload_n dX0_takeFromChip_22 rfl ?_
  refine mm_getr (j := 10) hu dX0_takeFromChip_23 fl_X0_39 (by decide) ?_
  refine sx_iload_n dX0_takeFromChip_26 rfl ?_
  refine sx_iconst dX0_takeFromChip_27 ?_
  refine mm_ist (n := 24) hu dX0_takeFromChip_28 (by decide) rfl (by decide) (by first | omega | assumption | (with_reducible first | exact hR _ _ | exact rd_R hR _ _ | exact am_R_and _ _ | exact am_R_or _ _ | exact am_R_xor _ _ | exact am_R_shl _ _ | exact am_R_shr _ _ | exact bit_R _ _ | exact ybc_R _ | exact yrk_R _ _ _) | (exact ⟨by omega, by omega⟩) | exact hR _ _) (by first | omega | assumption | (with_reducible first | exact hR _ _ | exact rd_R hR _ _ | exact am_R_and _ _ | exact am_R_or _ _ | exact am_R_xor _ _ | exact am_R_shl _ _ | exact am_R_shr _ _ | exact bit_R _ _ | exact ybc_R _ | exact yrk_R _ _ _) | (exact ⟨by omega, by omega⟩) | exact hR _ _) rfl ⟨by decide, by decide⟩ ?_
  exact sx_vret dX0_takeFromChip_29 rfl rfl rfl
