set_option maxHeartbeats 4000000 in
set_option maxRecDepth 100000 in
theorem tg_chipOf {h0 : am_H} {Z : am_M} (hG : AG h0) (c k : Int) (hW : WM (gP h0)) (hcR : am_R c) (hkR : am_R k)  : Ct 2 Y2_chipOf [.inr (6, 0), .inl c, .inl k] (some (.inl (gchip (gP h0) c k))) (am_U h0 (h0.2 1) Z) (am_U h0 (h0.2 1) Z) := by
  refine Ct_of (by decide +kernel) (Nat.le_of_ble_eq_true rfl) ?_
  show Sx 2 Y2_chipOf (am_U h0 (h0.2 1) Z) (some (.inl (gchip (gP h0) c k))) 0 [some (.inr (6, 0)), some (.inl c), some (.inl k)] [] (am_U h0 (h0.2 1) Z)
  refine sx_vh (fun hV => ?_)
  have hR : ∀ j k, am_R (gP h0 j k) := fun j k => by
    have := hV.1 (h0.2 0) j k
    rwa [gZ_p hG] at this
  obtain ⟨w0, w2, w1, w5, w8, w12, wb⟩ := id hW
  refine sx_aload_n dX2_chipOf_0 rfl ?_
  refine gg_getp dX2_chipOf_1 fl_X2_23 rfl ?_
  refine sx_iload_n dX2_chipOf_4 rfl ?_
  refine sx_callVi dX2_chipOf_5 ml_X2_55 mv0_hasChip (Ct_p hG (ty_hasChip (hG.2.2 0) _ hcR)) rfl (am_obM (hG.2.2 0)) rfl (Nat.le_of_ble_eq_true rfl) (Nat.le_of_ble_eq_true rfl) ?_
  refine sx_ifB_ne (tgt := 14) dX2_chipOf_8 (by decide) (fun c8 => ?_) (fun c8 => ?_)
  · -- 8t
    have hc8 : 0 ≤ c ∧ c < 8 := ⟨c8.1, by omega⟩
    have hf9 := w1 c hc8.1 hc8.2
    refine sx_iload_n dX2_chipOf_14 rfl ?_
    have hs15 : k < 0 ∨ 6 < k ∨ k = 0 ∨ k = 1 ∨ k = 2 ∨ k = 3 ∨ k = 4 ∨ k = 5 ∨ k = 6 := by omega
    rcases hs15 with hs15 | hs15 | hs15 | hs15 | hs15 | hs15 | hs15 | hs15 | hs15
    · refine sx_tableOut (tgt := 141) dX2_chipOf_15 (by first | omega | assumption | (with_reducible first | exact hR _ _ | exact rd_R hR _ _ | exact am_R_and _ _ | exact am_R_or _ _ | exact am_R_xor _ _ | exact am_R_shl _ _ | exact am_R_shr _ _ | exact bit_R _ _ | exact ybc_R _ | exact yps_R _ _) | (exact ⟨by omega, by omega⟩) | exact hR _ _) (Or.inl hs15) (by decide) ?_
      refine sx_ldc dX2_chipOf_141 kc_X2_59 ?_
      exact sx_iret dX2_chipOf_143 rfl (by unfold gchip; simp only [if_pos c8]; first | done | rfl | rw [if_neg (by omega), if_neg (by omega), if_neg (by omega), if_neg (by omega), if_neg (by omega), if_neg (by omega), if_neg (by omega)]) rfl
    · refine sx_tableOut (tgt := 141) dX2_chipOf_15 (by first | omega | assumption | (with_reducible first | exact hR _ _ | exact rd_R hR _ _ | exact am_R_and _ _ | exact am_R_or _ _ | exact am_R_xor _ _ | exact am_R_shl _ _ | exact am_R_shr _ _ | exact bit_R _ _ | exact ybc_R _ | exact yps_R _ _) | (exact ⟨by omega, by omega⟩) | exact hR _ _) (Or.inr hs15) (by decide) ?_
      refine sx_ldc dX2_chipOf_141 kc_X2_59 ?_
      exact sx_iret dX2_chipOf_143 rfl (by unfold gchip; simp only [if_pos c8]; first | done | rfl | rw [if_neg (by omega), if_neg (by omega), if_neg (by omega), if_neg (by omega), if_neg (by omega), if_neg (by omega), if_neg (by omega)]) rfl
    · subst hs15
      refine sx_tableIn (tgt := 56) (off := 41) dX2_chipOf_15 ⟨by decide, by decide⟩ (by decide) (by decide) rfl (by decide) ?_
      refine sx_aload_n dX2_chipOf_56 rfl ?_
      refine gg_getp dX2_chipOf_57 fl_X2_23 rfl ?_
      refine gz_getr (j := 1) hG dX2_chipOf_60 fl_X2_60 (by decide) ?_
      refine sx_iload_n dX2_chipOf_63 rfl ?_
      refine gz_ild (n := 8) hG dX2_chipOf_64 (by decide) rfl (by decide) (by first | omega | assumption | (with_reducible first | exact hR _ _ | exact rd_R hR _ _ | exact am_R_and _ _ | exact am_R_or _ _ | exact am_R_xor _ _ | exact am_R_shl _ _ | exact am_R_shr _ _ | exact bit_R _ _ | exact ybc_R _ | exact yps_R _ _) | (exact ⟨by omega, by omega⟩) | exact hR _ _) (by first | omega | assumption | (with_reducible first | exact hR _ _ | exact rd_R hR _ _ | exact am_R_and _ _ | exact am_R_or _ _ | exact am_R_xor _ _ | exact am_R_shl _ _ | exact am_R_shr _ _ | exact bit_R _ _ | exact ybc_R _ | exact yps_R _ _) | (exact ⟨by omega, by omega⟩) | exact hR _ _) (fun r64 => ?_)
      exact sx_iret dX2_chipOf_65 rfl (by unfold gchip; simp only [if_pos c8]; first | done | rfl | rw [if_neg (by omega), if_neg (by omega), if_neg (by omega), if_neg (by omega), if_neg (by omega), if_neg (by omega), if_neg (by omega)]) rfl
    · subst hs15
      refine sx_tableIn (tgt := 66) (off := 51) dX2_chipOf_15 ⟨by decide, by decide⟩ (by decide) (by decide) rfl (by decide) ?_
      refine sx_aload_n dX2_chipOf_66 rfl ?_
      refine gg_getp dX2_chipOf_67 fl_X2_23 rfl ?_
      refine sx_iload_n dX2_chipOf_70 rfl ?_
      refine sx_callVi dX2_chipOf_71 ml_X2_64 mv0_lives (Ct_p hG (ty_lives (hG.2.2 0) _)) rfl (am_obM (hG.2.2 0)) rfl (Nat.le_of_ble_eq_true rfl) (Nat.le_of_ble_eq_true rfl) ?_
      refine sx_ifB_eq (tgt := 81) dX2_chipOf_74 (by decide) (fun c74 => ?_) (fun c74 => ?_)
      · -- 74t
        refine sx_iconst dX2_chipOf_81 ?_
        exact sx_iret dX2_chipOf_82 rfl (by unfold gchip; simp only [if_pos c8, if_neg c74]; first | done | rfl | rw [if_neg (by omega), if_neg (by omega), if_neg (by omega), if_neg (by omega), if_neg (by omega), if_neg (by omega), if_neg (by omega)]) rfl
      · -- 74f
        refine sx_iconst dX2_chipOf_77 ?_
        refine sx_goto (tgt := 82) dX2_chipOf_78 (by decide) ?_
        exact sx_iret dX2_chipOf_82 rfl (by unfold gchip; simp only [if_pos c8, if_pos c74]; first | done | rfl | rw [if_neg (by omega), if_neg (by omega), if_neg (by omega), if_neg (by omega), if_neg (by omega), if_neg (by omega), if_neg (by omega)]) rfl
    · subst hs15
      refine sx_tableIn (tgt := 83) (off := 68) dX2_chipOf_15 ⟨by decide, by decide⟩ (by decide) (by decide) rfl (by decide) ?_
      refine sx_aload_n dX2_chipOf_83 rfl ?_
      refine gg_getp dX2_chipOf_84 fl_X2_23 rfl ?_
      refine sx_iload_n dX2_chipOf_87 rfl ?_
      refine sx_callVi dX2_chipOf_88 ml_X2_67 mv0_isGodfather (Ct_p hG (ty_isGodfather (hG.2.2 0) _ hW hc8)) rfl (am_obM (hG.2.2 0)) rfl (Nat.le_of_ble_eq_true rfl) (Nat.le_of_ble_eq_true rfl) ?_
      refine sx_ifB_eq (tgt := 98) dX2_chipOf_91 (by decide) (fun c91 => ?_) (fun c91 => ?_)
      · -- 91t
        refine sx_iconst dX2_chipOf_98 ?_
        exact sx_iret dX2_chipOf_99 rfl (by unfold gchip; simp only [if_pos c8, if_neg c91]; first | done | rfl | rw [if_neg (by omega), if_neg (by omega), if_neg (by omega), if_neg (by omega), if_neg (by omega), if_neg (by omega), if_neg (by omega)]) rfl
      · -- 91f
        refine sx_iconst dX2_chipOf_94 ?_
        refine sx_goto (tgt := 99) dX2_chipOf_95 (by decide) ?_
        exact sx_iret dX2_chipOf_99 rfl (by unfold gchip; simp only [if_pos c8, if_pos c91]; first | done | rfl | rw [if_neg (by omega), if_neg (by omega), if_neg (by omega), if_neg (by omega), if_neg (by omega), if_neg (by omega), if_neg (by omega)]) rfl
    · subst hs15
      refine sx_tableIn (tgt := 100) (off := 85) dX2_chipOf_15 ⟨by decide, by decide⟩ (by decide) (by decide) rfl (by decide) ?_
      refine sx_aload_n dX2_chipOf_100 rfl ?_
      refine gg_getp dX2_chipOf_101 fl_X2_23 rfl ?_
      refine sx_iload_n dX2_chipOf_104 rfl ?_
      refine sx_callVi dX2_chipOf_105 ml_X2_70 mv0_keptBy (Ct_p hG (ty_keptBy (hG.2.2 0) _ hW hcR)) rfl (am_obM (hG.2.2 0)) rfl (Nat.le_of_ble_eq_true rfl) (Nat.le_of_ble_eq_true rfl) ?_
      exact sx_iret dX2_chipOf_108 rfl (by unfold gchip; simp only [if_pos c8]; first | done | rfl | rw [if_neg (by omega), if_neg (by omega), if_neg (by omega), if_neg (by omega), if_neg (by omega), if_neg (by omega), if_neg (by omega)]) rfl
    · subst hs15
      refine sx_tableIn (tgt := 109) (off := 94) dX2_chipOf_15 ⟨by decide, by decide⟩ (by decide) (by decide) rfl (by decide) ?_
      refine sx_aload_n dX2_chipOf_109 rfl ?_
      refine gg_getp dX2_chipOf_110 fl_X2_23 rfl ?_
      refine sx_iload_n dX2_chipOf_113 rfl ?_
      refine sx_callVi dX2_chipOf_114 ml_X2_73 mv0_placeSet (Ct_p hG (ty_placeSet (hG.2.2 0) _ hW hc8)) rfl (am_obM (hG.2.2 0)) rfl (Nat.le_of_ble_eq_true rfl) (Nat.le_of_ble_eq_true rfl) ?_
      refine sx_callSi dX2_chipOf_117 ml_X2_76 ms6_bitCount (ty_bitCount _) rfl rfl (Nat.le_of_ble_eq_true rfl) (Nat.le_of_ble_eq_true rfl) ?_
      exact sx_iret dX2_chipOf_120 rfl (by unfold gchip; simp only [if_pos c8]; first | done | rfl | rw [if_neg (by omega), if_neg (by omega), if_neg (by omega), if_neg (by omega), if_neg (by omega), if_neg (by omega), if_neg (by omega)]) rfl
    · subst hs15
      refine sx_tableIn (tgt := 121) (off := 106) dX2_chipOf_15 ⟨by decide, by decide⟩ (by decide) (by decide) rfl (by decide) ?_
      refine sx_aload_n dX2_chipOf_121 rfl ?_
      refine gg_getp dX2_chipOf_122 fl_X2_23 rfl ?_
      refine gz_getr (j := 2) hG dX2_chipOf_125 fl_X2_81 (by decide) ?_
      refine sx_iload_n dX2_chipOf_128 rfl ?_
      refine gz_ild (n := 8) hG dX2_chipOf_129 (by decide) rfl (by decide) (by first | omega | assumption | (with_reducible first | exact hR _ _ | exact rd_R hR _ _ | exact am_R_and _ _ | exact am_R_or _ _ | exact am_R_xor _ _ | exact am_R_shl _ _ | exact am_R_shr _ _ | exact bit_R _ _ | exact ybc_R _ | exact yps_R _ _) | (exact ⟨by omega, by omega⟩) | exact hR _ _) (by first | omega | assumption | (with_reducible first | exact hR _ _ | exact rd_R hR _ _ | exact am_R_and _ _ | exact am_R_or _ _ | exact am_R_xor _ _ | exact am_R_shl _ _ | exact am_R_shr _ _ | exact bit_R _ _ | exact ybc_R _ | exact yps_R _ _) | (exact ⟨by omega, by omega⟩) | exact hR _ _) (fun r129 => ?_)
      exact sx_iret dX2_chipOf_130 rfl (by unfold gchip; simp only [if_pos c8]; first | done | rfl | rw [if_neg (by omega), if_neg (by omega), if_neg (by omega), if_neg (by omega), if_neg (by omega), if_neg (by omega), if_neg (by omega)]) rfl
    · subst hs15
      refine sx_tableIn (tgt := 131) (off := 116) dX2_chipOf_15 ⟨by decide, by decide⟩ (by decide) (by decide) rfl (by decide) ?_
      refine sx_aload_n dX2_chipOf_131 rfl ?_
      refine gg_getp dX2_chipOf_132 fl_X2_23 rfl ?_
      refine gz_getr (j := 3) hG dX2_chipOf_135 fl_X2_84 (by decide) ?_
      refine sx_iload_n dX2_chipOf_138 rfl ?_
      refine gz_ild (n := 8) hG dX2_chipOf_139 (by decide) rfl (by decide) (by first | omega | assumption | (with_reducible first | exact hR _ _ | exact rd_R hR _ _ | exact am_R_and _ _ | exact am_R_or _ _ | exact am_R_xor _ _ | exact am_R_shl _ _ | exact am_R_shr _ _ | exact bit_R _ _ | exact ybc_R _ | exact yps_R _ _) | (exact ⟨by omega, by omega⟩) | exact hR _ _) (by first | omega | assumption | (with_reducible first | exact hR _ _ | exact rd_R hR _ _ | exact am_R_and _ _ | exact am_R_or _ _ | exact am_R_xor _ _ | exact am_R_shl _ _ | exact am_R_shr _ _ | exact bit_R _ _ | exact ybc_R _ | exact yps_R _ _) | (exact ⟨by omega, by omega⟩) | exact hR _ _) (fun r139 => ?_)
      exact sx_iret dX2_chipOf_140 rfl (by unfold gchip; simp only [if_pos c8]; first | done | rfl | rw [if_neg (by omega), if_neg (by omega), if_neg (by omega), if_neg (by omega), if_neg (by omega), if_neg (by omega), if_neg (by omega)]) rfl
  · -- 8f
    refine sx_ldc dX2_chipOf_11 kc_X2_59 ?_
    exact sx_iret dX2_chipOf_13 rfl (by unfold gchip; simp only [if_neg c8]; first | done | rfl | rw [if_neg (by omega), if_neg (by omega), if_neg (by omega), if_neg (by omega), if_neg (by omega), if_neg (by omega), if_neg (by omega)]) rfl
set_option maxHeartbeats 4000000 in
set_option maxRecDepth 100000 in
theorem tg_rowOf {h0 : am_H} {Z : am_M} (hG : AG h0) (c r : Int) (hW : WM (gP h0)) (hcR : am_R c) (hrR : am_R r)  : Ct 2 Y2_rowOf [.inr (6, 0), .inl c, .inl r] (some (.inl (grow (gP h0) c r))) (am_U h0 (h0.2 1) Z) (am_U h0 (h0.2 1) Z) := by
  refine Ct_of (by decide +kernel) (Nat.le_of_ble_eq_true rfl) ?_
  show Sx 2 Y2_rowOf (am_U h0 (h0.2 1) Z) (some (.inl (grow (gP h0) c r))) 0 [some (.inr (6, 0)), some (.inl c), some (.inl r), none] [] (am_U h0 (h0.2 1) Z)
  refine sx_vh (fun hV => ?_)
  have hR : ∀ j k, am_R (gP h0 j k) := fun j k => by
    have := hV.1 (h0.2 0) j k
    rwa [gZ_p hG] at this
  obtain ⟨w0, w2, w1, w5, w8, w12, wb⟩ := id hW
  refine sx_aload_n dX2_rowOf_0 rfl ?_
  refine gg_getp dX2_rowOf_1 fl_X2_23 rfl ?_
  refine sx_iload_n dX2_rowOf_4 rfl ?_
  refine sx_callVi dX2_rowOf_5 ml_X2_55 mv0_hasChip (Ct_p hG (ty_hasChip (hG.2.2 0) _ hcR)) rfl (am_obM (hG.2.2 0)) rfl (Nat.le_of_ble_eq_true rfl) (Nat.le_of_ble_eq_true rfl) ?_
  refine sx_ifB_eq (tgt := 18) dX2_rowOf_8 (by decide) (fun c8 => ?_) (fun c8 => ?_)
  · -- 8t
    refine sx_ldc dX2_rowOf_18 kc_X2_59 ?_
    exact sx_iret dX2_rowOf_20 rfl (by unfold grow; simp only [if_neg c8]) rfl
  · -- 8f
    refine sx_iload_n dX2_rowOf_11 rfl ?_
    refine sx_callSi dX2_rowOf_12 ml_X2_87 ms2_isRow (ty_isRow _ hrR) rfl rfl (Nat.le_of_ble_eq_true rfl) (Nat.le_of_ble_eq_true rfl) ?_
    refine sx_ifB_ne (tgt := 21) dX2_rowOf_15 (by decide) (fun c15 => ?_) (fun c15 => ?_)
    · -- 15t
      have hc8 : 0 ≤ c ∧ c < 8 := ⟨c8.1, by omega⟩
      have hf9 := w1 c hc8.1 hc8.2
      refine sx_aload_n dX2_rowOf_21 rfl ?_
      refine gg_getp dX2_rowOf_22 fl_X2_23 rfl ?_
      refine sx_iload_n dX2_rowOf_25 rfl ?_
      refine sx_callVi dX2_rowOf_26 ml_X2_64 mv0_lives (Ct_p hG (ty_lives (hG.2.2 0) _)) rfl (am_obM (hG.2.2 0)) rfl (Nat.le_of_ble_eq_true rfl) (Nat.le_of_ble_eq_true rfl) ?_
      refine sx_ifB_eq (tgt := 44) dX2_rowOf_29 (by decide) (fun c29 => ?_) (fun c29 => ?_)
      · -- 29t
        refine sx_ldc dX2_rowOf_44 kc_X2_94 ?_
        exact sx_iret dX2_rowOf_46 rfl (by unfold grow; simp only [if_pos c8, if_pos c15, if_neg c29]) rfl
      · -- 29f
        refine sx_aload_n dX2_rowOf_32 rfl ?_
        refine gg_getp dX2_rowOf_33 fl_X2_23 rfl ?_
        refine sx_iload_n dX2_rowOf_36 rfl ?_
        refine sx_iload_n dX2_rowOf_37 rfl ?_
        refine sx_callVi dX2_rowOf_38 ml_X2_90 mv0_isBroken (Ct_p hG (ty_isBroken (hG.2.2 0) _ _ hc8)) rfl (am_obM (hG.2.2 0)) rfl (Nat.le_of_ble_eq_true rfl) (Nat.le_of_ble_eq_true rfl) ?_
        refine sx_ifB_eq (tgt := 47) dX2_rowOf_41 (by decide) (fun c41 => ?_) (fun c41 => ?_)
        · -- 41t
          refine sx_aload_n dX2_rowOf_47 rfl ?_
          refine gg_getp dX2_rowOf_48 fl_X2_23 rfl ?_
          refine sx_iload_n dX2_rowOf_51 rfl ?_
          refine sx_callVi dX2_rowOf_52 ml_X2_67 mv0_isGodfather (Ct_p hG (ty_isGodfather (hG.2.2 0) _ hW hc8)) rfl (am_obM (hG.2.2 0)) rfl (Nat.le_of_ble_eq_true rfl) (Nat.le_of_ble_eq_true rfl) ?_
          refine sx_ifB_eq (tgt := 76) dX2_rowOf_55 (by decide) (fun c55 => ?_) (fun c55 => ?_)
          · -- 55t
            refine sx_aload_n dX2_rowOf_76 rfl ?_
            refine gg_getp dX2_rowOf_77 fl_X2_23 rfl ?_
            refine gz_getr (j := 4) hG dX2_rowOf_80 fl_X2_98 (by decide) ?_
            refine sx_iload_n dX2_rowOf_83 rfl ?_
            refine sx_bipush dX2_rowOf_84 rfl ?_
            refine sx_imul dX2_rowOf_86 ?_
            refine sx_iload_n dX2_rowOf_87 rfl ?_
            refine sx_iadd dX2_rowOf_88 ?_
            refine gz_ild (n := 48) hG dX2_rowOf_89 (by decide) rfl (by decide) (by first | omega | assumption | (with_reducible first | exact hR _ _ | exact rd_R hR _ _ | exact am_R_and _ _ | exact am_R_or _ _ | exact am_R_xor _ _ | exact am_R_shl _ _ | exact am_R_shr _ _ | exact bit_R _ _ | exact ybc_R _ | exact yps_R _ _) | (exact ⟨by omega, by omega⟩) | exact hR _ _) (by first | omega | assumption | (with_reducible first | exact hR _ _ | exact rd_R hR _ _ | exact am_R_and _ _ | exact am_R_or _ _ | exact am_R_xor _ _ | exact am_R_shl _ _ | exact am_R_shr _ _ | exact bit_R _ _ | exact ybc_R _ | exact yps_R _ _) | (exact ⟨by omega, by omega⟩) | exact hR _ _) (fun r89 => ?_)
            refine sx_istore_n dX2_rowOf_90 (by decide) ?_
            refine sx_iload_n dX2_rowOf_91 rfl ?_
            refine sx_iconst dX2_rowOf_92 ?_
            refine sx_icmp_ne (tgt := 101) dX2_rowOf_93 (by decide) (by first | omega | assumption | (with_reducible first | exact hR _ _ | exact rd_R hR _ _ | exact am_R_and _ _ | exact am_R_or _ _ | exact am_R_xor _ _ | exact am_R_shl _ _ | exact am_R_shr _ _ | exact bit_R _ _ | exact ybc_R _ | exact yps_R _ _) | (exact ⟨by omega, by omega⟩) | exact hR _ _) ⟨by decide, by decide⟩ (fun c93 => ?_) (fun c93 => ?_)
            · -- 93t
              refine sx_iload_n dX2_rowOf_101 rfl ?_
              exact sx_iret dX2_rowOf_102 rfl (by unfold grow; simp only [if_pos c8, if_pos c15, if_pos c29, if_neg c41, if_neg c55, if_neg c93]) rfl
            · -- 93f
              refine sx_ldc dX2_rowOf_96 kc_X2_101 ?_
              refine sx_goto (tgt := 102) dX2_rowOf_98 (by decide) ?_
              exact sx_iret dX2_rowOf_102 rfl (by unfold grow; simp only [if_pos c8, if_pos c15, if_pos c29, if_neg c41, if_neg c55, if_pos c93]) rfl
          · -- 55f
            refine sx_aload_n dX2_rowOf_58 rfl ?_
            refine gg_getp dX2_rowOf_59 fl_X2_23 rfl ?_
            refine sx_aload_n dX2_rowOf_62 rfl ?_
            refine gg_getp dX2_rowOf_63 fl_X2_23 rfl ?_
            refine gz_getr (j := 1) hG dX2_rowOf_66 fl_X2_60 (by decide) ?_
            refine sx_iload_n dX2_rowOf_69 rfl ?_
            refine gz_ild (n := 8) hG dX2_rowOf_70 (by decide) rfl (by decide) (by first | omega | assumption | (with_reducible first | exact hR _ _ | exact rd_R hR _ _ | exact am_R_and _ _ | exact am_R_or _ _ | exact am_R_xor _ _ | exact am_R_shl _ _ | exact am_R_shr _ _ | exact bit_R _ _ | exact ybc_R _ | exact yps_R _ _) | (exact ⟨by omega, by omega⟩) | exact hR _ _) (by first | omega | assumption | (with_reducible first | exact hR _ _ | exact rd_R hR _ _ | exact am_R_and _ _ | exact am_R_or _ _ | exact am_R_xor _ _ | exact am_R_shl _ _ | exact am_R_shr _ _ | exact bit_R _ _ | exact ybc_R _ | exact yps_R _ _) | (exact ⟨by omega, by omega⟩) | exact hR _ _) (fun r70 => ?_)
            refine sx_iload_n dX2_rowOf_71 rfl ?_
            refine sx_callVi dX2_rowOf_72 ml_X2_95 mv0_sumOf (Ct_p hG (ty_sumOf (hG.2.2 0) _ _ hW (by exact hR _ _) hrR)) rfl (am_obM (hG.2.2 0)) rfl (Nat.le_of_ble_eq_true rfl) (Nat.le_of_ble_eq_true rfl) ?_
            exact sx_iret dX2_rowOf_75 rfl (by unfold grow; simp only [if_pos c8, if_pos c15, if_pos c29, if_neg c41, if_pos c55]) rfl
        · -- 41f
          refine sx_ldc dX2_rowOf_44 kc_X2_94 ?_
          exact sx_iret dX2_rowOf_46 rfl (by unfold grow; simp only [if_pos c8, if_pos c15, if_pos c29, if_pos c41]) rfl
    · -- 15f
      refine sx_ldc dX2_rowOf_18 kc_X2_59 ?_
      exact sx_iret dX2_rowOf_20 rfl (by unfold grow; simp only [if_pos c8, if_neg c15]) rfl
set_option maxHeartbeats 4000000 in
set_option maxRecDepth 100000 in
theorem tg_read {h0 : am_H} {Z : am_M} (hG : AG h0) (w : Int) (hW : WM (gP h0)) (hwR : am_R w)  : Ct 2 Y2_read [.inr (6, 0), .inl w] (some (.inl (gread (gP h0) w))) (am_U h0 (h0.2 1) Z) (am_U h0 (h0.2 1) Z) := by
  refine Ct_of (by decide +kernel) (Nat.le_of_ble_eq_true rfl) ?_
  show Sx 2 Y2_read (am_U h0 (h0.2 1) Z) (some (.inl (gread (gP h0) w))) 0 [some (.inr (6, 0)), some (.inl w)] [] (am_U h0 (h0.2 1) Z)
  refine sx_vh (fun hV => ?_)
  have hR : ∀ j k, am_R (gP h0 j k) := fun j k => by
    have := hV.1 (h0.2 0) j k
    rwa [gZ_p hG] at this
  obtain ⟨w0, w2, w1, w5, w8, w12, wb⟩ := id hW
  refine sx_aload_n dX2_read_0 rfl ?_
  refine gg_getp dX2_read_1 fl_X2_23 rfl ?_
  refine sx_iload_n dX2_read_4 rfl ?_
  refine sx_callVi dX2_read_5 ml_X2_108 mv0_hasWord (Ct_p hG (ty_hasWord (hG.2.2 0) _ hwR)) rfl (am_obM (hG.2.2 0)) rfl (Nat.le_of_ble_eq_true rfl) (Nat.le_of_ble_eq_true rfl) ?_
  refine sx_ifB_ne (tgt := 14) dX2_read_8 (by decide) (fun c8 => ?_) (fun c8 => ?_)
  · -- 8t
    have hw24 : 0 ≤ w ∧ w < 24 := ⟨c8.1, by omega⟩
    have hyf := yfate_b (gP h0) w
    refine sx_aload_n dX2_read_14 rfl ?_
    refine gg_getp dX2_read_15 fl_X2_23 rfl ?_
    refine sx_iload_n dX2_read_18 rfl ?_
    refine sx_callVi dX2_read_19 ml_X2_111 mv0_fateOf (Ct_p hG (ty_fateOf (hG.2.2 0) _ hw24)) rfl (am_obM (hG.2.2 0)) rfl (Nat.le_of_ble_eq_true rfl) (Nat.le_of_ble_eq_true rfl) ?_
    refine sx_iconst dX2_read_22 ?_
    refine sx_icmp_ne (tgt := 31) dX2_read_23 (by decide) (by first | omega | assumption | (with_reducible first | exact hR _ _ | exact rd_R hR _ _ | exact am_R_and _ _ | exact am_R_or _ _ | exact am_R_xor _ _ | exact am_R_shl _ _ | exact am_R_shr _ _ | exact bit_R _ _ | exact ybc_R _ | exact yps_R _ _) | (exact ⟨by omega, by omega⟩) | exact hR _ _) ⟨by decide, by decide⟩ (fun c23 => ?_) (fun c23 => ?_)
    · -- 23t
      refine sx_aload_n dX2_read_31 rfl ?_
      refine gg_getp dX2_read_32 fl_X2_23 rfl ?_
      refine gz_getr (j := 9) hG dX2_read_35 fl_X2_114 (by decide) ?_
      refine sx_iload_n dX2_read_38 rfl ?_
      refine gz_ild (n := 24) hG dX2_read_39 (by decide) rfl (by decide) (by first | omega | assumption | (with_reducible first | exact hR _ _ | exact rd_R hR _ _ | exact am_R_and _ _ | exact am_R_or _ _ | exact am_R_xor _ _ | exact am_R_shl _ _ | exact am_R_shr _ _ | exact bit_R _ _ | exact ybc_R _ | exact yps_R _ _) | (exact ⟨by omega, by omega⟩) | exact hR _ _) (by first | omega | assumption | (with_reducible first | exact hR _ _ | exact rd_R hR _ _ | exact am_R_and _ _ | exact am_R_or _ _ | exact am_R_xor _ _ | exact am_R_shl _ _ | exact am_R_shr _ _ | exact bit_R _ _ | exact ybc_R _ | exact yps_R _ _) | (exact ⟨by omega, by omega⟩) | exact hR _ _) (fun r39 => ?_)
      exact sx_iret dX2_read_40 rfl (by unfold gread; simp only [if_pos c8, if_neg c23]) rfl
    · -- 23f
      refine sx_ldc dX2_read_26 kc_X2_101 ?_
      refine sx_goto (tgt := 40) dX2_read_28 (by decide) ?_
      exact sx_iret dX2_read_40 rfl (by unfold gread; simp only [if_pos c8, if_pos c23]) rfl
  · -- 8f
    refine sx_ldc dX2_read_11 kc_X2_59 ?_
    exact sx_iret dX2_read_13 rfl (by unfold gread; simp only [if_neg c8]) rfl
set_option maxHeartbeats 4000000 in
set_option maxRecDepth 100000 in
theorem tg_wordOf {h0 : am_H} {Z : am_M} (hG : AG h0) (w k : Int) (hW : WM (gP h0)) (hwR : am_R w) (hkR : am_R k)  : Ct 2 Y2_wordOf [.inr (6, 0), .inl w, .inl k] (some (.inl (gword (gP h0) w k))) (am_U h0 (h0.2 1) Z) (am_U h0 (h0.2 1) Z) := by
  refine Ct_of (by decide +kernel) (Nat.le_of_ble_eq_true rfl) ?_
  show Sx 2 Y2_wordOf (am_U h0 (h0.2 1) Z) (some (.inl (gword (gP h0) w k))) 0 [some (.inr (6, 0)), some (.inl w), some (.inl k), none] [] (am_U h0 (h0.2 1) Z)
  refine sx_vh (fun hV => ?_)
  have hR : ∀ j k, am_R (gP h0 j k) := fun j k => by
    have := hV.1 (h0.2 0) j k
    rwa [gZ_p hG] at this
  obtain ⟨w0, w2, w1, w5, w8, w12, wb⟩ := id hW
  refine sx_aload_n dX2_wordOf_0 rfl ?_
  refine gg_getp dX2_wordOf_1 fl_X2_23 rfl ?_
  refine sx_iload_n dX2_wordOf_4 rfl ?_
  refine sx_callVi dX2_wordOf_5 ml_X2_108 mv0_hasWord (Ct_p hG (ty_hasWord (hG.2.2 0) _ hwR)) rfl (am_obM (hG.2.2 0)) rfl (Nat.le_of_ble_eq_true rfl) (Nat.le_of_ble_eq_true rfl) ?_
  refine sx_ifB_ne (tgt := 14) dX2_wordOf_8 (by decide) (fun c8 => ?_) (fun c8 => ?_)
  · -- 8t
    have hw24 : 0 ≤ w ∧ w < 24 := ⟨c8.1, by omega⟩
    have hyf := yfate_b (gP h0) w
    refine sx_aload_n dX2_wordOf_14 rfl ?_
    refine gg_getp dX2_wordOf_15 fl_X2_23 rfl ?_
    refine sx_iload_n dX2_wordOf_18 rfl ?_
    refine sx_callVi dX2_wordOf_19 ml_X2_111 mv0_fateOf (Ct_p hG (ty_fateOf (hG.2.2 0) _ hw24)) rfl (am_obM (hG.2.2 0)) rfl (Nat.le_of_ble_eq_true rfl) (Nat.le_of_ble_eq_true rfl) ?_
    refine sx_istore_n dX2_wordOf_22 (by decide) ?_
    refine sx_iload_n dX2_wordOf_23 rfl ?_
    have hs24 : k < 0 ∨ 5 < k ∨ k = 0 ∨ k = 1 ∨ k = 2 ∨ k = 3 ∨ k = 4 ∨ k = 5 := by omega
    rcases hs24 with hs24 | hs24 | hs24 | hs24 | hs24 | hs24 | hs24 | hs24
    · refine sx_tableOut (tgt := 154) dX2_wordOf_24 (by first | omega | assumption | (with_reducible first | exact hR _ _ | exact rd_R hR _ _ | exact am_R_and _ _ | exact am_R_or _ _ | exact am_R_xor _ _ | exact am_R_shl _ _ | exact am_R_shr _ _ | exact bit_R _ _ | exact ybc_R _ | exact yps_R _ _) | (exact ⟨by omega, by omega⟩) | exact hR _ _) (Or.inl hs24) (by decide) ?_
      refine sx_ldc dX2_wordOf_154 kc_X2_59 ?_
      exact sx_iret dX2_wordOf_156 rfl (by unfold gword; simp only [if_pos c8]; first | done | rfl | rw [if_neg (by omega), if_neg (by omega), if_neg (by omega), if_neg (by omega), if_neg (by omega), if_neg (by omega)]) rfl
    · refine sx_tableOut (tgt := 154) dX2_wordOf_24 (by first | omega | assumption | (with_reducible first | exact hR _ _ | exact rd_R hR _ _ | exact am_R_and _ _ | exact am_R_or _ _ | exact am_R_xor _ _ | exact am_R_shl _ _ | exact am_R_shr _ _ | exact bit_R _ _ | exact ybc_R _ | exact yps_R _ _) | (exact ⟨by omega, by omega⟩) | exact hR _ _) (Or.inr hs24) (by decide) ?_
      refine sx_ldc dX2_wordOf_154 kc_X2_59 ?_
      exact sx_iret dX2_wordOf_156 rfl (by unfold gword; simp only [if_pos c8]; first | done | rfl | rw [if_neg (by omega), if_neg (by omega), if_neg (by omega), if_neg (by omega), if_neg (by omega), if_neg (by omega)]) rfl
    · subst hs24
      refine sx_tableIn (tgt := 64) (off := 40) dX2_wordOf_24 ⟨by decide, by decide⟩ (by decide) (by decide) rfl (by decide) ?_
      refine sx_iload_n dX2_wordOf_64 rfl ?_
      exact sx_iret dX2_wordOf_65 rfl (by unfold gword; simp only [if_pos c8]; first | done | rfl | rw [if_neg (by omega), if_neg (by omega), if_neg (by omega), if_neg (by omega), if_neg (by omega), if_neg (by omega)]) rfl
    · subst hs24
      refine sx_tableIn (tgt := 66) (off := 42) dX2_wordOf_24 ⟨by decide, by decide⟩ (by decide) (by decide) rfl (by decide) ?_
      refine sx_iload_n dX2_wordOf_66 rfl ?_
      refine sx_if_ne (tgt := 82) dX2_wordOf_67 (by decide) (by first | omega | assumption | (with_reducible first | exact hR _ _ | exact rd_R hR _ _ | exact am_R_and _ _ | exact am_R_or _ _ | exact am_R_xor _ _ | exact am_R_shl _ _ | exact am_R_shr _ _ | exact bit_R _ _ | exact ybc_R _ | exact yps_R _ _) | (exact ⟨by omega, by omega⟩) | exact hR _ _) (fun c67 => ?_) (fun c67 => ?_)
      · -- 67t
        refine sx_ldc dX2_wordOf_82 kc_X2_101 ?_
        exact sx_iret dX2_wordOf_84 rfl (by unfold gword; simp only [if_pos c8, if_neg c67]; first | done | rfl | rw [if_neg (by omega), if_neg (by omega), if_neg (by omega), if_neg (by omega), if_neg (by omega), if_neg (by omega)]) rfl
      · -- 67f
        refine sx_aload_n dX2_wordOf_70 rfl ?_
        refine gg_getp dX2_wordOf_71 fl_X2_23 rfl ?_
        refine gz_getr (j := 10) hG dX2_wordOf_74 fl_X2_123 (by decide) ?_
        refine sx_iload_n dX2_wordOf_77 rfl ?_
        refine gz_ild (n := 24) hG dX2_wordOf_78 (by decide) rfl (by decide) (by first | omega | assumption | (with_reducible first | exact hR _ _ | exact rd_R hR _ _ | exact am_R_and _ _ | exact am_R_or _ _ | exact am_R_xor _ _ | exact am_R_shl _ _ | exact am_R_shr _ _ | exact bit_R _ _ | exact ybc_R _ | exact yps_R _ _) | (exact ⟨by omega, by omega⟩) | exact hR _ _) (by first | omega | assumption | (with_reducible first | exact hR _ _ | exact rd_R hR _ _ | exact am_R_and _ _ | exact am_R_or _ _ | exact am_R_xor _ _ | exact am_R_shl _ _ | exact am_R_shr _ _ | exact bit_R _ _ | exact ybc_R _ | exact yps_R _ _) | (exact ⟨by omega, by omega⟩) | exact hR _ _) (fun r78 => ?_)
        refine sx_goto (tgt := 84) dX2_wordOf_79 (by decide) ?_
        exact sx_iret dX2_wordOf_84 rfl (by unfold gword; simp only [if_pos c8, if_pos c67]; first | done | rfl | rw [if_neg (by omega), if_neg (by omega), if_neg (by omega), if_neg (by omega), if_neg (by omega), if_neg (by omega)]) rfl
    · subst hs24
      refine sx_tableIn (tgt := 85) (off := 61) dX2_wordOf_24 ⟨by decide, by decide⟩ (by decide) (by decide) rfl (by decide) ?_
      refine sx_iload_n dX2_wordOf_85 rfl ?_
      refine sx_iconst dX2_wordOf_86 ?_
      refine sx_icmp_ne (tgt := 95) dX2_wordOf_87 (by decide) (by first | omega | assumption | (with_reducible first | exact hR _ _ | exact rd_R hR _ _ | exact am_R_and _ _ | exact am_R_or _ _ | exact am_R_xor _ _ | exact am_R_shl _ _ | exact am_R_shr _ _ | exact bit_R _ _ | exact ybc_R _ | exact yps_R _ _) | (exact ⟨by omega, by omega⟩) | exact hR _ _) ⟨by decide, by decide⟩ (fun c87 => ?_) (fun c87 => ?_)
      · -- 87t
        refine sx_aload_n dX2_wordOf_95 rfl ?_
        refine gg_getp dX2_wordOf_96 fl_X2_23 rfl ?_
        refine gz_getr (j := 11) hG dX2_wordOf_99 fl_X2_126 (by decide) ?_
        refine sx_iload_n dX2_wordOf_102 rfl ?_
        refine gz_ild (n := 24) hG dX2_wordOf_103 (by decide) rfl (by decide) (by first | omega | assumption | (with_reducible first | exact hR _ _ | exact rd_R hR _ _ | exact am_R_and _ _ | exact am_R_or _ _ | exact am_R_xor _ _ | exact am_R_shl _ _ | exact am_R_shr _ _ | exact bit_R _ _ | exact ybc_R _ | exact yps_R _ _) | (exact ⟨by omega, by omega⟩) | exact hR _ _) (by first | omega | assumption | (with_reducible first | exact hR _ _ | exact rd_R hR _ _ | exact am_R_and _ _ | exact am_R_or _ _ | exact am_R_xor _ _ | exact am_R_shl _ _ | exact am_R_shr _ _ | exact bit_R _ _ | exact ybc_R _ | exact yps_R _ _) | (exact ⟨by omega, by omega⟩) | exact hR _ _) (fun r103 => ?_)
        exact sx_iret dX2_wordOf_104 rfl (by unfold gword; simp only [if_pos c8, if_neg c87]; first | done | rfl | rw [if_neg (by omega), if_neg (by omega), if_neg (by omega), if_neg (by omega), if_neg (by omega), if_neg (by omega)]) rfl
      · -- 87f
        refine sx_ldc dX2_wordOf_90 kc_X2_101 ?_
        refine sx_goto (tgt := 104) dX2_wordOf_92 (by decide) ?_
        exact sx_iret dX2_wordOf_104 rfl (by unfold gword; simp only [if_pos c8, if_pos c87]; first | done | rfl | rw [if_neg (by omega), if_neg (by omega), if_neg (by omega), if_neg (by omega), if_neg (by omega), if_neg (by omega)]) rfl
    · subst hs24
      refine sx_tableIn (tgt := 105) (off := 81) dX2_wordOf_24 ⟨by decide, by decide⟩ (by decide) (by decide) rfl (by decide) ?_
      refine sx_iload_n dX2_wordOf_105 rfl ?_
      refine sx_iconst dX2_wordOf_106 ?_
      refine sx_icmp_ne (tgt := 115) dX2_wordOf_107 (by decide) (by first | omega | assumption | (with_reducible first | exact hR _ _ | exact rd_R hR _ _ | exact am_R_and _ _ | exact am_R_or _ _ | exact am_R_xor _ _ | exact am_R_shl _ _ | exact am_R_shr _ _ | exact bit_R _ _ | exact ybc_R _ | exact yps_R _ _) | (exact ⟨by omega, by omega⟩) | exact hR _ _) ⟨by decide, by decide⟩ (fun c107 => ?_) (fun c107 => ?_)
      · -- 107t
        refine sx_aload_n dX2_wordOf_115 rfl ?_
        refine gg_getp dX2_wordOf_116 fl_X2_23 rfl ?_
        refine gz_getr (j := 12) hG dX2_wordOf_119 fl_X2_129 (by decide) ?_
        refine sx_iload_n dX2_wordOf_122 rfl ?_
        refine gz_ild (n := 24) hG dX2_wordOf_123 (by decide) rfl (by decide) (by first | omega | assumption | (with_reducible first | exact hR _ _ | exact rd_R hR _ _ | exact am_R_and _ _ | exact am_R_or _ _ | exact am_R_xor _ _ | exact am_R_shl _ _ | exact am_R_shr _ _ | exact bit_R _ _ | exact ybc_R _ | exact yps_R _ _) | (exact ⟨by omega, by omega⟩) | exact hR _ _) (by first | omega | assumption | (with_reducible first | exact hR _ _ | exact rd_R hR _ _ | exact am_R_and _ _ | exact am_R_or _ _ | exact am_R_xor _ _ | exact am_R_shl _ _ | exact am_R_shr _ _ | exact bit_R _ _ | exact ybc_R _ | exact yps_R _ _) | (exact ⟨by omega, by omega⟩) | exact hR _ _) (fun r123 => ?_)
        exact sx_iret dX2_wordOf_124 rfl (by unfold gword; simp only [if_pos c8, if_neg c107]; first | done | rfl | rw [if_neg (by omega), if_neg (by omega), if_neg (by omega), if_neg (by omega), if_neg (by omega), if_neg (by omega)]) rfl
      · -- 107f
        refine sx_ldc dX2_wordOf_110 kc_X2_101 ?_
        refine sx_goto (tgt := 124) dX2_wordOf_112 (by decide) ?_
        exact sx_iret dX2_wordOf_124 rfl (by unfold gword; simp only [if_pos c8, if_pos c107]; first | done | rfl | rw [if_neg (by omega), if_neg (by omega), if_neg (by omega), if_neg (by omega), if_neg (by omega), if_neg (by omega)]) rfl
    · subst hs24
      refine sx_tableIn (tgt := 125) (off := 101) dX2_wordOf_24 ⟨by decide, by decide⟩ (by decide) (by decide) rfl (by decide) ?_
      refine sx_iload_n dX2_wordOf_125 rfl ?_
      refine sx_iconst dX2_wordOf_126 ?_
      refine sx_icmp_ne (tgt := 141) dX2_wordOf_127 (by decide) (by first | omega | assumption | (with_reducible first | exact hR _ _ | exact rd_R hR _ _ | exact am_R_and _ _ | exact am_R_or _ _ | exact am_R_xor _ _ | exact am_R_shl _ _ | exact am_R_shr _ _ | exact bit_R _ _ | exact ybc_R _ | exact yps_R _ _) | (exact ⟨by omega, by omega⟩) | exact hR _ _) ⟨by decide, by decide⟩ (fun c127 => ?_) (fun c127 => ?_)
      · -- 127t
        refine sx_ldc dX2_wordOf_141 kc_X2_101 ?_
        exact sx_iret dX2_wordOf_143 rfl (by unfold gword; simp only [if_pos c8, if_neg c127]; first | done | rfl | rw [if_neg (by omega), if_neg (by omega), if_neg (by omega), if_neg (by omega), if_neg (by omega), if_neg (by omega)]) rfl
      · -- 127f
        refine sx_aload_n dX2_wordOf_130 rfl ?_
        refine gg_getp dX2_wordOf_131 fl_X2_23 rfl ?_
        refine sx_iload_n dX2_wordOf_134 rfl ?_
        refine sx_callVi dX2_wordOf_135 ml_X2_132 mv0_aheadOf (Ct_p hG (ty_aheadOf (hG.2.2 0) _ hW hw24 hwR)) rfl (am_obM (hG.2.2 0)) rfl (Nat.le_of_ble_eq_true rfl) (Nat.le_of_ble_eq_true rfl) ?_
        refine sx_goto (tgt := 143) dX2_wordOf_138 (by decide) ?_
        exact sx_iret dX2_wordOf_143 rfl (by unfold gword; simp only [if_pos c8, if_pos c127]; first | done | rfl | rw [if_neg (by omega), if_neg (by omega), if_neg (by omega), if_neg (by omega), if_neg (by omega), if_neg (by omega)]) rfl
    · subst hs24
      refine sx_tableIn (tgt := 144) (off := 120) dX2_wordOf_24 ⟨by decide, by decide⟩ (by decide) (by decide) rfl (by decide) ?_
      refine sx_aload_n dX2_wordOf_144 rfl ?_
      refine gg_getp dX2_wordOf_145 fl_X2_23 rfl ?_
      refine gz_getr (j := 13) hG dX2_wordOf_148 fl_X2_135 (by decide) ?_
      refine sx_iload_n dX2_wordOf_151 rfl ?_
      refine gz_ild (n := 24) hG dX2_wordOf_152 (by decide) rfl (by decide) (by first | omega | assumption | (with_reducible first | exact hR _ _ | exact rd_R hR _ _ | exact am_R_and _ _ | exact am_R_or _ _ | exact am_R_xor _ _ | exact am_R_shl _ _ | exact am_R_shr _ _ | exact bit_R _ _ | exact ybc_R _ | exact yps_R _ _) | (exact ⟨by omega, by omega⟩) | exact hR _ _) (by first | omega | assumption | (with_reducible first | exact hR _ _ | exact rd_R hR _ _ | exact am_R_and _ _ | exact am_R_or _ _ | exact am_R_xor _ _ | exact am_R_shl _ _ | exact am_R_shr _ _ | exact bit_R _ _ | exact ybc_R _ | exact yps_R _ _) | (exact ⟨by omega, by omega⟩) | exact hR _ _) (fun r152 => ?_)
      exact sx_iret dX2_wordOf_153 rfl (by unfold gword; simp only [if_pos c8]; first | done | rfl | rw [if_neg (by omega), if_neg (by omega), if_neg (by omega), if_neg (by omega), if_neg (by omega), if_neg (by omega)]) rfl
  · -- 8f
    refine sx_ldc dX2_wordOf_11 kc_X2_59 ?_
    exact sx_iret dX2_wordOf_13 rfl (by unfold gword; simp only [if_neg c8]; first | done | rfl | rw [if_neg (by omega), if_neg (by omega), if_neg (by omega), if_neg (by omega), if_neg (by omega), if_neg (by omega)]) rfl
set_option maxHeartbeats 4000000 in
set_option maxRecDepth 100000 in
theorem tg_familyOf {h0 : am_H} {Z : am_M} (hG : AG h0) (f k : Int) (hW : WM (gP h0)) (hfR : am_R f) (hkR : am_R k)  : Ct 2 Y2_familyOf [.inr (6, 0), .inl f, .inl k] (some (.inl (gfam (gP h0) f k))) (am_U h0 (h0.2 1) Z) (am_U h0 (h0.2 1) Z) := by
  refine Ct_of (by decide +kernel) (Nat.le_of_ble_eq_true rfl) ?_
  show Sx 2 Y2_familyOf (am_U h0 (h0.2 1) Z) (some (.inl (gfam (gP h0) f k))) 0 [some (.inr (6, 0)), some (.inl f), some (.inl k), none] [] (am_U h0 (h0.2 1) Z)
  refine sx_vh (fun hV => ?_)
  have hR : ∀ j k, am_R (gP h0 j k) := fun j k => by
    have := hV.1 (h0.2 0) j k
    rwa [gZ_p hG] at this
  obtain ⟨w0, w2, w1, w5, w8, w12, wb⟩ := id hW
  refine sx_iload_n dX2_familyOf_0 rfl ?_
  refine sx_callSi dX2_familyOf_1 ml_X2_138 ms2_isFamily (ty_isFamily _ hfR) rfl rfl (Nat.le_of_ble_eq_true rfl) (Nat.le_of_ble_eq_true rfl) ?_
  refine sx_ifB_ne (tgt := 10) dX2_familyOf_4 (by decide) (fun c4 => ?_) (fun c4 => ?_)
  · -- 4t
    refine sx_aload_n dX2_familyOf_10 rfl ?_
    refine gg_getp dX2_familyOf_11 fl_X2_23 rfl ?_
    refine gz_getr (j := 8) hG dX2_familyOf_14 fl_X2_141 (by decide) ?_
    refine sx_iload_n dX2_familyOf_17 rfl ?_
    refine gz_ild (n := 3) hG dX2_familyOf_18 (by decide) rfl (by decide) (by first | omega | assumption | (with_reducible first | exact hR _ _ | exact rd_R hR _ _ | exact am_R_and _ _ | exact am_R_or _ _ | exact am_R_xor _ _ | exact am_R_shl _ _ | exact am_R_shr _ _ | exact bit_R _ _ | exact ybc_R _ | exact yps_R _ _) | (exact ⟨by omega, by omega⟩) | exact hR _ _) (by first | omega | assumption | (with_reducible first | exact hR _ _ | exact rd_R hR _ _ | exact am_R_and _ _ | exact am_R_or _ _ | exact am_R_xor _ _ | exact am_R_shl _ _ | exact am_R_shr _ _ | exact bit_R _ _ | exact ybc_R _ | exact yps_R _ _) | (exact ⟨by omega, by omega⟩) | exact hR _ _) (fun r18 => ?_)
    refine sx_istore_n dX2_familyOf_19 (by decide) ?_
    refine sx_iload_n dX2_familyOf_20 rfl ?_
    have hs21 : k < 0 ∨ 6 < k ∨ k = 0 ∨ k = 1 ∨ k = 2 ∨ k = 3 ∨ k = 4 ∨ k = 5 ∨ k = 6 := by omega
    rcases hs21 with hs21 | hs21 | hs21 | hs21 | hs21 | hs21 | hs21 | hs21 | hs21
    · refine sx_tableOut (tgt := 167) dX2_familyOf_21 (by first | omega | assumption | (with_reducible first | exact hR _ _ | exact rd_R hR _ _ | exact am_R_and _ _ | exact am_R_or _ _ | exact am_R_xor _ _ | exact am_R_shl _ _ | exact am_R_shr _ _ | exact bit_R _ _ | exact ybc_R _ | exact yps_R _ _) | (exact ⟨by omega, by omega⟩) | exact hR _ _) (Or.inl hs21) (by decide) ?_
      refine sx_ldc dX2_familyOf_167 kc_X2_59 ?_
      exact sx_iret dX2_familyOf_169 rfl (by unfold gfam; simp only [if_pos c4]; first | done | rfl | rw [if_neg (by omega), if_neg (by omega), if_neg (by omega), if_neg (by omega), if_neg (by omega), if_neg (by omega), if_neg (by omega)]) rfl
    · refine sx_tableOut (tgt := 167) dX2_familyOf_21 (by first | omega | assumption | (with_reducible first | exact hR _ _ | exact rd_R hR _ _ | exact am_R_and _ _ | exact am_R_or _ _ | exact am_R_xor _ _ | exact am_R_shl _ _ | exact am_R_shr _ _ | exact bit_R _ _ | exact ybc_R _ | exact yps_R _ _) | (exact ⟨by omega, by omega⟩) | exact hR _ _) (Or.inr hs21) (by decide) ?_
      refine sx_ldc dX2_familyOf_167 kc_X2_59 ?_
      exact sx_iret dX2_familyOf_169 rfl (by unfold gfam; simp only [if_pos c4]; first | done | rfl | rw [if_neg (by omega), if_neg (by omega), if_neg (by omega), if_neg (by omega), if_neg (by omega), if_neg (by omega), if_neg (by omega)]) rfl
    · subst hs21
      refine sx_tableIn (tgt := 64) (off := 43) dX2_familyOf_21 ⟨by decide, by decide⟩ (by decide) (by decide) rfl (by decide) ?_
      refine sx_aload_n dX2_familyOf_64 rfl ?_
      refine gg_getp dX2_familyOf_65 fl_X2_23 rfl ?_
      refine gz_getr (j := 5) hG dX2_familyOf_68 fl_X2_144 (by decide) ?_
      refine sx_iload_n dX2_familyOf_71 rfl ?_
      refine gz_ild (n := 3) hG dX2_familyOf_72 (by decide) rfl (by decide) (by first | omega | assumption | (with_reducible first | exact hR _ _ | exact rd_R hR _ _ | exact am_R_and _ _ | exact am_R_or _ _ | exact am_R_xor _ _ | exact am_R_shl _ _ | exact am_R_shr _ _ | exact bit_R _ _ | exact ybc_R _ | exact yps_R _ _) | (exact ⟨by omega, by omega⟩) | exact hR _ _) (by first | omega | assumption | (with_reducible first | exact hR _ _ | exact rd_R hR _ _ | exact am_R_and _ _ | exact am_R_or _ _ | exact am_R_xor _ _ | exact am_R_shl _ _ | exact am_R_shr _ _ | exact bit_R _ _ | exact ybc_R _ | exact yps_R _ _) | (exact ⟨by omega, by omega⟩) | exact hR _ _) (fun r72 => ?_)
      refine sx_iconst dX2_familyOf_73 ?_
      refine sx_icmp_ne (tgt := 82) dX2_familyOf_74 (by decide) (by first | omega | assumption | (with_reducible first | exact hR _ _ | exact rd_R hR _ _ | exact am_R_and _ _ | exact am_R_or _ _ | exact am_R_xor _ _ | exact am_R_shl _ _ | exact am_R_shr _ _ | exact bit_R _ _ | exact ybc_R _ | exact yps_R _ _) | (exact ⟨by omega, by omega⟩) | exact hR _ _) ⟨by decide, by decide⟩ (fun c74 => ?_) (fun c74 => ?_)
      · -- 74t
        refine sx_aload_n dX2_familyOf_82 rfl ?_
        refine gg_getp dX2_familyOf_83 fl_X2_23 rfl ?_
        refine gz_getr (j := 5) hG dX2_familyOf_86 fl_X2_144 (by decide) ?_
        refine sx_iload_n dX2_familyOf_89 rfl ?_
        refine gz_ild (n := 3) hG dX2_familyOf_90 (by decide) rfl (by decide) (by first | omega | assumption | (with_reducible first | exact hR _ _ | exact rd_R hR _ _ | exact am_R_and _ _ | exact am_R_or _ _ | exact am_R_xor _ _ | exact am_R_shl _ _ | exact am_R_shr _ _ | exact bit_R _ _ | exact ybc_R _ | exact yps_R _ _) | (exact ⟨by omega, by omega⟩) | exact hR _ _) (by first | omega | assumption | (with_reducible first | exact hR _ _ | exact rd_R hR _ _ | exact am_R_and _ _ | exact am_R_or _ _ | exact am_R_xor _ _ | exact am_R_shl _ _ | exact am_R_shr _ _ | exact bit_R _ _ | exact ybc_R _ | exact yps_R _ _) | (exact ⟨by omega, by omega⟩) | exact hR _ _) (fun r90 => ?_)
        exact sx_iret dX2_familyOf_91 rfl (by unfold gfam; simp only [if_pos c4, if_neg c74]; first | done | rfl | rw [if_neg (by omega), if_neg (by omega), if_neg (by omega), if_neg (by omega), if_neg (by omega), if_neg (by omega), if_neg (by omega)]) rfl
      · -- 74f
        refine sx_ldc dX2_familyOf_77 kc_X2_101 ?_
        refine sx_goto (tgt := 91) dX2_familyOf_79 (by decide) ?_
        exact sx_iret dX2_familyOf_91 rfl (by unfold gfam; simp only [if_pos c4, if_pos c74]; first | done | rfl | rw [if_neg (by omega), if_neg (by omega), if_neg (by omega), if_neg (by omega), if_neg (by omega), if_neg (by omega), if_neg (by omega)]) rfl
    · subst hs21
      refine sx_tableIn (tgt := 92) (off := 71) dX2_familyOf_21 ⟨by decide, by decide⟩ (by decide) (by decide) rfl (by decide) ?_
      refine sx_aload_n dX2_familyOf_92 rfl ?_
      refine gg_getp dX2_familyOf_93 fl_X2_23 rfl ?_
      refine sx_iload_n dX2_familyOf_96 rfl ?_
      refine sx_callVi dX2_familyOf_97 ml_X2_147 mv0_livingOf (Ct_p hG (ty_livingOf (hG.2.2 0) _ hW hfR)) rfl (am_obM (hG.2.2 0)) rfl (Nat.le_of_ble_eq_true rfl) (Nat.le_of_ble_eq_true rfl) ?_
      exact sx_iret dX2_familyOf_100 rfl (by unfold gfam; simp only [if_pos c4]; first | done | rfl | rw [if_neg (by omega), if_neg (by omega), if_neg (by omega), if_neg (by omega), if_neg (by omega), if_neg (by omega), if_neg (by omega)]) rfl
    · subst hs21
      refine sx_tableIn (tgt := 101) (off := 80) dX2_familyOf_21 ⟨by decide, by decide⟩ (by decide) (by decide) rfl (by decide) ?_
      refine sx_iload_n dX2_familyOf_101 rfl ?_
      exact sx_iret dX2_familyOf_102 rfl (by unfold gfam; simp only [if_pos c4]; first | done | rfl | rw [if_neg (by omega), if_neg (by omega), if_neg (by omega), if_neg (by omega), if_neg (by omega), if_neg (by omega), if_neg (by omega)]) rfl
    · subst hs21
      refine sx_tableIn (tgt := 103) (off := 82) dX2_familyOf_21 ⟨by decide, by decide⟩ (by decide) (by decide) rfl (by decide) ?_
      refine sx_aload_n dX2_familyOf_103 rfl ?_
      refine gg_getp dX2_familyOf_104 fl_X2_23 rfl ?_
      refine sx_iload_n dX2_familyOf_107 rfl ?_
      refine sx_bipush dX2_familyOf_108 rfl ?_
      refine sx_callVi dX2_familyOf_110 ml_X2_150 mv0_keptIn (Ct_p hG (ty_keptIn (hG.2.2 0) _ _ hW hfR)) rfl (am_obM (hG.2.2 0)) rfl (Nat.le_of_ble_eq_true rfl) (Nat.le_of_ble_eq_true rfl) ?_
      exact sx_iret dX2_familyOf_113 rfl (by unfold gfam; simp only [if_pos c4]; first | done | rfl | rw [if_neg (by omega), if_neg (by omega), if_neg (by omega), if_neg (by omega), if_neg (by omega), if_neg (by omega), if_neg (by omega)]) rfl
    · subst hs21
      refine sx_tableIn (tgt := 114) (off := 93) dX2_familyOf_21 ⟨by decide, by decide⟩ (by decide) (by decide) rfl (by decide) ?_
      refine sx_aload_n dX2_familyOf_114 rfl ?_
      refine gg_getp dX2_familyOf_115 fl_X2_23 rfl ?_
      refine sx_iload_n dX2_familyOf_118 rfl ?_
      refine sx_callVi dX2_familyOf_119 ml_X2_153 mv0_guardedRows (Ct_p hG (ty_guardedRows (hG.2.2 0) _ hW c4)) rfl (am_obM (hG.2.2 0)) rfl (Nat.le_of_ble_eq_true rfl) (Nat.le_of_ble_eq_true rfl) ?_
      exact sx_iret dX2_familyOf_122 rfl (by unfold gfam; simp only [if_pos c4]; first | done | rfl | rw [if_neg (by omega), if_neg (by omega), if_neg (by omega), if_neg (by omega), if_neg (by omega), if_neg (by omega), if_neg (by omega)]) rfl
    · subst hs21
      refine sx_tableIn (tgt := 123) (off := 102) dX2_familyOf_21 ⟨by decide, by decide⟩ (by decide) (by decide) rfl (by decide) ?_
      refine sx_aload_n dX2_familyOf_123 rfl ?_
      refine gg_getp dX2_familyOf_124 fl_X2_23 rfl ?_
      refine sx_iload_n dX2_familyOf_127 rfl ?_
      refine sx_bipush dX2_familyOf_128 rfl ?_
      refine sx_aload_n dX2_familyOf_130 rfl ?_
      refine gg_getp dX2_familyOf_131 fl_X2_23 rfl ?_
      refine sx_iload_n dX2_familyOf_134 rfl ?_
      refine sx_callVi dX2_familyOf_135 ml_X2_153 mv0_guardedRows (Ct_p hG (ty_guardedRows (hG.2.2 0) _ hW c4)) rfl (am_obM (hG.2.2 0)) rfl (Nat.le_of_ble_eq_true rfl) (Nat.le_of_ble_eq_true rfl) ?_
      refine sx_iconst dX2_familyOf_138 ?_
      refine sx_ixor dX2_familyOf_139 ?_
      refine sx_iand dX2_familyOf_140 ?_
      refine sx_callVi dX2_familyOf_141 ml_X2_150 mv0_keptIn (Ct_p hG (ty_keptIn (hG.2.2 0) _ _ hW hfR)) rfl (am_obM (hG.2.2 0)) rfl (Nat.le_of_ble_eq_true rfl) (Nat.le_of_ble_eq_true rfl) ?_
      exact sx_iret dX2_familyOf_144 rfl (by unfold gfam; simp only [if_pos c4]; first | done | rfl | rw [if_neg (by omega), if_neg (by omega), if_neg (by omega), if_neg (by omega), if_neg (by omega), if_neg (by omega), if_neg (by omega)]) rfl
    · subst hs21
      refine sx_tableIn (tgt := 145) (off := 124) dX2_familyOf_21 ⟨by decide, by decide⟩ (by decide) (by decide) rfl (by decide) ?_
      refine sx_iload_n dX2_familyOf_145 rfl ?_
      refine sx_if_ne (tgt := 154) dX2_familyOf_146 (by decide) (by first | omega | assumption | (with_reducible first | exact hR _ _ | exact rd_R hR _ _ | exact am_R_and _ _ | exact am_R_or _ _ | exact am_R_xor _ _ | exact am_R_shl _ _ | exact am_R_shr _ _ | exact bit_R _ _ | exact ybc_R _ | exact yps_R _ _) | (exact ⟨by omega, by omega⟩) | exact hR _ _) (fun c146 => ?_) (fun c146 => ?_)
      · -- 146t
        refine sx_aload_n dX2_familyOf_154 rfl ?_
        refine gg_getp dX2_familyOf_155 fl_X2_23 rfl ?_
        refine gz_getr (j := 7) hG dX2_familyOf_158 fl_X2_156 (by decide) ?_
        refine sx_iload_n dX2_familyOf_161 rfl ?_
        refine sx_bipush dX2_familyOf_162 rfl ?_
        refine sx_imul dX2_familyOf_164 ?_
        refine gz_ild (n := 18) hG dX2_familyOf_165 (by decide) rfl (by decide) (by first | omega | assumption | (with_reducible first | exact hR _ _ | exact rd_R hR _ _ | exact am_R_and _ _ | exact am_R_or _ _ | exact am_R_xor _ _ | exact am_R_shl _ _ | exact am_R_shr _ _ | exact bit_R _ _ | exact ybc_R _ | exact yps_R _ _) | (exact ⟨by omega, by omega⟩) | exact hR _ _) (by first | omega | assumption | (with_reducible first | exact hR _ _ | exact rd_R hR _ _ | exact am_R_and _ _ | exact am_R_or _ _ | exact am_R_xor _ _ | exact am_R_shl _ _ | exact am_R_shr _ _ | exact bit_R _ _ | exact ybc_R _ | exact yps_R _ _) | (exact ⟨by omega, by omega⟩) | exact hR _ _) (fun r165 => ?_)
        exact sx_iret dX2_familyOf_166 rfl (by unfold gfam; simp only [if_pos c4, if_neg c146]; first | done | rfl | rw [if_neg (by omega), if_neg (by omega), if_neg (by omega), if_neg (by omega), if_neg (by omega), if_neg (by omega), if_neg (by omega)]) rfl
      · -- 146f
        refine sx_ldc dX2_familyOf_149 kc_X2_101 ?_
        refine sx_goto (tgt := 166) dX2_familyOf_151 (by decide) ?_
        exact sx_iret dX2_familyOf_166 rfl (by unfold gfam; simp only [if_pos c4, if_pos c146]; first | done | rfl | rw [if_neg (by omega), if_neg (by omega), if_neg (by omega), if_neg (by omega), if_neg (by omega), if_neg (by omega), if_neg (by omega)]) rfl
  · -- 4f
    refine sx_ldc dX2_familyOf_7 kc_X2_59 ?_
    exact sx_iret dX2_familyOf_9 rfl (by unfold gfam; simp only [if_neg c4]; first | done | rfl | rw [if_neg (by omega), if_neg (by omega), if_neg (by omega), if_neg (by omega), if_neg (by omega), if_neg (by omega), if_neg (by omega)]) rfl
set_option maxHeartbeats 4000000 in
set_option maxRecDepth 100000 in
theorem tg_count {h0 : am_H} {Z : am_M} (hG : AG h0) (k : Int) (hW : WM (gP h0)) (hkR : am_R k)  : Ct 2 Y2_count [.inr (6, 0), .inl k] (some (.inl (gcnt (gP h0) (h0.1 6 0 4) (h0.1 6 2 1) k))) (am_U h0 (h0.2 1) Z) (am_U h0 (h0.2 1) Z) := by
  refine Ct_of (by decide +kernel) (Nat.le_of_ble_eq_true rfl) ?_
  show Sx 2 Y2_count (am_U h0 (h0.2 1) Z) (some (.inl (gcnt (gP h0) (h0.1 6 0 4) (h0.1 6 2 1) k))) 0 [some (.inr (6, 0)), some (.inl k)] [] (am_U h0 (h0.2 1) Z)
  refine sx_vh (fun hV => ?_)
  have hR : ∀ j k, am_R (gP h0 j k) := fun j k => by
    have := hV.1 (h0.2 0) j k
    rwa [gZ_p hG] at this
  obtain ⟨w0, w2, w1, w5, w8, w12, wb⟩ := id hW
  refine sx_iload_n dX2_count_0 rfl ?_
  have hs1 : k < 0 ∨ 11 < k ∨ k = 0 ∨ k = 1 ∨ k = 2 ∨ k = 3 ∨ k = 4 ∨ k = 5 ∨ k = 6 ∨ k = 7 ∨ k = 8 ∨ k = 9 ∨ k = 10 ∨ k = 11 := by omega
  rcases hs1 with hs1 | hs1 | hs1 | hs1 | hs1 | hs1 | hs1 | hs1 | hs1 | hs1 | hs1 | hs1 | hs1 | hs1
  · refine sx_tableOut (tgt := 176) dX2_count_1 (by first | omega | assumption | (with_reducible first | exact hR _ _ | exact rd_R hR _ _ | exact am_R_and _ _ | exact am_R_or _ _ | exact am_R_xor _ _ | exact am_R_shl _ _ | exact am_R_shr _ _ | exact bit_R _ _ | exact ybc_R _ | exact yps_R _ _) | (exact ⟨by omega, by omega⟩) | exact hR _ _) (Or.inl hs1) (by decide) ?_
    refine sx_ldc dX2_count_176 kc_X2_59 ?_
    exact sx_iret dX2_count_178 rfl (by unfold gcnt; first | done | rfl | rw [if_neg (by omega), if_neg (by omega), if_neg (by omega), if_neg (by omega), if_neg (by omega), if_neg (by omega), if_neg (by omega), if_neg (by omega), if_neg (by omega), if_neg (by omega), if_neg (by omega), if_neg (by omega)]) rfl
  · refine sx_tableOut (tgt := 176) dX2_count_1 (by first | omega | assumption | (with_reducible first | exact hR _ _ | exact rd_R hR _ _ | exact am_R_and _ _ | exact am_R_or _ _ | exact am_R_xor _ _ | exact am_R_shl _ _ | exact am_R_shr _ _ | exact bit_R _ _ | exact ybc_R _ | exact yps_R _ _) | (exact ⟨by omega, by omega⟩) | exact hR _ _) (Or.inr hs1) (by decide) ?_
    refine sx_ldc dX2_count_176 kc_X2_59 ?_
    exact sx_iret dX2_count_178 rfl (by unfold gcnt; first | done | rfl | rw [if_neg (by omega), if_neg (by omega), if_neg (by omega), if_neg (by omega), if_neg (by omega), if_neg (by omega), if_neg (by omega), if_neg (by omega), if_neg (by omega), if_neg (by omega), if_neg (by omega), if_neg (by omega)]) rfl
  · subst hs1
    refine sx_tableIn (tgt := 64) (off := 63) dX2_count_1 ⟨by decide, by decide⟩ (by decide) (by decide) rfl (by decide) ?_
    refine sx_aload_n dX2_count_64 rfl ?_
    refine gg_getp dX2_count_65 fl_X2_23 rfl ?_
    refine gz_geti hG dX2_count_68 fl_X2_165 (by decide) (fun r68 => ?_)
    exact sx_iret dX2_count_71 rfl (by unfold gcnt; first | done | rfl | rw [if_neg (by omega), if_neg (by omega), if_neg (by omega), if_neg (by omega), if_neg (by omega), if_neg (by omega), if_neg (by omega), if_neg (by omega), if_neg (by omega), if_neg (by omega), if_neg (by omega), if_neg (by omega)]) rfl
  · subst hs1
    refine sx_tableIn (tgt := 72) (off := 71) dX2_count_1 ⟨by decide, by decide⟩ (by decide) (by decide) rfl (by decide) ?_
    refine sx_aload_n dX2_count_72 rfl ?_
    refine gg_getp dX2_count_73 fl_X2_23 rfl ?_
    refine gz_geti hG dX2_count_76 fl_X2_175 (by decide) (fun r76 => ?_)
    refine sx_callSi dX2_count_79 ml_X2_76 ms6_bitCount (ty_bitCount _) rfl rfl (Nat.le_of_ble_eq_true rfl) (Nat.le_of_ble_eq_true rfl) ?_
    exact sx_iret dX2_count_82 rfl (by unfold gcnt; first | done | rfl | rw [if_neg (by omega), if_neg (by omega), if_neg (by omega), if_neg (by omega), if_neg (by omega), if_neg (by omega), if_neg (by omega), if_neg (by omega), if_neg (by omega), if_neg (by omega), if_neg (by omega), if_neg (by omega)]) rfl
  · subst hs1
    refine sx_tableIn (tgt := 83) (off := 82) dX2_count_1 ⟨by decide, by decide⟩ (by decide) (by decide) rfl (by decide) ?_
    refine sx_aload_n dX2_count_83 rfl ?_
    refine gg_getp dX2_count_84 fl_X2_23 rfl ?_
    refine gz_geti hG dX2_count_87 fl_X2_178 (by decide) (fun r87 => ?_)
    exact sx_iret dX2_count_90 rfl (by unfold gcnt; first | done | rfl | rw [if_neg (by omega), if_neg (by omega), if_neg (by omega), if_neg (by omega), if_neg (by omega), if_neg (by omega), if_neg (by omega), if_neg (by omega), if_neg (by omega), if_neg (by omega), if_neg (by omega), if_neg (by omega)]) rfl
  · subst hs1
    refine sx_tableIn (tgt := 91) (off := 90) dX2_count_1 ⟨by decide, by decide⟩ (by decide) (by decide) rfl (by decide) ?_
    refine sx_aload_n dX2_count_91 rfl ?_
    refine gg_getp dX2_count_92 fl_X2_23 rfl ?_
    refine sx_callVi dX2_count_95 ml_X2_181 mv0_wordsKept (Ct_p hG (ty_wordsKept (hG.2.2 0) hW)) rfl (am_obM (hG.2.2 0)) rfl (Nat.le_of_ble_eq_true rfl) (Nat.le_of_ble_eq_true rfl) ?_
    exact sx_iret dX2_count_98 rfl (by unfold gcnt; first | done | rfl | rw [if_neg (by omega), if_neg (by omega), if_neg (by omega), if_neg (by omega), if_neg (by omega), if_neg (by omega), if_neg (by omega), if_neg (by omega), if_neg (by omega), if_neg (by omega), if_neg (by omega), if_neg (by omega)]) rfl
  · subst hs1
    refine sx_tableIn (tgt := 99) (off := 98) dX2_count_1 ⟨by decide, by decide⟩ (by decide) (by decide) rfl (by decide) ?_
    refine sx_aload_n dX2_count_99 rfl ?_
    refine gg_getp dX2_count_100 fl_X2_23 rfl ?_
    refine sx_callVi dX2_count_103 ml_X2_171 mv0_wordsWaiting (Ct_p hG (ty_wordsWaiting (hG.2.2 0))) rfl (am_obM (hG.2.2 0)) rfl (Nat.le_of_ble_eq_true rfl) (Nat.le_of_ble_eq_true rfl) ?_
    exact sx_iret dX2_count_106 rfl (by unfold gcnt; first | done | rfl | rw [if_neg (by omega), if_neg (by omega), if_neg (by omega), if_neg (by omega), if_neg (by omega), if_neg (by omega), if_neg (by omega), if_neg (by omega), if_neg (by omega), if_neg (by omega), if_neg (by omega), if_neg (by omega)]) rfl
  · subst hs1
    refine sx_tableIn (tgt := 107) (off := 106) dX2_count_1 ⟨by decide, by decide⟩ (by decide) (by decide) rfl (by decide) ?_
    refine sx_aload_n dX2_count_107 rfl ?_
    refine gg_getp dX2_count_108 fl_X2_23 rfl ?_
    refine gz_geti hG dX2_count_111 fl_X2_178 (by decide) (fun r111 => ?_)
    refine sx_aload_n dX2_count_114 rfl ?_
    refine gg_getp dX2_count_115 fl_X2_23 rfl ?_
    refine sx_callVi dX2_count_118 ml_X2_181 mv0_wordsKept (Ct_p hG (ty_wordsKept (hG.2.2 0) hW)) rfl (am_obM (hG.2.2 0)) rfl (Nat.le_of_ble_eq_true rfl) (Nat.le_of_ble_eq_true rfl) ?_
    refine sx_isub dX2_count_121 ?_
    refine sx_aload_n dX2_count_122 rfl ?_
    refine gg_getp dX2_count_123 fl_X2_23 rfl ?_
    refine sx_callVi dX2_count_126 ml_X2_171 mv0_wordsWaiting (Ct_p hG (ty_wordsWaiting (hG.2.2 0))) rfl (am_obM (hG.2.2 0)) rfl (Nat.le_of_ble_eq_true rfl) (Nat.le_of_ble_eq_true rfl) ?_
    refine sx_isub dX2_count_129 ?_
    exact sx_iret dX2_count_130 rfl (by unfold gcnt; first | done | rfl | rw [if_neg (by omega), if_neg (by omega), if_neg (by omega), if_neg (by omega), if_neg (by omega), if_neg (by omega), if_neg (by omega), if_neg (by omega), if_neg (by omega), if_neg (by omega), if_neg (by omega), if_neg (by omega)]) rfl
  · subst hs1
    refine sx_tableIn (tgt := 131) (off := 130) dX2_count_1 ⟨by decide, by decide⟩ (by decide) (by decide) rfl (by decide) ?_
    refine sx_aload_n dX2_count_131 rfl ?_
    refine gg_getp dX2_count_132 fl_X2_23 rfl ?_
    refine gz_geti hG dX2_count_135 fl_X2_168 (by decide) (fun r135 => ?_)
    exact sx_iret dX2_count_138 rfl (by unfold gcnt; first | done | rfl | rw [if_neg (by omega), if_neg (by omega), if_neg (by omega), if_neg (by omega), if_neg (by omega), if_neg (by omega), if_neg (by omega), if_neg (by omega), if_neg (by omega), if_neg (by omega), if_neg (by omega), if_neg (by omega)]) rfl
  · subst hs1
    refine sx_tableIn (tgt := 139) (off := 138) dX2_count_1 ⟨by decide, by decide⟩ (by decide) (by decide) rfl (by decide) ?_
    refine sx_aload_n dX2_count_139 rfl ?_
    refine gg_getp dX2_count_140 fl_X2_23 rfl ?_
    refine gz_geti hG dX2_count_143 fl_X2_184 (by decide) (fun r143 => ?_)
    exact sx_iret dX2_count_146 rfl (by unfold gcnt; first | done | rfl | rw [if_neg (by omega), if_neg (by omega), if_neg (by omega), if_neg (by omega), if_neg (by omega), if_neg (by omega), if_neg (by omega), if_neg (by omega), if_neg (by omega), if_neg (by omega), if_neg (by omega), if_neg (by omega)]) rfl
  · subst hs1
    refine sx_tableIn (tgt := 147) (off := 146) dX2_count_1 ⟨by decide, by decide⟩ (by decide) (by decide) rfl (by decide) ?_
    refine sx_aload_n dX2_count_147 rfl ?_
    refine gg_getp dX2_count_148 fl_X2_23 rfl ?_
    refine sx_callVi dX2_count_151 ml_X2_187 mv0_godfathers (Ct_p hG (ty_godfathers (hG.2.2 0))) rfl (am_obM (hG.2.2 0)) rfl (Nat.le_of_ble_eq_true rfl) (Nat.le_of_ble_eq_true rfl) ?_
    exact sx_iret dX2_count_154 rfl (by unfold gcnt; first | done | rfl | rw [if_neg (by omega), if_neg (by omega), if_neg (by omega), if_neg (by omega), if_neg (by omega), if_neg (by omega), if_neg (by omega), if_neg (by omega), if_neg (by omega), if_neg (by omega), if_neg (by omega), if_neg (by omega)]) rfl
  · subst hs1
    refine sx_tableIn (tgt := 155) (off := 154) dX2_count_1 ⟨by decide, by decide⟩ (by decide) (by decide) rfl (by decide) ?_
    refine sx_aload_n dX2_count_155 rfl ?_
    refine gg_getp dX2_count_156 fl_X2_23 rfl ?_
    refine sx_callVi dX2_count_159 ml_X2_190 mv0_allPlaces (Ct_p hG (ty_allPlaces (hG.2.2 0) hW)) rfl (am_obM (hG.2.2 0)) rfl (Nat.le_of_ble_eq_true rfl) (Nat.le_of_ble_eq_true rfl) ?_
    exact sx_iret dX2_count_162 rfl (by unfold gcnt; first | done | rfl | rw [if_neg (by omega), if_neg (by omega), if_neg (by omega), if_neg (by omega), if_neg (by omega), if_neg (by omega), if_neg (by omega), if_neg (by omega), if_neg (by omega), if_neg (by omega), if_neg (by omega), if_neg (by omega)]) rfl
  · subst hs1
    refine sx_tableIn (tgt := 163) (off := 162) dX2_count_1 ⟨by decide, by decide⟩ (by decide) (by decide) rfl (by decide) ?_
    refine sx_aload_n dX2_count_163 rfl ?_
    refine gg_gets dX2_count_164 fl_X2_30 (congrFun (congrFun (am_U_ne h0 Z (show 6 ≠ h0.2 1 by have := hG.2.2 1; omega)) 0) 4) ?_
    exact sx_iret dX2_count_167 rfl (by unfold gcnt; first | done | rfl | rw [if_neg (by omega), if_neg (by omega), if_neg (by omega), if_neg (by omega), if_neg (by omega), if_neg (by omega), if_neg (by omega), if_neg (by omega), if_neg (by omega), if_neg (by omega), if_neg (by omega), if_neg (by omega)]) rfl
  · subst hs1
    refine sx_tableIn (tgt := 168) (off := 167) dX2_count_1 ⟨by decide, by decide⟩ (by decide) (by decide) rfl (by decide) ?_
    refine sx_aload_n dX2_count_168 rfl ?_
    refine gg_geto dX2_count_169 fl_X2_19 ?_
    refine go_geti dX2_count_172 fl_X2_193 (by decide) (congrFun (congrFun (am_U_ne h0 Z (show 6 ≠ h0.2 1 by have := hG.2.2 1; omega)) 2) 1) (fun r172 => ?_)
    exact sx_iret dX2_count_175 rfl (by unfold gcnt; first | done | rfl | rw [if_neg (by omega), if_neg (by omega), if_neg (by omega), if_neg (by omega), if_neg (by omega), if_neg (by omega), if_neg (by omega), if_neg (by omega), if_neg (by omega), if_neg (by omega), if_neg (by omega), if_neg (by omega)]) rfl
set_option maxHeartbeats 4000000 in
set_option maxRecDepth 100000 in
theorem tg_freshTrial {h0 : am_H} {Z : am_M} (hG : AG h0)  : Ct 2 Y2_freshTrial [.inr (6, 0)] (some (.inr (h0.2 1, 0))) (am_U h0 (h0.2 1) Z) (am_U h0 (h0.2 1) (gP h0)) := by
  refine Ct_of (by decide +kernel) (Nat.le_of_ble_eq_true rfl) ?_
  show Sx 2 Y2_freshTrial (am_U h0 (h0.2 1) (gP h0)) (some (.inr (h0.2 1, 0))) 0 [some (.inr (6, 0))] [] (am_U h0 (h0.2 1) Z)
  refine sx_aload_n dX2_freshTrial_0 rfl ?_
  refine gg_gett dX2_freshTrial_1 fl_X2_27 rfl ?_
  refine sx_aload_n dX2_freshTrial_4 rfl ?_
  refine gg_getp dX2_freshTrial_5 fl_X2_23 rfl ?_
  refine sx_callVv dX2_freshTrial_8 ml_X2_196 mv0_copyFrom (ty_copyFrom (hG.2.2 1) (hG.2.2 0) (AG_pt hG)) rfl (am_obM (hG.2.2 1)) rfl (Nat.le_of_ble_eq_true rfl) (Nat.le_of_ble_eq_true rfl) ?_
  refine sx_aload_n dX2_freshTrial_11 rfl ?_
  refine gg_gett dX2_freshTrial_12 fl_X2_27 rfl ?_
  exact sx_aret dX2_freshTrial_15 rfl rfl rfl
