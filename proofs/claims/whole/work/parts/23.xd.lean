set_option maxHeartbeats 4000000 in
set_option maxRecDepth 100000 in
theorem tx_breaksOne {h0 : am_H} {X : am_M} {S : Nat → Int} (c row : Int) (hW : WX S) (hc : am_R c) (hr : am_R row) (hN : S 4 ≤ 1000000000)  : Ct 4 Y3_breaksOne [.inr (7, 0), .inl c, .inl row] (some (.inl (xbreaks S c row).1)) (xh h0 X S) (xh h0 X (xbreaks S c row).2) := by
  refine Ct_of (by decide +kernel) (Nat.le_of_ble_eq_true rfl) ?_
  show Sx 4 Y3_breaksOne (xh h0 X (xbreaks S c row).2) (some (.inl (xbreaks S c row).1)) 0 [some (.inr (7, 0)), some (.inl c), some (.inl row), none, none, none, none] [] (xh h0 X S)
  refine xs_vh (fun hR hRX => ?_)
  obtain ⟨w0, w1, wg, wf, wo⟩ := id hW
  refine sx_aload_n dX3_breaksOne_0 rfl ?_
  refine sx_iload_n dX3_breaksOne_1 rfl ?_
  refine sx_callVi dX3_breaksOne_2 ml_X3_90 mv3_isChip (tx_isChip _ hW (by first | omega | assumption | (with_reducible first | exact hR _ | exact xwd_R hR _ _ | exact xch_R hR _ _ | exact am_R_and _ _ | exact am_R_or _ _ | exact am_R_xor _ _ | exact am_R_shl _ _ | exact am_R_shr _ _ | exact bit_R _ _ | exact xpls_R _ _ | exact xkept_R hW _ _ | exact xwait_R hW _ _ | exact xwords_R _ _) | (exact ⟨by omega, by omega⟩) | exact wf _ (by omega) (by omega) | exact wg _ (by omega) (by omega))) rfl am_obX rfl (Nat.le_of_ble_eq_true rfl) (Nat.le_of_ble_eq_true rfl) ?_
  refine sx_ifB_eq (tgt := 17) dX3_breaksOne_5 (by decide) (fun c5 => ?_) (fun c5 => ?_)
  · -- 5t
    refine sx_ldc dX3_breaksOne_17 kc_X3_40 ?_
    exact sx_iret dX3_breaksOne_19 rfl (by unfold xbreaks; (repeat' split) <;> first | contradiction | (exfalso; omega) | rfl | (congr 2; omega) | (simp_all; done)) (by unfold xbreaks; (repeat' split) <;> first | contradiction | (exfalso; omega) | rfl | (congr 2; omega) | (simp_all; done))
  · -- 5f
    refine sx_iload_n dX3_breaksOne_8 rfl ?_
    refine sx_iconst dX3_breaksOne_9 ?_
    refine sx_iconst dX3_breaksOne_10 ?_
    refine sx_callSi dX3_breaksOne_11 ml_X3_32 ms3_in (tx_in _ _ _ (by first | omega | assumption | (with_reducible first | exact hR _ | exact xwd_R hR _ _ | exact xch_R hR _ _ | exact am_R_and _ _ | exact am_R_or _ _ | exact am_R_xor _ _ | exact am_R_shl _ _ | exact am_R_shr _ _ | exact bit_R _ _ | exact xpls_R _ _ | exact xkept_R hW _ _ | exact xwait_R hW _ _ ) | (exact ⟨by omega, by omega⟩) | exact wf _ (by omega) (by omega) | exact wg _ (by omega) (by omega)) (by first | omega | assumption | (with_reducible first | exact hR _ | exact xwd_R hR _ _ | exact xch_R hR _ _ | exact am_R_and _ _ | exact am_R_or _ _ | exact am_R_xor _ _ | exact am_R_shl _ _ | exact am_R_shr _ _ | exact bit_R _ _ | exact xpls_R _ _ | exact xkept_R hW _ _ | exact xwait_R hW _ _ ) | (exact ⟨by omega, by omega⟩) | exact wf _ (by omega) (by omega) | exact wg _ (by omega) (by omega)) (by first | omega | assumption | (with_reducible first | exact hR _ | exact xwd_R hR _ _ | exact xch_R hR _ _ | exact am_R_and _ _ | exact am_R_or _ _ | exact am_R_xor _ _ | exact am_R_shl _ _ | exact am_R_shr _ _ | exact bit_R _ _ | exact xpls_R _ _ | exact xkept_R hW _ _ | exact xwait_R hW _ _ ) | (exact ⟨by omega, by omega⟩) | exact wf _ (by omega) (by omega) | exact wg _ (by omega) (by omega))) rfl rfl (Nat.le_of_ble_eq_true rfl) (Nat.le_of_ble_eq_true rfl) ?_
    refine sx_ifB_ne (tgt := 20) dX3_breaksOne_14 (by decide) (fun c14 => ?_) (fun c14 => ?_)
    · -- 14t
      have hc8 : 0 ≤ c ∧ c < 8 := ⟨c5.1, by omega⟩
      obtain ⟨hf0, hf2⟩ := wf c hc8.1 hc8.2
      refine sx_aload_n dX3_breaksOne_20 rfl ?_
      refine sx_iload_n dX3_breaksOne_21 rfl ?_
      refine sx_callVi dX3_breaksOne_22 ml_X3_52 mv3_lives (tx_lives _ (by first | omega | assumption | (with_reducible first | exact hR2 _ | exact hR _ | exact xch_R hR _ _ | exact am_R_or _ _ | exact am_R_shl _ _ | exact xkept_R hW _ _ | exact xwait_R hW _ _) | (exact ⟨by omega, by omega⟩))) rfl am_obX rfl (Nat.le_of_ble_eq_true rfl) (Nat.le_of_ble_eq_true rfl) ?_
      refine sx_ifB_eq (tgt := 37) dX3_breaksOne_25 (by decide) (fun c25 => ?_) (fun c25 => ?_)
      · -- 25t
        refine sx_ldc dX3_breaksOne_37 kc_X3_96 ?_
        exact sx_iret dX3_breaksOne_39 rfl (by unfold xbreaks; (repeat' split) <;> first | contradiction | (exfalso; omega) | rfl | (congr 2; omega) | (simp_all; done)) (by unfold xbreaks; (repeat' split) <;> first | contradiction | (exfalso; omega) | rfl | (congr 2; omega) | (simp_all; done))
      · -- 25f
        refine sx_aload_n dX3_breaksOne_28 rfl ?_
        refine sx_iload_n dX3_breaksOne_29 rfl ?_
        refine sx_iload_n dX3_breaksOne_30 rfl ?_
        refine sx_callVi dX3_breaksOne_31 ml_X3_48 mv3_isWhole (tx_isWhole _ _ (by first | omega | assumption | (with_reducible first | exact hR2 _ | exact hR _ | exact xch_R hR _ _ | exact am_R_or _ _ | exact am_R_shl _ _ | exact xkept_R hW _ _ | exact xwait_R hW _ _) | (exact ⟨by omega, by omega⟩)) (by first | omega | assumption | (with_reducible first | exact hR2 _ | exact hR _ | exact xch_R hR _ _ | exact am_R_or _ _ | exact am_R_shl _ _ | exact xkept_R hW _ _ | exact xwait_R hW _ _) | (exact ⟨by omega, by omega⟩))) rfl am_obX rfl (Nat.le_of_ble_eq_true rfl) (Nat.le_of_ble_eq_true rfl) ?_
        refine sx_ifB_ne (tgt := 40) dX3_breaksOne_34 (by decide) (fun c34 => ?_) (fun c34 => ?_)
        · -- 34t
          refine sx_aload_n dX3_breaksOne_40 rfl ?_
          refine sx_callVi dX3_breaksOne_41 ml_X3_106 mv3_lost (tx_lost hW) rfl am_obX rfl (Nat.le_of_ble_eq_true rfl) (Nat.le_of_ble_eq_true rfl) ?_
          refine sx_istore_n dX3_breaksOne_44 (by decide) ?_
          refine sx_aload_n dX3_breaksOne_45 rfl ?_
          refine sx_iload_n dX3_breaksOne_46 rfl ?_
          refine sx_iload_n dX3_breaksOne_47 rfl ?_
          refine sx_callVi dX3_breaksOne_48 ml_X3_59 mv3_kept (tx_kept _ _ hW (by first | omega | assumption | (with_reducible first | exact hR2 _ | exact hR _ | exact xch_R hR _ _ | exact am_R_or _ _ | exact am_R_shl _ _ | exact xkept_R hW _ _ | exact xwait_R hW _ _) | (exact ⟨by omega, by omega⟩)) (by first | omega | assumption | (with_reducible first | exact hR2 _ | exact hR _ | exact xch_R hR _ _ | exact am_R_or _ _ | exact am_R_shl _ _ | exact xkept_R hW _ _ | exact xwait_R hW _ _) | (exact ⟨by omega, by omega⟩))) rfl am_obX rfl (Nat.le_of_ble_eq_true rfl) (Nat.le_of_ble_eq_true rfl) ?_
          refine sx_istore dX3_breaksOne_51 (by decide) ?_
          refine sx_aload_n dX3_breaksOne_53 rfl ?_
          refine sx_iload_n dX3_breaksOne_54 rfl ?_
          refine sx_iconst dX3_breaksOne_55 ?_
          refine sx_callVi dX3_breaksOne_56 ml_X3_36 mv3_ch (tx_ch _ _ (by first | omega | assumption | (with_reducible first | exact hR2 _ | exact hR _ | exact xch_R hR _ _ | exact am_R_or _ _ | exact am_R_shl _ _ | exact xkept_R hW _ _ | exact xwait_R hW _ _) | (exact ⟨by omega, by omega⟩)) (by first | omega | assumption | (with_reducible first | exact hR2 _ | exact hR _ | exact xch_R hR _ _ | exact am_R_or _ _ | exact am_R_shl _ _ | exact xkept_R hW _ _ | exact xwait_R hW _ _) | (exact ⟨by omega, by omega⟩))) rfl am_obX rfl (Nat.le_of_ble_eq_true rfl) (Nat.le_of_ble_eq_true rfl) ?_
          refine sx_if_le (tgt := 66) dX3_breaksOne_59 (by decide) (by first | omega | assumption | (with_reducible first | exact hR2 _ | exact hR _ | exact xch_R hR _ _ | exact am_R_or _ _ | exact am_R_shl _ _ | exact xkept_R hW _ _ | exact xwait_R hW _ _) | (exact ⟨by omega, by omega⟩)) (fun c59 => ?_) (fun c59 => ?_)
          · -- 59t
            refine sx_iconst dX3_breaksOne_66 ?_
            refine sx_istore dX3_breaksOne_67 (by decide) ?_
            refine sx_aload_n dX3_breaksOne_69 rfl ?_
            refine sx_iload_n dX3_breaksOne_70 rfl ?_
            refine sx_callVi dX3_breaksOne_71 ml_X3_56 mv3_isGodfather (tx_isGodfather _ hW (by first | omega | assumption | (with_reducible first | exact hR2 _ | exact hR _ | exact xch_R hR _ _ | exact am_R_or _ _ | exact am_R_shl _ _ | exact xkept_R hW _ _ | exact xwait_R hW _ _) | (exact ⟨by omega, by omega⟩)) (by first | omega | assumption | (with_reducible first | exact hR2 _ | exact hR _ | exact xch_R hR _ _ | exact am_R_or _ _ | exact am_R_shl _ _ | exact xkept_R hW _ _ | exact xwait_R hW _ _) | (exact ⟨by omega, by omega⟩))) rfl am_obX rfl (Nat.le_of_ble_eq_true rfl) (Nat.le_of_ble_eq_true rfl) ?_
            refine sx_ifB_eq (tgt := 106) dX3_breaksOne_74 (by decide) (fun c74 => ?_) (fun c74 => ?_)
            · -- 74t
              refine sx_iload dX3_breaksOne_106 rfl ?_
              refine sx_if_lt (tgt := 119) dX3_breaksOne_108 (by decide) (by first | omega | assumption | (with_reducible first | exact hR2 _ | exact hR _ | exact xch_R hR _ _ | exact am_R_or _ _ | exact am_R_shl _ _ | exact xkept_R hW _ _ | exact xwait_R hW _ _) | (exact ⟨by omega, by omega⟩)) (fun c108 => ?_) (fun c108 => ?_)
              · -- 108t
                obtain ⟨T1, hT1⟩ : ∃ T1, T1 = xbr1 S c row := ⟨_, rfl⟩
                refine sx_heq (xh h0 X T1) (by rw [hT1]; unfold xbr1; (repeat' split) <;> first | contradiction | (exfalso; omega) | rfl | (congr 2; omega) | (simp_all; done)) ?_
                have hlo : ∀ m, m < 40 → m ≠ 4 → T1 m = S m := fun m h h4 => by rw [hT1]; exact xbr1_lo hW h h4
                refine xs_vh (fun hR2 _ => ?_)
                refine sx_aload_n dX3_breaksOne_119 rfl ?_
                refine xs_getr (j := 1) dX3_breaksOne_120 fl_X3_7 (by decide) rfl ?_
                refine sx_bipush dX3_breaksOne_123 rfl ?_
                refine sx_iconst dX3_breaksOne_125 ?_
                refine sx_iload_n dX3_breaksOne_126 rfl ?_
                refine sx_imul dX3_breaksOne_127 ?_
                refine sx_iadd dX3_breaksOne_128 ?_
                refine sx_iconst dX3_breaksOne_129 ?_
                refine sx_iadd dX3_breaksOne_130 ?_
                refine sx_dup2 dX3_breaksOne_131 ?_
                refine xs_ild (n := 208) dX3_breaksOne_132 rfl (by decide) (by first | omega | assumption | (with_reducible first | exact hR2 _ | exact hR _ | exact xch_R hR _ _ | exact am_R_or _ _ | exact am_R_shl _ _ | exact xkept_R hW _ _ | exact xwait_R hW _ _) | (exact ⟨by omega, by omega⟩)) (by first | omega | assumption | (with_reducible first | exact hR2 _ | exact hR _ | exact xch_R hR _ _ | exact am_R_or _ _ | exact am_R_shl _ _ | exact xkept_R hW _ _ | exact xwait_R hW _ _) | (exact ⟨by omega, by omega⟩)) rfl (fun r132 => ?_)
                refine sx_iload dX3_breaksOne_133 rfl ?_
                refine sx_if_eq (tgt := 142) dX3_breaksOne_135 (by decide) ⟨by decide, by decide⟩ (fun _ => ?_) (fun q => absurd q (by decide))
                refine sx_iconst dX3_breaksOne_142 ?_
                refine sx_isub dX3_breaksOne_143 ?_
                refine xs_ist (n := 208) dX3_breaksOne_144 rfl (by decide) (by omega) (by omega) rfl (by rw [hlo _ (by omega) (by omega)]; have q9 := hR (8 + 4 * c + 1).toNat; first | exact ⟨by have := q9.1; omega, by have := q9.2; omega⟩ | (have q8 : 0 < S (8 + 4 * c + 1).toNat := c59; exact ⟨by omega, by have := q9.2; omega⟩)) ?_
                obtain ⟨T2, hT2⟩ : ∃ T2, T2 = xbr2 S c row := ⟨_, rfl⟩
                refine sx_heq (xh h0 X T2) (by rw [hT2]; unfold xbr2; rw [← hT1]; (repeat' split) <;> first | contradiction | (exfalso; omega) | rfl | (congr 2; omega) | (simp_all; done)) ?_
                refine xs_vh (fun hR2 _ => ?_)
                refine sx_aload_n dX3_breaksOne_145 rfl ?_
                refine xs_getr (j := 1) dX3_breaksOne_146 fl_X3_7 (by decide) rfl ?_
                refine sx_bipush dX3_breaksOne_149 rfl ?_
                refine sx_iconst dX3_breaksOne_151 ?_
                refine sx_iload_n dX3_breaksOne_152 rfl ?_
                refine sx_imul dX3_breaksOne_153 ?_
                refine sx_iadd dX3_breaksOne_154 ?_
                refine sx_iconst dX3_breaksOne_155 ?_
                refine sx_iadd dX3_breaksOne_156 ?_
                refine sx_dup2 dX3_breaksOne_157 ?_
                refine xs_ild (n := 208) dX3_breaksOne_158 rfl (by decide) (by first | omega | assumption | (with_reducible first | exact hR2 _ | exact hR _ | exact xch_R hR _ _ | exact am_R_or _ _ | exact am_R_shl _ _ | exact xkept_R hW _ _ | exact xwait_R hW _ _) | (exact ⟨by omega, by omega⟩)) (by first | omega | assumption | (with_reducible first | exact hR2 _ | exact hR _ | exact xch_R hR _ _ | exact am_R_or _ _ | exact am_R_shl _ _ | exact xkept_R hW _ _ | exact xwait_R hW _ _) | (exact ⟨by omega, by omega⟩)) rfl (fun r158 => ?_)
                refine sx_iload dX3_breaksOne_159 rfl ?_
                refine sx_if_eq (tgt := 168) dX3_breaksOne_161 (by decide) ⟨by decide, by decide⟩ (fun _ => ?_) (fun q => absurd q (by decide))
                refine sx_iconst dX3_breaksOne_168 ?_
                refine sx_iload_n dX3_breaksOne_169 rfl ?_
                refine sx_ishl dX3_breaksOne_170 ?_
                refine sx_ior dX3_breaksOne_171 ?_
                refine xs_ist (n := 208) dX3_breaksOne_172 rfl (by decide) (by first | omega | assumption | (with_reducible first | exact hR2 _ | exact hR _ | exact xch_R hR _ _ | exact am_R_or _ _ | exact am_R_shl _ _ | exact xkept_R hW _ _ | exact xwait_R hW _ _) | (exact ⟨by omega, by omega⟩)) (by first | omega | assumption | (with_reducible first | exact hR2 _ | exact hR _ | exact xch_R hR _ _ | exact am_R_or _ _ | exact am_R_shl _ _ | exact xkept_R hW _ _ | exact xwait_R hW _ _) | (exact ⟨by omega, by omega⟩)) rfl (by first | omega | assumption | (with_reducible first | exact hR2 _ | exact hR _ | exact xch_R hR _ _ | exact am_R_or _ _ | exact am_R_shl _ _ | exact xkept_R hW _ _ | exact xwait_R hW _ _) | (exact ⟨by omega, by omega⟩)) ?_
                refine sx_heq (xh h0 X (xbrS S c row)) (by unfold xbrS; rw [← hT2]; (repeat' split) <;> first | contradiction | (exfalso; omega) | rfl | (congr 2; omega) | (simp_all; done)) ?_
                have hWk : WX (xbrS S c row) := WX_brS hW hc8
                refine sx_aload_n dX3_breaksOne_173 rfl ?_
                refine sx_callVi dX3_breaksOne_174 ml_X3_106 mv3_lost (tx_lost hWk) rfl am_obX rfl (Nat.le_of_ble_eq_true rfl) (Nat.le_of_ble_eq_true rfl) ?_
                refine sx_iload_n dX3_breaksOne_177 rfl ?_
                refine sx_isub dX3_breaksOne_178 ?_
                exact sx_iret dX3_breaksOne_179 rfl (by unfold xbreaks; (repeat' split) <;> first | contradiction | (exfalso; omega) | rfl | (congr 2; omega) | (simp_all; done)) (by unfold xbreaks; (repeat' split) <;> first | contradiction | (exfalso; omega) | rfl | (congr 2; omega) | (simp_all; done))
              · -- 108f
                refine sx_aload_n dX3_breaksOne_111 rfl ?_
                refine sx_iload dX3_breaksOne_112 rfl ?_
                refine sx_iload dX3_breaksOne_114 rfl ?_
                refine sx_callVv dX3_breaksOne_116 ml_X3_110 mv3_falls (tx_falls _ _ hW (by have q1 := xkept_b hW c row; omega) (by first | exact Or.inl rfl | exact Or.inr rfl) (by omega)) rfl am_obX rfl (Nat.le_of_ble_eq_true rfl) (Nat.le_of_ble_eq_true rfl) ?_
                obtain ⟨T1, hT1⟩ : ∃ T1, T1 = xbr1 S c row := ⟨_, rfl⟩
                refine sx_heq (xh h0 X T1) (by rw [hT1]; unfold xbr1; (repeat' split) <;> first | contradiction | (exfalso; omega) | rfl | (congr 2; omega) | (simp_all; done)) ?_
                have hlo : ∀ m, m < 40 → m ≠ 4 → T1 m = S m := fun m h h4 => by rw [hT1]; exact xbr1_lo hW h h4
                refine xs_vh (fun hR2 _ => ?_)
                refine sx_aload_n dX3_breaksOne_119 rfl ?_
                refine xs_getr (j := 1) dX3_breaksOne_120 fl_X3_7 (by decide) rfl ?_
                refine sx_bipush dX3_breaksOne_123 rfl ?_
                refine sx_iconst dX3_breaksOne_125 ?_
                refine sx_iload_n dX3_breaksOne_126 rfl ?_
                refine sx_imul dX3_breaksOne_127 ?_
                refine sx_iadd dX3_breaksOne_128 ?_
                refine sx_iconst dX3_breaksOne_129 ?_
                refine sx_iadd dX3_breaksOne_130 ?_
                refine sx_dup2 dX3_breaksOne_131 ?_
                refine xs_ild (n := 208) dX3_breaksOne_132 rfl (by decide) (by first | omega | assumption | (with_reducible first | exact hR2 _ | exact hR _ | exact xch_R hR _ _ | exact am_R_or _ _ | exact am_R_shl _ _ | exact xkept_R hW _ _ | exact xwait_R hW _ _) | (exact ⟨by omega, by omega⟩)) (by first | omega | assumption | (with_reducible first | exact hR2 _ | exact hR _ | exact xch_R hR _ _ | exact am_R_or _ _ | exact am_R_shl _ _ | exact xkept_R hW _ _ | exact xwait_R hW _ _) | (exact ⟨by omega, by omega⟩)) rfl (fun r132 => ?_)
                refine sx_iload dX3_breaksOne_133 rfl ?_
                refine sx_if_eq (tgt := 142) dX3_breaksOne_135 (by decide) ⟨by decide, by decide⟩ (fun _ => ?_) (fun q => absurd q (by decide))
                refine sx_iconst dX3_breaksOne_142 ?_
                refine sx_isub dX3_breaksOne_143 ?_
                refine xs_ist (n := 208) dX3_breaksOne_144 rfl (by decide) (by omega) (by omega) rfl (by rw [hlo _ (by omega) (by omega)]; have q9 := hR (8 + 4 * c + 1).toNat; first | exact ⟨by have := q9.1; omega, by have := q9.2; omega⟩ | (have q8 : 0 < S (8 + 4 * c + 1).toNat := c59; exact ⟨by omega, by have := q9.2; omega⟩)) ?_
                obtain ⟨T2, hT2⟩ : ∃ T2, T2 = xbr2 S c row := ⟨_, rfl⟩
                refine sx_heq (xh h0 X T2) (by rw [hT2]; unfold xbr2; rw [← hT1]; (repeat' split) <;> first | contradiction | (exfalso; omega) | rfl | (congr 2; omega) | (simp_all; done)) ?_
                refine xs_vh (fun hR2 _ => ?_)
                refine sx_aload_n dX3_breaksOne_145 rfl ?_
                refine xs_getr (j := 1) dX3_breaksOne_146 fl_X3_7 (by decide) rfl ?_
                refine sx_bipush dX3_breaksOne_149 rfl ?_
                refine sx_iconst dX3_breaksOne_151 ?_
                refine sx_iload_n dX3_breaksOne_152 rfl ?_
                refine sx_imul dX3_breaksOne_153 ?_
                refine sx_iadd dX3_breaksOne_154 ?_
                refine sx_iconst dX3_breaksOne_155 ?_
                refine sx_iadd dX3_breaksOne_156 ?_
                refine sx_dup2 dX3_breaksOne_157 ?_
                refine xs_ild (n := 208) dX3_breaksOne_158 rfl (by decide) (by first | omega | assumption | (with_reducible first | exact hR2 _ | exact hR _ | exact xch_R hR _ _ | exact am_R_or _ _ | exact am_R_shl _ _ | exact xkept_R hW _ _ | exact xwait_R hW _ _) | (exact ⟨by omega, by omega⟩)) (by first | omega | assumption | (with_reducible first | exact hR2 _ | exact hR _ | exact xch_R hR _ _ | exact am_R_or _ _ | exact am_R_shl _ _ | exact xkept_R hW _ _ | exact xwait_R hW _ _) | (exact ⟨by omega, by omega⟩)) rfl (fun r158 => ?_)
                refine sx_iload dX3_breaksOne_159 rfl ?_
                refine sx_if_eq (tgt := 168) dX3_breaksOne_161 (by decide) ⟨by decide, by decide⟩ (fun _ => ?_) (fun q => absurd q (by decide))
                refine sx_iconst dX3_breaksOne_168 ?_
                refine sx_iload_n dX3_breaksOne_169 rfl ?_
                refine sx_ishl dX3_breaksOne_170 ?_
                refine sx_ior dX3_breaksOne_171 ?_
                refine xs_ist (n := 208) dX3_breaksOne_172 rfl (by decide) (by first | omega | assumption | (with_reducible first | exact hR2 _ | exact hR _ | exact xch_R hR _ _ | exact am_R_or _ _ | exact am_R_shl _ _ | exact xkept_R hW _ _ | exact xwait_R hW _ _) | (exact ⟨by omega, by omega⟩)) (by first | omega | assumption | (with_reducible first | exact hR2 _ | exact hR _ | exact xch_R hR _ _ | exact am_R_or _ _ | exact am_R_shl _ _ | exact xkept_R hW _ _ | exact xwait_R hW _ _) | (exact ⟨by omega, by omega⟩)) rfl (by first | omega | assumption | (with_reducible first | exact hR2 _ | exact hR _ | exact xch_R hR _ _ | exact am_R_or _ _ | exact am_R_shl _ _ | exact xkept_R hW _ _ | exact xwait_R hW _ _) | (exact ⟨by omega, by omega⟩)) ?_
                refine sx_heq (xh h0 X (xbrS S c row)) (by unfold xbrS; rw [← hT2]; (repeat' split) <;> first | contradiction | (exfalso; omega) | rfl | (congr 2; omega) | (simp_all; done)) ?_
                have hWk : WX (xbrS S c row) := WX_brS hW hc8
                refine sx_aload_n dX3_breaksOne_173 rfl ?_
                refine sx_callVi dX3_breaksOne_174 ml_X3_106 mv3_lost (tx_lost hWk) rfl am_obX rfl (Nat.le_of_ble_eq_true rfl) (Nat.le_of_ble_eq_true rfl) ?_
                refine sx_iload_n dX3_breaksOne_177 rfl ?_
                refine sx_isub dX3_breaksOne_178 ?_
                exact sx_iret dX3_breaksOne_179 rfl (by unfold xbreaks; (repeat' split) <;> first | contradiction | (exfalso; omega) | rfl | (congr 2; omega) | (simp_all; done)) (by unfold xbreaks; (repeat' split) <;> first | contradiction | (exfalso; omega) | rfl | (congr 2; omega) | (simp_all; done))
            · -- 74f
              refine sx_aload_n dX3_breaksOne_77 rfl ?_
              refine sx_aload_n dX3_breaksOne_78 rfl ?_
              refine sx_iload_n dX3_breaksOne_79 rfl ?_
              refine sx_iconst dX3_breaksOne_80 ?_
              refine sx_callVi dX3_breaksOne_81 ml_X3_36 mv3_ch (tx_ch _ _ (by first | omega | assumption | (with_reducible first | exact hR2 _ | exact hR _ | exact xch_R hR _ _ | exact am_R_or _ _ | exact am_R_shl _ _ | exact xkept_R hW _ _ | exact xwait_R hW _ _) | (exact ⟨by omega, by omega⟩)) (by first | omega | assumption | (with_reducible first | exact hR2 _ | exact hR _ | exact xch_R hR _ _ | exact am_R_or _ _ | exact am_R_shl _ _ | exact xkept_R hW _ _ | exact xwait_R hW _ _) | (exact ⟨by omega, by omega⟩))) rfl am_obX rfl (Nat.le_of_ble_eq_true rfl) (Nat.le_of_ble_eq_true rfl) ?_
              refine sx_iload_n dX3_breaksOne_84 rfl ?_
              refine sx_callVi dX3_breaksOne_85 ml_X3_62 mv3_waiting (tx_waiting _ _ hW (by first | omega | assumption | (with_reducible first | exact hR2 _ | exact hR _ | exact xch_R hR _ _ | exact am_R_or _ _ | exact am_R_shl _ _ | exact xkept_R hW _ _ | exact xwait_R hW _ _) | (exact ⟨by omega, by omega⟩)) (by first | omega | assumption | (with_reducible first | exact hR2 _ | exact hR _ | exact xch_R hR _ _ | exact am_R_or _ _ | exact am_R_shl _ _ | exact xkept_R hW _ _ | exact xwait_R hW _ _) | (exact ⟨by omega, by omega⟩))) rfl am_obX rfl (Nat.le_of_ble_eq_true rfl) (Nat.le_of_ble_eq_true rfl) ?_
              refine sx_istore dX3_breaksOne_88 (by decide) ?_
              refine sx_iload dX3_breaksOne_90 rfl ?_
              refine sx_if_lt (tgt := 103) dX3_breaksOne_92 (by decide) (by first | omega | assumption | (with_reducible first | exact hR2 _ | exact hR _ | exact xch_R hR _ _ | exact am_R_or _ _ | exact am_R_shl _ _ | exact xkept_R hW _ _ | exact xwait_R hW _ _) | (exact ⟨by omega, by omega⟩)) (fun c92 => ?_) (fun c92 => ?_)
              · -- 92t
                refine sx_goto (tgt := 119) dX3_breaksOne_103 (by decide) ?_
                obtain ⟨T1, hT1⟩ : ∃ T1, T1 = xbr1 S c row := ⟨_, rfl⟩
                refine sx_heq (xh h0 X T1) (by rw [hT1]; unfold xbr1; (repeat' split) <;> first | contradiction | (exfalso; omega) | rfl | (congr 2; omega) | (simp_all; done)) ?_
                have hlo : ∀ m, m < 40 → m ≠ 4 → T1 m = S m := fun m h h4 => by rw [hT1]; exact xbr1_lo hW h h4
                refine xs_vh (fun hR2 _ => ?_)
                refine sx_aload_n dX3_breaksOne_119 rfl ?_
                refine xs_getr (j := 1) dX3_breaksOne_120 fl_X3_7 (by decide) rfl ?_
                refine sx_bipush dX3_breaksOne_123 rfl ?_
                refine sx_iconst dX3_breaksOne_125 ?_
                refine sx_iload_n dX3_breaksOne_126 rfl ?_
                refine sx_imul dX3_breaksOne_127 ?_
                refine sx_iadd dX3_breaksOne_128 ?_
                refine sx_iconst dX3_breaksOne_129 ?_
                refine sx_iadd dX3_breaksOne_130 ?_
                refine sx_dup2 dX3_breaksOne_131 ?_
                refine xs_ild (n := 208) dX3_breaksOne_132 rfl (by decide) (by first | omega | assumption | (with_reducible first | exact hR2 _ | exact hR _ | exact xch_R hR _ _ | exact am_R_or _ _ | exact am_R_shl _ _ | exact xkept_R hW _ _ | exact xwait_R hW _ _) | (exact ⟨by omega, by omega⟩)) (by first | omega | assumption | (with_reducible first | exact hR2 _ | exact hR _ | exact xch_R hR _ _ | exact am_R_or _ _ | exact am_R_shl _ _ | exact xkept_R hW _ _ | exact xwait_R hW _ _) | (exact ⟨by omega, by omega⟩)) rfl (fun r132 => ?_)
                refine sx_iload dX3_breaksOne_133 rfl ?_
                refine sx_if_eq (tgt := 142) dX3_breaksOne_135 (by decide) ⟨by decide, by decide⟩ (fun _ => ?_) (fun q => absurd q (by decide))
                refine sx_iconst dX3_breaksOne_142 ?_
                refine sx_isub dX3_breaksOne_143 ?_
                refine xs_ist (n := 208) dX3_breaksOne_144 rfl (by decide) (by omega) (by omega) rfl (by rw [hlo _ (by omega) (by omega)]; have q9 := hR (8 + 4 * c + 1).toNat; first | exact ⟨by have := q9.1; omega, by have := q9.2; omega⟩ | (have q8 : 0 < S (8 + 4 * c + 1).toNat := c59; exact ⟨by omega, by have := q9.2; omega⟩)) ?_
                obtain ⟨T2, hT2⟩ : ∃ T2, T2 = xbr2 S c row := ⟨_, rfl⟩
                refine sx_heq (xh h0 X T2) (by rw [hT2]; unfold xbr2; rw [← hT1]; (repeat' split) <;> first | contradiction | (exfalso; omega) | rfl | (congr 2; omega) | (simp_all; done)) ?_
                refine xs_vh (fun hR2 _ => ?_)
                refine sx_aload_n dX3_breaksOne_145 rfl ?_
                refine xs_getr (j := 1) dX3_breaksOne_146 fl_X3_7 (by decide) rfl ?_
                refine sx_bipush dX3_breaksOne_149 rfl ?_
                refine sx_iconst dX3_breaksOne_151 ?_
                refine sx_iload_n dX3_breaksOne_152 rfl ?_
                refine sx_imul dX3_breaksOne_153 ?_
                refine sx_iadd dX3_breaksOne_154 ?_
                refine sx_iconst dX3_breaksOne_155 ?_
                refine sx_iadd dX3_breaksOne_156 ?_
                refine sx_dup2 dX3_breaksOne_157 ?_
                refine xs_ild (n := 208) dX3_breaksOne_158 rfl (by decide) (by first | omega | assumption | (with_reducible first | exact hR2 _ | exact hR _ | exact xch_R hR _ _ | exact am_R_or _ _ | exact am_R_shl _ _ | exact xkept_R hW _ _ | exact xwait_R hW _ _) | (exact ⟨by omega, by omega⟩)) (by first | omega | assumption | (with_reducible first | exact hR2 _ | exact hR _ | exact xch_R hR _ _ | exact am_R_or _ _ | exact am_R_shl _ _ | exact xkept_R hW _ _ | exact xwait_R hW _ _) | (exact ⟨by omega, by omega⟩)) rfl (fun r158 => ?_)
                refine sx_iload dX3_breaksOne_159 rfl ?_
                refine sx_if_eq (tgt := 168) dX3_breaksOne_161 (by decide) ⟨by decide, by decide⟩ (fun _ => ?_) (fun q => absurd q (by decide))
                refine sx_iconst dX3_breaksOne_168 ?_
                refine sx_iload_n dX3_breaksOne_169 rfl ?_
                refine sx_ishl dX3_breaksOne_170 ?_
                refine sx_ior dX3_breaksOne_171 ?_
                refine xs_ist (n := 208) dX3_breaksOne_172 rfl (by decide) (by first | omega | assumption | (with_reducible first | exact hR2 _ | exact hR _ | exact xch_R hR _ _ | exact am_R_or _ _ | exact am_R_shl _ _ | exact xkept_R hW _ _ | exact xwait_R hW _ _) | (exact ⟨by omega, by omega⟩)) (by first | omega | assumption | (with_reducible first | exact hR2 _ | exact hR _ | exact xch_R hR _ _ | exact am_R_or _ _ | exact am_R_shl _ _ | exact xkept_R hW _ _ | exact xwait_R hW _ _) | (exact ⟨by omega, by omega⟩)) rfl (by first | omega | assumption | (with_reducible first | exact hR2 _ | exact hR _ | exact xch_R hR _ _ | exact am_R_or _ _ | exact am_R_shl _ _ | exact xkept_R hW _ _ | exact xwait_R hW _ _) | (exact ⟨by omega, by omega⟩)) ?_
                refine sx_heq (xh h0 X (xbrS S c row)) (by unfold xbrS; rw [← hT2]; (repeat' split) <;> first | contradiction | (exfalso; omega) | rfl | (congr 2; omega) | (simp_all; done)) ?_
                have hWk : WX (xbrS S c row) := WX_brS hW hc8
                refine sx_aload_n dX3_breaksOne_173 rfl ?_
                refine sx_callVi dX3_breaksOne_174 ml_X3_106 mv3_lost (tx_lost hWk) rfl am_obX rfl (Nat.le_of_ble_eq_true rfl) (Nat.le_of_ble_eq_true rfl) ?_
                refine sx_iload_n dX3_breaksOne_177 rfl ?_
                refine sx_isub dX3_breaksOne_178 ?_
                exact sx_iret dX3_breaksOne_179 rfl (by unfold xbreaks; (repeat' split) <;> first | contradiction | (exfalso; omega) | rfl | (congr 2; omega) | (simp_all; done)) (by unfold xbreaks; (repeat' split) <;> first | contradiction | (exfalso; omega) | rfl | (congr 2; omega) | (simp_all; done))
              · -- 92f
                refine sx_aload_n dX3_breaksOne_95 rfl ?_
                refine sx_iload dX3_breaksOne_96 rfl ?_
                refine sx_iconst dX3_breaksOne_98 ?_
                refine sx_iconst dX3_breaksOne_99 ?_
                refine sx_callVv dX3_breaksOne_100 ml_X3_72 mv3_lays (tx_lays _ _ _ (by have q1 := xwait_b hW (xch S c 0) row; omega) (by decide) ⟨by decide, by decide⟩) rfl am_obX rfl (Nat.le_of_ble_eq_true rfl) (Nat.le_of_ble_eq_true rfl) ?_
                refine sx_goto (tgt := 119) dX3_breaksOne_103 (by decide) ?_
                obtain ⟨T1, hT1⟩ : ∃ T1, T1 = xbr1 S c row := ⟨_, rfl⟩
                refine sx_heq (xh h0 X T1) (by rw [hT1]; unfold xbr1; (repeat' split) <;> first | contradiction | (exfalso; omega) | rfl | (congr 2; omega) | (simp_all; done)) ?_
                have hlo : ∀ m, m < 40 → m ≠ 4 → T1 m = S m := fun m h h4 => by rw [hT1]; exact xbr1_lo hW h h4
                refine xs_vh (fun hR2 _ => ?_)
                refine sx_aload_n dX3_breaksOne_119 rfl ?_
                refine xs_getr (j := 1) dX3_breaksOne_120 fl_X3_7 (by decide) rfl ?_
                refine sx_bipush dX3_breaksOne_123 rfl ?_
                refine sx_iconst dX3_breaksOne_125 ?_
                refine sx_iload_n dX3_breaksOne_126 rfl ?_
                refine sx_imul dX3_breaksOne_127 ?_
                refine sx_iadd dX3_breaksOne_128 ?_
                refine sx_iconst dX3_breaksOne_129 ?_
                refine sx_iadd dX3_breaksOne_130 ?_
                refine sx_dup2 dX3_breaksOne_131 ?_
                refine xs_ild (n := 208) dX3_breaksOne_132 rfl (by decide) (by first | omega | assumption | (with_reducible first | exact hR2 _ | exact hR _ | exact xch_R hR _ _ | exact am_R_or _ _ | exact am_R_shl _ _ | exact xkept_R hW _ _ | exact xwait_R hW _ _) | (exact ⟨by omega, by omega⟩)) (by first | omega | assumption | (with_reducible first | exact hR2 _ | exact hR _ | exact xch_R hR _ _ | exact am_R_or _ _ | exact am_R_shl _ _ | exact xkept_R hW _ _ | exact xwait_R hW _ _) | (exact ⟨by omega, by omega⟩)) rfl (fun r132 => ?_)
                refine sx_iload dX3_breaksOne_133 rfl ?_
                refine sx_if_eq (tgt := 142) dX3_breaksOne_135 (by decide) ⟨by decide, by decide⟩ (fun _ => ?_) (fun q => absurd q (by decide))
                refine sx_iconst dX3_breaksOne_142 ?_
                refine sx_isub dX3_breaksOne_143 ?_
                refine xs_ist (n := 208) dX3_breaksOne_144 rfl (by decide) (by omega) (by omega) rfl (by rw [hlo _ (by omega) (by omega)]; have q9 := hR (8 + 4 * c + 1).toNat; first | exact ⟨by have := q9.1; omega, by have := q9.2; omega⟩ | (have q8 : 0 < S (8 + 4 * c + 1).toNat := c59; exact ⟨by omega, by have := q9.2; omega⟩)) ?_
                obtain ⟨T2, hT2⟩ : ∃ T2, T2 = xbr2 S c row := ⟨_, rfl⟩
                refine sx_heq (xh h0 X T2) (by rw [hT2]; unfold xbr2; rw [← hT1]; (repeat' split) <;> first | contradiction | (exfalso; omega) | rfl | (congr 2; omega) | (simp_all; done)) ?_
                refine xs_vh (fun hR2 _ => ?_)
                refine sx_aload_n dX3_breaksOne_145 rfl ?_
                refine xs_getr (j := 1) dX3_breaksOne_146 fl_X3_7 (by decide) rfl ?_
                refine sx_bipush dX3_breaksOne_149 rfl ?_
                refine sx_iconst dX3_breaksOne_151 ?_
                refine sx_iload_n dX3_breaksOne_152 rfl ?_
                refine sx_imul dX3_breaksOne_153 ?_
                refine sx_iadd dX3_breaksOne_154 ?_
                refine sx_iconst dX3_breaksOne_155 ?_
                refine sx_iadd dX3_breaksOne_156 ?_
                refine sx_dup2 dX3_breaksOne_157 ?_
                refine xs_ild (n := 208) dX3_breaksOne_158 rfl (by decide) (by first | omega | assumption | (with_reducible first | exact hR2 _ | exact hR _ | exact xch_R hR _ _ | exact am_R_or _ _ | exact am_R_shl _ _ | exact xkept_R hW _ _ | exact xwait_R hW _ _) | (exact ⟨by omega, by omega⟩)) (by first | omega | assumption | (with_reducible first | exact hR2 _ | exact hR _ | exact xch_R hR _ _ | exact am_R_or _ _ | exact am_R_shl _ _ | exact xkept_R hW _ _ | exact xwait_R hW _ _) | (exact ⟨by omega, by omega⟩)) rfl (fun r158 => ?_)
                refine sx_iload dX3_breaksOne_159 rfl ?_
                refine sx_if_eq (tgt := 168) dX3_breaksOne_161 (by decide) ⟨by decide, by decide⟩ (fun _ => ?_) (fun q => absurd q (by decide))
                refine sx_iconst dX3_breaksOne_168 ?_
                refine sx_iload_n dX3_breaksOne_169 rfl ?_
                refine sx_ishl dX3_breaksOne_170 ?_
                refine sx_ior dX3_breaksOne_171 ?_
                refine xs_ist (n := 208) dX3_breaksOne_172 rfl (by decide) (by first | omega | assumption | (with_reducible first | exact hR2 _ | exact hR _ | exact xch_R hR _ _ | exact am_R_or _ _ | exact am_R_shl _ _ | exact xkept_R hW _ _ | exact xwait_R hW _ _) | (exact ⟨by omega, by omega⟩)) (by first | omega | assumption | (with_reducible first | exact hR2 _ | exact hR _ | exact xch_R hR _ _ | exact am_R_or _ _ | exact am_R_shl _ _ | exact xkept_R hW _ _ | exact xwait_R hW _ _) | (exact ⟨by omega, by omega⟩)) rfl (by first | omega | assumption | (with_reducible first | exact hR2 _ | exact hR _ | exact xch_R hR _ _ | exact am_R_or _ _ | exact am_R_shl _ _ | exact xkept_R hW _ _ | exact xwait_R hW _ _) | (exact ⟨by omega, by omega⟩)) ?_
                refine sx_heq (xh h0 X (xbrS S c row)) (by unfold xbrS; rw [← hT2]; (repeat' split) <;> first | contradiction | (exfalso; omega) | rfl | (congr 2; omega) | (simp_all; done)) ?_
                have hWk : WX (xbrS S c row) := WX_brS hW hc8
                refine sx_aload_n dX3_breaksOne_173 rfl ?_
                refine sx_callVi dX3_breaksOne_174 ml_X3_106 mv3_lost (tx_lost hWk) rfl am_obX rfl (Nat.le_of_ble_eq_true rfl) (Nat.le_of_ble_eq_true rfl) ?_
                refine sx_iload_n dX3_breaksOne_177 rfl ?_
                refine sx_isub dX3_breaksOne_178 ?_
                exact sx_iret dX3_breaksOne_179 rfl (by unfold xbreaks; (repeat' split) <;> first | contradiction | (exfalso; omega) | rfl | (congr 2; omega) | (simp_all; done)) (by unfold xbreaks; (repeat' split) <;> first | contradiction | (exfalso; omega) | rfl | (congr 2; omega) | (simp_all; done))
          · -- 59f
            refine sx_iconst dX3_breaksOne_62 ?_
            refine sx_goto (tgt := 67) dX3_breaksOne_63 (by decide) ?_
            refine sx_istore dX3_breaksOne_67 (by decide) ?_
            refine sx_aload_n dX3_breaksOne_69 rfl ?_
            refine sx_iload_n dX3_breaksOne_70 rfl ?_
            refine sx_callVi dX3_breaksOne_71 ml_X3_56 mv3_isGodfather (tx_isGodfather _ hW (by first | omega | assumption | (with_reducible first | exact hR2 _ | exact hR _ | exact xch_R hR _ _ | exact am_R_or _ _ | exact am_R_shl _ _ | exact xkept_R hW _ _ | exact xwait_R hW _ _) | (exact ⟨by omega, by omega⟩)) (by first | omega | assumption | (with_reducible first | exact hR2 _ | exact hR _ | exact xch_R hR _ _ | exact am_R_or _ _ | exact am_R_shl _ _ | exact xkept_R hW _ _ | exact xwait_R hW _ _) | (exact ⟨by omega, by omega⟩))) rfl am_obX rfl (Nat.le_of_ble_eq_true rfl) (Nat.le_of_ble_eq_true rfl) ?_
            refine sx_ifB_eq (tgt := 106) dX3_breaksOne_74 (by decide) (fun c74 => ?_) (fun c74 => ?_)
            · -- 74t
              refine sx_iload dX3_breaksOne_106 rfl ?_
              refine sx_if_lt (tgt := 119) dX3_breaksOne_108 (by decide) (by first | omega | assumption | (with_reducible first | exact hR2 _ | exact hR _ | exact xch_R hR _ _ | exact am_R_or _ _ | exact am_R_shl _ _ | exact xkept_R hW _ _ | exact xwait_R hW _ _) | (exact ⟨by omega, by omega⟩)) (fun c108 => ?_) (fun c108 => ?_)
              · -- 108t
                obtain ⟨T1, hT1⟩ : ∃ T1, T1 = xbr1 S c row := ⟨_, rfl⟩
                refine sx_heq (xh h0 X T1) (by rw [hT1]; unfold xbr1; (repeat' split) <;> first | contradiction | (exfalso; omega) | rfl | (congr 2; omega) | (simp_all; done)) ?_
                have hlo : ∀ m, m < 40 → m ≠ 4 → T1 m = S m := fun m h h4 => by rw [hT1]; exact xbr1_lo hW h h4
                refine xs_vh (fun hR2 _ => ?_)
                refine sx_aload_n dX3_breaksOne_119 rfl ?_
                refine xs_getr (j := 1) dX3_breaksOne_120 fl_X3_7 (by decide) rfl ?_
                refine sx_bipush dX3_breaksOne_123 rfl ?_
                refine sx_iconst dX3_breaksOne_125 ?_
                refine sx_iload_n dX3_breaksOne_126 rfl ?_
                refine sx_imul dX3_breaksOne_127 ?_
                refine sx_iadd dX3_breaksOne_128 ?_
                refine sx_iconst dX3_breaksOne_129 ?_
                refine sx_iadd dX3_breaksOne_130 ?_
                refine sx_dup2 dX3_breaksOne_131 ?_
                refine xs_ild (n := 208) dX3_breaksOne_132 rfl (by decide) (by first | omega | assumption | (with_reducible first | exact hR2 _ | exact hR _ | exact xch_R hR _ _ | exact am_R_or _ _ | exact am_R_shl _ _ | exact xkept_R hW _ _ | exact xwait_R hW _ _) | (exact ⟨by omega, by omega⟩)) (by first | omega | assumption | (with_reducible first | exact hR2 _ | exact hR _ | exact xch_R hR _ _ | exact am_R_or _ _ | exact am_R_shl _ _ | exact xkept_R hW _ _ | exact xwait_R hW _ _) | (exact ⟨by omega, by omega⟩)) rfl (fun r132 => ?_)
                refine sx_iload dX3_breaksOne_133 rfl ?_
                refine sx_if_eq (tgt := 142) dX3_breaksOne_135 (by decide) ⟨by decide, by decide⟩ (fun q => absurd q (by decide)) (fun _ => ?_)
                refine sx_iconst dX3_breaksOne_138 ?_
                refine sx_goto (tgt := 143) dX3_breaksOne_139 (by decide) ?_
                refine sx_isub dX3_breaksOne_143 ?_
                refine xs_ist (n := 208) dX3_breaksOne_144 rfl (by decide) (by omega) (by omega) rfl (by rw [hlo _ (by omega) (by omega)]; have q9 := hR (8 + 4 * c + 1).toNat; first | exact ⟨by have := q9.1; omega, by have := q9.2; omega⟩ | (have q8 : 0 < S (8 + 4 * c + 1).toNat := c59; exact ⟨by omega, by have := q9.2; omega⟩)) ?_
                obtain ⟨T2, hT2⟩ : ∃ T2, T2 = xbr2 S c row := ⟨_, rfl⟩
                refine sx_heq (xh h0 X T2) (by rw [hT2]; unfold xbr2; rw [← hT1]; (repeat' split) <;> first | contradiction | (exfalso; omega) | rfl | (congr 2; omega) | (simp_all; done)) ?_
                refine xs_vh (fun hR2 _ => ?_)
                refine sx_aload_n dX3_breaksOne_145 rfl ?_
                refine xs_getr (j := 1) dX3_breaksOne_146 fl_X3_7 (by decide) rfl ?_
                refine sx_bipush dX3_breaksOne_149 rfl ?_
                refine sx_iconst dX3_breaksOne_151 ?_
                refine sx_iload_n dX3_breaksOne_152 rfl ?_
                refine sx_imul dX3_breaksOne_153 ?_
                refine sx_iadd dX3_breaksOne_154 ?_
                refine sx_iconst dX3_breaksOne_155 ?_
                refine sx_iadd dX3_breaksOne_156 ?_
                refine sx_dup2 dX3_breaksOne_157 ?_
                refine xs_ild (n := 208) dX3_breaksOne_158 rfl (by decide) (by first | omega | assumption | (with_reducible first | exact hR2 _ | exact hR _ | exact xch_R hR _ _ | exact am_R_or _ _ | exact am_R_shl _ _ | exact xkept_R hW _ _ | exact xwait_R hW _ _) | (exact ⟨by omega, by omega⟩)) (by first | omega | assumption | (with_reducible first | exact hR2 _ | exact hR _ | exact xch_R hR _ _ | exact am_R_or _ _ | exact am_R_shl _ _ | exact xkept_R hW _ _ | exact xwait_R hW _ _) | (exact ⟨by omega, by omega⟩)) rfl (fun r158 => ?_)
                refine sx_iload dX3_breaksOne_159 rfl ?_
                refine sx_if_eq (tgt := 168) dX3_breaksOne_161 (by decide) ⟨by decide, by decide⟩ (fun q => absurd q (by decide)) (fun _ => ?_)
                refine sx_iconst dX3_breaksOne_164 ?_
                refine sx_goto (tgt := 171) dX3_breaksOne_165 (by decide) ?_
                refine sx_ior dX3_breaksOne_171 ?_
                refine xs_ist (n := 208) dX3_breaksOne_172 rfl (by decide) (by first | omega | assumption | (with_reducible first | exact hR2 _ | exact hR _ | exact xch_R hR _ _ | exact am_R_or _ _ | exact am_R_shl _ _ | exact xkept_R hW _ _ | exact xwait_R hW _ _) | (exact ⟨by omega, by omega⟩)) (by first | omega | assumption | (with_reducible first | exact hR2 _ | exact hR _ | exact xch_R hR _ _ | exact am_R_or _ _ | exact am_R_shl _ _ | exact xkept_R hW _ _ | exact xwait_R hW _ _) | (exact ⟨by omega, by omega⟩)) rfl (by first | omega | assumption | (with_reducible first | exact hR2 _ | exact hR _ | exact xch_R hR _ _ | exact am_R_or _ _ | exact am_R_shl _ _ | exact xkept_R hW _ _ | exact xwait_R hW _ _) | (exact ⟨by omega, by omega⟩)) ?_
                refine sx_heq (xh h0 X (xbrS S c row)) (by unfold xbrS; rw [← hT2]; (repeat' split) <;> first | contradiction | (exfalso; omega) | rfl | (congr 2; omega) | (simp_all; done)) ?_
                have hWk : WX (xbrS S c row) := WX_brS hW hc8
                refine sx_aload_n dX3_breaksOne_173 rfl ?_
                refine sx_callVi dX3_breaksOne_174 ml_X3_106 mv3_lost (tx_lost hWk) rfl am_obX rfl (Nat.le_of_ble_eq_true rfl) (Nat.le_of_ble_eq_true rfl) ?_
                refine sx_iload_n dX3_breaksOne_177 rfl ?_
                refine sx_isub dX3_breaksOne_178 ?_
                exact sx_iret dX3_breaksOne_179 rfl (by unfold xbreaks; (repeat' split) <;> first | contradiction | (exfalso; omega) | rfl | (congr 2; omega) | (simp_all; done)) (by unfold xbreaks; (repeat' split) <;> first | contradiction | (exfalso; omega) | rfl | (congr 2; omega) | (simp_all; done))
              · -- 108f
                refine sx_aload_n dX3_breaksOne_111 rfl ?_
                refine sx_iload dX3_breaksOne_112 rfl ?_
                refine sx_iload dX3_breaksOne_114 rfl ?_
                refine sx_callVv dX3_breaksOne_116 ml_X3_110 mv3_falls (tx_falls _ _ hW (by have q1 := xkept_b hW c row; omega) (by first | exact Or.inl rfl | exact Or.inr rfl) (by omega)) rfl am_obX rfl (Nat.le_of_ble_eq_true rfl) (Nat.le_of_ble_eq_true rfl) ?_
                obtain ⟨T1, hT1⟩ : ∃ T1, T1 = xbr1 S c row := ⟨_, rfl⟩
                refine sx_heq (xh h0 X T1) (by rw [hT1]; unfold xbr1; (repeat' split) <;> first | contradiction | (exfalso; omega) | rfl | (congr 2; omega) | (simp_all; done)) ?_
                have hlo : ∀ m, m < 40 → m ≠ 4 → T1 m = S m := fun m h h4 => by rw [hT1]; exact xbr1_lo hW h h4
                refine xs_vh (fun hR2 _ => ?_)
                refine sx_aload_n dX3_breaksOne_119 rfl ?_
                refine xs_getr (j := 1) dX3_breaksOne_120 fl_X3_7 (by decide) rfl ?_
                refine sx_bipush dX3_breaksOne_123 rfl ?_
                refine sx_iconst dX3_breaksOne_125 ?_
                refine sx_iload_n dX3_breaksOne_126 rfl ?_
                refine sx_imul dX3_breaksOne_127 ?_
                refine sx_iadd dX3_breaksOne_128 ?_
                refine sx_iconst dX3_breaksOne_129 ?_
                refine sx_iadd dX3_breaksOne_130 ?_
                refine sx_dup2 dX3_breaksOne_131 ?_
                refine xs_ild (n := 208) dX3_breaksOne_132 rfl (by decide) (by first | omega | assumption | (with_reducible first | exact hR2 _ | exact hR _ | exact xch_R hR _ _ | exact am_R_or _ _ | exact am_R_shl _ _ | exact xkept_R hW _ _ | exact xwait_R hW _ _) | (exact ⟨by omega, by omega⟩)) (by first | omega | assumption | (with_reducible first | exact hR2 _ | exact hR _ | exact xch_R hR _ _ | exact am_R_or _ _ | exact am_R_shl _ _ | exact xkept_R hW _ _ | exact xwait_R hW _ _) | (exact ⟨by omega, by omega⟩)) rfl (fun r132 => ?_)
                refine sx_iload dX3_breaksOne_133 rfl ?_
                refine sx_if_eq (tgt := 142) dX3_breaksOne_135 (by decide) ⟨by decide, by decide⟩ (fun q => absurd q (by decide)) (fun _ => ?_)
                refine sx_iconst dX3_breaksOne_138 ?_
                refine sx_goto (tgt := 143) dX3_breaksOne_139 (by decide) ?_
                refine sx_isub dX3_breaksOne_143 ?_
                refine xs_ist (n := 208) dX3_breaksOne_144 rfl (by decide) (by omega) (by omega) rfl (by rw [hlo _ (by omega) (by omega)]; have q9 := hR (8 + 4 * c + 1).toNat; first | exact ⟨by have := q9.1; omega, by have := q9.2; omega⟩ | (have q8 : 0 < S (8 + 4 * c + 1).toNat := c59; exact ⟨by omega, by have := q9.2; omega⟩)) ?_
                obtain ⟨T2, hT2⟩ : ∃ T2, T2 = xbr2 S c row := ⟨_, rfl⟩
                refine sx_heq (xh h0 X T2) (by rw [hT2]; unfold xbr2; rw [← hT1]; (repeat' split) <;> first | contradiction | (exfalso; omega) | rfl | (congr 2; omega) | (simp_all; done)) ?_
                refine xs_vh (fun hR2 _ => ?_)
                refine sx_aload_n dX3_breaksOne_145 rfl ?_
                refine xs_getr (j := 1) dX3_breaksOne_146 fl_X3_7 (by decide) rfl ?_
                refine sx_bipush dX3_breaksOne_149 rfl ?_
                refine sx_iconst dX3_breaksOne_151 ?_
                refine sx_iload_n dX3_breaksOne_152 rfl ?_
                refine sx_imul dX3_breaksOne_153 ?_
                refine sx_iadd dX3_breaksOne_154 ?_
                refine sx_iconst dX3_breaksOne_155 ?_
                refine sx_iadd dX3_breaksOne_156 ?_
                refine sx_dup2 dX3_breaksOne_157 ?_
                refine xs_ild (n := 208) dX3_breaksOne_158 rfl (by decide) (by first | omega | assumption | (with_reducible first | exact hR2 _ | exact hR _ | exact xch_R hR _ _ | exact am_R_or _ _ | exact am_R_shl _ _ | exact xkept_R hW _ _ | exact xwait_R hW _ _) | (exact ⟨by omega, by omega⟩)) (by first | omega | assumption | (with_reducible first | exact hR2 _ | exact hR _ | exact xch_R hR _ _ | exact am_R_or _ _ | exact am_R_shl _ _ | exact xkept_R hW _ _ | exact xwait_R hW _ _) | (exact ⟨by omega, by omega⟩)) rfl (fun r158 => ?_)
                refine sx_iload dX3_breaksOne_159 rfl ?_
                refine sx_if_eq (tgt := 168) dX3_breaksOne_161 (by decide) ⟨by decide, by decide⟩ (fun q => absurd q (by decide)) (fun _ => ?_)
                refine sx_iconst dX3_breaksOne_164 ?_
                refine sx_goto (tgt := 171) dX3_breaksOne_165 (by decide) ?_
                refine sx_ior dX3_breaksOne_171 ?_
                refine xs_ist (n := 208) dX3_breaksOne_172 rfl (by decide) (by first | omega | assumption | (with_reducible first | exact hR2 _ | exact hR _ | exact xch_R hR _ _ | exact am_R_or _ _ | exact am_R_shl _ _ | exact xkept_R hW _ _ | exact xwait_R hW _ _) | (exact ⟨by omega, by omega⟩)) (by first | omega | assumption | (with_reducible first | exact hR2 _ | exact hR _ | exact xch_R hR _ _ | exact am_R_or _ _ | exact am_R_shl _ _ | exact xkept_R hW _ _ | exact xwait_R hW _ _) | (exact ⟨by omega, by omega⟩)) rfl (by first | omega | assumption | (with_reducible first | exact hR2 _ | exact hR _ | exact xch_R hR _ _ | exact am_R_or _ _ | exact am_R_shl _ _ | exact xkept_R hW _ _ | exact xwait_R hW _ _) | (exact ⟨by omega, by omega⟩)) ?_
                refine sx_heq (xh h0 X (xbrS S c row)) (by unfold xbrS; rw [← hT2]; (repeat' split) <;> first | contradiction | (exfalso; omega) | rfl | (congr 2; omega) | (simp_all; done)) ?_
                have hWk : WX (xbrS S c row) := WX_brS hW hc8
                refine sx_aload_n dX3_breaksOne_173 rfl ?_
                refine sx_callVi dX3_breaksOne_174 ml_X3_106 mv3_lost (tx_lost hWk) rfl am_obX rfl (Nat.le_of_ble_eq_true rfl) (Nat.le_of_ble_eq_true rfl) ?_
                refine sx_iload_n dX3_breaksOne_177 rfl ?_
                refine sx_isub dX3_breaksOne_178 ?_
                exact sx_iret dX3_breaksOne_179 rfl (by unfold xbreaks; (repeat' split) <;> first | contradiction | (exfalso; omega) | rfl | (congr 2; omega) | (simp_all; done)) (by unfold xbreaks; (repeat' split) <;> first | contradiction | (exfalso; omega) | rfl | (congr 2; omega) | (simp_all; done))
            · -- 74f
              refine sx_aload_n dX3_breaksOne_77 rfl ?_
              refine sx_aload_n dX3_breaksOne_78 rfl ?_
              refine sx_iload_n dX3_breaksOne_79 rfl ?_
              refine sx_iconst dX3_breaksOne_80 ?_
              refine sx_callVi dX3_breaksOne_81 ml_X3_36 mv3_ch (tx_ch _ _ (by first | omega | assumption | (with_reducible first | exact hR2 _ | exact hR _ | exact xch_R hR _ _ | exact am_R_or _ _ | exact am_R_shl _ _ | exact xkept_R hW _ _ | exact xwait_R hW _ _) | (exact ⟨by omega, by omega⟩)) (by first | omega | assumption | (with_reducible first | exact hR2 _ | exact hR _ | exact xch_R hR _ _ | exact am_R_or _ _ | exact am_R_shl _ _ | exact xkept_R hW _ _ | exact xwait_R hW _ _) | (exact ⟨by omega, by omega⟩))) rfl am_obX rfl (Nat.le_of_ble_eq_true rfl) (Nat.le_of_ble_eq_true rfl) ?_
              refine sx_iload_n dX3_breaksOne_84 rfl ?_
              refine sx_callVi dX3_breaksOne_85 ml_X3_62 mv3_waiting (tx_waiting _ _ hW (by first | omega | assumption | (with_reducible first | exact hR2 _ | exact hR _ | exact xch_R hR _ _ | exact am_R_or _ _ | exact am_R_shl _ _ | exact xkept_R hW _ _ | exact xwait_R hW _ _) | (exact ⟨by omega, by omega⟩)) (by first | omega | assumption | (with_reducible first | exact hR2 _ | exact hR _ | exact xch_R hR _ _ | exact am_R_or _ _ | exact am_R_shl _ _ | exact xkept_R hW _ _ | exact xwait_R hW _ _) | (exact ⟨by omega, by omega⟩))) rfl am_obX rfl (Nat.le_of_ble_eq_true rfl) (Nat.le_of_ble_eq_true rfl) ?_
              refine sx_istore dX3_breaksOne_88 (by decide) ?_
              refine sx_iload dX3_breaksOne_90 rfl ?_
              refine sx_if_lt (tgt := 103) dX3_breaksOne_92 (by decide) (by first | omega | assumption | (with_reducible first | exact hR2 _ | exact hR _ | exact xch_R hR _ _ | exact am_R_or _ _ | exact am_R_shl _ _ | exact xkept_R hW _ _ | exact xwait_R hW _ _) | (exact ⟨by omega, by omega⟩)) (fun c92 => ?_) (fun c92 => ?_)
              · -- 92t
                refine sx_goto (tgt := 119) dX3_breaksOne_103 (by decide) ?_
                obtain ⟨T1, hT1⟩ : ∃ T1, T1 = xbr1 S c row := ⟨_, rfl⟩
                refine sx_heq (xh h0 X T1) (by rw [hT1]; unfold xbr1; (repeat' split) <;> first | contradiction | (exfalso; omega) | rfl | (congr 2; omega) | (simp_all; done)) ?_
                have hlo : ∀ m, m < 40 → m ≠ 4 → T1 m = S m := fun m h h4 => by rw [hT1]; exact xbr1_lo hW h h4
                refine xs_vh (fun hR2 _ => ?_)
                refine sx_aload_n dX3_breaksOne_119 rfl ?_
                refine xs_getr (j := 1) dX3_breaksOne_120 fl_X3_7 (by decide) rfl ?_
                refine sx_bipush dX3_breaksOne_123 rfl ?_
                refine sx_iconst dX3_breaksOne_125 ?_
                refine sx_iload_n dX3_breaksOne_126 rfl ?_
                refine sx_imul dX3_breaksOne_127 ?_
                refine sx_iadd dX3_breaksOne_128 ?_
                refine sx_iconst dX3_breaksOne_129 ?_
                refine sx_iadd dX3_breaksOne_130 ?_
                refine sx_dup2 dX3_breaksOne_131 ?_
                refine xs_ild (n := 208) dX3_breaksOne_132 rfl (by decide) (by first | omega | assumption | (with_reducible first | exact hR2 _ | exact hR _ | exact xch_R hR _ _ | exact am_R_or _ _ | exact am_R_shl _ _ | exact xkept_R hW _ _ | exact xwait_R hW _ _) | (exact ⟨by omega, by omega⟩)) (by first | omega | assumption | (with_reducible first | exact hR2 _ | exact hR _ | exact xch_R hR _ _ | exact am_R_or _ _ | exact am_R_shl _ _ | exact xkept_R hW _ _ | exact xwait_R hW _ _) | (exact ⟨by omega, by omega⟩)) rfl (fun r132 => ?_)
                refine sx_iload dX3_breaksOne_133 rfl ?_
                refine sx_if_eq (tgt := 142) dX3_breaksOne_135 (by decide) ⟨by decide, by decide⟩ (fun q => absurd q (by decide)) (fun _ => ?_)
                refine sx_iconst dX3_breaksOne_138 ?_
                refine sx_goto (tgt := 143) dX3_breaksOne_139 (by decide) ?_
                refine sx_isub dX3_breaksOne_143 ?_
                refine xs_ist (n := 208) dX3_breaksOne_144 rfl (by decide) (by omega) (by omega) rfl (by rw [hlo _ (by omega) (by omega)]; have q9 := hR (8 + 4 * c + 1).toNat; first | exact ⟨by have := q9.1; omega, by have := q9.2; omega⟩ | (have q8 : 0 < S (8 + 4 * c + 1).toNat := c59; exact ⟨by omega, by have := q9.2; omega⟩)) ?_
                obtain ⟨T2, hT2⟩ : ∃ T2, T2 = xbr2 S c row := ⟨_, rfl⟩
                refine sx_heq (xh h0 X T2) (by rw [hT2]; unfold xbr2; rw [← hT1]; (repeat' split) <;> first | contradiction | (exfalso; omega) | rfl | (congr 2; omega) | (simp_all; done)) ?_
                refine xs_vh (fun hR2 _ => ?_)
                refine sx_aload_n dX3_breaksOne_145 rfl ?_
                refine xs_getr (j := 1) dX3_breaksOne_146 fl_X3_7 (by decide) rfl ?_
                refine sx_bipush dX3_breaksOne_149 rfl ?_
                refine sx_iconst dX3_breaksOne_151 ?_
                refine sx_iload_n dX3_breaksOne_152 rfl ?_
                refine sx_imul dX3_breaksOne_153 ?_
                refine sx_iadd dX3_breaksOne_154 ?_
                refine sx_iconst dX3_breaksOne_155 ?_
                refine sx_iadd dX3_breaksOne_156 ?_
                refine sx_dup2 dX3_breaksOne_157 ?_
                refine xs_ild (n := 208) dX3_breaksOne_158 rfl (by decide) (by first | omega | assumption | (with_reducible first | exact hR2 _ | exact hR _ | exact xch_R hR _ _ | exact am_R_or _ _ | exact am_R_shl _ _ | exact xkept_R hW _ _ | exact xwait_R hW _ _) | (exact ⟨by omega, by omega⟩)) (by first | omega | assumption | (with_reducible first | exact hR2 _ | exact hR _ | exact xch_R hR _ _ | exact am_R_or _ _ | exact am_R_shl _ _ | exact xkept_R hW _ _ | exact xwait_R hW _ _) | (exact ⟨by omega, by omega⟩)) rfl (fun r158 => ?_)
                refine sx_iload dX3_breaksOne_159 rfl ?_
                refine sx_if_eq (tgt := 168) dX3_breaksOne_161 (by decide) ⟨by decide, by decide⟩ (fun q => absurd q (by decide)) (fun _ => ?_)
                refine sx_iconst dX3_breaksOne_164 ?_
                refine sx_goto (tgt := 171) dX3_breaksOne_165 (by decide) ?_
                refine sx_ior dX3_breaksOne_171 ?_
                refine xs_ist (n := 208) dX3_breaksOne_172 rfl (by decide) (by first | omega | assumption | (with_reducible first | exact hR2 _ | exact hR _ | exact xch_R hR _ _ | exact am_R_or _ _ | exact am_R_shl _ _ | exact xkept_R hW _ _ | exact xwait_R hW _ _) | (exact ⟨by omega, by omega⟩)) (by first | omega | assumption | (with_reducible first | exact hR2 _ | exact hR _ | exact xch_R hR _ _ | exact am_R_or _ _ | exact am_R_shl _ _ | exact xkept_R hW _ _ | exact xwait_R hW _ _) | (exact ⟨by omega, by omega⟩)) rfl (by first | omega | assumption | (with_reducible first | exact hR2 _ | exact hR _ | exact xch_R hR _ _ | exact am_R_or _ _ | exact am_R_shl _ _ | exact xkept_R hW _ _ | exact xwait_R hW _ _) | (exact ⟨by omega, by omega⟩)) ?_
                refine sx_heq (xh h0 X (xbrS S c row)) (by unfold xbrS; rw [← hT2]; (repeat' split) <;> first | contradiction | (exfalso; omega) | rfl | (congr 2; omega) | (simp_all; done)) ?_
                have hWk : WX (xbrS S c row) := WX_brS hW hc8
                refine sx_aload_n dX3_breaksOne_173 rfl ?_
                refine sx_callVi dX3_breaksOne_174 ml_X3_106 mv3_lost (tx_lost hWk) rfl am_obX rfl (Nat.le_of_ble_eq_true rfl) (Nat.le_of_ble_eq_true rfl) ?_
                refine sx_iload_n dX3_breaksOne_177 rfl ?_
                refine sx_isub dX3_breaksOne_178 ?_
                exact sx_iret dX3_breaksOne_179 rfl (by unfold xbreaks; (repeat' split) <;> first | contradiction | (exfalso; omega) | rfl | (congr 2; omega) | (simp_all; done)) (by unfold xbreaks; (repeat' split) <;> first | contradiction | (exfalso; omega) | rfl | (congr 2; omega) | (simp_all; done))
              · -- 92f
                refine sx_aload_n dX3_breaksOne_95 rfl ?_
                refine sx_iload dX3_breaksOne_96 rfl ?_
                refine sx_iconst dX3_breaksOne_98 ?_
                refine sx_iconst dX3_breaksOne_99 ?_
                refine sx_callVv dX3_breaksOne_100 ml_X3_72 mv3_lays (tx_lays _ _ _ (by have q1 := xwait_b hW (xch S c 0) row; omega) (by decide) ⟨by decide, by decide⟩) rfl am_obX rfl (Nat.le_of_ble_eq_true rfl) (Nat.le_of_ble_eq_true rfl) ?_
                refine sx_goto (tgt := 119) dX3_breaksOne_103 (by decide) ?_
                obtain ⟨T1, hT1⟩ : ∃ T1, T1 = xbr1 S c row := ⟨_, rfl⟩
                refine sx_heq (xh h0 X T1) (by rw [hT1]; unfold xbr1; (repeat' split) <;> first | contradiction | (exfalso; omega) | rfl | (congr 2; omega) | (simp_all; done)) ?_
                have hlo : ∀ m, m < 40 → m ≠ 4 → T1 m = S m := fun m h h4 => by rw [hT1]; exact xbr1_lo hW h h4
                refine xs_vh (fun hR2 _ => ?_)
                refine sx_aload_n dX3_breaksOne_119 rfl ?_
                refine xs_getr (j := 1) dX3_breaksOne_120 fl_X3_7 (by decide) rfl ?_
                refine sx_bipush dX3_breaksOne_123 rfl ?_
                refine sx_iconst dX3_breaksOne_125 ?_
                refine sx_iload_n dX3_breaksOne_126 rfl ?_
                refine sx_imul dX3_breaksOne_127 ?_
                refine sx_iadd dX3_breaksOne_128 ?_
                refine sx_iconst dX3_breaksOne_129 ?_
                refine sx_iadd dX3_breaksOne_130 ?_
                refine sx_dup2 dX3_breaksOne_131 ?_
                refine xs_ild (n := 208) dX3_breaksOne_132 rfl (by decide) (by first | omega | assumption | (with_reducible first | exact hR2 _ | exact hR _ | exact xch_R hR _ _ | exact am_R_or _ _ | exact am_R_shl _ _ | exact xkept_R hW _ _ | exact xwait_R hW _ _) | (exact ⟨by omega, by omega⟩)) (by first | omega | assumption | (with_reducible first | exact hR2 _ | exact hR _ | exact xch_R hR _ _ | exact am_R_or _ _ | exact am_R_shl _ _ | exact xkept_R hW _ _ | exact xwait_R hW _ _) | (exact ⟨by omega, by omega⟩)) rfl (fun r132 => ?_)
                refine sx_iload dX3_breaksOne_133 rfl ?_
                refine sx_if_eq (tgt := 142) dX3_breaksOne_135 (by decide) ⟨by decide, by decide⟩ (fun q => absurd q (by decide)) (fun _ => ?_)
                refine sx_iconst dX3_breaksOne_138 ?_
                refine sx_goto (tgt := 143) dX3_breaksOne_139 (by decide) ?_
                refine sx_isub dX3_breaksOne_143 ?_
                refine xs_ist (n := 208) dX3_breaksOne_144 rfl (by decide) (by omega) (by omega) rfl (by rw [hlo _ (by omega) (by omega)]; have q9 := hR (8 + 4 * c + 1).toNat; first | exact ⟨by have := q9.1; omega, by have := q9.2; omega⟩ | (have q8 : 0 < S (8 + 4 * c + 1).toNat := c59; exact ⟨by omega, by have := q9.2; omega⟩)) ?_
                obtain ⟨T2, hT2⟩ : ∃ T2, T2 = xbr2 S c row := ⟨_, rfl⟩
                refine sx_heq (xh h0 X T2) (by rw [hT2]; unfold xbr2; rw [← hT1]; (repeat' split) <;> first | contradiction | (exfalso; omega) | rfl | (congr 2; omega) | (simp_all; done)) ?_
                refine xs_vh (fun hR2 _ => ?_)
                refine sx_aload_n dX3_breaksOne_145 rfl ?_
                refine xs_getr (j := 1) dX3_breaksOne_146 fl_X3_7 (by decide) rfl ?_
                refine sx_bipush dX3_breaksOne_149 rfl ?_
                refine sx_iconst dX3_breaksOne_151 ?_
                refine sx_iload_n dX3_breaksOne_152 rfl ?_
                refine sx_imul dX3_breaksOne_153 ?_
                refine sx_iadd dX3_breaksOne_154 ?_
                refine sx_iconst dX3_breaksOne_155 ?_
                refine sx_iadd dX3_breaksOne_156 ?_
                refine sx_dup2 dX3_breaksOne_157 ?_
                refine xs_ild (n := 208) dX3_breaksOne_158 rfl (by decide) (by first | omega | assumption | (with_reducible first | exact hR2 _ | exact hR _ | exact xch_R hR _ _ | exact am_R_or _ _ | exact am_R_shl _ _ | exact xkept_R hW _ _ | exact xwait_R hW _ _) | (exact ⟨by omega, by omega⟩)) (by first | omega | assumption | (with_reducible first | exact hR2 _ | exact hR _ | exact xch_R hR _ _ | exact am_R_or _ _ | exact am_R_shl _ _ | exact xkept_R hW _ _ | exact xwait_R hW _ _) | (exact ⟨by omega, by omega⟩)) rfl (fun r158 => ?_)
                refine sx_iload dX3_breaksOne_159 rfl ?_
                refine sx_if_eq (tgt := 168) dX3_breaksOne_161 (by decide) ⟨by decide, by decide⟩ (fun q => absurd q (by decide)) (fun _ => ?_)
                refine sx_iconst dX3_breaksOne_164 ?_
                refine sx_goto (tgt := 171) dX3_breaksOne_165 (by decide) ?_
                refine sx_ior dX3_breaksOne_171 ?_
                refine xs_ist (n := 208) dX3_breaksOne_172 rfl (by decide) (by first | omega | assumption | (with_reducible first | exact hR2 _ | exact hR _ | exact xch_R hR _ _ | exact am_R_or _ _ | exact am_R_shl _ _ | exact xkept_R hW _ _ | exact xwait_R hW _ _) | (exact ⟨by omega, by omega⟩)) (by first | omega | assumption | (with_reducible first | exact hR2 _ | exact hR _ | exact xch_R hR _ _ | exact am_R_or _ _ | exact am_R_shl _ _ | exact xkept_R hW _ _ | exact xwait_R hW _ _) | (exact ⟨by omega, by omega⟩)) rfl (by first | omega | assumption | (with_reducible first | exact hR2 _ | exact hR _ | exact xch_R hR _ _ | exact am_R_or _ _ | exact am_R_shl _ _ | exact xkept_R hW _ _ | exact xwait_R hW _ _) | (exact ⟨by omega, by omega⟩)) ?_
                refine sx_heq (xh h0 X (xbrS S c row)) (by unfold xbrS; rw [← hT2]; (repeat' split) <;> first | contradiction | (exfalso; omega) | rfl | (congr 2; omega) | (simp_all; done)) ?_
                have hWk : WX (xbrS S c row) := WX_brS hW hc8
                refine sx_aload_n dX3_breaksOne_173 rfl ?_
                refine sx_callVi dX3_breaksOne_174 ml_X3_106 mv3_lost (tx_lost hWk) rfl am_obX rfl (Nat.le_of_ble_eq_true rfl) (Nat.le_of_ble_eq_true rfl) ?_
                refine sx_iload_n dX3_breaksOne_177 rfl ?_
                refine sx_isub dX3_breaksOne_178 ?_
                exact sx_iret dX3_breaksOne_179 rfl (by unfold xbreaks; (repeat' split) <;> first | contradiction | (exfalso; omega) | rfl | (congr 2; omega) | (simp_all; done)) (by unfold xbreaks; (repeat' split) <;> first | contradiction | (exfalso; omega) | rfl | (congr 2; omega) | (simp_all; done))
        · -- 34f
          refine sx_ldc dX3_breaksOne_37 kc_X3_96 ?_
          exact sx_iret dX3_breaksOne_39 rfl (by unfold xbreaks; (repeat' split) <;> first | contradiction | (exfalso; omega) | rfl | (congr 2; omega) | (simp_all; done)) (by unfold xbreaks; (repeat' split) <;> first | contradiction | (exfalso; omega) | rfl | (congr 2; omega) | (simp_all; done))
    · -- 14f
      refine sx_ldc dX3_breaksOne_17 kc_X3_40 ?_
      exact sx_iret dX3_breaksOne_19 rfl (by unfold xbreaks; (repeat' split) <;> first | contradiction | (exfalso; omega) | rfl | (congr 2; omega) | (simp_all; done)) (by unfold xbreaks; (repeat' split) <;> first | contradiction | (exfalso; omega) | rfl | (congr 2; omega) | (simp_all; done))
