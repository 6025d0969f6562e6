set_option maxHeartbeats 4000000 in
set_option maxRecDepth 100000 in
theorem tx_elects {h0 : am_H} {X : am_M} {S : Nat → Int} (c : Int) (hW : WX S) (hc : am_R c)  : Ct 4 Y3_elects [.inr (7, 0), .inl c] (some (.inl (xelects S c).1)) (xh h0 X S) (xh h0 X (xelects S c).2) := by
  refine Ct_of (by decide +kernel) (Nat.le_of_ble_eq_true rfl) ?_
  show Sx 4 Y3_elects (xh h0 X (xelects S c).2) (some (.inl (xelects S c).1)) 0 [some (.inr (7, 0)), some (.inl c)] [] (xh h0 X S)
  refine xs_vh (fun hR hRX => ?_)
  obtain ⟨w0, w1, wg, wf, wo⟩ := id hW
  refine sx_aload_n dX3_elects_0 rfl ?_
  refine sx_iload_n dX3_elects_1 rfl ?_
  refine sx_callVi dX3_elects_2 ml_X3_90 mv3_isChip (tx_isChip _ hW (by first | omega | assumption | (with_reducible first | exact hR _ | exact xwd_R hR _ _ | exact xch_R hR _ _ | exact am_R_and _ _ | exact am_R_or _ _ | exact am_R_xor _ _ | exact am_R_shl _ _ | exact am_R_shr _ _ | exact bit_R _ _ | exact xpls_R _ _ | exact xkept_R hW _ _ | exact xwait_R hW _ _ ) | (exact ⟨by omega, by omega⟩) | exact wf _ (by omega) (by omega) | exact wg _ (by omega) (by omega))) rfl am_obX rfl (Nat.le_of_ble_eq_true rfl) (Nat.le_of_ble_eq_true rfl) ?_
  refine sx_ifB_ne (tgt := 11) dX3_elects_5 (by decide) (fun c5 => ?_) (fun c5 => ?_)
  · -- 5t
    have hc8 : 0 ≤ c ∧ c < 8 := ⟨c5.1, by omega⟩
    obtain ⟨hf0, hf2⟩ := wf c hc8.1 hc8.2
    refine sx_aload_n dX3_elects_11 rfl ?_
    refine sx_iload_n dX3_elects_12 rfl ?_
    refine sx_callVi dX3_elects_13 ml_X3_52 mv3_lives (tx_lives _ (by first | omega | assumption | (with_reducible first | exact hR _ | exact xwd_R hR _ _ | exact xch_R hR _ _ | exact am_R_and _ _ | exact am_R_or _ _ | exact am_R_xor _ _ | exact am_R_shl _ _ | exact am_R_shr _ _ | exact bit_R _ _ | exact xpls_R _ _ | exact xkept_R hW _ _ | exact xwait_R hW _ _ | exact xwords_R _ _) | (exact ⟨by omega, by omega⟩) | exact wf _ (by omega) (by omega) | exact wg _ (by omega) (by omega))) rfl am_obX rfl (Nat.le_of_ble_eq_true rfl) (Nat.le_of_ble_eq_true rfl) ?_
    refine sx_ifB_eq (tgt := 43) dX3_elects_16 (by decide) (fun c16 => ?_) (fun c16 => ?_)
    · -- 16t
      refine sx_ldc dX3_elects_43 kc_X3_96 ?_
      exact sx_iret dX3_elects_45 rfl (by unfold xelects xgod; (repeat' split) <;> first | contradiction | (exfalso; omega) | rfl | (congr 2; omega) | (simp_all; done)) (by unfold xelects xgod; (repeat' split) <;> first | contradiction | (exfalso; omega) | rfl | (congr 2; omega) | (simp_all; done))
    · -- 16f
      refine sx_aload_n dX3_elects_19 rfl ?_
      refine xs_getr (j := 1) dX3_elects_20 fl_X3_7 (by decide) rfl ?_
      refine sx_iconst dX3_elects_23 ?_
      refine sx_aload_n dX3_elects_24 rfl ?_
      refine sx_iload_n dX3_elects_25 rfl ?_
      refine sx_iconst dX3_elects_26 ?_
      refine sx_callVi dX3_elects_27 ml_X3_36 mv3_ch (tx_ch _ _ (by first | omega | assumption | (with_reducible first | exact hR _ | exact xwd_R hR _ _ | exact xch_R hR _ _ | exact am_R_and _ _ | exact am_R_or _ _ | exact am_R_xor _ _ | exact am_R_shl _ _ | exact am_R_shr _ _ | exact bit_R _ _ | exact xpls_R _ _ | exact xkept_R hW _ _ | exact xwait_R hW _ _ | exact xwords_R _ _) | (exact ⟨by omega, by omega⟩) | exact wf _ (by omega) (by omega) | exact wg _ (by omega) (by omega)) (by first | omega | assumption | (with_reducible first | exact hR _ | exact xwd_R hR _ _ | exact xch_R hR _ _ | exact am_R_and _ _ | exact am_R_or _ _ | exact am_R_xor _ _ | exact am_R_shl _ _ | exact am_R_shr _ _ | exact bit_R _ _ | exact xpls_R _ _ | exact xkept_R hW _ _ | exact xwait_R hW _ _ | exact xwords_R _ _) | (exact ⟨by omega, by omega⟩) | exact wf _ (by omega) (by omega) | exact wg _ (by omega) (by omega))) rfl am_obX rfl (Nat.le_of_ble_eq_true rfl) (Nat.le_of_ble_eq_true rfl) ?_
      refine sx_iadd dX3_elects_30 ?_
      refine xs_ild (n := 208) dX3_elects_31 rfl (by decide) (by first | omega | assumption | (with_reducible first | exact hR _ | exact xwd_R hR _ _ | exact xch_R hR _ _ | exact am_R_and _ _ | exact am_R_or _ _ | exact am_R_xor _ _ | exact am_R_shl _ _ | exact am_R_shr _ _ | exact bit_R _ _ | exact xpls_R _ _ | exact xkept_R hW _ _ | exact xwait_R hW _ _ | exact xwords_R _ _) | (exact ⟨by omega, by omega⟩) | exact wf _ (by omega) (by omega) | exact wg _ (by omega) (by omega)) (by first | omega | assumption | (with_reducible first | exact hR _ | exact xwd_R hR _ _ | exact xch_R hR _ _ | exact am_R_and _ _ | exact am_R_or _ _ | exact am_R_xor _ _ | exact am_R_shl _ _ | exact am_R_shr _ _ | exact bit_R _ _ | exact xpls_R _ _ | exact xkept_R hW _ _ | exact xwait_R hW _ _ | exact xwords_R _ _) | (exact ⟨by omega, by omega⟩) | exact wf _ (by omega) (by omega) | exact wg _ (by omega) (by omega)) rfl (fun r31 => ?_)
      refine sx_if_ge (tgt := 43) dX3_elects_32 (by decide) (by first | omega | assumption | (with_reducible first | exact hR _ | exact xwd_R hR _ _ | exact xch_R hR _ _ | exact am_R_and _ _ | exact am_R_or _ _ | exact am_R_xor _ _ | exact am_R_shl _ _ | exact am_R_shr _ _ | exact bit_R _ _ | exact xpls_R _ _ | exact xkept_R hW _ _ | exact xwait_R hW _ _ | exact xwords_R _ _) | (exact ⟨by omega, by omega⟩) | exact wf _ (by omega) (by omega) | exact wg _ (by omega) (by omega)) (fun c32 => ?_) (fun c32 => ?_)
      · -- 32t
        refine sx_ldc dX3_elects_43 kc_X3_96 ?_
        exact sx_iret dX3_elects_45 rfl (by unfold xelects xgod; (repeat' split) <;> first | contradiction | (exfalso; omega) | rfl | (congr 2; omega) | (simp_all; done)) (by unfold xelects xgod; (repeat' split) <;> first | contradiction | (exfalso; omega) | rfl | (congr 2; omega) | (simp_all; done))
      · -- 32f
        refine sx_aload_n dX3_elects_35 rfl ?_
        refine sx_iload_n dX3_elects_36 rfl ?_
        refine sx_callVi dX3_elects_37 ml_X3_93 mv3_words (tx_words _ hW (by first | omega | assumption | (with_reducible first | exact hR _ | exact xwd_R hR _ _ | exact xch_R hR _ _ | exact am_R_and _ _ | exact am_R_or _ _ | exact am_R_xor _ _ | exact am_R_shl _ _ | exact am_R_shr _ _ | exact bit_R _ _ | exact xpls_R _ _ | exact xkept_R hW _ _ | exact xwait_R hW _ _ | exact xwords_R _ _) | (exact ⟨by omega, by omega⟩) | exact wf _ (by omega) (by omega) | exact wg _ (by omega) (by omega))) rfl am_obX rfl (Nat.le_of_ble_eq_true rfl) (Nat.le_of_ble_eq_true rfl) ?_
        refine sx_if_le (tgt := 46) dX3_elects_40 (by decide) (by first | omega | assumption | (with_reducible first | exact hR _ | exact xwd_R hR _ _ | exact xch_R hR _ _ | exact am_R_and _ _ | exact am_R_or _ _ | exact am_R_xor _ _ | exact am_R_shl _ _ | exact am_R_shr _ _ | exact bit_R _ _ | exact xpls_R _ _ | exact xkept_R hW _ _ | exact xwait_R hW _ _ | exact xwords_R _ _) | (exact ⟨by omega, by omega⟩) | exact wf _ (by omega) (by omega) | exact wg _ (by omega) (by omega)) (fun c40 => ?_) (fun c40 => ?_)
        · -- 40t
          refine sx_aload_n dX3_elects_46 rfl ?_
          refine xs_getr (j := 1) dX3_elects_47 fl_X3_7 (by decide) rfl ?_
          refine sx_iconst dX3_elects_50 ?_
          refine sx_aload_n dX3_elects_51 rfl ?_
          refine sx_iload_n dX3_elects_52 rfl ?_
          refine sx_iconst dX3_elects_53 ?_
          refine sx_callVi dX3_elects_54 ml_X3_36 mv3_ch (tx_ch _ _ (by first | omega | assumption | (with_reducible first | exact hR _ | exact xwd_R hR _ _ | exact xch_R hR _ _ | exact am_R_and _ _ | exact am_R_or _ _ | exact am_R_xor _ _ | exact am_R_shl _ _ | exact am_R_shr _ _ | exact bit_R _ _ | exact xpls_R _ _ | exact xkept_R hW _ _ | exact xwait_R hW _ _ | exact xwords_R _ _) | (exact ⟨by omega, by omega⟩) | exact wf _ (by omega) (by omega) | exact wg _ (by omega) (by omega)) (by first | omega | assumption | (with_reducible first | exact hR _ | exact xwd_R hR _ _ | exact xch_R hR _ _ | exact am_R_and _ _ | exact am_R_or _ _ | exact am_R_xor _ _ | exact am_R_shl _ _ | exact am_R_shr _ _ | exact bit_R _ _ | exact xpls_R _ _ | exact xkept_R hW _ _ | exact xwait_R hW _ _ | exact xwords_R _ _) | (exact ⟨by omega, by omega⟩) | exact wf _ (by omega) (by omega) | exact wg _ (by omega) (by omega))) rfl am_obX rfl (Nat.le_of_ble_eq_true rfl) (Nat.le_of_ble_eq_true rfl) ?_
          refine sx_iadd dX3_elects_57 ?_
          refine sx_iload_n dX3_elects_58 rfl ?_
          refine xs_ist (n := 208) dX3_elects_59 rfl (by decide) (by first | omega | assumption | (with_reducible first | exact hR _ | exact xwd_R hR _ _ | exact xch_R hR _ _ | exact am_R_and _ _ | exact am_R_or _ _ | exact am_R_xor _ _ | exact am_R_shl _ _ | exact am_R_shr _ _ | exact bit_R _ _ | exact xpls_R _ _ | exact xkept_R hW _ _ | exact xwait_R hW _ _ | exact xwords_R _ _) | (exact ⟨by omega, by omega⟩) | exact wf _ (by omega) (by omega) | exact wg _ (by omega) (by omega)) (by first | omega | assumption | (with_reducible first | exact hR _ | exact xwd_R hR _ _ | exact xch_R hR _ _ | exact am_R_and _ _ | exact am_R_or _ _ | exact am_R_xor _ _ | exact am_R_shl _ _ | exact am_R_shr _ _ | exact bit_R _ _ | exact xpls_R _ _ | exact xkept_R hW _ _ | exact xwait_R hW _ _ | exact xwords_R _ _) | (exact ⟨by omega, by omega⟩) | exact wf _ (by omega) (by omega) | exact wg _ (by omega) (by omega)) rfl (by first | omega | assumption | (with_reducible first | exact hR _ | exact xwd_R hR _ _ | exact xch_R hR _ _ | exact am_R_and _ _ | exact am_R_or _ _ | exact am_R_xor _ _ | exact am_R_shl _ _ | exact am_R_shr _ _ | exact bit_R _ _ | exact xpls_R _ _ | exact xkept_R hW _ _ | exact xwait_R hW _ _ | exact xwords_R _ _) | (exact ⟨by omega, by omega⟩) | exact wf _ (by omega) (by omega) | exact wg _ (by omega) (by omega)) ?_
          have hW2 : WX (am_u1 S (5 + xch S c 0).toNat c) := WX_god hW ⟨hf0, hf2⟩ (by omega)
          obtain ⟨-, -, -, wf2, -⟩ := id hW2
          obtain ⟨hg0, hg2⟩ := wf2 c hc8.1 hc8.2
          refine sx_aload_n dX3_elects_60 rfl ?_
          refine sx_aload_n dX3_elects_61 rfl ?_
          refine sx_iload_n dX3_elects_62 rfl ?_
          refine sx_iconst dX3_elects_63 ?_
          refine sx_callVi dX3_elects_64 ml_X3_36 mv3_ch (tx_ch _ _ (by first | omega | assumption | (with_reducible first | exact hR _ | exact xwd_R hR _ _ | exact xch_R hR _ _ | exact am_R_and _ _ | exact am_R_or _ _ | exact am_R_xor _ _ | exact am_R_shl _ _ | exact am_R_shr _ _ | exact bit_R _ _ | exact xpls_R _ _ | exact xkept_R hW _ _ | exact xwait_R hW _ _ | exact xwords_R _ _) | (exact ⟨by omega, by omega⟩) | exact wf _ (by omega) (by omega) | exact wg _ (by omega) (by omega)) (by first | omega | assumption | (with_reducible first | exact hR _ | exact xwd_R hR _ _ | exact xch_R hR _ _ | exact am_R_and _ _ | exact am_R_or _ _ | exact am_R_xor _ _ | exact am_R_shl _ _ | exact am_R_shr _ _ | exact bit_R _ _ | exact xpls_R _ _ | exact xkept_R hW _ _ | exact xwait_R hW _ _ | exact xwords_R _ _) | (exact ⟨by omega, by omega⟩) | exact wf _ (by omega) (by omega) | exact wg _ (by omega) (by omega))) rfl am_obX rfl (Nat.le_of_ble_eq_true rfl) (Nat.le_of_ble_eq_true rfl) ?_
          refine sx_callVi dX3_elects_67 ml_X3_97 mv3_guarded (tx_guarded _ hW2 ⟨hg0, hg2⟩) rfl am_obX rfl (Nat.le_of_ble_eq_true rfl) (Nat.le_of_ble_eq_true rfl) ?_
          refine sx_callSi dX3_elects_70 ml_X3_100 ms3_ones (tx_ones _) rfl rfl (Nat.le_of_ble_eq_true rfl) (Nat.le_of_ble_eq_true rfl) ?_
          exact sx_iret dX3_elects_73 rfl (by unfold xelects xgod; (repeat' split) <;> first | contradiction | (exfalso; omega) | rfl | (congr 2; omega) | (simp_all; done)) (by unfold xelects xgod; (repeat' split) <;> first | contradiction | (exfalso; omega) | rfl | (congr 2; omega) | (simp_all; done))
        · -- 40f
          refine sx_ldc dX3_elects_43 kc_X3_96 ?_
          exact sx_iret dX3_elects_45 rfl (by unfold xelects xgod; (repeat' split) <;> first | contradiction | (exfalso; omega) | rfl | (congr 2; omega) | (simp_all; done)) (by unfold xelects xgod; (repeat' split) <;> first | contradiction | (exfalso; omega) | rfl | (congr 2; omega) | (simp_all; done))
  · -- 5f
    refine sx_ldc dX3_elects_8 kc_X3_40 ?_
    exact sx_iret dX3_elects_10 rfl (by unfold xelects xgod; (repeat' split) <;> first | contradiction | (exfalso; omega) | rfl | (congr 2; omega) | (simp_all; done)) (by unfold xelects xgod; (repeat' split) <;> first | contradiction | (exfalso; omega) | rfl | (congr 2; omega) | (simp_all; done))
set_option maxHeartbeats 4000000 in
set_option maxRecDepth 100000 in
theorem tx_kills {h0 : am_H} {X : am_M} {S : Nat → Int} (c : Int) (hW : WX S) (hc : am_R c) (hN : S 4 ≤ 1000000000)  : Ct 4 Y3_kills [.inr (7, 0), .inl c] (some (.inl (xkills S c).1)) (xh h0 X S) (xh h0 X (xkills S c).2) := by
  refine Ct_of (by decide +kernel) (Nat.le_of_ble_eq_true rfl) ?_
  show Sx 4 Y3_kills (xh h0 X (xkills S c).2) (some (.inl (xkills S c).1)) 0 [some (.inr (7, 0)), some (.inl c), none, none, none, none, none] [] (xh h0 X S)
  refine xs_vh (fun hR hRX => ?_)
  obtain ⟨w0, w1, wg, wf, wo⟩ := id hW
  refine sx_aload_n dX3_kills_0 rfl ?_
  refine sx_iload_n dX3_kills_1 rfl ?_
  refine sx_callVi dX3_kills_2 ml_X3_90 mv3_isChip (tx_isChip _ hW (by first | omega | assumption | (with_reducible first | exact hR _ | exact xwd_R hR _ _ | exact xch_R hR _ _ | exact am_R_and _ _ | exact am_R_or _ _ | exact am_R_xor _ _ | exact am_R_shl _ _ | exact am_R_shr _ _ | exact bit_R _ _ | exact xpls_R _ _ | exact xkept_R hW _ _ | exact xwait_R hW _ _ | exact xwords_R _ _) | (exact ⟨by omega, by omega⟩) | exact wf _ (by omega) (by omega) | exact wg _ (by omega) (by omega))) rfl am_obX rfl (Nat.le_of_ble_eq_true rfl) (Nat.le_of_ble_eq_true rfl) ?_
  refine sx_ifB_ne (tgt := 11) dX3_kills_5 (by decide) (fun c5 => ?_) (fun c5 => ?_)
  · -- 5t
    have hc8 : 0 ≤ c ∧ c < 8 := ⟨c5.1, by omega⟩
    obtain ⟨hf0, hf2⟩ := wf c hc8.1 hc8.2
    refine sx_aload_n dX3_kills_11 rfl ?_
    refine sx_iload_n dX3_kills_12 rfl ?_
    refine sx_callVi dX3_kills_13 ml_X3_52 mv3_lives (tx_lives _ (by first | omega | assumption | (with_reducible first | exact hR _ | exact xwd_R hR _ _ | exact xch_R hR _ _ | exact am_R_and _ _ | exact am_R_or _ _ | exact am_R_xor _ _ | exact am_R_shl _ _ | exact am_R_shr _ _ | exact bit_R _ _ | exact xpls_R _ _ | exact xkept_R hW _ _ | exact xwait_R hW _ _ | exact xwords_R _ _) | (exact ⟨by omega, by omega⟩) | exact wf _ (by omega) (by omega) | exact wg _ (by omega) (by omega))) rfl am_obX rfl (Nat.le_of_ble_eq_true rfl) (Nat.le_of_ble_eq_true rfl) ?_
    refine sx_ifB_ne (tgt := 22) dX3_kills_16 (by decide) (fun c16 => ?_) (fun c16 => ?_)
    · -- 16t
      refine sx_aload_n dX3_kills_22 rfl ?_
      refine sx_callVi dX3_kills_23 ml_X3_106 mv3_lost (tx_lost hW) rfl am_obX rfl (Nat.le_of_ble_eq_true rfl) (Nat.le_of_ble_eq_true rfl) ?_
      refine sx_istore_n dX3_kills_26 (by decide) ?_
      refine sx_aload_n dX3_kills_27 rfl ?_
      refine sx_iload_n dX3_kills_28 rfl ?_
      refine sx_iconst dX3_kills_29 ?_
      refine sx_callVi dX3_kills_30 ml_X3_36 mv3_ch (tx_ch _ _ (by first | omega | assumption | (with_reducible first | exact hR _ | exact xwd_R hR _ _ | exact xch_R hR _ _ | exact am_R_and _ _ | exact am_R_or _ _ | exact am_R_xor _ _ | exact am_R_shl _ _ | exact am_R_shr _ _ | exact bit_R _ _ | exact xpls_R _ _ | exact xkept_R hW _ _ | exact xwait_R hW _ _ | exact xwords_R _ _) | (exact ⟨by omega, by omega⟩) | exact wf _ (by omega) (by omega) | exact wg _ (by omega) (by omega)) (by first | omega | assumption | (with_reducible first | exact hR _ | exact xwd_R hR _ _ | exact xch_R hR _ _ | exact am_R_and _ _ | exact am_R_or _ _ | exact am_R_xor _ _ | exact am_R_shl _ _ | exact am_R_shr _ _ | exact bit_R _ _ | exact xpls_R _ _ | exact xkept_R hW _ _ | exact xwait_R hW _ _ | exact xwords_R _ _) | (exact ⟨by omega, by omega⟩) | exact wf _ (by omega) (by omega) | exact wg _ (by omega) (by omega))) rfl am_obX rfl (Nat.le_of_ble_eq_true rfl) (Nat.le_of_ble_eq_true rfl) ?_
      refine sx_istore_n dX3_kills_33 (by decide) ?_
      refine sx_aload_n dX3_kills_34 rfl ?_
      refine sx_iload_n dX3_kills_35 rfl ?_
      refine sx_callVi dX3_kills_36 ml_X3_56 mv3_isGodfather (tx_isGodfather _ hW (by first | omega | assumption | (with_reducible first | exact hR _ | exact xwd_R hR _ _ | exact xch_R hR _ _ | exact am_R_and _ _ | exact am_R_or _ _ | exact am_R_xor _ _ | exact am_R_shl _ _ | exact am_R_shr _ _ | exact bit_R _ _ | exact xpls_R _ _ | exact xkept_R hW _ _ | exact xwait_R hW _ _ | exact xwords_R _ _) | (exact ⟨by omega, by omega⟩) | exact wf _ (by omega) (by omega) | exact wg _ (by omega) (by omega)) (by first | omega | assumption | (with_reducible first | exact hR _ | exact xwd_R hR _ _ | exact xch_R hR _ _ | exact am_R_and _ _ | exact am_R_or _ _ | exact am_R_xor _ _ | exact am_R_shl _ _ | exact am_R_shr _ _ | exact bit_R _ _ | exact xpls_R _ _ | exact xkept_R hW _ _ | exact xwait_R hW _ _ | exact xwords_R _ _) | (exact ⟨by omega, by omega⟩) | exact wf _ (by omega) (by omega) | exact wg _ (by omega) (by omega))) rfl am_obX rfl (Nat.le_of_ble_eq_true rfl) (Nat.le_of_ble_eq_true rfl) ?_
      refine sx_istore dX3_kills_39 (by decide) ?_
      refine sx_aload_n dX3_kills_41 rfl ?_
      refine xs_getr (j := 1) dX3_kills_42 fl_X3_7 (by decide) rfl ?_
      refine sx_bipush dX3_kills_45 rfl ?_
      refine sx_iconst dX3_kills_47 ?_
      refine sx_iload_n dX3_kills_48 rfl ?_
      refine sx_imul dX3_kills_49 ?_
      refine sx_iadd dX3_kills_50 ?_
      refine sx_iconst dX3_kills_51 ?_
      refine sx_iadd dX3_kills_52 ?_
      refine sx_iconst dX3_kills_53 ?_
      refine xs_ist (n := 208) dX3_kills_54 rfl (by decide) (by first | omega | assumption | (with_reducible first | exact hR _ | exact xch_R hR _ _ | exact am_R_or _ _ | exact xkept_R hWr _ _ | exact xwait_R hWr _ _) | (with_reducible exact xwait_R (hWf (by omega)) _ _) | (exact ⟨by omega, by omega⟩)) (by first | omega | assumption | (with_reducible first | exact hR _ | exact xch_R hR _ _ | exact am_R_or _ _ | exact xkept_R hWr _ _ | exact xwait_R hWr _ _) | (with_reducible exact xwait_R (hWf (by omega)) _ _) | (exact ⟨by omega, by omega⟩)) rfl ⟨by decide, by decide⟩ ?_
      have hW1 : WX (am_u1 S (8 + 4 * c + 2).toNat 0) := WX_chip hW hc8 (by decide)
      have hS4 : (am_u1 S (8 + 4 * c + 2).toNat 0) 4 = S 4 := am_u1_ne _ _ (by omega)
      refine sx_iconst dX3_kills_55 ?_
      refine sx_istore dX3_kills_56 (by decide) ?_
      have loop58 : ∀ (n : Nat) (row : Nat), 6 - row = n → row ≤ 6 → Sx 4 Y3_kills (xh h0 X (xkills S c).2) (some (.inl (xkills S c).1)) 58 [some (.inr (7, 0)), some (.inl c), some (.inl (xlost S)), some (.inl (xch S c 0)), some (.inl (if (xisg S c) = true then 1 else 0)), some (.inl (row : Int)), none] [] (xh h0 X (xkrows (am_u1 S (8 + 4 * c + 2).toNat 0) c (xch S c 0) (xisg S c) row)) := by
        intro n
        induction n using Nat.strongRecOn with
        | _ n ih58 =>
          intro row hn hle
          have hWr : WX (xkrows (am_u1 S (8 + 4 * c + 2).toNat 0) c (xch S c 0) (xisg S c) row) := WX_krows hW1 row
          obtain ⟨hN1, hN2⟩ := xkrows_4 (c := c) (f := (xch S c 0)) (hd := (xisg S c)) hW1 row
          rw [hS4] at hN1 hN2
          have hkb := xkept_b hWr c row
          have hWf := WX_falls (b := 0) hWr (w := xkept (xkrows (am_u1 S (8 + 4 * c + 2).toNat 0) c (xch S c 0) (xisg S c) row) c row)
          refine xs_vh (fun hR2 _ => ?_)
          refine sx_iload dX3_kills_58 rfl ?_
          refine sx_bipush dX3_kills_60 rfl ?_
          refine sx_icmp_ge (tgt := 120) dX3_kills_62 (by decide) (by first | omega | assumption | (with_reducible first | exact hR _ | exact xch_R hR _ _ | exact am_R_or _ _ | exact xkept_R hWr _ _ | exact xwait_R hWr _ _) | (with_reducible exact xwait_R (hWf (by omega)) _ _) | (exact ⟨by omega, by omega⟩)) ⟨by decide, by decide⟩ (fun c62 => ?_) (fun c62 => ?_)
          · -- 62t
            obtain rfl : row = 6 := by omega
            have hWk : WX (xkillS S c) := WX_god hWr ⟨hf0, hf2⟩ (by split <;> first | omega | exact (hWr.2.2.1 _ hf0 hf2))
            refine sx_aload_n dX3_kills_120 rfl ?_
            refine xs_getr (j := 1) dX3_kills_121 fl_X3_7 (by decide) rfl ?_
            refine sx_iconst dX3_kills_124 ?_
            refine sx_iload_n dX3_kills_125 rfl ?_
            refine sx_iadd dX3_kills_126 ?_
            refine sx_iload dX3_kills_127 rfl ?_
            refine sx_ifB_eq (tgt := 136) dX3_kills_129 (by decide) (fun c129 => ?_) (fun c129 => ?_)
            · -- 129t
              refine sx_aload_n dX3_kills_136 rfl ?_
              refine xs_getr (j := 1) dX3_kills_137 fl_X3_7 (by decide) rfl ?_
              refine sx_iconst dX3_kills_140 ?_
              refine sx_iload_n dX3_kills_141 rfl ?_
              refine sx_iadd dX3_kills_142 ?_
              refine xs_ild (n := 208) dX3_kills_143 rfl (by decide) (by omega) (by omega) rfl (fun r143 => ?_)
              refine xs_ist (n := 208) dX3_kills_144 rfl (by decide) (by first | omega | assumption | (with_reducible first | exact hR _ | exact xch_R hR _ _ | exact am_R_or _ _ | exact xkept_R hWr _ _ | exact xwait_R hWr _ _) | (with_reducible exact xwait_R (hWf (by omega)) _ _) | (exact ⟨by omega, by omega⟩)) (by first | omega | assumption | (with_reducible first | exact hR _ | exact xch_R hR _ _ | exact am_R_or _ _ | exact xkept_R hWr _ _ | exact xwait_R hWr _ _) | (with_reducible exact xwait_R (hWf (by omega)) _ _) | (exact ⟨by omega, by omega⟩)) rfl (by first | omega | assumption | (with_reducible first | exact hR _ | exact xch_R hR _ _ | exact am_R_or _ _ | exact xkept_R hWr _ _ | exact xwait_R hWr _ _) | (with_reducible exact xwait_R (hWf (by omega)) _ _) | (exact ⟨by omega, by omega⟩)) ?_
              have ek : xkillS S c = am_u1 (xkrows (am_u1 S (8 + 4 * c + 2).toNat 0) c (xch S c 0) (xisg S c) 6) (5 + (xch S c 0)).toNat _ := rfl
              first | rw [if_pos (by assumption)] at ek | rw [if_neg (by assumption)] at ek
              rw [← ek]
              refine sx_aload_n dX3_kills_145 rfl ?_
              refine sx_callVi dX3_kills_146 ml_X3_106 mv3_lost (tx_lost hWk) rfl am_obX rfl (Nat.le_of_ble_eq_true rfl) (Nat.le_of_ble_eq_true rfl) ?_
              refine sx_iload_n dX3_kills_149 rfl ?_
              refine sx_isub dX3_kills_150 ?_
              exact sx_iret dX3_kills_151 rfl (by unfold xkills; (repeat' split) <;> first | contradiction | (exfalso; omega) | rfl | (congr 2; omega) | (simp_all; done)) (by unfold xkills; (repeat' split) <;> first | contradiction | (exfalso; omega) | rfl | (congr 2; omega) | (simp_all; done))
            · -- 129f
              refine sx_iconst dX3_kills_132 ?_
              refine sx_goto (tgt := 144) dX3_kills_133 (by decide) ?_
              refine xs_ist (n := 208) dX3_kills_144 rfl (by decide) (by first | omega | assumption | (with_reducible first | exact hR _ | exact xch_R hR _ _ | exact am_R_or _ _ | exact xkept_R hWr _ _ | exact xwait_R hWr _ _) | (with_reducible exact xwait_R (hWf (by omega)) _ _) | (exact ⟨by omega, by omega⟩)) (by first | omega | assumption | (with_reducible first | exact hR _ | exact xch_R hR _ _ | exact am_R_or _ _ | exact xkept_R hWr _ _ | exact xwait_R hWr _ _) | (with_reducible exact xwait_R (hWf (by omega)) _ _) | (exact ⟨by omega, by omega⟩)) rfl ⟨by decide, by decide⟩ ?_
              have ek : xkillS S c = am_u1 (xkrows (am_u1 S (8 + 4 * c + 2).toNat 0) c (xch S c 0) (xisg S c) 6) (5 + (xch S c 0)).toNat _ := rfl
              first | rw [if_pos (by assumption)] at ek | rw [if_neg (by assumption)] at ek
              rw [← ek]
              refine sx_aload_n dX3_kills_145 rfl ?_
              refine sx_callVi dX3_kills_146 ml_X3_106 mv3_lost (tx_lost hWk) rfl am_obX rfl (Nat.le_of_ble_eq_true rfl) (Nat.le_of_ble_eq_true rfl) ?_
              refine sx_iload_n dX3_kills_149 rfl ?_
              refine sx_isub dX3_kills_150 ?_
              exact sx_iret dX3_kills_151 rfl (by unfold xkills; (repeat' split) <;> first | contradiction | (exfalso; omega) | rfl | (congr 2; omega) | (simp_all; done)) (by unfold xkills; (repeat' split) <;> first | contradiction | (exfalso; omega) | rfl | (congr 2; omega) | (simp_all; done))
          · -- 62f
            refine sx_aload_n dX3_kills_65 rfl ?_
            refine sx_iload_n dX3_kills_66 rfl ?_
            refine sx_iload dX3_kills_67 rfl ?_
            refine sx_callVi dX3_kills_69 ml_X3_59 mv3_kept (tx_kept _ _ hWr (by first | omega | assumption | (with_reducible first | exact hR2 _ | exact xch_R hR2 _ _ | exact am_R_or _ _ | exact xkept_R hWr _ _ | exact xwait_R hWr _ _) | (with_reducible exact xwait_R (hWf (by omega)) _ _) | (exact ⟨by omega, by omega⟩)) (by first | omega | assumption | (with_reducible first | exact hR2 _ | exact xch_R hR2 _ _ | exact am_R_or _ _ | exact xkept_R hWr _ _ | exact xwait_R hWr _ _) | (with_reducible exact xwait_R (hWf (by omega)) _ _) | (exact ⟨by omega, by omega⟩))) rfl am_obX rfl (Nat.le_of_ble_eq_true rfl) (Nat.le_of_ble_eq_true rfl) ?_
            refine sx_istore dX3_kills_72 (by decide) ?_
            refine sx_iload dX3_kills_74 rfl ?_
            refine sx_if_lt (tgt := 86) dX3_kills_76 (by decide) (by first | omega | assumption | (with_reducible first | exact hR _ | exact xch_R hR _ _ | exact am_R_or _ _ | exact xkept_R hWr _ _ | exact xwait_R hWr _ _) | (with_reducible exact xwait_R (hWf (by omega)) _ _) | (exact ⟨by omega, by omega⟩)) (fun c76 => ?_) (fun c76 => ?_)
            · -- 76t
              refine sx_iload dX3_kills_86 rfl ?_
              refine sx_ifB_eq (tgt := 114) dX3_kills_88 (by decide) (fun c88 => ?_) (fun c88 => ?_)
              · -- 88t
                refine sx_iinc dX3_kills_114 rfl (by decide) ?_
                refine sx_goto (tgt := 58) dX3_kills_117 (by decide) ?_
                refine sx_forget 6 (sx_heq (xh h0 X (xkrows (am_u1 S (8 + 4 * c + 2).toNat 0) c (xch S c 0) (xisg S c) (row + 1))) ?_ (ih58 _ (by omega) (row + 1) rfl (by omega)))
                show xh h0 X (xkrow (xkrows (am_u1 S (8 + 4 * c + 2).toNat 0) c (xch S c 0) (xisg S c) row) c (xch S c 0) (xisg S c) row) = _
                unfold xkrow
                (repeat' split) <;> first | contradiction | (exfalso; omega) | rfl | (congr 2; omega) | (simp_all; done)
              · -- 88f
                refine sx_aload_n dX3_kills_91 rfl ?_
                refine sx_iload_n dX3_kills_92 rfl ?_
                refine sx_iload dX3_kills_93 rfl ?_
                refine sx_callVi dX3_kills_95 ml_X3_62 mv3_waiting (tx_waiting _ _ (by first | exact hWr | exact hWf (by omega)) (by first | omega | assumption | (with_reducible first | exact hR2 _ | exact xch_R hR2 _ _ | exact am_R_or _ _ | exact xkept_R hWr _ _ | exact xwait_R hWr _ _) | (with_reducible exact xwait_R (hWf (by omega)) _ _) | (exact ⟨by omega, by omega⟩)) (by first | omega | assumption | (with_reducible first | exact hR2 _ | exact xch_R hR2 _ _ | exact am_R_or _ _ | exact xkept_R hWr _ _ | exact xwait_R hWr _ _) | (with_reducible exact xwait_R (hWf (by omega)) _ _) | (exact ⟨by omega, by omega⟩))) rfl am_obX rfl (Nat.le_of_ble_eq_true rfl) (Nat.le_of_ble_eq_true rfl) ?_
                refine sx_if_lt (tgt := 114) dX3_kills_98 (by decide) (by first | omega | assumption | (with_reducible first | exact hR _ | exact xch_R hR _ _ | exact am_R_or _ _ | exact xkept_R hWr _ _ | exact xwait_R hWr _ _) | (with_reducible exact xwait_R (hWf (by omega)) _ _) | (exact ⟨by omega, by omega⟩)) (fun c98 => ?_) (fun c98 => ?_)
                · -- 98t
                  refine sx_iinc dX3_kills_114 rfl (by decide) ?_
                  refine sx_goto (tgt := 58) dX3_kills_117 (by decide) ?_
                  refine sx_forget 6 (sx_heq (xh h0 X (xkrows (am_u1 S (8 + 4 * c + 2).toNat 0) c (xch S c 0) (xisg S c) (row + 1))) ?_ (ih58 _ (by omega) (row + 1) rfl (by omega)))
                  show xh h0 X (xkrow (xkrows (am_u1 S (8 + 4 * c + 2).toNat 0) c (xch S c 0) (xisg S c) row) c (xch S c 0) (xisg S c) row) = _
                  unfold xkrow
                  (repeat' split) <;> first | contradiction | (exfalso; omega) | rfl | (congr 2; omega) | (simp_all; done)
                · -- 98f
                  refine sx_aload_n dX3_kills_101 rfl ?_
                  refine sx_aload_n dX3_kills_102 rfl ?_
                  refine sx_iload_n dX3_kills_103 rfl ?_
                  refine sx_iload dX3_kills_104 rfl ?_
                  refine sx_callVi dX3_kills_106 ml_X3_62 mv3_waiting (tx_waiting _ _ (by first | exact hWr | exact hWf (by omega)) (by first | omega | assumption | (with_reducible first | exact hR2 _ | exact xch_R hR2 _ _ | exact am_R_or _ _ | exact xkept_R hWr _ _ | exact xwait_R hWr _ _) | (with_reducible exact xwait_R (hWf (by omega)) _ _) | (exact ⟨by omega, by omega⟩)) (by first | omega | assumption | (with_reducible first | exact hR2 _ | exact xch_R hR2 _ _ | exact am_R_or _ _ | exact xkept_R hWr _ _ | exact xwait_R hWr _ _) | (with_reducible exact xwait_R (hWf (by omega)) _ _) | (exact ⟨by omega, by omega⟩))) rfl am_obX rfl (Nat.le_of_ble_eq_true rfl) (Nat.le_of_ble_eq_true rfl) ?_
                  refine sx_iconst dX3_kills_109 ?_
                  refine sx_iconst dX3_kills_110 ?_
                  refine sx_callVv dX3_kills_111 ml_X3_72 mv3_lays (tx_lays _ _ _ (by first | (have q1 := xwait_b hWr (xch S c 0) row; omega) | (have q1 := xwait_b (hWf (by omega)) (xch S c 0) row; omega)) (by decide) ⟨by decide, by decide⟩) rfl am_obX rfl (Nat.le_of_ble_eq_true rfl) (Nat.le_of_ble_eq_true rfl) ?_
                  refine sx_iinc dX3_kills_114 rfl (by decide) ?_
                  refine sx_goto (tgt := 58) dX3_kills_117 (by decide) ?_
                  refine sx_forget 6 (sx_heq (xh h0 X (xkrows (am_u1 S (8 + 4 * c + 2).toNat 0) c (xch S c 0) (xisg S c) (row + 1))) ?_ (ih58 _ (by omega) (row + 1) rfl (by omega)))
                  show xh h0 X (xkrow (xkrows (am_u1 S (8 + 4 * c + 2).toNat 0) c (xch S c 0) (xisg S c) row) c (xch S c 0) (xisg S c) row) = _
                  unfold xkrow
                  (repeat' split) <;> first | contradiction | (exfalso; omega) | rfl | (congr 2; omega) | (simp_all; done)
            · -- 76f
              refine sx_aload_n dX3_kills_79 rfl ?_
              refine sx_iload dX3_kills_80 rfl ?_
              refine sx_iconst dX3_kills_82 ?_
              refine sx_callVv dX3_kills_83 ml_X3_110 mv3_falls (tx_falls _ _ hWr (by omega) (Or.inl rfl) (by omega)) rfl am_obX rfl (Nat.le_of_ble_eq_true rfl) (Nat.le_of_ble_eq_true rfl) ?_
              refine sx_iload dX3_kills_86 rfl ?_
              refine sx_ifB_eq (tgt := 114) dX3_kills_88 (by decide) (fun c88 => ?_) (fun c88 => ?_)
              · -- 88t
                refine sx_iinc dX3_kills_114 rfl (by decide) ?_
                refine sx_goto (tgt := 58) dX3_kills_117 (by decide) ?_
                refine sx_forget 6 (sx_heq (xh h0 X (xkrows (am_u1 S (8 + 4 * c + 2).toNat 0) c (xch S c 0) (xisg S c) (row + 1))) ?_ (ih58 _ (by omega) (row + 1) rfl (by omega)))
                show xh h0 X (xkrow (xkrows (am_u1 S (8 + 4 * c + 2).toNat 0) c (xch S c 0) (xisg S c) row) c (xch S c 0) (xisg S c) row) = _
                unfold xkrow
                (repeat' split) <;> first | contradiction | (exfalso; omega) | rfl | (congr 2; omega) | (simp_all; done)
              · -- 88f
                refine sx_aload_n dX3_kills_91 rfl ?_
                refine sx_iload_n dX3_kills_92 rfl ?_
                refine sx_iload dX3_kills_93 rfl ?_
                refine sx_callVi dX3_kills_95 ml_X3_62 mv3_waiting (tx_waiting _ _ (by first | exact hWr | exact hWf (by omega)) (by first | omega | assumption | (with_reducible first | exact hR2 _ | exact xch_R hR2 _ _ | exact am_R_or _ _ | exact xkept_R hWr _ _ | exact xwait_R hWr _ _) | (with_reducible exact xwait_R (hWf (by omega)) _ _) | (exact ⟨by omega, by omega⟩)) (by first | omega | assumption | (with_reducible first | exact hR2 _ | exact xch_R hR2 _ _ | exact am_R_or _ _ | exact xkept_R hWr _ _ | exact xwait_R hWr _ _) | (with_reducible exact xwait_R (hWf (by omega)) _ _) | (exact ⟨by omega, by omega⟩))) rfl am_obX rfl (Nat.le_of_ble_eq_true rfl) (Nat.le_of_ble_eq_true rfl) ?_
                refine sx_if_lt (tgt := 114) dX3_kills_98 (by decide) (by first | omega | assumption | (with_reducible first | exact hR _ | exact xch_R hR _ _ | exact am_R_or _ _ | exact xkept_R hWr _ _ | exact xwait_R hWr _ _) | (with_reducible exact xwait_R (hWf (by omega)) _ _) | (exact ⟨by omega, by omega⟩)) (fun c98 => ?_) (fun c98 => ?_)
                · -- 98t
                  refine sx_iinc dX3_kills_114 rfl (by decide) ?_
                  refine sx_goto (tgt := 58) dX3_kills_117 (by decide) ?_
                  refine sx_forget 6 (sx_heq (xh h0 X (xkrows (am_u1 S (8 + 4 * c + 2).toNat 0) c (xch S c 0) (xisg S c) (row + 1))) ?_ (ih58 _ (by omega) (row + 1) rfl (by omega)))
                  show xh h0 X (xkrow (xkrows (am_u1 S (8 + 4 * c + 2).toNat 0) c (xch S c 0) (xisg S c) row) c (xch S c 0) (xisg S c) row) = _
                  unfold xkrow
                  (repeat' split) <;> first | contradiction | (exfalso; omega) | rfl | (congr 2; omega) | (simp_all; done)
                · -- 98f
                  refine sx_aload_n dX3_kills_101 rfl ?_
                  refine sx_aload_n dX3_kills_102 rfl ?_
                  refine sx_iload_n dX3_kills_103 rfl ?_
                  refine sx_iload dX3_kills_104 rfl ?_
                  refine sx_callVi dX3_kills_106 ml_X3_62 mv3_waiting (tx_waiting _ _ (by first | exact hWr | exact hWf (by omega)) (by first | omega | assumption | (with_reducible first | exact hR2 _ | exact xch_R hR2 _ _ | exact am_R_or _ _ | exact xkept_R hWr _ _ | exact xwait_R hWr _ _) | (with_reducible exact xwait_R (hWf (by omega)) _ _) | (exact ⟨by omega, by omega⟩)) (by first | omega | assumption | (with_reducible first | exact hR2 _ | exact xch_R hR2 _ _ | exact am_R_or _ _ | exact xkept_R hWr _ _ | exact xwait_R hWr _ _) | (with_reducible exact xwait_R (hWf (by omega)) _ _) | (exact ⟨by omega, by omega⟩))) rfl am_obX rfl (Nat.le_of_ble_eq_true rfl) (Nat.le_of_ble_eq_true rfl) ?_
                  refine sx_iconst dX3_kills_109 ?_
                  refine sx_iconst dX3_kills_110 ?_
                  refine sx_callVv dX3_kills_111 ml_X3_72 mv3_lays (tx_lays _ _ _ (by first | (have q1 := xwait_b hWr (xch S c 0) row; omega) | (have q1 := xwait_b (hWf (by omega)) (xch S c 0) row; omega)) (by decide) ⟨by decide, by decide⟩) rfl am_obX rfl (Nat.le_of_ble_eq_true rfl) (Nat.le_of_ble_eq_true rfl) ?_
                  refine sx_iinc dX3_kills_114 rfl (by decide) ?_
                  refine sx_goto (tgt := 58) dX3_kills_117 (by decide) ?_
                  refine sx_forget 6 (sx_heq (xh h0 X (xkrows (am_u1 S (8 + 4 * c + 2).toNat 0) c (xch S c 0) (xisg S c) (row + 1))) ?_ (ih58 _ (by omega) (row + 1) rfl (by omega)))
                  show xh h0 X (xkrow (xkrows (am_u1 S (8 + 4 * c + 2).toNat 0) c (xch S c 0) (xisg S c) row) c (xch S c 0) (xisg S c) row) = _
                  unfold xkrow
                  (repeat' split) <;> first | contradiction | (exfalso; omega) | rfl | (congr 2; omega) | (simp_all; done)
      exact loop58 _ 0 rfl (by omega)
    · -- 16f
      refine sx_ldc dX3_kills_19 kc_X3_96 ?_
      exact sx_iret dX3_kills_21 rfl (by unfold xkills; (repeat' split) <;> first | contradiction | (exfalso; omega) | rfl | (congr 2; omega) | (simp_all; done)) (by unfold xkills; (repeat' split) <;> first | contradiction | (exfalso; omega) | rfl | (congr 2; omega) | (simp_all; done))
  · -- 5f
    refine sx_ldc dX3_kills_8 kc_X3_40 ?_
    exact sx_iret dX3_kills_10 rfl (by unfold xkills; (repeat' split) <;> first | contradiction | (exfalso; omega) | rfl | (congr 2; omega) | (simp_all; done)) (by unfold xkills; (repeat' split) <;> first | contradiction | (exfalso; omega) | rfl | (congr 2; omega) | (simp_all; done))
