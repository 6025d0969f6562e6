set_option maxHeartbeats 4000000 in
set_option maxRecDepth 100000 in
theorem tx_sits {h0 : am_H} {X : am_M} {S : Nat → Int} (w c row : Int) (hw : 0 ≤ w ∧ w < 24) (hc : 0 ≤ c ∧ c < 8) (hr : am_R row) : Ct 1 Y3_sits [.inr (7, 0), .inl w, .inl c, .inl row] none (xh h0 X S) (xh h0 X (xsits S w c row)) := by
  refine Ct_of (by decide +kernel) (Nat.le_of_ble_eq_true rfl) ?_
  show Sx 1 Y3_sits (xh h0 X (xsits S w c row)) none 0 [some (.inr (7, 0)), some (.inl w), some (.inl c), some (.inl row)] [] (xh h0 X S)
  refine xs_vh (fun hR hRX => ?_)
  refine sx_aload_n dX3_sits_0 rfl ?_
  refine sx_iload_n dX3_sits_1 rfl ?_
  refine sx_iconst dX3_sits_2 ?_
  refine sx_iconst dX3_sits_3 ?_
  refine sx_callVv dX3_sits_4 ml_X3_72 mv3_lays (tx_lays _ _ _ (by first | omega | assumption | (with_reducible first | exact hR _ | exact xwd_R hR _ _ | exact xch_R hR _ _ | exact am_R_and _ _ | exact am_R_or _ _ | exact am_R_xor _ _ | exact am_R_shl _ _ | exact am_R_shr _ _ | exact bit_R _ _ | exact xpls_R _ _ | exact xkept_R hW _ _ | exact xwait_R hW _ _ | exact xwords_R _ _ | exact hR9 _ | exact xch_R hR9 _ _) | (exact ⟨by omega, by omega⟩) | exact wf _ (by omega) (by omega) | exact wg _ (by omega) (by omega)) (by first | omega | assumption | (with_reducible first | exact hR _ | exact xwd_R hR _ _ | exact xch_R hR _ _ | exact am_R_and _ _ | exact am_R_or _ _ | exact am_R_xor _ _ | exact am_R_shl _ _ | exact am_R_shr _ _ | exact bit_R _ _ | exact xpls_R _ _ | exact xkept_R hW _ _ | exact xwait_R hW _ _ | exact xwords_R _ _ | exact hR9 _ | exact xch_R hR9 _ _) | (exact ⟨by omega, by omega⟩) | exact wf _ (by omega) (by omega) | exact wg _ (by omega) (by omega)) (by first | omega | assumption | (with_reducible first | exact hR _ | exact xwd_R hR _ _ | exact xch_R hR _ _ | exact am_R_and _ _ | exact am_R_or _ _ | exact am_R_xor _ _ | exact am_R_shl _ _ | exact am_R_shr _ _ | exact bit_R _ _ | exact xpls_R _ _ | exact xkept_R hW _ _ | exact xwait_R hW _ _ | exact xwords_R _ _ | exact hR9 _ | exact xch_R hR9 _ _) | (exact ⟨by omega, by omega⟩) | exact wf _ (by omega) (by omega) | exact wg _ (by omega) (by omega))) rfl am_obX rfl (Nat.le_of_ble_eq_true rfl) (Nat.le_of_ble_eq_true rfl) ?_
  refine sx_aload_n dX3_sits_7 rfl ?_
  refine sx_iload_n dX3_sits_8 rfl ?_
  refine sx_iconst dX3_sits_9 ?_
  refine sx_iload_n dX3_sits_10 rfl ?_
  refine sx_callVv dX3_sits_11 ml_X3_72 mv3_lays (tx_lays _ _ _ (by first | omega | assumption | (with_reducible first | exact hR _ | exact xwd_R hR _ _ | exact xch_R hR _ _ | exact am_R_and _ _ | exact am_R_or _ _ | exact am_R_xor _ _ | exact am_R_shl _ _ | exact am_R_shr _ _ | exact bit_R _ _ | exact xpls_R _ _ | exact xkept_R hW _ _ | exact xwait_R hW _ _ | exact xwords_R _ _ | exact hR9 _ | exact xch_R hR9 _ _) | (exact ⟨by omega, by omega⟩) | exact wf _ (by omega) (by omega) | exact wg _ (by omega) (by omega)) (by first | omega | assumption | (with_reducible first | exact hR _ | exact xwd_R hR _ _ | exact xch_R hR _ _ | exact am_R_and _ _ | exact am_R_or _ _ | exact am_R_xor _ _ | exact am_R_shl _ _ | exact am_R_shr _ _ | exact bit_R _ _ | exact xpls_R _ _ | exact xkept_R hW _ _ | exact xwait_R hW _ _ | exact xwords_R _ _ | exact hR9 _ | exact xch_R hR9 _ _) | (exact ⟨by omega, by omega⟩) | exact wf _ (by omega) (by omega) | exact wg _ (by omega) (by omega)) (by first | omega | assumption | (with_reducible first | exact hR _ | exact xwd_R hR _ _ | exact xch_R hR _ _ | exact am_R_and _ _ | exact am_R_or _ _ | exact am_R_xor _ _ | exact am_R_shl _ _ | exact am_R_shr _ _ | exact bit_R _ _ | exact xpls_R _ _ | exact xkept_R hW _ _ | exact xwait_R hW _ _ | exact xwords_R _ _ | exact hR9 _ | exact xch_R hR9 _ _) | (exact ⟨by omega, by omega⟩) | exact wf _ (by omega) (by omega) | exact wg _ (by omega) (by omega))) rfl am_obX rfl (Nat.le_of_ble_eq_true rfl) (Nat.le_of_ble_eq_true rfl) ?_
  refine sx_aload_n dX3_sits_14 rfl ?_
  refine sx_iload_n dX3_sits_15 rfl ?_
  refine sx_iconst dX3_sits_16 ?_
  refine sx_iload_n dX3_sits_17 rfl ?_
  refine sx_callVv dX3_sits_18 ml_X3_72 mv3_lays (tx_lays _ _ _ (by first | omega | assumption | (with_reducible first | exact hR _ | exact xwd_R hR _ _ | exact xch_R hR _ _ | exact am_R_and _ _ | exact am_R_or _ _ | exact am_R_xor _ _ | exact am_R_shl _ _ | exact am_R_shr _ _ | exact bit_R _ _ | exact xpls_R _ _ | exact xkept_R hW _ _ | exact xwait_R hW _ _ | exact xwords_R _ _ | exact hR9 _ | exact xch_R hR9 _ _) | (exact ⟨by omega, by omega⟩) | exact wf _ (by omega) (by omega) | exact wg _ (by omega) (by omega)) (by first | omega | assumption | (with_reducible first | exact hR _ | exact xwd_R hR _ _ | exact xch_R hR _ _ | exact am_R_and _ _ | exact am_R_or _ _ | exact am_R_xor _ _ | exact am_R_shl _ _ | exact am_R_shr _ _ | exact bit_R _ _ | exact xpls_R _ _ | exact xkept_R hW _ _ | exact xwait_R hW _ _ | exact xwords_R _ _ | exact hR9 _ | exact xch_R hR9 _ _) | (exact ⟨by omega, by omega⟩) | exact wf _ (by omega) (by omega) | exact wg _ (by omega) (by omega)) (by first | omega | assumption | (with_reducible first | exact hR _ | exact xwd_R hR _ _ | exact xch_R hR _ _ | exact am_R_and _ _ | exact am_R_or _ _ | exact am_R_xor _ _ | exact am_R_shl _ _ | exact am_R_shr _ _ | exact bit_R _ _ | exact xpls_R _ _ | exact xkept_R hW _ _ | exact xwait_R hW _ _ | exact xwords_R _ _ | exact hR9 _ | exact xch_R hR9 _ _) | (exact ⟨by omega, by omega⟩) | exact wf _ (by omega) (by omega) | exact wg _ (by omega) (by omega))) rfl am_obX rfl (Nat.le_of_ble_eq_true rfl) (Nat.le_of_ble_eq_true rfl) ?_
  refine xs_vh (fun hR9 _ => ?_)
  refine sx_aload_n dX3_sits_21 rfl ?_
  refine sx_iload_n dX3_sits_22 rfl ?_
  refine sx_iconst dX3_sits_23 ?_
  refine sx_aload_n dX3_sits_24 rfl ?_
  refine sx_iload_n dX3_sits_25 rfl ?_
  refine sx_iconst dX3_sits_26 ?_
  refine sx_callVi dX3_sits_27 ml_X3_36 mv3_ch (tx_ch _ _ (by first | omega | assumption | (with_reducible first | exact hR _ | exact xwd_R hR _ _ | exact xch_R hR _ _ | exact am_R_and _ _ | exact am_R_or _ _ | exact am_R_xor _ _ | exact am_R_shl _ _ | exact am_R_shr _ _ | exact bit_R _ _ | exact xpls_R _ _ | exact xkept_R hW _ _ | exact xwait_R hW _ _ ) | (exact ⟨by omega, by omega⟩) | exact wf _ (by omega) (by omega) | exact wg _ (by omega) (by omega)) (by first | omega | assumption | (with_reducible first | exact hR _ | exact xwd_R hR _ _ | exact xch_R hR _ _ | exact am_R_and _ _ | exact am_R_or _ _ | exact am_R_xor _ _ | exact am_R_shl _ _ | exact am_R_shr _ _ | exact bit_R _ _ | exact xpls_R _ _ | exact xkept_R hW _ _ | exact xwait_R hW _ _ ) | (exact ⟨by omega, by omega⟩) | exact wf _ (by omega) (by omega) | exact wg _ (by omega) (by omega))) rfl am_obX rfl (Nat.le_of_ble_eq_true rfl) (Nat.le_of_ble_eq_true rfl) ?_
  refine sx_callVv dX3_sits_30 ml_X3_72 mv3_lays (tx_lays _ _ _ (by first | omega | assumption | (with_reducible first | exact hR _ | exact xwd_R hR _ _ | exact xch_R hR _ _ | exact am_R_and _ _ | exact am_R_or _ _ | exact am_R_xor _ _ | exact am_R_shl _ _ | exact am_R_shr _ _ | exact bit_R _ _ | exact xpls_R _ _ | exact xkept_R hW _ _ | exact xwait_R hW _ _ | exact xwords_R _ _ | exact hR9 _ | exact xch_R hR9 _ _) | (exact ⟨by omega, by omega⟩) | exact wf _ (by omega) (by omega) | exact wg _ (by omega) (by omega)) (by first | omega | assumption | (with_reducible first | exact hR _ | exact xwd_R hR _ _ | exact xch_R hR _ _ | exact am_R_and _ _ | exact am_R_or _ _ | exact am_R_xor _ _ | exact am_R_shl _ _ | exact am_R_shr _ _ | exact bit_R _ _ | exact xpls_R _ _ | exact xkept_R hW _ _ | exact xwait_R hW _ _ | exact xwords_R _ _ | exact hR9 _ | exact xch_R hR9 _ _) | (exact ⟨by omega, by omega⟩) | exact wf _ (by omega) (by omega) | exact wg _ (by omega) (by omega)) (by first | omega | assumption | (with_reducible first | exact hR _ | exact xwd_R hR _ _ | exact xch_R hR _ _ | exact am_R_and _ _ | exact am_R_or _ _ | exact am_R_xor _ _ | exact am_R_shl _ _ | exact am_R_shr _ _ | exact bit_R _ _ | exact xpls_R _ _ | exact xkept_R hW _ _ | exact xwait_R hW _ _ | exact xwords_R _ _ | exact hR9 _ | exact xch_R hR9 _ _) | (exact ⟨by omega, by omega⟩) | exact wf _ (by omega) (by omega) | exact wg _ (by omega) (by omega))) rfl am_obX rfl (Nat.le_of_ble_eq_true rfl) (Nat.le_of_ble_eq_true rfl) ?_
  exact sx_vret dX3_sits_33 rfl rfl rfl
set_option maxHeartbeats 4000000 in
set_option maxRecDepth 100000 in
theorem tx_waitsNow {h0 : am_H} {X : am_M} {S : Nat → Int} (w : Int) (hw : 0 ≤ w ∧ w < 24) (hN : S 4 ≤ 2000000000)  : Ct 1 Y3_waitsNow [.inr (7, 0), .inl w] none (xh h0 X S) (xh h0 X (xwn S w)) := by
  refine Ct_of (by decide +kernel) (Nat.le_of_ble_eq_true rfl) ?_
  show Sx 1 Y3_waitsNow (xh h0 X (xwn S w)) none 0 [some (.inr (7, 0)), some (.inl w)] [] (xh h0 X S)
  refine xs_vh (fun hR hRX => ?_)
  refine sx_aload_n dX3_waitsNow_0 rfl ?_
  refine sx_iload_n dX3_waitsNow_1 rfl ?_
  refine sx_iconst dX3_waitsNow_2 ?_
  refine sx_iconst dX3_waitsNow_3 ?_
  refine sx_callVv dX3_waitsNow_4 ml_X3_72 mv3_lays (tx_lays _ _ _ (by omega) (by decide) (by first | exact ⟨by decide, by decide⟩ | (rw [xlay_lo (by omega) (by decide) (by decide)]; exact hR 4))) rfl am_obX rfl (Nat.le_of_ble_eq_true rfl) (Nat.le_of_ble_eq_true rfl) ?_
  refine sx_aload_n dX3_waitsNow_7 rfl ?_
  refine sx_iload_n dX3_waitsNow_8 rfl ?_
  refine sx_iconst dX3_waitsNow_9 ?_
  refine sx_aload_n dX3_waitsNow_10 rfl ?_
  refine xs_getr (j := 1) dX3_waitsNow_11 fl_X3_7 (by decide) rfl ?_
  refine sx_iconst dX3_waitsNow_14 ?_
  refine xs_ild (n := 208) (m := 4) dX3_waitsNow_15 rfl (by decide) (by decide) (by decide) rfl (fun r15 => ?_)
  refine sx_callVv dX3_waitsNow_16 ml_X3_72 mv3_lays (tx_lays _ _ _ (by omega) (by decide) (by first | exact ⟨by decide, by decide⟩ | (rw [xlay_lo (by omega) (by decide) (by decide)]; exact hR 4))) rfl am_obX rfl (Nat.le_of_ble_eq_true rfl) (Nat.le_of_ble_eq_true rfl) ?_
  refine sx_aload_n dX3_waitsNow_19 rfl ?_
  refine xs_getr (j := 1) dX3_waitsNow_20 fl_X3_7 (by decide) rfl ?_
  refine sx_iconst dX3_waitsNow_23 ?_
  refine sx_dup2 dX3_waitsNow_24 ?_
  refine xs_ild (n := 208) (m := 4) dX3_waitsNow_25 rfl (by decide) (by decide) (by decide) rfl (fun r25 => ?_)
  refine sx_iconst dX3_waitsNow_26 ?_
  refine sx_iadd dX3_waitsNow_27 ?_
  refine xs_ist (n := 208) (m := 4) dX3_waitsNow_28 rfl (by decide) (by decide) (by decide) rfl (by rw [xlay_lo (by omega) (by decide) (by decide), xlay_lo (by omega) (by decide) (by decide)]; exact ⟨by have := (hR 4).1; omega, by omega⟩) ?_
  exact sx_vret dX3_waitsNow_29 rfl rfl rfl
set_option maxHeartbeats 4000000 in
set_option maxRecDepth 100000 in
theorem tx_falls {h0 : am_H} {X : am_M} {S : Nat → Int} (w b : Int) (hW : WX S) (hw : 0 ≤ w ∧ w < 24) (hb : b = 0 ∨ b = 1) (hN : S 4 ≤ 2000000000)  : Ct 3 Y3_falls [.inr (7, 0), .inl w, .inl b] none (xh h0 X S) (xh h0 X (xfalls S w b)) := by
  refine Ct_of (by decide +kernel) (Nat.le_of_ble_eq_true rfl) ?_
  show Sx 3 Y3_falls (xh h0 X (xfalls S w b)) none 0 [some (.inr (7, 0)), some (.inl w), some (.inl b), none, none, none] [] (xh h0 X S)
  refine xs_vh (fun hR hRX => ?_)
  obtain ⟨w0, w1, wg, wf, wo⟩ := id hW
  obtain ⟨wo4, wo3⟩ := wo w (by omega) (by omega)
  have hwb := xwait_b hW (xwd S w 4) (xwd S w 3)
  refine sx_aload_n dX3_falls_0 rfl ?_
  refine sx_iload_n dX3_falls_1 rfl ?_
  refine sx_iconst dX3_falls_2 ?_
  refine sx_callVi dX3_falls_3 ml_X3_45 mv3_wd (tx_wd _ _ (by first | omega | assumption | (with_reducible first | exact hR _ | exact xwd_R hR _ _ | exact xch_R hR _ _ | exact am_R_and _ _ | exact am_R_or _ _ | exact am_R_xor _ _ | exact am_R_shl _ _ | exact am_R_shr _ _ | exact bit_R _ _ | exact xpls_R _ _ | exact xkept_R hW _ _ | exact xwait_R hW _ _ ) | (exact ⟨by omega, by omega⟩) | exact wf _ (by omega) (by omega) | exact wg _ (by omega) (by omega)) (by first | omega | assumption | (with_reducible first | exact hR _ | exact xwd_R hR _ _ | exact xch_R hR _ _ | exact am_R_and _ _ | exact am_R_or _ _ | exact am_R_xor _ _ | exact am_R_shl _ _ | exact am_R_shr _ _ | exact bit_R _ _ | exact xpls_R _ _ | exact xkept_R hW _ _ | exact xwait_R hW _ _ ) | (exact ⟨by omega, by omega⟩) | exact wf _ (by omega) (by omega) | exact wg _ (by omega) (by omega))) rfl am_obX rfl (Nat.le_of_ble_eq_true rfl) (Nat.le_of_ble_eq_true rfl) ?_
  refine sx_istore_n dX3_falls_6 (by decide) ?_
  refine sx_aload_n dX3_falls_7 rfl ?_
  refine sx_iload_n dX3_falls_8 rfl ?_
  refine sx_iconst dX3_falls_9 ?_
  refine sx_callVi dX3_falls_10 ml_X3_45 mv3_wd (tx_wd _ _ (by first | omega | assumption | (with_reducible first | exact hR _ | exact xwd_R hR _ _ | exact xch_R hR _ _ | exact am_R_and _ _ | exact am_R_or _ _ | exact am_R_xor _ _ | exact am_R_shl _ _ | exact am_R_shr _ _ | exact bit_R _ _ | exact xpls_R _ _ | exact xkept_R hW _ _ | exact xwait_R hW _ _ ) | (exact ⟨by omega, by omega⟩) | exact wf _ (by omega) (by omega) | exact wg _ (by omega) (by omega)) (by first | omega | assumption | (with_reducible first | exact hR _ | exact xwd_R hR _ _ | exact xch_R hR _ _ | exact am_R_and _ _ | exact am_R_or _ _ | exact am_R_xor _ _ | exact am_R_shl _ _ | exact am_R_shr _ _ | exact bit_R _ _ | exact xpls_R _ _ | exact xkept_R hW _ _ | exact xwait_R hW _ _ ) | (exact ⟨by omega, by omega⟩) | exact wf _ (by omega) (by omega) | exact wg _ (by omega) (by omega))) rfl am_obX rfl (Nat.le_of_ble_eq_true rfl) (Nat.le_of_ble_eq_true rfl) ?_
  refine sx_istore dX3_falls_13 (by decide) ?_
  refine sx_aload_n dX3_falls_15 rfl ?_
  refine sx_iload_n dX3_falls_16 rfl ?_
  refine sx_iload dX3_falls_17 rfl ?_
  refine sx_callVi dX3_falls_19 ml_X3_62 mv3_waiting (tx_waiting _ _ hW (by first | omega | assumption | (with_reducible first | exact hR _ | exact xwd_R hR _ _ | exact xch_R hR _ _ | exact am_R_and _ _ | exact am_R_or _ _ | exact am_R_xor _ _ | exact am_R_shl _ _ | exact am_R_shr _ _ | exact bit_R _ _ | exact xpls_R _ _ | exact xkept_R hW _ _ | exact xwait_R hW _ _ ) | (exact ⟨by omega, by omega⟩) | exact wf _ (by omega) (by omega) | exact wg _ (by omega) (by omega)) (by first | omega | assumption | (with_reducible first | exact hR _ | exact xwd_R hR _ _ | exact xch_R hR _ _ | exact am_R_and _ _ | exact am_R_or _ _ | exact am_R_xor _ _ | exact am_R_shl _ _ | exact am_R_shr _ _ | exact bit_R _ _ | exact xpls_R _ _ | exact xkept_R hW _ _ | exact xwait_R hW _ _ ) | (exact ⟨by omega, by omega⟩) | exact wf _ (by omega) (by omega) | exact wg _ (by omega) (by omega))) rfl am_obX rfl (Nat.le_of_ble_eq_true rfl) (Nat.le_of_ble_eq_true rfl) ?_
  refine sx_istore dX3_falls_22 (by decide) ?_
  refine sx_aload_n dX3_falls_24 rfl ?_
  refine sx_iload_n dX3_falls_25 rfl ?_
  refine sx_iload dX3_falls_26 rfl ?_
  refine sx_callVi dX3_falls_28 ml_X3_76 mv3_isGuarded (tx_isGuarded _ _ hW (by first | omega | assumption | (with_reducible first | exact hR _ | exact xwd_R hR _ _ | exact xch_R hR _ _ | exact am_R_and _ _ | exact am_R_or _ _ | exact am_R_xor _ _ | exact am_R_shl _ _ | exact am_R_shr _ _ | exact bit_R _ _ | exact xpls_R _ _ | exact xkept_R hW _ _ | exact xwait_R hW _ _ ) | (exact ⟨by omega, by omega⟩) | exact wf _ (by omega) (by omega) | exact wg _ (by omega) (by omega)) (by first | omega | assumption | (with_reducible first | exact hR _ | exact xwd_R hR _ _ | exact xch_R hR _ _ | exact am_R_and _ _ | exact am_R_or _ _ | exact am_R_xor _ _ | exact am_R_shl _ _ | exact am_R_shr _ _ | exact bit_R _ _ | exact xpls_R _ _ | exact xkept_R hW _ _ | exact xwait_R hW _ _ ) | (exact ⟨by omega, by omega⟩) | exact wf _ (by omega) (by omega) | exact wg _ (by omega) (by omega))) rfl am_obX rfl (Nat.le_of_ble_eq_true rfl) (Nat.le_of_ble_eq_true rfl) ?_
  refine sx_ifB_ne (tgt := 44) dX3_falls_31 (by decide) (fun c31 => ?_) (fun c31 => ?_)
  · -- 31t
    refine sx_iload dX3_falls_44 rfl ?_
    refine sx_if_lt (tgt := 67) dX3_falls_46 (by decide) (by first | omega | assumption | (with_reducible first | exact hR _ | exact xwd_R hR _ _ | exact xch_R hR _ _ | exact am_R_and _ _ | exact am_R_or _ _ | exact am_R_xor _ _ | exact am_R_shl _ _ | exact am_R_shr _ _ | exact bit_R _ _ | exact xpls_R _ _ | exact xkept_R hW _ _ | exact xwait_R hW _ _ ) | (exact ⟨by omega, by omega⟩) | exact wf _ (by omega) (by omega) | exact wg _ (by omega) (by omega)) (fun c46 => ?_) (fun c46 => ?_)
    · -- 46t
      refine sx_iload_n dX3_falls_67 rfl ?_
      refine sx_if_ne (tgt := 76) dX3_falls_68 (by decide) (by first | omega | assumption | (with_reducible first | exact hR _ | exact xwd_R hR _ _ | exact xch_R hR _ _ | exact am_R_and _ _ | exact am_R_or _ _ | exact am_R_xor _ _ | exact am_R_shl _ _ | exact am_R_shr _ _ | exact bit_R _ _ | exact xpls_R _ _ | exact xkept_R hW _ _ | exact xwait_R hW _ _ ) | (exact ⟨by omega, by omega⟩) | exact wf _ (by omega) (by omega) | exact wg _ (by omega) (by omega)) (fun c68 => ?_) (fun c68 => ?_)
      · -- 68t
        exact sx_vret dX3_falls_76 rfl rfl (by unfold xfalls; (repeat' split) <;> first | contradiction | (exfalso; omega) | rfl | (congr 2; omega) | (simp_all; done))
      · -- 68f
        refine sx_aload_n dX3_falls_71 rfl ?_
        refine sx_iload_n dX3_falls_72 rfl ?_
        refine sx_callVv dX3_falls_73 ml_X3_79 mv3_waitsNow (tx_waitsNow _ (by omega) hN) rfl am_obX rfl (Nat.le_of_ble_eq_true rfl) (Nat.le_of_ble_eq_true rfl) ?_
        exact sx_vret dX3_falls_76 rfl rfl (by unfold xfalls; (repeat' split) <;> first | contradiction | (exfalso; omega) | rfl | (congr 2; omega) | (simp_all; done))
    · -- 46f
      refine sx_aload_n dX3_falls_49 rfl ?_
      refine sx_iload_n dX3_falls_50 rfl ?_
      refine sx_iconst dX3_falls_51 ?_
      refine sx_iconst dX3_falls_52 ?_
      refine sx_callVv dX3_falls_53 ml_X3_72 mv3_lays (tx_lays _ _ _ (by first | omega | assumption | (with_reducible first | exact hR _ | exact xwd_R hR _ _ | exact xch_R hR _ _ | exact am_R_and _ _ | exact am_R_or _ _ | exact am_R_xor _ _ | exact am_R_shl _ _ | exact am_R_shr _ _ | exact bit_R _ _ | exact xpls_R _ _ | exact xkept_R hW _ _ | exact xwait_R hW _ _ ) | (exact ⟨by omega, by omega⟩) | exact wf _ (by omega) (by omega) | exact wg _ (by omega) (by omega)) (by first | omega | assumption | (with_reducible first | exact hR _ | exact xwd_R hR _ _ | exact xch_R hR _ _ | exact am_R_and _ _ | exact am_R_or _ _ | exact am_R_xor _ _ | exact am_R_shl _ _ | exact am_R_shr _ _ | exact bit_R _ _ | exact xpls_R _ _ | exact xkept_R hW _ _ | exact xwait_R hW _ _ ) | (exact ⟨by omega, by omega⟩) | exact wf _ (by omega) (by omega) | exact wg _ (by omega) (by omega)) (by first | omega | assumption | (with_reducible first | exact hR _ | exact xwd_R hR _ _ | exact xch_R hR _ _ | exact am_R_and _ _ | exact am_R_or _ _ | exact am_R_xor _ _ | exact am_R_shl _ _ | exact am_R_shr _ _ | exact bit_R _ _ | exact xpls_R _ _ | exact xkept_R hW _ _ | exact xwait_R hW _ _ ) | (exact ⟨by omega, by omega⟩) | exact wf _ (by omega) (by omega) | exact wg _ (by omega) (by omega))) rfl am_obX rfl (Nat.le_of_ble_eq_true rfl) (Nat.le_of_ble_eq_true rfl) ?_
      refine sx_aload_n dX3_falls_56 rfl ?_
      refine sx_iload dX3_falls_57 rfl ?_
      refine sx_iconst dX3_falls_59 ?_
      refine sx_iconst dX3_falls_60 ?_
      refine sx_callVv dX3_falls_61 ml_X3_72 mv3_lays (tx_lays _ _ _ (by first | omega | assumption | (with_reducible first | exact hR _ | exact xwd_R hR _ _ | exact xch_R hR _ _ | exact am_R_and _ _ | exact am_R_or _ _ | exact am_R_xor _ _ | exact am_R_shl _ _ | exact am_R_shr _ _ | exact bit_R _ _ | exact xpls_R _ _ | exact xkept_R hW _ _ | exact xwait_R hW _ _ ) | (exact ⟨by omega, by omega⟩) | exact wf _ (by omega) (by omega) | exact wg _ (by omega) (by omega)) (by first | omega | assumption | (with_reducible first | exact hR _ | exact xwd_R hR _ _ | exact xch_R hR _ _ | exact am_R_and _ _ | exact am_R_or _ _ | exact am_R_xor _ _ | exact am_R_shl _ _ | exact am_R_shr _ _ | exact bit_R _ _ | exact xpls_R _ _ | exact xkept_R hW _ _ | exact xwait_R hW _ _ ) | (exact ⟨by omega, by omega⟩) | exact wf _ (by omega) (by omega) | exact wg _ (by omega) (by omega)) (by first | omega | assumption | (with_reducible first | exact hR _ | exact xwd_R hR _ _ | exact xch_R hR _ _ | exact am_R_and _ _ | exact am_R_or _ _ | exact am_R_xor _ _ | exact am_R_shl _ _ | exact am_R_shr _ _ | exact bit_R _ _ | exact xpls_R _ _ | exact xkept_R hW _ _ | exact xwait_R hW _ _ ) | (exact ⟨by omega, by omega⟩) | exact wf _ (by omega) (by omega) | exact wg _ (by omega) (by omega))) rfl am_obX rfl (Nat.le_of_ble_eq_true rfl) (Nat.le_of_ble_eq_true rfl) ?_
      refine sx_goto (tgt := 76) dX3_falls_64 (by decide) ?_
      exact sx_vret dX3_falls_76 rfl rfl (by unfold xfalls; (repeat' split) <;> first | contradiction | (exfalso; omega) | rfl | (congr 2; omega) | (simp_all; done))
  · -- 31f
    refine sx_aload_n dX3_falls_34 rfl ?_
    refine sx_iload_n dX3_falls_35 rfl ?_
    refine sx_iconst dX3_falls_36 ?_
    refine sx_iconst dX3_falls_37 ?_
    refine sx_callVv dX3_falls_38 ml_X3_72 mv3_lays (tx_lays _ _ _ (by first | omega | assumption | (with_reducible first | exact hR _ | exact xwd_R hR _ _ | exact xch_R hR _ _ | exact am_R_and _ _ | exact am_R_or _ _ | exact am_R_xor _ _ | exact am_R_shl _ _ | exact am_R_shr _ _ | exact bit_R _ _ | exact xpls_R _ _ | exact xkept_R hW _ _ | exact xwait_R hW _ _ ) | (exact ⟨by omega, by omega⟩) | exact wf _ (by omega) (by omega) | exact wg _ (by omega) (by omega)) (by first | omega | assumption | (with_reducible first | exact hR _ | exact xwd_R hR _ _ | exact xch_R hR _ _ | exact am_R_and _ _ | exact am_R_or _ _ | exact am_R_xor _ _ | exact am_R_shl _ _ | exact am_R_shr _ _ | exact bit_R _ _ | exact xpls_R _ _ | exact xkept_R hW _ _ | exact xwait_R hW _ _ ) | (exact ⟨by omega, by omega⟩) | exact wf _ (by omega) (by omega) | exact wg _ (by omega) (by omega)) (by first | omega | assumption | (with_reducible first | exact hR _ | exact xwd_R hR _ _ | exact xch_R hR _ _ | exact am_R_and _ _ | exact am_R_or _ _ | exact am_R_xor _ _ | exact am_R_shl _ _ | exact am_R_shr _ _ | exact bit_R _ _ | exact xpls_R _ _ | exact xkept_R hW _ _ | exact xwait_R hW _ _ ) | (exact ⟨by omega, by omega⟩) | exact wf _ (by omega) (by omega) | exact wg _ (by omega) (by omega))) rfl am_obX rfl (Nat.le_of_ble_eq_true rfl) (Nat.le_of_ble_eq_true rfl) ?_
    refine sx_goto (tgt := 76) dX3_falls_41 (by decide) ?_
    exact sx_vret dX3_falls_76 rfl rfl (by unfold xfalls; (repeat' split) <;> first | contradiction | (exfalso; omega) | rfl | (congr 2; omega) | (simp_all; done))
set_option maxHeartbeats 4000000 in
set_option maxRecDepth 100000 in
theorem tx_target {h0 : am_H} {X : am_M} {S : Nat → Int} (f wt : Int) (hW : WX S) (hf0 : am_R f) (hwt : am_R wt) : Ct 5 Y3_target [.inr (7, 0), .inl f, .inl wt] (some (.inl (xtarget S f wt))) (xh h0 X S) (xh h0 X S) := by
  refine Ct_of (by decide +kernel) (Nat.le_of_ble_eq_true rfl) ?_
  show Sx 5 Y3_target (xh h0 X S) (some (.inl (xtarget S f wt))) 0 [some (.inr (7, 0)), some (.inl f), some (.inl wt), none, none, none, none, none] [] (xh h0 X S)
  refine xs_vh (fun hR hRX => ?_)
  obtain ⟨w0, w1, wg, wf, wo⟩ := id hW
  refine sx_iconst dX3_target_0 ?_
  refine sx_istore_n dX3_target_1 (by decide) ?_
  refine sx_iconst dX3_target_2 ?_
  refine sx_istore dX3_target_3 (by decide) ?_
  refine sx_iload dX3_target_5 rfl ?_
  refine sx_iconst dX3_target_7 ?_
  refine sx_icmp_ge (tgt := 126) dX3_target_8 (by decide) ⟨by decide, by decide⟩ ⟨by decide, by decide⟩ (fun q => absurd q (by decide)) (fun _ => ?_)
  refine sx_iload_n dX3_target_11 rfl ?_
  refine sx_if_ge (tgt := 126) dX3_target_12 (by decide) ⟨by decide, by decide⟩ (fun q => absurd q (by decide)) (fun _ => ?_)
  refine sx_iconst dX3_target_15 ?_
  refine sx_istore dX3_target_16 (by decide) ?_
  have loop18_0 : ∀ (n : Nat) (g : Int) (c : Nat), (S 0 - c).toNat = n → (c : Int) ≤ S 0 → g = xbest S (xq S f wt true) (-1) c → -1 ≤ g → g < 8 → Sx 5 Y3_target (xh h0 X S) (some (.inl (xtarget S f wt))) 18 [some (.inr (7, 0)), some (.inl f), some (.inl wt), some (.inl g), some (.inl 0), some (.inl (c : Int)), none, none] [] (xh h0 X S) := by
    intro n
    induction n using Nat.strongRecOn with
    | _ n ih18_0 =>
      intro g c hn0 hle0 hf0 hg00 hg80
      refine sx_iload dX3_target_18 rfl ?_
      refine sx_aload_n dX3_target_20 rfl ?_
      refine xs_getr (j := 1) dX3_target_21 fl_X3_7 (by decide) rfl ?_
      refine sx_iconst dX3_target_24 ?_
      refine xs_ild (n := 208) (m := 0) dX3_target_25 rfl (by decide) (by decide) (by decide) rfl (fun r25 => ?_)
      refine sx_icmp_ge (tgt := 120) dX3_target_26 (by decide) (by first | omega | assumption | (with_reducible first | exact hR _ | exact xwd_R hR _ _ | exact xch_R hR _ _ | exact am_R_and _ _ | exact am_R_or _ _ | exact am_R_xor _ _ | exact am_R_shl _ _ | exact am_R_shr _ _ | exact bit_R _ _ | exact xpls_R _ _ | exact xkept_R hW _ _ | exact xwait_R hW _ _ ) | (exact ⟨by omega, by omega⟩) | exact wf _ (by omega) (by omega) | exact wg _ (by omega) (by omega)) (by first | omega | assumption | (with_reducible first | exact hR _ | exact xwd_R hR _ _ | exact xch_R hR _ _ | exact am_R_and _ _ | exact am_R_or _ _ | exact am_R_xor _ _ | exact am_R_shl _ _ | exact am_R_shr _ _ | exact bit_R _ _ | exact xpls_R _ _ | exact xkept_R hW _ _ | exact xwait_R hW _ _ ) | (exact ⟨by omega, by omega⟩) | exact wf _ (by omega) (by omega) | exact wg _ (by omega) (by omega)) (fun c26 => ?_) (fun c26 => ?_)
      · -- 26t
        obtain rfl : c = (S 0).toNat := by omega
        refine sx_iinc dX3_target_120 rfl (by decide) ?_
        refine sx_goto (tgt := 5) dX3_target_123 (by decide) ?_
        refine sx_iload dX3_target_5 rfl ?_
        refine sx_iconst dX3_target_7 ?_
        refine sx_icmp_ge (tgt := 126) dX3_target_8 (by decide) ⟨by decide, by decide⟩ ⟨by decide, by decide⟩ (fun q => absurd q (by decide)) (fun _ => ?_)
        refine sx_iload_n dX3_target_11 rfl ?_
        refine sx_if_ge (tgt := 126) dX3_target_12 (by decide) (by first | omega | assumption | (with_reducible first | exact hR _ | exact xwd_R hR _ _ | exact xch_R hR _ _ | exact am_R_and _ _ | exact am_R_or _ _ | exact am_R_xor _ _ | exact am_R_shl _ _ | exact am_R_shr _ _ | exact bit_R _ _ | exact xpls_R _ _ | exact xkept_R hW _ _ | exact xwait_R hW _ _ ) | (exact ⟨by omega, by omega⟩) | exact wf _ (by omega) (by omega) | exact wg _ (by omega) (by omega)) (fun c12 => ?_) (fun c12 => ?_)
        · -- 12t
          refine sx_iload_n dX3_target_126 rfl ?_
          exact sx_iret dX3_target_127 rfl (by unfold xtarget; (repeat' split) <;> first | contradiction | (exfalso; omega) | rfl | (congr 2; omega) | (simp_all; done)) rfl
        · -- 12f
          refine sx_iconst dX3_target_15 ?_
          refine sx_istore dX3_target_16 (by decide) ?_
          have loop18_1 : ∀ (n : Nat) (g : Int) (c : Nat), (S 0 - c).toNat = n → (c : Int) ≤ S 0 → g = xbest S (xq S f wt false) (xbest S (xq S f wt true) (-1) (S 0).toNat) c → -1 ≤ g → g < 8 → Sx 5 Y3_target (xh h0 X S) (some (.inl (xtarget S f wt))) 18 [some (.inr (7, 0)), some (.inl f), some (.inl wt), some (.inl g), some (.inl 1), some (.inl (c : Int)), none, none] [] (xh h0 X S) := by
            intro n
            induction n using Nat.strongRecOn with
            | _ n ih18_1 =>
              intro g c hn1 hle1 hf1 hg01 hg81
              refine sx_iload dX3_target_18 rfl ?_
              refine sx_aload_n dX3_target_20 rfl ?_
              refine xs_getr (j := 1) dX3_target_21 fl_X3_7 (by decide) rfl ?_
              refine sx_iconst dX3_target_24 ?_
              refine xs_ild (n := 208) (m := 0) dX3_target_25 rfl (by decide) (by decide) (by decide) rfl (fun r25 => ?_)
              refine sx_icmp_ge (tgt := 120) dX3_target_26 (by decide) (by first | omega | assumption | (with_reducible first | exact hR _ | exact xwd_R hR _ _ | exact xch_R hR _ _ | exact am_R_and _ _ | exact am_R_or _ _ | exact am_R_xor _ _ | exact am_R_shl _ _ | exact am_R_shr _ _ | exact bit_R _ _ | exact xpls_R _ _ | exact xkept_R hW _ _ | exact xwait_R hW _ _ ) | (exact ⟨by omega, by omega⟩) | exact wf _ (by omega) (by omega) | exact wg _ (by omega) (by omega)) (by first | omega | assumption | (with_reducible first | exact hR _ | exact xwd_R hR _ _ | exact xch_R hR _ _ | exact am_R_and _ _ | exact am_R_or _ _ | exact am_R_xor _ _ | exact am_R_shl _ _ | exact am_R_shr _ _ | exact bit_R _ _ | exact xpls_R _ _ | exact xkept_R hW _ _ | exact xwait_R hW _ _ ) | (exact ⟨by omega, by omega⟩) | exact wf _ (by omega) (by omega) | exact wg _ (by omega) (by omega)) (fun c26 => ?_) (fun c26 => ?_)
              · -- 26t
                obtain rfl : c = (S 0).toNat := by omega
                refine sx_iinc dX3_target_120 rfl (by decide) ?_
                refine sx_goto (tgt := 5) dX3_target_123 (by decide) ?_
                refine sx_iload dX3_target_5 rfl ?_
                refine sx_iconst dX3_target_7 ?_
                refine sx_icmp_ge (tgt := 126) dX3_target_8 (by decide) ⟨by decide, by decide⟩ ⟨by decide, by decide⟩ (fun _ => ?_) (fun q => absurd q (by decide))
                refine sx_iload_n dX3_target_126 rfl ?_
                exact sx_iret dX3_target_127 rfl (by unfold xtarget; (repeat' split) <;> first | contradiction | (exfalso; omega) | rfl | (congr 2; omega) | (simp_all; done)) rfl
              · -- 26f
                refine sx_aload_n dX3_target_29 rfl ?_
                refine sx_iload dX3_target_30 rfl ?_
                refine sx_iconst dX3_target_32 ?_
                refine sx_callVi dX3_target_33 ml_X3_36 mv3_ch (tx_ch _ _ (by first | omega | assumption | (with_reducible first | exact hR _ | exact xwd_R hR _ _ | exact xch_R hR _ _ | exact am_R_and _ _ | exact am_R_or _ _ | exact am_R_xor _ _ | exact am_R_shl _ _ | exact am_R_shr _ _ | exact bit_R _ _ | exact xpls_R _ _ | exact xkept_R hW _ _ | exact xwait_R hW _ _ ) | (exact ⟨by omega, by omega⟩) | exact wf _ (by omega) (by omega) | exact wg _ (by omega) (by omega)) (by first | omega | assumption | (with_reducible first | exact hR _ | exact xwd_R hR _ _ | exact xch_R hR _ _ | exact am_R_and _ _ | exact am_R_or _ _ | exact am_R_xor _ _ | exact am_R_shl _ _ | exact am_R_shr _ _ | exact bit_R _ _ | exact xpls_R _ _ | exact xkept_R hW _ _ | exact xwait_R hW _ _ ) | (exact ⟨by omega, by omega⟩) | exact wf _ (by omega) (by omega) | exact wg _ (by omega) (by omega))) rfl am_obX rfl (Nat.le_of_ble_eq_true rfl) (Nat.le_of_ble_eq_true rfl) ?_
                refine sx_iload_n dX3_target_36 rfl ?_
                refine sx_icmp_ne (tgt := 44) dX3_target_37 (by decide) (by first | omega | assumption | (with_reducible first | exact hR _ | exact xwd_R hR _ _ | exact xch_R hR _ _ | exact am_R_and _ _ | exact am_R_or _ _ | exact am_R_xor _ _ | exact am_R_shl _ _ | exact am_R_shr _ _ | exact bit_R _ _ | exact xpls_R _ _ | exact xkept_R hW _ _ | exact xwait_R hW _ _ ) | (exact ⟨by omega, by omega⟩) | exact wf _ (by omega) (by omega) | exact wg _ (by omega) (by omega)) (by first | omega | assumption | (with_reducible first | exact hR _ | exact xwd_R hR _ _ | exact xch_R hR _ _ | exact am_R_and _ _ | exact am_R_or _ _ | exact am_R_xor _ _ | exact am_R_shl _ _ | exact am_R_shr _ _ | exact bit_R _ _ | exact xpls_R _ _ | exact xkept_R hW _ _ | exact xwait_R hW _ _ ) | (exact ⟨by omega, by omega⟩) | exact wf _ (by omega) (by omega) | exact wg _ (by omega) (by omega)) (fun c37 => ?_) (fun c37 => ?_)
                · -- 37t
                  refine sx_iconst dX3_target_44 ?_
                  refine sx_istore dX3_target_45 (by decide) ?_
                  refine sx_iload dX3_target_47 rfl ?_
                  refine sx_iload_n dX3_target_49 rfl ?_
                  refine sx_icmp_eq (tgt := 81) dX3_target_50 (by decide) (by first | omega | assumption | (with_reducible first | exact hR _ | exact xwd_R hR _ _ | exact xch_R hR _ _ | exact am_R_and _ _ | exact am_R_or _ _ | exact am_R_xor _ _ | exact am_R_shl _ _ | exact am_R_shr _ _ | exact bit_R _ _ | exact xpls_R _ _ | exact xkept_R hW _ _ | exact xwait_R hW _ _ ) | (exact ⟨by omega, by omega⟩) | exact wf _ (by omega) (by omega) | exact wg _ (by omega) (by omega)) (by first | omega | assumption | (with_reducible first | exact hR _ | exact xwd_R hR _ _ | exact xch_R hR _ _ | exact am_R_and _ _ | exact am_R_or _ _ | exact am_R_xor _ _ | exact am_R_shl _ _ | exact am_R_shr _ _ | exact bit_R _ _ | exact xpls_R _ _ | exact xkept_R hW _ _ | exact xwait_R hW _ _ ) | (exact ⟨by omega, by omega⟩) | exact wf _ (by omega) (by omega) | exact wg _ (by omega) (by omega)) (fun c50 => ?_) (fun c50 => ?_)
                  · -- 50t
                    refine sx_iconst dX3_target_81 ?_
                    refine sx_istore dX3_target_82 (by decide) ?_
                    refine sx_iload dX3_target_84 rfl ?_
                    refine sx_if_eq (tgt := 112) dX3_target_86 (by decide) ⟨by decide, by decide⟩ (fun _ => ?_) (fun q => absurd q (by decide))
                    refine sx_iload_n dX3_target_112 rfl ?_
                    refine sx_istore_n dX3_target_113 (by decide) ?_
                    refine sx_iinc dX3_target_114 rfl (by decide) ?_
                    refine sx_goto (tgt := 18) dX3_target_117 (by decide) ?_
                    exact sx_forget 6 (sx_forget 7 (ih18_1 _ (by omega) _ (c + 1) rfl (by omega) (by first | exact xbest_y hf1 (by simp [xq, c26, c12, c26, c37, c50]) (by omega) | exact xbest_n hf1 (Or.inr ⟨by omega, by omega⟩) | exact xbest_n hf1 (Or.inl (by simp [xq, c26, c12, c26, c37, c50]; done)) | exact xbest_n hf1 (Or.inl (by simp [xq, c26, c12, c26, c37, c50]; omega))) (by omega) (by omega)))
                  · -- 50f
                    refine sx_iload dX3_target_53 rfl ?_
                    refine sx_iload dX3_target_55 rfl ?_
                    refine sx_if_ne (tgt := 64) dX3_target_57 (by decide) ⟨by decide, by decide⟩ (fun _ => ?_) (fun q => absurd q (by decide))
                    refine sx_iconst dX3_target_64 ?_
                    refine sx_icmp_ne (tgt := 81) dX3_target_65 (by decide) ⟨by decide, by decide⟩ ⟨by decide, by decide⟩ (fun q => absurd q (by decide)) (fun _ => ?_)
                    refine sx_aload_n dX3_target_68 rfl ?_
                    refine sx_iload dX3_target_69 rfl ?_
                    refine sx_callVi dX3_target_71 ml_X3_68 mv3_places (tx_places _ hW (by first | omega | assumption | (with_reducible first | exact hR _ | exact xwd_R hR _ _ | exact xch_R hR _ _ | exact am_R_and _ _ | exact am_R_or _ _ | exact am_R_xor _ _ | exact am_R_shl _ _ | exact am_R_shr _ _ | exact bit_R _ _ | exact xpls_R _ _ | exact xkept_R hW _ _ | exact xwait_R hW _ _ ) | (exact ⟨by omega, by omega⟩) | exact wf _ (by omega) (by omega) | exact wg _ (by omega) (by omega))) rfl am_obX rfl (Nat.le_of_ble_eq_true rfl) (Nat.le_of_ble_eq_true rfl) ?_
                    refine sx_if_le (tgt := 81) dX3_target_74 (by decide) (by first | omega | assumption | (with_reducible first | exact hR _ | exact xwd_R hR _ _ | exact xch_R hR _ _ | exact am_R_and _ _ | exact am_R_or _ _ | exact am_R_xor _ _ | exact am_R_shl _ _ | exact am_R_shr _ _ | exact bit_R _ _ | exact xpls_R _ _ | exact xkept_R hW _ _ | exact xwait_R hW _ _ ) | (exact ⟨by omega, by omega⟩) | exact wf _ (by omega) (by omega) | exact wg _ (by omega) (by omega)) (fun c74 => ?_) (fun c74 => ?_)
                    · -- 74t
                      refine sx_iconst dX3_target_81 ?_
                      refine sx_istore dX3_target_82 (by decide) ?_
                      refine sx_iload dX3_target_84 rfl ?_
                      refine sx_if_eq (tgt := 112) dX3_target_86 (by decide) ⟨by decide, by decide⟩ (fun _ => ?_) (fun q => absurd q (by decide))
                      refine sx_iload_n dX3_target_112 rfl ?_
                      refine sx_istore_n dX3_target_113 (by decide) ?_
                      refine sx_iinc dX3_target_114 rfl (by decide) ?_
                      refine sx_goto (tgt := 18) dX3_target_117 (by decide) ?_
                      exact sx_forget 6 (sx_forget 7 (ih18_1 _ (by omega) _ (c + 1) rfl (by omega) (by first | exact xbest_y hf1 (by simp [xq, c26, c12, c26, c37, c50, c74]) (by omega) | exact xbest_n hf1 (Or.inr ⟨by omega, by omega⟩) | exact xbest_n hf1 (Or.inl (by simp [xq, c26, c12, c26, c37, c50, c74]; done)) | exact xbest_n hf1 (Or.inl (by simp [xq, c26, c12, c26, c37, c50, c74]; omega))) (by omega) (by omega)))
                    · -- 74f
                      refine sx_iconst dX3_target_77 ?_
                      refine sx_goto (tgt := 82) dX3_target_78 (by decide) ?_
                      refine sx_istore dX3_target_82 (by decide) ?_
                      refine sx_iload dX3_target_84 rfl ?_
                      refine sx_if_eq (tgt := 112) dX3_target_86 (by decide) ⟨by decide, by decide⟩ (fun q => absurd q (by decide)) (fun _ => ?_)
                      refine sx_iload_n dX3_target_89 rfl ?_
                      refine sx_if_lt (tgt := 107) dX3_target_90 (by decide) (by first | omega | assumption | (with_reducible first | exact hR _ | exact xwd_R hR _ _ | exact xch_R hR _ _ | exact am_R_and _ _ | exact am_R_or _ _ | exact am_R_xor _ _ | exact am_R_shl _ _ | exact am_R_shr _ _ | exact bit_R _ _ | exact xpls_R _ _ | exact xkept_R hW _ _ | exact xwait_R hW _ _ ) | (exact ⟨by omega, by omega⟩) | exact wf _ (by omega) (by omega) | exact wg _ (by omega) (by omega)) (fun c90 => ?_) (fun c90 => ?_)
                      · -- 90t
                        refine sx_iload dX3_target_107 rfl ?_
                        refine sx_goto (tgt := 113) dX3_target_109 (by decide) ?_
                        refine sx_istore_n dX3_target_113 (by decide) ?_
                        refine sx_iinc dX3_target_114 rfl (by decide) ?_
                        refine sx_goto (tgt := 18) dX3_target_117 (by decide) ?_
                        exact sx_forget 6 (sx_forget 7 (ih18_1 _ (by omega) _ (c + 1) rfl (by omega) (by first | exact xbest_y hf1 (by simp [xq, c26, c12, c26, c37, c50, c74, c90]) (by omega) | exact xbest_n hf1 (Or.inr ⟨by omega, by omega⟩) | exact xbest_n hf1 (Or.inl (by simp [xq, c26, c12, c26, c37, c50, c74, c90]; done)) | exact xbest_n hf1 (Or.inl (by simp [xq, c26, c12, c26, c37, c50, c74, c90]; omega))) (by omega) (by omega)))
                      · -- 90f
                        refine sx_aload_n dX3_target_93 rfl ?_
                        refine sx_iload dX3_target_94 rfl ?_
                        refine sx_callVi dX3_target_96 ml_X3_68 mv3_places (tx_places _ hW (by first | omega | assumption | (with_reducible first | exact hR _ | exact xwd_R hR _ _ | exact xch_R hR _ _ | exact am_R_and _ _ | exact am_R_or _ _ | exact am_R_xor _ _ | exact am_R_shl _ _ | exact am_R_shr _ _ | exact bit_R _ _ | exact xpls_R _ _ | exact xkept_R hW _ _ | exact xwait_R hW _ _ ) | (exact ⟨by omega, by omega⟩) | exact wf _ (by omega) (by omega) | exact wg _ (by omega) (by omega))) rfl am_obX rfl (Nat.le_of_ble_eq_true rfl) (Nat.le_of_ble_eq_true rfl) ?_
                        refine sx_aload_n dX3_target_99 rfl ?_
                        refine sx_iload_n dX3_target_100 rfl ?_
                        refine sx_callVi dX3_target_101 ml_X3_68 mv3_places (tx_places _ hW (by first | omega | assumption | (with_reducible first | exact hR _ | exact xwd_R hR _ _ | exact xch_R hR _ _ | exact am_R_and _ _ | exact am_R_or _ _ | exact am_R_xor _ _ | exact am_R_shl _ _ | exact am_R_shr _ _ | exact bit_R _ _ | exact xpls_R _ _ | exact xkept_R hW _ _ | exact xwait_R hW _ _ ) | (exact ⟨by omega, by omega⟩) | exact wf _ (by omega) (by omega) | exact wg _ (by omega) (by omega))) rfl am_obX rfl (Nat.le_of_ble_eq_true rfl) (Nat.le_of_ble_eq_true rfl) ?_
                        refine sx_icmp_le (tgt := 112) dX3_target_104 (by decide) (by first | omega | assumption | (with_reducible first | exact hR _ | exact xwd_R hR _ _ | exact xch_R hR _ _ | exact am_R_and _ _ | exact am_R_or _ _ | exact am_R_xor _ _ | exact am_R_shl _ _ | exact am_R_shr _ _ | exact bit_R _ _ | exact xpls_R _ _ | exact xkept_R hW _ _ | exact xwait_R hW _ _ ) | (exact ⟨by omega, by omega⟩) | exact wf _ (by omega) (by omega) | exact wg _ (by omega) (by omega)) (by first | omega | assumption | (with_reducible first | exact hR _ | exact xwd_R hR _ _ | exact xch_R hR _ _ | exact am_R_and _ _ | exact am_R_or _ _ | exact am_R_xor _ _ | exact am_R_shl _ _ | exact am_R_shr _ _ | exact bit_R _ _ | exact xpls_R _ _ | exact xkept_R hW _ _ | exact xwait_R hW _ _ ) | (exact ⟨by omega, by omega⟩) | exact wf _ (by omega) (by omega) | exact wg _ (by omega) (by omega)) (fun c104 => ?_) (fun c104 => ?_)
                        · -- 104t
                          refine sx_iload_n dX3_target_112 rfl ?_
                          refine sx_istore_n dX3_target_113 (by decide) ?_
                          refine sx_iinc dX3_target_114 rfl (by decide) ?_
                          refine sx_goto (tgt := 18) dX3_target_117 (by decide) ?_
                          exact sx_forget 6 (sx_forget 7 (ih18_1 _ (by omega) _ (c + 1) rfl (by omega) (by first | exact xbest_y hf1 (by simp [xq, c26, c12, c26, c37, c50, c74, c90, c104]) (by omega) | exact xbest_n hf1 (Or.inr ⟨by omega, by omega⟩) | exact xbest_n hf1 (Or.inl (by simp [xq, c26, c12, c26, c37, c50, c74, c90, c104]; done)) | exact xbest_n hf1 (Or.inl (by simp [xq, c26, c12, c26, c37, c50, c74, c90, c104]; omega))) (by omega) (by omega)))
                        · -- 104f
                          refine sx_iload dX3_target_107 rfl ?_
                          refine sx_goto (tgt := 113) dX3_target_109 (by decide) ?_
                          refine sx_istore_n dX3_target_113 (by decide) ?_
                          refine sx_iinc dX3_target_114 rfl (by decide) ?_
                          refine sx_goto (tgt := 18) dX3_target_117 (by decide) ?_
                          exact sx_forget 6 (sx_forget 7 (ih18_1 _ (by omega) _ (c + 1) rfl (by omega) (by first | exact xbest_y hf1 (by simp [xq, c26, c12, c26, c37, c50, c74, c90, c104]) (by omega) | exact xbest_n hf1 (Or.inr ⟨by omega, by omega⟩) | exact xbest_n hf1 (Or.inl (by simp [xq, c26, c12, c26, c37, c50, c74, c90, c104]; done)) | exact xbest_n hf1 (Or.inl (by simp [xq, c26, c12, c26, c37, c50, c74, c90, c104]; omega))) (by omega) (by omega)))
                · -- 37f
                  refine sx_iconst dX3_target_40 ?_
                  refine sx_goto (tgt := 45) dX3_target_41 (by decide) ?_
                  refine sx_istore dX3_target_45 (by decide) ?_
                  refine sx_iload dX3_target_47 rfl ?_
                  refine sx_iload_n dX3_target_49 rfl ?_
                  refine sx_icmp_eq (tgt := 81) dX3_target_50 (by decide) (by first | omega | assumption | (with_reducible first | exact hR _ | exact xwd_R hR _ _ | exact xch_R hR _ _ | exact am_R_and _ _ | exact am_R_or _ _ | exact am_R_xor _ _ | exact am_R_shl _ _ | exact am_R_shr _ _ | exact bit_R _ _ | exact xpls_R _ _ | exact xkept_R hW _ _ | exact xwait_R hW _ _ ) | (exact ⟨by omega, by omega⟩) | exact wf _ (by omega) (by omega) | exact wg _ (by omega) (by omega)) (by first | omega | assumption | (with_reducible first | exact hR _ | exact xwd_R hR _ _ | exact xch_R hR _ _ | exact am_R_and _ _ | exact am_R_or _ _ | exact am_R_xor _ _ | exact am_R_shl _ _ | exact am_R_shr _ _ | exact bit_R _ _ | exact xpls_R _ _ | exact xkept_R hW _ _ | exact xwait_R hW _ _ ) | (exact ⟨by omega, by omega⟩) | exact wf _ (by omega) (by omega) | exact wg _ (by omega) (by omega)) (fun c50 => ?_) (fun c50 => ?_)
                  · -- 50t
                    refine sx_iconst dX3_target_81 ?_
                    refine sx_istore dX3_target_82 (by decide) ?_
                    refine sx_iload dX3_target_84 rfl ?_
                    refine sx_if_eq (tgt := 112) dX3_target_86 (by decide) ⟨by decide, by decide⟩ (fun _ => ?_) (fun q => absurd q (by decide))
                    refine sx_iload_n dX3_target_112 rfl ?_
                    refine sx_istore_n dX3_target_113 (by decide) ?_
                    refine sx_iinc dX3_target_114 rfl (by decide) ?_
                    refine sx_goto (tgt := 18) dX3_target_117 (by decide) ?_
                    exact sx_forget 6 (sx_forget 7 (ih18_1 _ (by omega) _ (c + 1) rfl (by omega) (by first | exact xbest_y hf1 (by simp [xq, c26, c12, c26, c37, c50]) (by omega) | exact xbest_n hf1 (Or.inr ⟨by omega, by omega⟩) | exact xbest_n hf1 (Or.inl (by simp [xq, c26, c12, c26, c37, c50]; done)) | exact xbest_n hf1 (Or.inl (by simp [xq, c26, c12, c26, c37, c50]; omega))) (by omega) (by omega)))
                  · -- 50f
                    refine sx_iload dX3_target_53 rfl ?_
                    refine sx_iload dX3_target_55 rfl ?_
                    refine sx_if_ne (tgt := 64) dX3_target_57 (by decide) ⟨by decide, by decide⟩ (fun _ => ?_) (fun q => absurd q (by decide))
                    refine sx_iconst dX3_target_64 ?_
                    refine sx_icmp_ne (tgt := 81) dX3_target_65 (by decide) ⟨by decide, by decide⟩ ⟨by decide, by decide⟩ (fun _ => ?_) (fun q => absurd q (by decide))
                    refine sx_iconst dX3_target_81 ?_
                    refine sx_istore dX3_target_82 (by decide) ?_
                    refine sx_iload dX3_target_84 rfl ?_
                    refine sx_if_eq (tgt := 112) dX3_target_86 (by decide) ⟨by decide, by decide⟩ (fun _ => ?_) (fun q => absurd q (by decide))
                    refine sx_iload_n dX3_target_112 rfl ?_
                    refine sx_istore_n dX3_target_113 (by decide) ?_
                    refine sx_iinc dX3_target_114 rfl (by decide) ?_
                    refine sx_goto (tgt := 18) dX3_target_117 (by decide) ?_
                    exact sx_forget 6 (sx_forget 7 (ih18_1 _ (by omega) _ (c + 1) rfl (by omega) (by first | exact xbest_y hf1 (by simp [xq, c26, c12, c26, c37, c50]) (by omega) | exact xbest_n hf1 (Or.inr ⟨by omega, by omega⟩) | exact xbest_n hf1 (Or.inl (by simp [xq, c26, c12, c26, c37, c50]; done)) | exact xbest_n hf1 (Or.inl (by simp [xq, c26, c12, c26, c37, c50]; omega))) (by omega) (by omega)))
          exact sx_forget 6 (sx_forget 7 (loop18_1 _ _ 0 rfl (by omega) (by first | rfl | exact hf0) (by omega) (by omega)))
      · -- 26f
        refine sx_aload_n dX3_target_29 rfl ?_
        refine sx_iload dX3_target_30 rfl ?_
        refine sx_iconst dX3_target_32 ?_
        refine sx_callVi dX3_target_33 ml_X3_36 mv3_ch (tx_ch _ _ (by first | omega | assumption | (with_reducible first | exact hR _ | exact xwd_R hR _ _ | exact xch_R hR _ _ | exact am_R_and _ _ | exact am_R_or _ _ | exact am_R_xor _ _ | exact am_R_shl _ _ | exact am_R_shr _ _ | exact bit_R _ _ | exact xpls_R _ _ | exact xkept_R hW _ _ | exact xwait_R hW _ _ ) | (exact ⟨by omega, by omega⟩) | exact wf _ (by omega) (by omega) | exact wg _ (by omega) (by omega)) (by first | omega | assumption | (with_reducible first | exact hR _ | exact xwd_R hR _ _ | exact xch_R hR _ _ | exact am_R_and _ _ | exact am_R_or _ _ | exact am_R_xor _ _ | exact am_R_shl _ _ | exact am_R_shr _ _ | exact bit_R _ _ | exact xpls_R _ _ | exact xkept_R hW _ _ | exact xwait_R hW _ _ ) | (exact ⟨by omega, by omega⟩) | exact wf _ (by omega) (by omega) | exact wg _ (by omega) (by omega))) rfl am_obX rfl (Nat.le_of_ble_eq_true rfl) (Nat.le_of_ble_eq_true rfl) ?_
        refine sx_iload_n dX3_target_36 rfl ?_
        refine sx_icmp_ne (tgt := 44) dX3_target_37 (by decide) (by first | omega | assumption | (with_reducible first | exact hR _ | exact xwd_R hR _ _ | exact xch_R hR _ _ | exact am_R_and _ _ | exact am_R_or _ _ | exact am_R_xor _ _ | exact am_R_shl _ _ | exact am_R_shr _ _ | exact bit_R _ _ | exact xpls_R _ _ | exact xkept_R hW _ _ | exact xwait_R hW _ _ ) | (exact ⟨by omega, by omega⟩) | exact wf _ (by omega) (by omega) | exact wg _ (by omega) (by omega)) (by first | omega | assumption | (with_reducible first | exact hR _ | exact xwd_R hR _ _ | exact xch_R hR _ _ | exact am_R_and _ _ | exact am_R_or _ _ | exact am_R_xor _ _ | exact am_R_shl _ _ | exact am_R_shr _ _ | exact bit_R _ _ | exact xpls_R _ _ | exact xkept_R hW _ _ | exact xwait_R hW _ _ ) | (exact ⟨by omega, by omega⟩) | exact wf _ (by omega) (by omega) | exact wg _ (by omega) (by omega)) (fun c37 => ?_) (fun c37 => ?_)
        · -- 37t
          refine sx_iconst dX3_target_44 ?_
          refine sx_istore dX3_target_45 (by decide) ?_
          refine sx_iload dX3_target_47 rfl ?_
          refine sx_iload_n dX3_target_49 rfl ?_
          refine sx_icmp_eq (tgt := 81) dX3_target_50 (by decide) (by first | omega | assumption | (with_reducible first | exact hR _ | exact xwd_R hR _ _ | exact xch_R hR _ _ | exact am_R_and _ _ | exact am_R_or _ _ | exact am_R_xor _ _ | exact am_R_shl _ _ | exact am_R_shr _ _ | exact bit_R _ _ | exact xpls_R _ _ | exact xkept_R hW _ _ | exact xwait_R hW _ _ ) | (exact ⟨by omega, by omega⟩) | exact wf _ (by omega) (by omega) | exact wg _ (by omega) (by omega)) (by first | omega | assumption | (with_reducible first | exact hR _ | exact xwd_R hR _ _ | exact xch_R hR _ _ | exact am_R_and _ _ | exact am_R_or _ _ | exact am_R_xor _ _ | exact am_R_shl _ _ | exact am_R_shr _ _ | exact bit_R _ _ | exact xpls_R _ _ | exact xkept_R hW _ _ | exact xwait_R hW _ _ ) | (exact ⟨by omega, by omega⟩) | exact wf _ (by omega) (by omega) | exact wg _ (by omega) (by omega)) (fun c50 => ?_) (fun c50 => ?_)
          · -- 50t
            refine sx_iconst dX3_target_81 ?_
            refine sx_istore dX3_target_82 (by decide) ?_
            refine sx_iload dX3_target_84 rfl ?_
            refine sx_if_eq (tgt := 112) dX3_target_86 (by decide) ⟨by decide, by decide⟩ (fun _ => ?_) (fun q => absurd q (by decide))
            refine sx_iload_n dX3_target_112 rfl ?_
            refine sx_istore_n dX3_target_113 (by decide) ?_
            refine sx_iinc dX3_target_114 rfl (by decide) ?_
            refine sx_goto (tgt := 18) dX3_target_117 (by decide) ?_
            exact sx_forget 6 (sx_forget 7 (ih18_0 _ (by omega) _ (c + 1) rfl (by omega) (by first | exact xbest_y hf0 (by simp [xq, c26, c37, c50]) (by omega) | exact xbest_n hf0 (Or.inr ⟨by omega, by omega⟩) | exact xbest_n hf0 (Or.inl (by simp [xq, c26, c37, c50]; done)) | exact xbest_n hf0 (Or.inl (by simp [xq, c26, c37, c50]; omega))) (by omega) (by omega)))
          · -- 50f
            refine sx_iload dX3_target_53 rfl ?_
            refine sx_iload dX3_target_55 rfl ?_
            refine sx_if_ne (tgt := 64) dX3_target_57 (by decide) ⟨by decide, by decide⟩ (fun q => absurd q (by decide)) (fun _ => ?_)
            refine sx_iconst dX3_target_60 ?_
            refine sx_goto (tgt := 65) dX3_target_61 (by decide) ?_
            refine sx_icmp_ne (tgt := 81) dX3_target_65 (by decide) ⟨by decide, by decide⟩ ⟨by decide, by decide⟩ (fun _ => ?_) (fun q => absurd q (by decide))
            refine sx_iconst dX3_target_81 ?_
            refine sx_istore dX3_target_82 (by decide) ?_
            refine sx_iload dX3_target_84 rfl ?_
            refine sx_if_eq (tgt := 112) dX3_target_86 (by decide) ⟨by decide, by decide⟩ (fun _ => ?_) (fun q => absurd q (by decide))
            refine sx_iload_n dX3_target_112 rfl ?_
            refine sx_istore_n dX3_target_113 (by decide) ?_
            refine sx_iinc dX3_target_114 rfl (by decide) ?_
            refine sx_goto (tgt := 18) dX3_target_117 (by decide) ?_
            exact sx_forget 6 (sx_forget 7 (ih18_0 _ (by omega) _ (c + 1) rfl (by omega) (by first | exact xbest_y hf0 (by simp [xq, c26, c37, c50]) (by omega) | exact xbest_n hf0 (Or.inr ⟨by omega, by omega⟩) | exact xbest_n hf0 (Or.inl (by simp [xq, c26, c37, c50]; done)) | exact xbest_n hf0 (Or.inl (by simp [xq, c26, c37, c50]; omega))) (by omega) (by omega)))
        · -- 37f
          refine sx_iconst dX3_target_40 ?_
          refine sx_goto (tgt := 45) dX3_target_41 (by decide) ?_
          refine sx_istore dX3_target_45 (by decide) ?_
          refine sx_iload dX3_target_47 rfl ?_
          refine sx_iload_n dX3_target_49 rfl ?_
          refine sx_icmp_eq (tgt := 81) dX3_target_50 (by decide) (by first | omega | assumption | (with_reducible first | exact hR _ | exact xwd_R hR _ _ | exact xch_R hR _ _ | exact am_R_and _ _ | exact am_R_or _ _ | exact am_R_xor _ _ | exact am_R_shl _ _ | exact am_R_shr _ _ | exact bit_R _ _ | exact xpls_R _ _ | exact xkept_R hW _ _ | exact xwait_R hW _ _ ) | (exact ⟨by omega, by omega⟩) | exact wf _ (by omega) (by omega) | exact wg _ (by omega) (by omega)) (by first | omega | assumption | (with_reducible first | exact hR _ | exact xwd_R hR _ _ | exact xch_R hR _ _ | exact am_R_and _ _ | exact am_R_or _ _ | exact am_R_xor _ _ | exact am_R_shl _ _ | exact am_R_shr _ _ | exact bit_R _ _ | exact xpls_R _ _ | exact xkept_R hW _ _ | exact xwait_R hW _ _ ) | (exact ⟨by omega, by omega⟩) | exact wf _ (by omega) (by omega) | exact wg _ (by omega) (by omega)) (fun c50 => ?_) (fun c50 => ?_)
          · -- 50t
            refine sx_iconst dX3_target_81 ?_
            refine sx_istore dX3_target_82 (by decide) ?_
            refine sx_iload dX3_target_84 rfl ?_
            refine sx_if_eq (tgt := 112) dX3_target_86 (by decide) ⟨by decide, by decide⟩ (fun _ => ?_) (fun q => absurd q (by decide))
            refine sx_iload_n dX3_target_112 rfl ?_
            refine sx_istore_n dX3_target_113 (by decide) ?_
            refine sx_iinc dX3_target_114 rfl (by decide) ?_
            refine sx_goto (tgt := 18) dX3_target_117 (by decide) ?_
            exact sx_forget 6 (sx_forget 7 (ih18_0 _ (by omega) _ (c + 1) rfl (by omega) (by first | exact xbest_y hf0 (by simp [xq, c26, c37, c50]) (by omega) | exact xbest_n hf0 (Or.inr ⟨by omega, by omega⟩) | exact xbest_n hf0 (Or.inl (by simp [xq, c26, c37, c50]; done)) | exact xbest_n hf0 (Or.inl (by simp [xq, c26, c37, c50]; omega))) (by omega) (by omega)))
          · -- 50f
            refine sx_iload dX3_target_53 rfl ?_
            refine sx_iload dX3_target_55 rfl ?_
            refine sx_if_ne (tgt := 64) dX3_target_57 (by decide) ⟨by decide, by decide⟩ (fun q => absurd q (by decide)) (fun _ => ?_)
            refine sx_iconst dX3_target_60 ?_
            refine sx_goto (tgt := 65) dX3_target_61 (by decide) ?_
            refine sx_icmp_ne (tgt := 81) dX3_target_65 (by decide) ⟨by decide, by decide⟩ ⟨by decide, by decide⟩ (fun q => absurd q (by decide)) (fun _ => ?_)
            refine sx_aload_n dX3_target_68 rfl ?_
            refine sx_iload dX3_target_69 rfl ?_
            refine sx_callVi dX3_target_71 ml_X3_68 mv3_places (tx_places _ hW (by first | omega | assumption | (with_reducible first | exact hR _ | exact xwd_R hR _ _ | exact xch_R hR _ _ | exact am_R_and _ _ | exact am_R_or _ _ | exact am_R_xor _ _ | exact am_R_shl _ _ | exact am_R_shr _ _ | exact bit_R _ _ | exact xpls_R _ _ | exact xkept_R hW _ _ | exact xwait_R hW _ _ ) | (exact ⟨by omega, by omega⟩) | exact wf _ (by omega) (by omega) | exact wg _ (by omega) (by omega))) rfl am_obX rfl (Nat.le_of_ble_eq_true rfl) (Nat.le_of_ble_eq_true rfl) ?_
            refine sx_if_le (tgt := 81) dX3_target_74 (by decide) (by first | omega | assumption | (with_reducible first | exact hR _ | exact xwd_R hR _ _ | exact xch_R hR _ _ | exact am_R_and _ _ | exact am_R_or _ _ | exact am_R_xor _ _ | exact am_R_shl _ _ | exact am_R_shr _ _ | exact bit_R _ _ | exact xpls_R _ _ | exact xkept_R hW _ _ | exact xwait_R hW _ _ ) | (exact ⟨by omega, by omega⟩) | exact wf _ (by omega) (by omega) | exact wg _ (by omega) (by omega)) (fun c74 => ?_) (fun c74 => ?_)
            · -- 74t
              refine sx_iconst dX3_target_81 ?_
              refine sx_istore dX3_target_82 (by decide) ?_
              refine sx_iload dX3_target_84 rfl ?_
              refine sx_if_eq (tgt := 112) dX3_target_86 (by decide) ⟨by decide, by decide⟩ (fun _ => ?_) (fun q => absurd q (by decide))
              refine sx_iload_n dX3_target_112 rfl ?_
              refine sx_istore_n dX3_target_113 (by decide) ?_
              refine sx_iinc dX3_target_114 rfl (by decide) ?_
              refine sx_goto (tgt := 18) dX3_target_117 (by decide) ?_
              exact sx_forget 6 (sx_forget 7 (ih18_0 _ (by omega) _ (c + 1) rfl (by omega) (by first | exact xbest_y hf0 (by simp [xq, c26, c37, c50, c74]) (by omega) | exact xbest_n hf0 (Or.inr ⟨by omega, by omega⟩) | exact xbest_n hf0 (Or.inl (by simp [xq, c26, c37, c50, c74]; done)) | exact xbest_n hf0 (Or.inl (by simp [xq, c26, c37, c50, c74]; omega))) (by omega) (by omega)))
            · -- 74f
              refine sx_iconst dX3_target_77 ?_
              refine sx_goto (tgt := 82) dX3_target_78 (by decide) ?_
              refine sx_istore dX3_target_82 (by decide) ?_
              refine sx_iload dX3_target_84 rfl ?_
              refine sx_if_eq (tgt := 112) dX3_target_86 (by decide) ⟨by decide, by decide⟩ (fun q => absurd q (by decide)) (fun _ => ?_)
              refine sx_iload_n dX3_target_89 rfl ?_
              refine sx_if_lt (tgt := 107) dX3_target_90 (by decide) (by first | omega | assumption | (with_reducible first | exact hR _ | exact xwd_R hR _ _ | exact xch_R hR _ _ | exact am_R_and _ _ | exact am_R_or _ _ | exact am_R_xor _ _ | exact am_R_shl _ _ | exact am_R_shr _ _ | exact bit_R _ _ | exact xpls_R _ _ | exact xkept_R hW _ _ | exact xwait_R hW _ _ ) | (exact ⟨by omega, by omega⟩) | exact wf _ (by omega) (by omega) | exact wg _ (by omega) (by omega)) (fun c90 => ?_) (fun c90 => ?_)
              · -- 90t
                refine sx_iload dX3_target_107 rfl ?_
                refine sx_goto (tgt := 113) dX3_target_109 (by decide) ?_
                refine sx_istore_n dX3_target_113 (by decide) ?_
                refine sx_iinc dX3_target_114 rfl (by decide) ?_
                refine sx_goto (tgt := 18) dX3_target_117 (by decide) ?_
                exact sx_forget 6 (sx_forget 7 (ih18_0 _ (by omega) _ (c + 1) rfl (by omega) (by first | exact xbest_y hf0 (by simp [xq, c26, c37, c50, c74, c90]) (by omega) | exact xbest_n hf0 (Or.inr ⟨by omega, by omega⟩) | exact xbest_n hf0 (Or.inl (by simp [xq, c26, c37, c50, c74, c90]; done)) | exact xbest_n hf0 (Or.inl (by simp [xq, c26, c37, c50, c74, c90]; omega))) (by omega) (by omega)))
              · -- 90f
                refine sx_aload_n dX3_target_93 rfl ?_
                refine sx_iload dX3_target_94 rfl ?_
                refine sx_callVi dX3_target_96 ml_X3_68 mv3_places (tx_places _ hW (by first | omega | assumption | (with_reducible first | exact hR _ | exact xwd_R hR _ _ | exact xch_R hR _ _ | exact am_R_and _ _ | exact am_R_or _ _ | exact am_R_xor _ _ | exact am_R_shl _ _ | exact am_R_shr _ _ | exact bit_R _ _ | exact xpls_R _ _ | exact xkept_R hW _ _ | exact xwait_R hW _ _ ) | (exact ⟨by omega, by omega⟩) | exact wf _ (by omega) (by omega) | exact wg _ (by omega) (by omega))) rfl am_obX rfl (Nat.le_of_ble_eq_true rfl) (Nat.le_of_ble_eq_true rfl) ?_
                refine sx_aload_n dX3_target_99 rfl ?_
                refine sx_iload_n dX3_target_100 rfl ?_
                refine sx_callVi dX3_target_101 ml_X3_68 mv3_places (tx_places _ hW (by first | omega | assumption | (with_reducible first | exact hR _ | exact xwd_R hR _ _ | exact xch_R hR _ _ | exact am_R_and _ _ | exact am_R_or _ _ | exact am_R_xor _ _ | exact am_R_shl _ _ | exact am_R_shr _ _ | exact bit_R _ _ | exact xpls_R _ _ | exact xkept_R hW _ _ | exact xwait_R hW _ _ ) | (exact ⟨by omega, by omega⟩) | exact wf _ (by omega) (by omega) | exact wg _ (by omega) (by omega))) rfl am_obX rfl (Nat.le_of_ble_eq_true rfl) (Nat.le_of_ble_eq_true rfl) ?_
                refine sx_icmp_le (tgt := 112) dX3_target_104 (by decide) (by first | omega | assumption | (with_reducible first | exact hR _ | exact xwd_R hR _ _ | exact xch_R hR _ _ | exact am_R_and _ _ | exact am_R_or _ _ | exact am_R_xor _ _ | exact am_R_shl _ _ | exact am_R_shr _ _ | exact bit_R _ _ | exact xpls_R _ _ | exact xkept_R hW _ _ | exact xwait_R hW _ _ ) | (exact ⟨by omega, by omega⟩) | exact wf _ (by omega) (by omega) | exact wg _ (by omega) (by omega)) (by first | omega | assumption | (with_reducible first | exact hR _ | exact xwd_R hR _ _ | exact xch_R hR _ _ | exact am_R_and _ _ | exact am_R_or _ _ | exact am_R_xor _ _ | exact am_R_shl _ _ | exact am_R_shr _ _ | exact bit_R _ _ | exact xpls_R _ _ | exact xkept_R hW _ _ | exact xwait_R hW _ _ ) | (exact ⟨by omega, by omega⟩) | exact wf _ (by omega) (by omega) | exact wg _ (by omega) (by omega)) (fun c104 => ?_) (fun c104 => ?_)
                · -- 104t
                  refine sx_iload_n dX3_target_112 rfl ?_
                  refine sx_istore_n dX3_target_113 (by decide) ?_
                  refine sx_iinc dX3_target_114 rfl (by decide) ?_
                  refine sx_goto (tgt := 18) dX3_target_117 (by decide) ?_
                  exact sx_forget 6 (sx_forget 7 (ih18_0 _ (by omega) _ (c + 1) rfl (by omega) (by first | exact xbest_y hf0 (by simp [xq, c26, c37, c50, c74, c90, c104]) (by omega) | exact xbest_n hf0 (Or.inr ⟨by omega, by omega⟩) | exact xbest_n hf0 (Or.inl (by simp [xq, c26, c37, c50, c74, c90, c104]; done)) | exact xbest_n hf0 (Or.inl (by simp [xq, c26, c37, c50, c74, c90, c104]; omega))) (by omega) (by omega)))
                · -- 104f
                  refine sx_iload dX3_target_107 rfl ?_
                  refine sx_goto (tgt := 113) dX3_target_109 (by decide) ?_
                  refine sx_istore_n dX3_target_113 (by decide) ?_
                  refine sx_iinc dX3_target_114 rfl (by decide) ?_
                  refine sx_goto (tgt := 18) dX3_target_117 (by decide) ?_
                  exact sx_forget 6 (sx_forget 7 (ih18_0 _ (by omega) _ (c + 1) rfl (by omega) (by first | exact xbest_y hf0 (by simp [xq, c26, c37, c50, c74, c90, c104]) (by omega) | exact xbest_n hf0 (Or.inr ⟨by omega, by omega⟩) | exact xbest_n hf0 (Or.inl (by simp [xq, c26, c37, c50, c74, c90, c104]; done)) | exact xbest_n hf0 (Or.inl (by simp [xq, c26, c37, c50, c74, c90, c104]; omega))) (by omega) (by omega)))
  exact sx_forget 6 (sx_forget 7 (loop18_0 _ _ 0 rfl (by omega) (by first | rfl | exact hf0) (by omega) (by omega)))
