set_option maxHeartbeats 4000000 in
set_option maxRecDepth 100000 in
theorem tx_in {h : am_H} (v low high : Int) (h1 : am_R v) (h2 : am_R low) (h3 : am_R high) : Ct 0 Y3_in [.inl v, .inl low, .inl high] (some (.inl (if low ≤ v ∧ v ≤ high then 1 else 0))) h h := by
  refine Ct_of (by decide +kernel) (Nat.le_of_ble_eq_true rfl) ?_
  show Sx 0 Y3_in h (some (.inl (if low ≤ v ∧ v ≤ high then 1 else 0))) 0 [some (.inl v), some (.inl low), some (.inl high)] [] h
  refine sx_iload_n dX3_in_0 rfl ?_
  refine sx_iload_n dX3_in_1 rfl ?_
  refine sx_icmp_lt (tgt := 14) dX3_in_2 (by decide) (by first | omega | exact hR _ _ | exact am_RT _ | (exact ⟨by omega, by omega⟩) | assumption) (by first | omega | exact hR _ _ | exact am_RT _ | (exact ⟨by omega, by omega⟩) | assumption) (fun c2 => ?_) (fun c2 => ?_)
  · -- 2t
    refine sx_iconst dX3_in_14 ?_
    exact sx_zret dX3_in_15 rfl (by decide) (by first | rw [if_pos (by omega)] | rw [if_neg (by omega)]) rfl
  · -- 2f
    refine sx_iload_n dX3_in_5 rfl ?_
    refine sx_iload_n dX3_in_6 rfl ?_
    refine sx_icmp_gt (tgt := 14) dX3_in_7 (by decide) (by first | omega | exact hR _ _ | exact am_RT _ | (exact ⟨by omega, by omega⟩) | assumption) (by first | omega | exact hR _ _ | exact am_RT _ | (exact ⟨by omega, by omega⟩) | assumption) (fun c7 => ?_) (fun c7 => ?_)
    · -- 7t
      refine sx_iconst dX3_in_14 ?_
      exact sx_zret dX3_in_15 rfl (by decide) (by first | rw [if_pos (by omega)] | rw [if_neg (by omega)]) rfl
    · -- 7f
      refine sx_iconst dX3_in_10 ?_
      refine sx_goto (tgt := 15) dX3_in_11 (by decide) ?_
      exact sx_zret dX3_in_15 rfl (by decide) (by first | rw [if_pos (by omega)] | rw [if_neg (by omega)]) rfl
set_option maxHeartbeats 4000000 in
set_option maxRecDepth 100000 in
theorem tx_ch {h0 : am_H} {X : am_M} {S : Nat → Int} (c k : Int) (hc : 0 ≤ c ∧ c < 8) (hk : 0 ≤ k ∧ k < 4) : Ct 0 Y3_ch [.inr (7, 0), .inl c, .inl k] (some (.inl (xch S c k))) (xh h0 X S) (xh h0 X S) := by
  refine Ct_of (by decide +kernel) (Nat.le_of_ble_eq_true rfl) ?_
  show Sx 0 Y3_ch (xh h0 X S) (some (.inl (xch S c k))) 0 [some (.inr (7, 0)), some (.inl c), some (.inl k)] [] (xh h0 X S)
  refine xs_vh (fun hR hRX => ?_)
  refine sx_aload_n dX3_ch_0 rfl ?_
  refine xs_getr (j := 1) dX3_ch_1 fl_X3_7 (by decide) rfl ?_
  refine sx_bipush dX3_ch_4 rfl ?_
  refine sx_iconst dX3_ch_6 ?_
  refine sx_iload_n dX3_ch_7 rfl ?_
  refine sx_imul dX3_ch_8 ?_
  refine sx_iadd dX3_ch_9 ?_
  refine sx_iload_n dX3_ch_10 rfl ?_
  refine sx_iadd dX3_ch_11 ?_
  refine xs_ild (n := 208) dX3_ch_12 rfl (by decide) (by first | omega | assumption | (with_reducible first | exact hR _ | exact xwd_R hR _ _ | exact xch_R hR _ _ | exact am_R_and _ _ | exact am_R_or _ _ | exact am_R_xor _ _ | exact am_R_shl _ _ | exact am_R_shr _ _ | exact bit_R _ _ | exact xpls_R _ _ | exact xkept_R hW _ _ | exact xwait_R hW _ _ ) | (exact ⟨by omega, by omega⟩) | exact wf _ (by omega) (by omega) | exact wg _ (by omega) (by omega)) (by first | omega | assumption | (with_reducible first | exact hR _ | exact xwd_R hR _ _ | exact xch_R hR _ _ | exact am_R_and _ _ | exact am_R_or _ _ | exact am_R_xor _ _ | exact am_R_shl _ _ | exact am_R_shr _ _ | exact bit_R _ _ | exact xpls_R _ _ | exact xkept_R hW _ _ | exact xwait_R hW _ _ ) | (exact ⟨by omega, by omega⟩) | exact wf _ (by omega) (by omega) | exact wg _ (by omega) (by omega)) rfl (fun r12 => ?_)
  exact sx_iret dX3_ch_13 rfl rfl rfl
set_option maxHeartbeats 4000000 in
set_option maxRecDepth 100000 in
theorem tx_wd {h0 : am_H} {X : am_M} {S : Nat → Int} (w k : Int) (hw : 0 ≤ w ∧ w < 24) (hk : 0 ≤ k ∧ k < 7) : Ct 0 Y3_wd [.inr (7, 0), .inl w, .inl k] (some (.inl (xwd S w k))) (xh h0 X S) (xh h0 X S) := by
  refine Ct_of (by decide +kernel) (Nat.le_of_ble_eq_true rfl) ?_
  show Sx 0 Y3_wd (xh h0 X S) (some (.inl (xwd S w k))) 0 [some (.inr (7, 0)), some (.inl w), some (.inl k)] [] (xh h0 X S)
  refine xs_vh (fun hR hRX => ?_)
  refine sx_aload_n dX3_wd_0 rfl ?_
  refine xs_getr (j := 1) dX3_wd_1 fl_X3_7 (by decide) rfl ?_
  refine sx_bipush dX3_wd_4 rfl ?_
  refine sx_bipush dX3_wd_6 rfl ?_
  refine sx_iload_n dX3_wd_8 rfl ?_
  refine sx_imul dX3_wd_9 ?_
  refine sx_iadd dX3_wd_10 ?_
  refine sx_iload_n dX3_wd_11 rfl ?_
  refine sx_iadd dX3_wd_12 ?_
  refine xs_ild (n := 208) dX3_wd_13 rfl (by decide) (by first | omega | assumption | (with_reducible first | exact hR _ | exact xwd_R hR _ _ | exact xch_R hR _ _ | exact am_R_and _ _ | exact am_R_or _ _ | exact am_R_xor _ _ | exact am_R_shl _ _ | exact am_R_shr _ _ | exact bit_R _ _ | exact xpls_R _ _ | exact xkept_R hW _ _ | exact xwait_R hW _ _ ) | (exact ⟨by omega, by omega⟩) | exact wf _ (by omega) (by omega) | exact wg _ (by omega) (by omega)) (by first | omega | assumption | (with_reducible first | exact hR _ | exact xwd_R hR _ _ | exact xch_R hR _ _ | exact am_R_and _ _ | exact am_R_or _ _ | exact am_R_xor _ _ | exact am_R_shl _ _ | exact am_R_shr _ _ | exact bit_R _ _ | exact xpls_R _ _ | exact xkept_R hW _ _ | exact xwait_R hW _ _ ) | (exact ⟨by omega, by omega⟩) | exact wf _ (by omega) (by omega) | exact wg _ (by omega) (by omega)) rfl (fun r13 => ?_)
  exact sx_iret dX3_wd_14 rfl rfl rfl
set_option maxHeartbeats 4000000 in
set_option maxRecDepth 100000 in
theorem tx_lays {h0 : am_H} {X : am_M} {S : Nat → Int} (w k v : Int) (hw : 0 ≤ w ∧ w < 24) (hk : 0 ≤ k ∧ k < 7) (hv : am_R v) : Ct 0 Y3_lays [.inr (7, 0), .inl w, .inl k, .inl v] none (xh h0 X S) (xh h0 X (xlay S w k v)) := by
  refine Ct_of (by decide +kernel) (Nat.le_of_ble_eq_true rfl) ?_
  show Sx 0 Y3_lays (xh h0 X (xlay S w k v)) none 0 [some (.inr (7, 0)), some (.inl w), some (.inl k), some (.inl v)] [] (xh h0 X S)
  refine xs_vh (fun hR hRX => ?_)
  refine sx_aload_n dX3_lays_0 rfl ?_
  refine xs_getr (j := 1) dX3_lays_1 fl_X3_7 (by decide) rfl ?_
  refine sx_bipush dX3_lays_4 rfl ?_
  refine sx_bipush dX3_lays_6 rfl ?_
  refine sx_iload_n dX3_lays_8 rfl ?_
  refine sx_imul dX3_lays_9 ?_
  refine sx_iadd dX3_lays_10 ?_
  refine sx_iload_n dX3_lays_11 rfl ?_
  refine sx_iadd dX3_lays_12 ?_
  refine sx_iload_n dX3_lays_13 rfl ?_
  refine xs_ist (n := 208) dX3_lays_14 rfl (by decide) (by first | omega | assumption | (with_reducible first | exact hR _ | exact xwd_R hR _ _ | exact xch_R hR _ _ | exact am_R_and _ _ | exact am_R_or _ _ | exact am_R_xor _ _ | exact am_R_shl _ _ | exact am_R_shr _ _ | exact bit_R _ _ | exact xpls_R _ _ | exact xkept_R hW _ _ | exact xwait_R hW _ _ ) | (exact ⟨by omega, by omega⟩) | exact wf _ (by omega) (by omega) | exact wg _ (by omega) (by omega)) (by first | omega | assumption | (with_reducible first | exact hR _ | exact xwd_R hR _ _ | exact xch_R hR _ _ | exact am_R_and _ _ | exact am_R_or _ _ | exact am_R_xor _ _ | exact am_R_shl _ _ | exact am_R_shr _ _ | exact bit_R _ _ | exact xpls_R _ _ | exact xkept_R hW _ _ | exact xwait_R hW _ _ ) | (exact ⟨by omega, by omega⟩) | exact wf _ (by omega) (by omega) | exact wg _ (by omega) (by omega)) rfl (by first | omega | assumption | (with_reducible first | exact hR _ | exact xwd_R hR _ _ | exact xch_R hR _ _ | exact am_R_and _ _ | exact am_R_or _ _ | exact am_R_xor _ _ | exact am_R_shl _ _ | exact am_R_shr _ _ | exact bit_R _ _ | exact xpls_R _ _ | exact xkept_R hW _ _ | exact xwait_R hW _ _ ) | (exact ⟨by omega, by omega⟩) | exact wf _ (by omega) (by omega) | exact wg _ (by omega) (by omega)) ?_
  exact sx_vret dX3_lays_15 rfl rfl rfl
set_option maxHeartbeats 4000000 in
set_option maxRecDepth 100000 in
theorem tx_isChip {h0 : am_H} {X : am_M} {S : Nat → Int} (c : Int) (hW : WX S) (hc : am_R c) : Ct 1 Y3_isChip [.inr (7, 0), .inl c] (some (.inl (if 0 ≤ c ∧ c ≤ S 0 - 1 then 1 else 0))) (xh h0 X S) (xh h0 X S) := by
  refine Ct_of (by decide +kernel) (Nat.le_of_ble_eq_true rfl) ?_
  show Sx 1 Y3_isChip (xh h0 X S) (some (.inl (if 0 ≤ c ∧ c ≤ S 0 - 1 then 1 else 0))) 0 [some (.inr (7, 0)), some (.inl c)] [] (xh h0 X S)
  refine xs_vh (fun hR hRX => ?_)
  obtain ⟨w0, w1, wg, wf, wo⟩ := id hW
  refine sx_iload_n dX3_isChip_0 rfl ?_
  refine sx_iconst dX3_isChip_1 ?_
  refine sx_aload_n dX3_isChip_2 rfl ?_
  refine xs_getr (j := 1) dX3_isChip_3 fl_X3_7 (by decide) rfl ?_
  refine sx_iconst dX3_isChip_6 ?_
  refine xs_ild (n := 208) (m := 0) dX3_isChip_7 rfl (by decide) (by decide) (by decide) rfl (fun r7 => ?_)
  refine sx_iconst dX3_isChip_8 ?_
  refine sx_isub dX3_isChip_9 ?_
  refine sx_callSi dX3_isChip_10 ml_X3_32 ms3_in (tx_in _ _ _ (by first | omega | assumption | (with_reducible first | exact hR _ | exact xwd_R hR _ _ | exact xch_R hR _ _ | exact am_R_and _ _ | exact am_R_or _ _ | exact am_R_xor _ _ | exact am_R_shl _ _ | exact am_R_shr _ _ | exact bit_R _ _ | exact xpls_R _ _ | exact xkept_R hW _ _ | exact xwait_R hW _ _ ) | (exact ⟨by omega, by omega⟩) | exact wf _ (by omega) (by omega) | exact wg _ (by omega) (by omega)) (by first | omega | assumption | (with_reducible first | exact hR _ | exact xwd_R hR _ _ | exact xch_R hR _ _ | exact am_R_and _ _ | exact am_R_or _ _ | exact am_R_xor _ _ | exact am_R_shl _ _ | exact am_R_shr _ _ | exact bit_R _ _ | exact xpls_R _ _ | exact xkept_R hW _ _ | exact xwait_R hW _ _ ) | (exact ⟨by omega, by omega⟩) | exact wf _ (by omega) (by omega) | exact wg _ (by omega) (by omega)) (by first | omega | assumption | (with_reducible first | exact hR _ | exact xwd_R hR _ _ | exact xch_R hR _ _ | exact am_R_and _ _ | exact am_R_or _ _ | exact am_R_xor _ _ | exact am_R_shl _ _ | exact am_R_shr _ _ | exact bit_R _ _ | exact xpls_R _ _ | exact xkept_R hW _ _ | exact xwait_R hW _ _ ) | (exact ⟨by omega, by omega⟩) | exact wf _ (by omega) (by omega) | exact wg _ (by omega) (by omega))) rfl rfl (Nat.le_of_ble_eq_true rfl) (Nat.le_of_ble_eq_true rfl) ?_
  exact sx_zret dX3_isChip_13 rfl (by first | decide | (split <;> simp)) rfl rfl
set_option maxHeartbeats 4000000 in
set_option maxRecDepth 100000 in
theorem tx_isWord {h0 : am_H} {X : am_M} {S : Nat → Int} (w : Int) (hW : WX S) (hc : am_R w) : Ct 1 Y3_isWord [.inr (7, 0), .inl w] (some (.inl (if 0 ≤ w ∧ w ≤ S 1 - 1 then 1 else 0))) (xh h0 X S) (xh h0 X S) := by
  refine Ct_of (by decide +kernel) (Nat.le_of_ble_eq_true rfl) ?_
  show Sx 1 Y3_isWord (xh h0 X S) (some (.inl (if 0 ≤ w ∧ w ≤ S 1 - 1 then 1 else 0))) 0 [some (.inr (7, 0)), some (.inl w)] [] (xh h0 X S)
  refine xs_vh (fun hR hRX => ?_)
  obtain ⟨w0, w1, wg, wf, wo⟩ := id hW
  refine sx_iload_n dX3_isWord_0 rfl ?_
  refine sx_iconst dX3_isWord_1 ?_
  refine sx_aload_n dX3_isWord_2 rfl ?_
  refine xs_getr (j := 1) dX3_isWord_3 fl_X3_7 (by decide) rfl ?_
  refine sx_iconst dX3_isWord_6 ?_
  refine xs_ild (n := 208) (m := 1) dX3_isWord_7 rfl (by decide) (by decide) (by decide) rfl (fun r7 => ?_)
  refine sx_iconst dX3_isWord_8 ?_
  refine sx_isub dX3_isWord_9 ?_
  refine sx_callSi dX3_isWord_10 ml_X3_32 ms3_in (tx_in _ _ _ (by first | omega | assumption | (with_reducible first | exact hR _ | exact xwd_R hR _ _ | exact xch_R hR _ _ | exact am_R_and _ _ | exact am_R_or _ _ | exact am_R_xor _ _ | exact am_R_shl _ _ | exact am_R_shr _ _ | exact bit_R _ _ | exact xpls_R _ _ | exact xkept_R hW _ _ | exact xwait_R hW _ _ ) | (exact ⟨by omega, by omega⟩) | exact wf _ (by omega) (by omega) | exact wg _ (by omega) (by omega)) (by first | omega | assumption | (with_reducible first | exact hR _ | exact xwd_R hR _ _ | exact xch_R hR _ _ | exact am_R_and _ _ | exact am_R_or _ _ | exact am_R_xor _ _ | exact am_R_shl _ _ | exact am_R_shr _ _ | exact bit_R _ _ | exact xpls_R _ _ | exact xkept_R hW _ _ | exact xwait_R hW _ _ ) | (exact ⟨by omega, by omega⟩) | exact wf _ (by omega) (by omega) | exact wg _ (by omega) (by omega)) (by first | omega | assumption | (with_reducible first | exact hR _ | exact xwd_R hR _ _ | exact xch_R hR _ _ | exact am_R_and _ _ | exact am_R_or _ _ | exact am_R_xor _ _ | exact am_R_shl _ _ | exact am_R_shr _ _ | exact bit_R _ _ | exact xpls_R _ _ | exact xkept_R hW _ _ | exact xwait_R hW _ _ ) | (exact ⟨by omega, by omega⟩) | exact wf _ (by omega) (by omega) | exact wg _ (by omega) (by omega))) rfl rfl (Nat.le_of_ble_eq_true rfl) (Nat.le_of_ble_eq_true rfl) ?_
  exact sx_zret dX3_isWord_13 rfl (by first | decide | (split <;> simp)) rfl rfl
set_option maxHeartbeats 4000000 in
set_option maxRecDepth 100000 in
theorem tx_lives {h0 : am_H} {X : am_M} {S : Nat → Int} (c : Int) (hc : 0 ≤ c ∧ c < 8)  : Ct 1 Y3_lives [.inr (7, 0), .inl c] (some (.inl (if xch S c 2 = 1 then 1 else 0))) (xh h0 X S) (xh h0 X S) := by
  refine Ct_of (by decide +kernel) (Nat.le_of_ble_eq_true rfl) ?_
  show Sx 1 Y3_lives (xh h0 X S) (some (.inl (if xch S c 2 = 1 then 1 else 0))) 0 [some (.inr (7, 0)), some (.inl c)] [] (xh h0 X S)
  refine xs_vh (fun hR hRX => ?_)
  refine sx_aload_n dX3_lives_0 rfl ?_
  refine sx_iload_n dX3_lives_1 rfl ?_
  refine sx_iconst dX3_lives_2 ?_
  refine sx_callVi dX3_lives_3 ml_X3_36 mv3_ch (tx_ch _ _ (by first | omega | assumption | (with_reducible first | exact hR _ | exact xwd_R hR _ _ | exact xch_R hR _ _ | exact am_R_and _ _ | exact am_R_or _ _ | exact am_R_xor _ _ | exact am_R_shl _ _ | exact am_R_shr _ _ | exact bit_R _ _ | exact xpls_R _ _ | exact xkept_R hW _ _ | exact xwait_R hW _ _ ) | (exact ⟨by omega, by omega⟩) | exact wf _ (by omega) (by omega) | exact wg _ (by omega) (by omega)) (by first | omega | assumption | (with_reducible first | exact hR _ | exact xwd_R hR _ _ | exact xch_R hR _ _ | exact am_R_and _ _ | exact am_R_or _ _ | exact am_R_xor _ _ | exact am_R_shl _ _ | exact am_R_shr _ _ | exact bit_R _ _ | exact xpls_R _ _ | exact xkept_R hW _ _ | exact xwait_R hW _ _ ) | (exact ⟨by omega, by omega⟩) | exact wf _ (by omega) (by omega) | exact wg _ (by omega) (by omega))) rfl am_obX rfl (Nat.le_of_ble_eq_true rfl) (Nat.le_of_ble_eq_true rfl) ?_
  refine sx_iconst dX3_lives_6 ?_
  refine sx_icmp_ne (tgt := 14) dX3_lives_7 (by decide) (by first | omega | assumption | (with_reducible first | exact hR _ | exact xwd_R hR _ _ | exact xch_R hR _ _ | exact am_R_and _ _ | exact am_R_or _ _ | exact am_R_xor _ _ | exact am_R_shl _ _ | exact am_R_shr _ _ | exact bit_R _ _ | exact xpls_R _ _ | exact xkept_R hW _ _ | exact xwait_R hW _ _ ) | (exact ⟨by omega, by omega⟩) | exact wf _ (by omega) (by omega) | exact wg _ (by omega) (by omega)) ⟨by decide, by decide⟩ (fun c7 => ?_) (fun c7 => ?_)
  · -- 7t
    refine sx_iconst dX3_lives_14 ?_
    exact sx_zret dX3_lives_15 rfl (by decide) (by first | rw [if_pos c7] | rw [if_neg c7]) rfl
  · -- 7f
    refine sx_iconst dX3_lives_10 ?_
    refine sx_goto (tgt := 15) dX3_lives_11 (by decide) ?_
    exact sx_zret dX3_lives_15 rfl (by decide) (by first | rw [if_pos c7] | rw [if_neg c7]) rfl
set_option maxHeartbeats 4000000 in
set_option maxRecDepth 100000 in
theorem tx_isGodfather {h0 : am_H} {X : am_M} {S : Nat → Int} (c : Int) (hW : WX S) (hc : 0 ≤ c ∧ c < 8) (hcr : am_R c) : Ct 1 Y3_isGodfather [.inr (7, 0), .inl c] (some (.inl (if xisg S c = true then 1 else 0))) (xh h0 X S) (xh h0 X S) := by
  refine Ct_of (by decide +kernel) (Nat.le_of_ble_eq_true rfl) ?_
  show Sx 1 Y3_isGodfather (xh h0 X S) (some (.inl (if xisg S c = true then 1 else 0))) 0 [some (.inr (7, 0)), some (.inl c)] [] (xh h0 X S)
  refine xs_vh (fun hR hRX => ?_)
  obtain ⟨w0, w1, wg, wf, wo⟩ := id hW
  refine sx_aload_n dX3_isGodfather_0 rfl ?_
  refine xs_getr (j := 1) dX3_isGodfather_1 fl_X3_7 (by decide) rfl ?_
  refine sx_iconst dX3_isGodfather_4 ?_
  refine sx_aload_n dX3_isGodfather_5 rfl ?_
  refine sx_iload_n dX3_isGodfather_6 rfl ?_
  refine sx_iconst dX3_isGodfather_7 ?_
  refine sx_callVi dX3_isGodfather_8 ml_X3_36 mv3_ch (tx_ch _ _ (by first | omega | assumption | (with_reducible first | exact hR _ | exact xwd_R hR _ _ | exact xch_R hR _ _ | exact am_R_and _ _ | exact am_R_or _ _ | exact am_R_xor _ _ | exact am_R_shl _ _ | exact am_R_shr _ _ | exact bit_R _ _ | exact xpls_R _ _ | exact xkept_R hW _ _ | exact xwait_R hW _ _ ) | (exact ⟨by omega, by omega⟩) | exact wf _ (by omega) (by omega) | exact wg _ (by omega) (by omega)) (by first | omega | assumption | (with_reducible first | exact hR _ | exact xwd_R hR _ _ | exact xch_R hR _ _ | exact am_R_and _ _ | exact am_R_or _ _ | exact am_R_xor _ _ | exact am_R_shl _ _ | exact am_R_shr _ _ | exact bit_R _ _ | exact xpls_R _ _ | exact xkept_R hW _ _ | exact xwait_R hW _ _ ) | (exact ⟨by omega, by omega⟩) | exact wf _ (by omega) (by omega) | exact wg _ (by omega) (by omega))) rfl am_obX rfl (Nat.le_of_ble_eq_true rfl) (Nat.le_of_ble_eq_true rfl) ?_
  have hf := wf c (by omega) (by omega)
  refine sx_iadd dX3_isGodfather_11 ?_
  refine xs_ild (n := 208) dX3_isGodfather_12 rfl (by decide) (by first | omega | assumption | (with_reducible first | exact hR _ | exact xwd_R hR _ _ | exact xch_R hR _ _ | exact am_R_and _ _ | exact am_R_or _ _ | exact am_R_xor _ _ | exact am_R_shl _ _ | exact am_R_shr _ _ | exact bit_R _ _ | exact xpls_R _ _ | exact xkept_R hW _ _ | exact xwait_R hW _ _ ) | (exact ⟨by omega, by omega⟩) | exact wf _ (by omega) (by omega) | exact wg _ (by omega) (by omega)) (by first | omega | assumption | (with_reducible first | exact hR _ | exact xwd_R hR _ _ | exact xch_R hR _ _ | exact am_R_and _ _ | exact am_R_or _ _ | exact am_R_xor _ _ | exact am_R_shl _ _ | exact am_R_shr _ _ | exact bit_R _ _ | exact xpls_R _ _ | exact xkept_R hW _ _ | exact xwait_R hW _ _ ) | (exact ⟨by omega, by omega⟩) | exact wf _ (by omega) (by omega) | exact wg _ (by omega) (by omega)) rfl (fun r12 => ?_)
  refine sx_iload_n dX3_isGodfather_13 rfl ?_
  refine sx_icmp_ne (tgt := 21) dX3_isGodfather_14 (by decide) (by first | omega | assumption | (with_reducible first | exact hR _ | exact xwd_R hR _ _ | exact xch_R hR _ _ | exact am_R_and _ _ | exact am_R_or _ _ | exact am_R_xor _ _ | exact am_R_shl _ _ | exact am_R_shr _ _ | exact bit_R _ _ | exact xpls_R _ _ | exact xkept_R hW _ _ | exact xwait_R hW _ _ ) | (exact ⟨by omega, by omega⟩) | exact wf _ (by omega) (by omega) | exact wg _ (by omega) (by omega)) (by first | omega | assumption | (with_reducible first | exact hR _ | exact xwd_R hR _ _ | exact xch_R hR _ _ | exact am_R_and _ _ | exact am_R_or _ _ | exact am_R_xor _ _ | exact am_R_shl _ _ | exact am_R_shr _ _ | exact bit_R _ _ | exact xpls_R _ _ | exact xkept_R hW _ _ | exact xwait_R hW _ _ ) | (exact ⟨by omega, by omega⟩) | exact wf _ (by omega) (by omega) | exact wg _ (by omega) (by omega)) (fun c14 => ?_) (fun c14 => ?_)
  · -- 14t
    refine sx_iconst dX3_isGodfather_21 ?_
    exact sx_zret dX3_isGodfather_22 rfl (by decide) (by simp [xisg, xgod, c14]) rfl
  · -- 14f
    refine sx_iconst dX3_isGodfather_17 ?_
    refine sx_goto (tgt := 22) dX3_isGodfather_18 (by decide) ?_
    exact sx_zret dX3_isGodfather_22 rfl (by decide) (by simp [xisg, xgod, c14]) rfl
set_option maxHeartbeats 4000000 in
set_option maxRecDepth 100000 in
theorem tx_isWhole {h0 : am_H} {X : am_M} {S : Nat → Int} (c row : Int) (hc : 0 ≤ c ∧ c < 8) (hr : 0 ≤ row ∧ row ≤ 5) : Ct 1 Y3_isWhole [.inr (7, 0), .inl c, .inl row] (some (.inl (if bit (xch S c 3) row = 0 then 1 else 0))) (xh h0 X S) (xh h0 X S) := by
  refine Ct_of (by decide +kernel) (Nat.le_of_ble_eq_true rfl) ?_
  show Sx 1 Y3_isWhole (xh h0 X S) (some (.inl (if bit (xch S c 3) row = 0 then 1 else 0))) 0 [some (.inr (7, 0)), some (.inl c), some (.inl row)] [] (xh h0 X S)
  refine xs_vh (fun hR hRX => ?_)
  refine sx_aload_n dX3_isWhole_0 rfl ?_
  refine sx_iload_n dX3_isWhole_1 rfl ?_
  refine sx_iconst dX3_isWhole_2 ?_
  refine sx_callVi dX3_isWhole_3 ml_X3_36 mv3_ch (tx_ch _ _ (by first | omega | assumption | (with_reducible first | exact hR _ | exact xwd_R hR _ _ | exact xch_R hR _ _ | exact am_R_and _ _ | exact am_R_or _ _ | exact am_R_xor _ _ | exact am_R_shl _ _ | exact am_R_shr _ _ | exact bit_R _ _ | exact xpls_R _ _ | exact xkept_R hW _ _ | exact xwait_R hW _ _ ) | (exact ⟨by omega, by omega⟩) | exact wf _ (by omega) (by omega) | exact wg _ (by omega) (by omega)) (by first | omega | assumption | (with_reducible first | exact hR _ | exact xwd_R hR _ _ | exact xch_R hR _ _ | exact am_R_and _ _ | exact am_R_or _ _ | exact am_R_xor _ _ | exact am_R_shl _ _ | exact am_R_shr _ _ | exact bit_R _ _ | exact xpls_R _ _ | exact xkept_R hW _ _ | exact xwait_R hW _ _ ) | (exact ⟨by omega, by omega⟩) | exact wf _ (by omega) (by omega) | exact wg _ (by omega) (by omega))) rfl am_obX rfl (Nat.le_of_ble_eq_true rfl) (Nat.le_of_ble_eq_true rfl) ?_
  refine sx_iload_n dX3_isWhole_6 rfl ?_
  refine sx_ishr dX3_isWhole_7 ?_
  refine sx_iconst dX3_isWhole_8 ?_
  refine sx_iand dX3_isWhole_9 ?_
  refine sx_if_ne (tgt := 17) dX3_isWhole_10 (by decide) (by first | omega | assumption | (with_reducible first | exact hR _ | exact xwd_R hR _ _ | exact xch_R hR _ _ | exact am_R_and _ _ | exact am_R_or _ _ | exact am_R_xor _ _ | exact am_R_shl _ _ | exact am_R_shr _ _ | exact bit_R _ _ | exact xpls_R _ _ | exact xkept_R hW _ _ | exact xwait_R hW _ _ ) | (exact ⟨by omega, by omega⟩) | exact wf _ (by omega) (by omega) | exact wg _ (by omega) (by omega)) (fun c10 => ?_) (fun c10 => ?_)
  · -- 10t
    refine sx_iconst dX3_isWhole_17 ?_
    exact sx_zret dX3_isWhole_18 rfl (by decide) (by simp [bit, c10]) rfl
  · -- 10f
    refine sx_iconst dX3_isWhole_13 ?_
    refine sx_goto (tgt := 18) dX3_isWhole_14 (by decide) ?_
    exact sx_zret dX3_isWhole_18 rfl (by decide) (by simp [bit, c10]) rfl
set_option maxHeartbeats 4000000 in
set_option maxRecDepth 100000 in
theorem tx_kept {h0 : am_H} {X : am_M} {S : Nat → Int} (c row : Int) (hW : WX S) (hc : am_R c) (hr : am_R row) : Ct 1 Y3_kept [.inr (7, 0), .inl c, .inl row] (some (.inl (xkept S c row))) (xh h0 X S) (xh h0 X S) := by
  refine Ct_of (by decide +kernel) (Nat.le_of_ble_eq_true rfl) ?_
  show Sx 1 Y3_kept (xh h0 X S) (some (.inl (xkept S c row))) 0 [some (.inr (7, 0)), some (.inl c), some (.inl row), none, none] [] (xh h0 X S)
  refine xs_vh (fun hR hRX => ?_)
  obtain ⟨w0, w1, wg, wf, wo⟩ := id hW
  refine sx_iconst dX3_kept_0 ?_
  refine sx_istore_n dX3_kept_1 (by decide) ?_
  refine sx_iconst dX3_kept_2 ?_
  refine sx_istore dX3_kept_3 (by decide) ?_
  have loop5 : ∀ (n : Nat) (fd : Int) (w : Nat), (S 1 - w).toNat = n → (w : Int) ≤ S 1 → fd = lastW (fun w => xwd S w 1 == 0 && xwd S w 2 == c && xwd S w 3 == row) w → Sx 1 Y3_kept (xh h0 X S) (some (.inl (xkept S c row))) 5 [some (.inr (7, 0)), some (.inl c), some (.inl row), some (.inl fd), some (.inl (w : Int))] [] (xh h0 X S) := by
    intro n
    induction n using Nat.strongRecOn with
    | _ n ih5 =>
      intro fd w hn hle hf
      refine sx_iload dX3_kept_5 rfl ?_
      refine sx_aload_n dX3_kept_7 rfl ?_
      refine xs_getr (j := 1) dX3_kept_8 fl_X3_7 (by decide) rfl ?_
      refine sx_iconst dX3_kept_11 ?_
      refine xs_ild (n := 208) (m := 1) dX3_kept_12 rfl (by decide) (by decide) (by decide) rfl (fun r12 => ?_)
      refine sx_icmp_ge (tgt := 61) dX3_kept_13 (by decide) (by first | omega | assumption | (with_reducible first | exact hR _ | exact xwd_R hR _ _ | exact xch_R hR _ _ | exact am_R_and _ _ | exact am_R_or _ _ | exact am_R_xor _ _ | exact am_R_shl _ _ | exact am_R_shr _ _ | exact bit_R _ _ | exact xpls_R _ _ | exact xkept_R hW _ _ | exact xwait_R hW _ _ ) | (exact ⟨by omega, by omega⟩) | exact wf _ (by omega) (by omega) | exact wg _ (by omega) (by omega)) (by first | omega | assumption | (with_reducible first | exact hR _ | exact xwd_R hR _ _ | exact xch_R hR _ _ | exact am_R_and _ _ | exact am_R_or _ _ | exact am_R_xor _ _ | exact am_R_shl _ _ | exact am_R_shr _ _ | exact bit_R _ _ | exact xpls_R _ _ | exact xkept_R hW _ _ | exact xwait_R hW _ _ ) | (exact ⟨by omega, by omega⟩) | exact wf _ (by omega) (by omega) | exact wg _ (by omega) (by omega)) (fun c13 => ?_) (fun c13 => ?_)
      · -- 13t
        refine sx_iload_n dX3_kept_61 rfl ?_
        exact sx_iret dX3_kept_62 rfl (by rw [hf, show w = (S 1).toNat by omega]; rfl) rfl
      · -- 13f
        refine sx_aload_n dX3_kept_16 rfl ?_
        refine sx_iload dX3_kept_17 rfl ?_
        refine sx_iconst dX3_kept_19 ?_
        refine sx_callVi dX3_kept_20 ml_X3_45 mv3_wd (tx_wd _ _ (by first | omega | assumption | (with_reducible first | exact hR _ | exact xwd_R hR _ _ | exact xch_R hR _ _ | exact am_R_and _ _ | exact am_R_or _ _ | exact am_R_xor _ _ | exact am_R_shl _ _ | exact am_R_shr _ _ | exact bit_R _ _ | exact xpls_R _ _ | exact xkept_R hW _ _ | exact xwait_R hW _ _ ) | (exact ⟨by omega, by omega⟩) | exact wf _ (by omega) (by omega) | exact wg _ (by omega) (by omega)) (by first | omega | assumption | (with_reducible first | exact hR _ | exact xwd_R hR _ _ | exact xch_R hR _ _ | exact am_R_and _ _ | exact am_R_or _ _ | exact am_R_xor _ _ | exact am_R_shl _ _ | exact am_R_shr _ _ | exact bit_R _ _ | exact xpls_R _ _ | exact xkept_R hW _ _ | exact xwait_R hW _ _ ) | (exact ⟨by omega, by omega⟩) | exact wf _ (by omega) (by omega) | exact wg _ (by omega) (by omega))) rfl am_obX rfl (Nat.le_of_ble_eq_true rfl) (Nat.le_of_ble_eq_true rfl) ?_
        refine sx_if_ne (tgt := 53) dX3_kept_23 (by decide) (by first | omega | assumption | (with_reducible first | exact hR _ | exact xwd_R hR _ _ | exact xch_R hR _ _ | exact am_R_and _ _ | exact am_R_or _ _ | exact am_R_xor _ _ | exact am_R_shl _ _ | exact am_R_shr _ _ | exact bit_R _ _ | exact xpls_R _ _ | exact xkept_R hW _ _ | exact xwait_R hW _ _ ) | (exact ⟨by omega, by omega⟩) | exact wf _ (by omega) (by omega) | exact wg _ (by omega) (by omega)) (fun c23 => ?_) (fun c23 => ?_)
        · -- 23t
          refine sx_iload_n dX3_kept_53 rfl ?_
          refine sx_istore_n dX3_kept_54 (by decide) ?_
          refine sx_iinc dX3_kept_55 rfl (by decide) ?_
          refine sx_goto (tgt := 5) dX3_kept_58 (by decide) ?_
          exact ih5 _ (by omega) _ (w + 1) rfl (by omega) (by simp [lastW, c13, c23, hf])
        · -- 23f
          refine sx_aload_n dX3_kept_26 rfl ?_
          refine sx_iload dX3_kept_27 rfl ?_
          refine sx_iconst dX3_kept_29 ?_
          refine sx_callVi dX3_kept_30 ml_X3_45 mv3_wd (tx_wd _ _ (by first | omega | assumption | (with_reducible first | exact hR _ | exact xwd_R hR _ _ | exact xch_R hR _ _ | exact am_R_and _ _ | exact am_R_or _ _ | exact am_R_xor _ _ | exact am_R_shl _ _ | exact am_R_shr _ _ | exact bit_R _ _ | exact xpls_R _ _ | exact xkept_R hW _ _ | exact xwait_R hW _ _ ) | (exact ⟨by omega, by omega⟩) | exact wf _ (by omega) (by omega) | exact wg _ (by omega) (by omega)) (by first | omega | assumption | (with_reducible first | exact hR _ | exact xwd_R hR _ _ | exact xch_R hR _ _ | exact am_R_and _ _ | exact am_R_or _ _ | exact am_R_xor _ _ | exact am_R_shl _ _ | exact am_R_shr _ _ | exact bit_R _ _ | exact xpls_R _ _ | exact xkept_R hW _ _ | exact xwait_R hW _ _ ) | (exact ⟨by omega, by omega⟩) | exact wf _ (by omega) (by omega) | exact wg _ (by omega) (by omega))) rfl am_obX rfl (Nat.le_of_ble_eq_true rfl) (Nat.le_of_ble_eq_true rfl) ?_
          refine sx_iload_n dX3_kept_33 rfl ?_
          refine sx_icmp_ne (tgt := 53) dX3_kept_34 (by decide) (by first | omega | assumption | (with_reducible first | exact hR _ | exact xwd_R hR _ _ | exact xch_R hR _ _ | exact am_R_and _ _ | exact am_R_or _ _ | exact am_R_xor _ _ | exact am_R_shl _ _ | exact am_R_shr _ _ | exact bit_R _ _ | exact xpls_R _ _ | exact xkept_R hW _ _ | exact xwait_R hW _ _ ) | (exact ⟨by omega, by omega⟩) | exact wf _ (by omega) (by omega) | exact wg _ (by omega) (by omega)) (by first | omega | assumption | (with_reducible first | exact hR _ | exact xwd_R hR _ _ | exact xch_R hR _ _ | exact am_R_and _ _ | exact am_R_or _ _ | exact am_R_xor _ _ | exact am_R_shl _ _ | exact am_R_shr _ _ | exact bit_R _ _ | exact xpls_R _ _ | exact xkept_R hW _ _ | exact xwait_R hW _ _ ) | (exact ⟨by omega, by omega⟩) | exact wf _ (by omega) (by omega) | exact wg _ (by omega) (by omega)) (fun c34 => ?_) (fun c34 => ?_)
          · -- 34t
            refine sx_iload_n dX3_kept_53 rfl ?_
            refine sx_istore_n dX3_kept_54 (by decide) ?_
            refine sx_iinc dX3_kept_55 rfl (by decide) ?_
            refine sx_goto (tgt := 5) dX3_kept_58 (by decide) ?_
            exact ih5 _ (by omega) _ (w + 1) rfl (by omega) (by simp [lastW, c13, c23, c34, hf])
          · -- 34f
            refine sx_aload_n dX3_kept_37 rfl ?_
            refine sx_iload dX3_kept_38 rfl ?_
            refine sx_iconst dX3_kept_40 ?_
            refine sx_callVi dX3_kept_41 ml_X3_45 mv3_wd (tx_wd _ _ (by first | omega | assumption | (with_reducible first | exact hR _ | exact xwd_R hR _ _ | exact xch_R hR _ _ | exact am_R_and _ _ | exact am_R_or _ _ | exact am_R_xor _ _ | exact am_R_shl _ _ | exact am_R_shr _ _ | exact bit_R _ _ | exact xpls_R _ _ | exact xkept_R hW _ _ | exact xwait_R hW _ _ ) | (exact ⟨by omega, by omega⟩) | exact wf _ (by omega) (by omega) | exact wg _ (by omega) (by omega)) (by first | omega | assumption | (with_reducible first | exact hR _ | exact xwd_R hR _ _ | exact xch_R hR _ _ | exact am_R_and _ _ | exact am_R_or _ _ | exact am_R_xor _ _ | exact am_R_shl _ _ | exact am_R_shr _ _ | exact bit_R _ _ | exact xpls_R _ _ | exact xkept_R hW _ _ | exact xwait_R hW _ _ ) | (exact ⟨by omega, by omega⟩) | exact wf _ (by omega) (by omega) | exact wg _ (by omega) (by omega))) rfl am_obX rfl (Nat.le_of_ble_eq_true rfl) (Nat.le_of_ble_eq_true rfl) ?_
            refine sx_iload_n dX3_kept_44 rfl ?_
            refine sx_icmp_ne (tgt := 53) dX3_kept_45 (by decide) (by first | omega | assumption | (with_reducible first | exact hR _ | exact xwd_R hR _ _ | exact xch_R hR _ _ | exact am_R_and _ _ | exact am_R_or _ _ | exact am_R_xor _ _ | exact am_R_shl _ _ | exact am_R_shr _ _ | exact bit_R _ _ | exact xpls_R _ _ | exact xkept_R hW _ _ | exact xwait_R hW _ _ ) | (exact ⟨by omega, by omega⟩) | exact wf _ (by omega) (by omega) | exact wg _ (by omega) (by omega)) (by first | omega | assumption | (with_reducible first | exact hR _ | exact xwd_R hR _ _ | exact xch_R hR _ _ | exact am_R_and _ _ | exact am_R_or _ _ | exact am_R_xor _ _ | exact am_R_shl _ _ | exact am_R_shr _ _ | exact bit_R _ _ | exact xpls_R _ _ | exact xkept_R hW _ _ | exact xwait_R hW _ _ ) | (exact ⟨by omega, by omega⟩) | exact wf _ (by omega) (by omega) | exact wg _ (by omega) (by omega)) (fun c45 => ?_) (fun c45 => ?_)
            · -- 45t
              refine sx_iload_n dX3_kept_53 rfl ?_
              refine sx_istore_n dX3_kept_54 (by decide) ?_
              refine sx_iinc dX3_kept_55 rfl (by decide) ?_
              refine sx_goto (tgt := 5) dX3_kept_58 (by decide) ?_
              exact ih5 _ (by omega) _ (w + 1) rfl (by omega) (by simp [lastW, c13, c23, c34, c45, hf])
            · -- 45f
              refine sx_iload dX3_kept_48 rfl ?_
              refine sx_goto (tgt := 54) dX3_kept_50 (by decide) ?_
              refine sx_istore_n dX3_kept_54 (by decide) ?_
              refine sx_iinc dX3_kept_55 rfl (by decide) ?_
              refine sx_goto (tgt := 5) dX3_kept_58 (by decide) ?_
              exact ih5 _ (by omega) _ (w + 1) rfl (by omega) (by simp [lastW, c13, c23, c34, c45, hf])
  exact loop5 _ _ 0 rfl (by omega) rfl
set_option maxHeartbeats 4000000 in
set_option maxRecDepth 100000 in
theorem tx_waiting {h0 : am_H} {X : am_M} {S : Nat → Int} (f row : Int) (hW : WX S) (hc : am_R f) (hr : am_R row) : Ct 1 Y3_waiting [.inr (7, 0), .inl f, .inl row] (some (.inl (xwait S f row))) (xh h0 X S) (xh h0 X S) := by
  refine Ct_of (by decide +kernel) (Nat.le_of_ble_eq_true rfl) ?_
  show Sx 1 Y3_waiting (xh h0 X S) (some (.inl (xwait S f row))) 0 [some (.inr (7, 0)), some (.inl f), some (.inl row), none, none] [] (xh h0 X S)
  refine xs_vh (fun hR hRX => ?_)
  obtain ⟨w0, w1, wg, wf, wo⟩ := id hW
  refine sx_iconst dX3_waiting_0 ?_
  refine sx_istore_n dX3_waiting_1 (by decide) ?_
  refine sx_iconst dX3_waiting_2 ?_
  refine sx_istore dX3_waiting_3 (by decide) ?_
  have loop5 : ∀ (n : Nat) (fd : Int) (w : Nat), (S 1 - w).toNat = n → (w : Int) ≤ S 1 → fd = lastW (fun w => xwd S w 1 == 1 && xwd S w 4 == f && xwd S w 3 == row) w → Sx 1 Y3_waiting (xh h0 X S) (some (.inl (xwait S f row))) 5 [some (.inr (7, 0)), some (.inl f), some (.inl row), some (.inl fd), some (.inl (w : Int))] [] (xh h0 X S) := by
    intro n
    induction n using Nat.strongRecOn with
    | _ n ih5 =>
      intro fd w hn hle hf
      refine sx_iload dX3_waiting_5 rfl ?_
      refine sx_aload_n dX3_waiting_7 rfl ?_
      refine xs_getr (j := 1) dX3_waiting_8 fl_X3_7 (by decide) rfl ?_
      refine sx_iconst dX3_waiting_11 ?_
      refine xs_ild (n := 208) (m := 1) dX3_waiting_12 rfl (by decide) (by decide) (by decide) rfl (fun r12 => ?_)
      refine sx_icmp_ge (tgt := 62) dX3_waiting_13 (by decide) (by first | omega | assumption | (with_reducible first | exact hR _ | exact xwd_R hR _ _ | exact xch_R hR _ _ | exact am_R_and _ _ | exact am_R_or _ _ | exact am_R_xor _ _ | exact am_R_shl _ _ | exact am_R_shr _ _ | exact bit_R _ _ | exact xpls_R _ _ | exact xkept_R hW _ _ | exact xwait_R hW _ _ ) | (exact ⟨by omega, by omega⟩) | exact wf _ (by omega) (by omega) | exact wg _ (by omega) (by omega)) (by first | omega | assumption | (with_reducible first | exact hR _ | exact xwd_R hR _ _ | exact xch_R hR _ _ | exact am_R_and _ _ | exact am_R_or _ _ | exact am_R_xor _ _ | exact am_R_shl _ _ | exact am_R_shr _ _ | exact bit_R _ _ | exact xpls_R _ _ | exact xkept_R hW _ _ | exact xwait_R hW _ _ ) | (exact ⟨by omega, by omega⟩) | exact wf _ (by omega) (by omega) | exact wg _ (by omega) (by omega)) (fun c13 => ?_) (fun c13 => ?_)
      · -- 13t
        refine sx_iload_n dX3_waiting_62 rfl ?_
        exact sx_iret dX3_waiting_63 rfl (by rw [hf, show w = (S 1).toNat by omega]; rfl) rfl
      · -- 13f
        refine sx_aload_n dX3_waiting_16 rfl ?_
        refine sx_iload dX3_waiting_17 rfl ?_
        refine sx_iconst dX3_waiting_19 ?_
        refine sx_callVi dX3_waiting_20 ml_X3_45 mv3_wd (tx_wd _ _ (by first | omega | assumption | (with_reducible first | exact hR _ | exact xwd_R hR _ _ | exact xch_R hR _ _ | exact am_R_and _ _ | exact am_R_or _ _ | exact am_R_xor _ _ | exact am_R_shl _ _ | exact am_R_shr _ _ | exact bit_R _ _ | exact xpls_R _ _ | exact xkept_R hW _ _ | exact xwait_R hW _ _ ) | (exact ⟨by omega, by omega⟩) | exact wf _ (by omega) (by omega) | exact wg _ (by omega) (by omega)) (by first | omega | assumption | (with_reducible first | exact hR _ | exact xwd_R hR _ _ | exact xch_R hR _ _ | exact am_R_and _ _ | exact am_R_or _ _ | exact am_R_xor _ _ | exact am_R_shl _ _ | exact am_R_shr _ _ | exact bit_R _ _ | exact xpls_R _ _ | exact xkept_R hW _ _ | exact xwait_R hW _ _ ) | (exact ⟨by omega, by omega⟩) | exact wf _ (by omega) (by omega) | exact wg _ (by omega) (by omega))) rfl am_obX rfl (Nat.le_of_ble_eq_true rfl) (Nat.le_of_ble_eq_true rfl) ?_
        refine sx_iconst dX3_waiting_23 ?_
        refine sx_icmp_ne (tgt := 54) dX3_waiting_24 (by decide) (by first | omega | assumption | (with_reducible first | exact hR _ | exact xwd_R hR _ _ | exact xch_R hR _ _ | exact am_R_and _ _ | exact am_R_or _ _ | exact am_R_xor _ _ | exact am_R_shl _ _ | exact am_R_shr _ _ | exact bit_R _ _ | exact xpls_R _ _ | exact xkept_R hW _ _ | exact xwait_R hW _ _ ) | (exact ⟨by omega, by omega⟩) | exact wf _ (by omega) (by omega) | exact wg _ (by omega) (by omega)) ⟨by decide, by decide⟩ (fun c24 => ?_) (fun c24 => ?_)
        · -- 24t
          refine sx_iload_n dX3_waiting_54 rfl ?_
          refine sx_istore_n dX3_waiting_55 (by decide) ?_
          refine sx_iinc dX3_waiting_56 rfl (by decide) ?_
          refine sx_goto (tgt := 5) dX3_waiting_59 (by decide) ?_
          exact ih5 _ (by omega) _ (w + 1) rfl (by omega) (by simp [lastW, c13, c24, hf])
        · -- 24f
          refine sx_aload_n dX3_waiting_27 rfl ?_
          refine sx_iload dX3_waiting_28 rfl ?_
          refine sx_iconst dX3_waiting_30 ?_
          refine sx_callVi dX3_waiting_31 ml_X3_45 mv3_wd (tx_wd _ _ (by first | omega | assumption | (with_reducible first | exact hR _ | exact xwd_R hR _ _ | exact xch_R hR _ _ | exact am_R_and _ _ | exact am_R_or _ _ | exact am_R_xor _ _ | exact am_R_shl _ _ | exact am_R_shr _ _ | exact bit_R _ _ | exact xpls_R _ _ | exact xkept_R hW _ _ | exact xwait_R hW _ _ ) | (exact ⟨by omega, by omega⟩) | exact wf _ (by omega) (by omega) | exact wg _ (by omega) (by omega)) (by first | omega | assumption | (with_reducible first | exact hR _ | exact xwd_R hR _ _ | exact xch_R hR _ _ | exact am_R_and _ _ | exact am_R_or _ _ | exact am_R_xor _ _ | exact am_R_shl _ _ | exact am_R_shr _ _ | exact bit_R _ _ | exact xpls_R _ _ | exact xkept_R hW _ _ | exact xwait_R hW _ _ ) | (exact ⟨by omega, by omega⟩) | exact wf _ (by omega) (by omega) | exact wg _ (by omega) (by omega))) rfl am_obX rfl (Nat.le_of_ble_eq_true rfl) (Nat.le_of_ble_eq_true rfl) ?_
          refine sx_iload_n dX3_waiting_34 rfl ?_
          refine sx_icmp_ne (tgt := 54) dX3_waiting_35 (by decide) (by first | omega | assumption | (with_reducible first | exact hR _ | exact xwd_R hR _ _ | exact xch_R hR _ _ | exact am_R_and _ _ | exact am_R_or _ _ | exact am_R_xor _ _ | exact am_R_shl _ _ | exact am_R_shr _ _ | exact bit_R _ _ | exact xpls_R _ _ | exact xkept_R hW _ _ | exact xwait_R hW _ _ ) | (exact ⟨by omega, by omega⟩) | exact wf _ (by omega) (by omega) | exact wg _ (by omega) (by omega)) (by first | omega | assumption | (with_reducible first | exact hR _ | exact xwd_R hR _ _ | exact xch_R hR _ _ | exact am_R_and _ _ | exact am_R_or _ _ | exact am_R_xor _ _ | exact am_R_shl _ _ | exact am_R_shr _ _ | exact bit_R _ _ | exact xpls_R _ _ | exact xkept_R hW _ _ | exact xwait_R hW _ _ ) | (exact ⟨by omega, by omega⟩) | exact wf _ (by omega) (by omega) | exact wg _ (by omega) (by omega)) (fun c35 => ?_) (fun c35 => ?_)
          · -- 35t
            refine sx_iload_n dX3_waiting_54 rfl ?_
            refine sx_istore_n dX3_waiting_55 (by decide) ?_
            refine sx_iinc dX3_waiting_56 rfl (by decide) ?_
            refine sx_goto (tgt := 5) dX3_waiting_59 (by decide) ?_
            exact ih5 _ (by omega) _ (w + 1) rfl (by omega) (by simp [lastW, c13, c24, c35, hf])
          · -- 35f
            refine sx_aload_n dX3_waiting_38 rfl ?_
            refine sx_iload dX3_waiting_39 rfl ?_
            refine sx_iconst dX3_waiting_41 ?_
            refine sx_callVi dX3_waiting_42 ml_X3_45 mv3_wd (tx_wd _ _ (by first | omega | assumption | (with_reducible first | exact hR _ | exact xwd_R hR _ _ | exact xch_R hR _ _ | exact am_R_and _ _ | exact am_R_or _ _ | exact am_R_xor _ _ | exact am_R_shl _ _ | exact am_R_shr _ _ | exact bit_R _ _ | exact xpls_R _ _ | exact xkept_R hW _ _ | exact xwait_R hW _ _ ) | (exact ⟨by omega, by omega⟩) | exact wf _ (by omega) (by omega) | exact wg _ (by omega) (by omega)) (by first | omega | assumption | (with_reducible first | exact hR _ | exact xwd_R hR _ _ | exact xch_R hR _ _ | exact am_R_and _ _ | exact am_R_or _ _ | exact am_R_xor _ _ | exact am_R_shl _ _ | exact am_R_shr _ _ | exact bit_R _ _ | exact xpls_R _ _ | exact xkept_R hW _ _ | exact xwait_R hW _ _ ) | (exact ⟨by omega, by omega⟩) | exact wf _ (by omega) (by omega) | exact wg _ (by omega) (by omega))) rfl am_obX rfl (Nat.le_of_ble_eq_true rfl) (Nat.le_of_ble_eq_true rfl) ?_
            refine sx_iload_n dX3_waiting_45 rfl ?_
            refine sx_icmp_ne (tgt := 54) dX3_waiting_46 (by decide) (by first | omega | assumption | (with_reducible first | exact hR _ | exact xwd_R hR _ _ | exact xch_R hR _ _ | exact am_R_and _ _ | exact am_R_or _ _ | exact am_R_xor _ _ | exact am_R_shl _ _ | exact am_R_shr _ _ | exact bit_R _ _ | exact xpls_R _ _ | exact xkept_R hW _ _ | exact xwait_R hW _ _ ) | (exact ⟨by omega, by omega⟩) | exact wf _ (by omega) (by omega) | exact wg _ (by omega) (by omega)) (by first | omega | assumption | (with_reducible first | exact hR _ | exact xwd_R hR _ _ | exact xch_R hR _ _ | exact am_R_and _ _ | exact am_R_or _ _ | exact am_R_xor _ _ | exact am_R_shl _ _ | exact am_R_shr _ _ | exact bit_R _ _ | exact xpls_R _ _ | exact xkept_R hW _ _ | exact xwait_R hW _ _ ) | (exact ⟨by omega, by omega⟩) | exact wf _ (by omega) (by omega) | exact wg _ (by omega) (by omega)) (fun c46 => ?_) (fun c46 => ?_)
            · -- 46t
              refine sx_iload_n dX3_waiting_54 rfl ?_
              refine sx_istore_n dX3_waiting_55 (by decide) ?_
              refine sx_iinc dX3_waiting_56 rfl (by decide) ?_
              refine sx_goto (tgt := 5) dX3_waiting_59 (by decide) ?_
              exact ih5 _ (by omega) _ (w + 1) rfl (by omega) (by simp [lastW, c13, c24, c35, c46, hf])
            · -- 46f
              refine sx_iload dX3_waiting_49 rfl ?_
              refine sx_goto (tgt := 55) dX3_waiting_51 (by decide) ?_
              refine sx_istore_n dX3_waiting_55 (by decide) ?_
              refine sx_iinc dX3_waiting_56 rfl (by decide) ?_
              refine sx_goto (tgt := 5) dX3_waiting_59 (by decide) ?_
              exact ih5 _ (by omega) _ (w + 1) rfl (by omega) (by simp [lastW, c13, c24, c35, c46, hf])
  exact loop5 _ _ 0 rfl (by omega) rfl
set_option maxHeartbeats 4000000 in
set_option maxRecDepth 100000 in
theorem tx_isGuarded {h0 : am_H} {X : am_M} {S : Nat → Int} (f row : Int) (hW : WX S) (hc : 0 ≤ f ∧ f ≤ 2) (hr : 0 ≤ row ∧ row ≤ 5) : Ct 2 Y3_isGuarded [.inr (7, 0), .inl f, .inl row] (some (.inl (if xgu S f row = true then 1 else 0))) (xh h0 X S) (xh h0 X S) := by
  refine Ct_of (by decide +kernel) (Nat.le_of_ble_eq_true rfl) ?_
  show Sx 2 Y3_isGuarded (xh h0 X S) (some (.inl (if xgu S f row = true then 1 else 0))) 0 [some (.inr (7, 0)), some (.inl f), some (.inl row), none] [] (xh h0 X S)
  refine xs_vh (fun hR hRX => ?_)
  obtain ⟨w0, w1, wg, wf, wo⟩ := id hW
  refine sx_aload_n dX3_isGuarded_0 rfl ?_
  refine xs_getr (j := 1) dX3_isGuarded_1 fl_X3_7 (by decide) rfl ?_
  refine sx_iconst dX3_isGuarded_4 ?_
  refine sx_iload_n dX3_isGuarded_5 rfl ?_
  refine sx_iadd dX3_isGuarded_6 ?_
  have hg := wg f (by omega) (by omega)
  unfold xgod at hg
  refine xs_ild (n := 208) dX3_isGuarded_7 rfl (by decide) (by first | omega | assumption | (with_reducible first | exact hR _ | exact xwd_R hR _ _ | exact xch_R hR _ _ | exact am_R_and _ _ | exact am_R_or _ _ | exact am_R_xor _ _ | exact am_R_shl _ _ | exact am_R_shr _ _ | exact bit_R _ _ | exact xpls_R _ _ | exact xkept_R hW _ _ | exact xwait_R hW _ _ ) | (exact ⟨by omega, by omega⟩) | exact wf _ (by omega) (by omega) | exact wg _ (by omega) (by omega)) (by first | omega | assumption | (with_reducible first | exact hR _ | exact xwd_R hR _ _ | exact xch_R hR _ _ | exact am_R_and _ _ | exact am_R_or _ _ | exact am_R_xor _ _ | exact am_R_shl _ _ | exact am_R_shr _ _ | exact bit_R _ _ | exact xpls_R _ _ | exact xkept_R hW _ _ | exact xwait_R hW _ _ ) | (exact ⟨by omega, by omega⟩) | exact wf _ (by omega) (by omega) | exact wg _ (by omega) (by omega)) rfl (fun r7 => ?_)
  refine sx_istore_n dX3_isGuarded_8 (by decide) ?_
  refine sx_iload_n dX3_isGuarded_9 rfl ?_
  refine sx_if_lt (tgt := 26) dX3_isGuarded_10 (by decide) (by first | omega | assumption | (with_reducible first | exact hR _ | exact xwd_R hR _ _ | exact xch_R hR _ _ | exact am_R_and _ _ | exact am_R_or _ _ | exact am_R_xor _ _ | exact am_R_shl _ _ | exact am_R_shr _ _ | exact bit_R _ _ | exact xpls_R _ _ | exact xkept_R hW _ _ | exact xwait_R hW _ _ ) | (exact ⟨by omega, by omega⟩) | exact wf _ (by omega) (by omega) | exact wg _ (by omega) (by omega)) (fun c10 => ?_) (fun c10 => ?_)
  · -- 10t
    refine sx_iconst dX3_isGuarded_26 ?_
    exact sx_zret dX3_isGuarded_27 rfl (by decide) (by first | (simp [xgu, xgod, c10]; done) | grind [xgu, xgod]) rfl
  · -- 10f
    refine sx_aload_n dX3_isGuarded_13 rfl ?_
    refine sx_iload_n dX3_isGuarded_14 rfl ?_
    refine sx_iload_n dX3_isGuarded_15 rfl ?_
    refine sx_callVi dX3_isGuarded_16 ml_X3_48 mv3_isWhole (tx_isWhole _ _ (by first | omega | assumption | (with_reducible first | exact hR _ | exact xwd_R hR _ _ | exact xch_R hR _ _ | exact am_R_and _ _ | exact am_R_or _ _ | exact am_R_xor _ _ | exact am_R_shl _ _ | exact am_R_shr _ _ | exact bit_R _ _ | exact xpls_R _ _ | exact xkept_R hW _ _ | exact xwait_R hW _ _ ) | (exact ⟨by omega, by omega⟩) | exact wf _ (by omega) (by omega) | exact wg _ (by omega) (by omega)) (by first | omega | assumption | (with_reducible first | exact hR _ | exact xwd_R hR _ _ | exact xch_R hR _ _ | exact am_R_and _ _ | exact am_R_or _ _ | exact am_R_xor _ _ | exact am_R_shl _ _ | exact am_R_shr _ _ | exact bit_R _ _ | exact xpls_R _ _ | exact xkept_R hW _ _ | exact xwait_R hW _ _ ) | (exact ⟨by omega, by omega⟩) | exact wf _ (by omega) (by omega) | exact wg _ (by omega) (by omega))) rfl am_obX rfl (Nat.le_of_ble_eq_true rfl) (Nat.le_of_ble_eq_true rfl) ?_
    refine sx_ifB_eq (tgt := 26) dX3_isGuarded_19 (by decide) (fun c19 => ?_) (fun c19 => ?_)
    · -- 19t
      refine sx_iconst dX3_isGuarded_26 ?_
      exact sx_zret dX3_isGuarded_27 rfl (by decide) (by first | (simp [xgu, xgod, c10, c19]; done) | grind [xgu, xgod]) rfl
    · -- 19f
      refine sx_iconst dX3_isGuarded_22 ?_
      refine sx_goto (tgt := 27) dX3_isGuarded_23 (by decide) ?_
      exact sx_zret dX3_isGuarded_27 rfl (by decide) (by first | (simp [xgu, xgod, c10, c19]; done) | grind [xgu, xgod]) rfl
set_option maxHeartbeats 4000000 in
set_option maxRecDepth 100000 in
theorem tx_isPlace {h0 : am_H} {X : am_M} {S : Nat → Int} (c row : Int) (hW : WX S) (hc : 0 ≤ c ∧ c < 8) (hr : 0 ≤ row ∧ row ≤ 5) : Ct 3 Y3_isPlace [.inr (7, 0), .inl c, .inl row] (some (.inl (if xpl S c row = true then 1 else 0))) (xh h0 X S) (xh h0 X S) := by
  refine Ct_of (by decide +kernel) (Nat.le_of_ble_eq_true rfl) ?_
  show Sx 3 Y3_isPlace (xh h0 X S) (some (.inl (if xpl S c row = true then 1 else 0))) 0 [some (.inr (7, 0)), some (.inl c), some (.inl row)] [] (xh h0 X S)
  refine xs_vh (fun hR hRX => ?_)
  obtain ⟨w0, w1, wg, wf, wo⟩ := id hW
  refine sx_aload_n dX3_isPlace_0 rfl ?_
  refine sx_iload_n dX3_isPlace_1 rfl ?_
  refine sx_callVi dX3_isPlace_2 ml_X3_52 mv3_lives (tx_lives _ (by first | omega | assumption | (with_reducible first | exact hR _ | exact xwd_R hR _ _ | exact xch_R hR _ _ | exact am_R_and _ _ | exact am_R_or _ _ | exact am_R_xor _ _ | exact am_R_shl _ _ | exact am_R_shr _ _ | exact bit_R _ _ | exact xpls_R _ _ | exact xkept_R hW _ _ | exact xwait_R hW _ _ ) | (exact ⟨by omega, by omega⟩) | exact wf _ (by omega) (by omega) | exact wg _ (by omega) (by omega))) rfl am_obX rfl (Nat.le_of_ble_eq_true rfl) (Nat.le_of_ble_eq_true rfl) ?_
  refine sx_ifB_eq (tgt := 52) dX3_isPlace_5 (by decide) (fun c5 => ?_) (fun c5 => ?_)
  · -- 5t
    refine sx_iconst dX3_isPlace_52 ?_
    exact sx_zret dX3_isPlace_53 rfl (by decide) (by first | (simp [xpl, c5]; done) | grind [xpl]) rfl
  · -- 5f
    refine sx_aload_n dX3_isPlace_8 rfl ?_
    refine sx_iload_n dX3_isPlace_9 rfl ?_
    refine sx_callVi dX3_isPlace_10 ml_X3_56 mv3_isGodfather (tx_isGodfather _ hW (by first | omega | assumption | (with_reducible first | exact hR _ | exact xwd_R hR _ _ | exact xch_R hR _ _ | exact am_R_and _ _ | exact am_R_or _ _ | exact am_R_xor _ _ | exact am_R_shl _ _ | exact am_R_shr _ _ | exact bit_R _ _ | exact xpls_R _ _ | exact xkept_R hW _ _ | exact xwait_R hW _ _ ) | (exact ⟨by omega, by omega⟩) | exact wf _ (by omega) (by omega) | exact wg _ (by omega) (by omega)) (by first | omega | assumption | (with_reducible first | exact hR _ | exact xwd_R hR _ _ | exact xch_R hR _ _ | exact am_R_and _ _ | exact am_R_or _ _ | exact am_R_xor _ _ | exact am_R_shl _ _ | exact am_R_shr _ _ | exact bit_R _ _ | exact xpls_R _ _ | exact xkept_R hW _ _ | exact xwait_R hW _ _ ) | (exact ⟨by omega, by omega⟩) | exact wf _ (by omega) (by omega) | exact wg _ (by omega) (by omega))) rfl am_obX rfl (Nat.le_of_ble_eq_true rfl) (Nat.le_of_ble_eq_true rfl) ?_
    refine sx_ifB_ne (tgt := 52) dX3_isPlace_13 (by decide) (fun c13 => ?_) (fun c13 => ?_)
    · -- 13t
      refine sx_iconst dX3_isPlace_52 ?_
      exact sx_zret dX3_isPlace_53 rfl (by decide) (by first | (simp [xpl, c5, c13]; done) | grind [xpl]) rfl
    · -- 13f
      refine sx_aload_n dX3_isPlace_16 rfl ?_
      refine sx_iload_n dX3_isPlace_17 rfl ?_
      refine sx_iload_n dX3_isPlace_18 rfl ?_
      refine sx_callVi dX3_isPlace_19 ml_X3_48 mv3_isWhole (tx_isWhole _ _ (by first | omega | assumption | (with_reducible first | exact hR _ | exact xwd_R hR _ _ | exact xch_R hR _ _ | exact am_R_and _ _ | exact am_R_or _ _ | exact am_R_xor _ _ | exact am_R_shl _ _ | exact am_R_shr _ _ | exact bit_R _ _ | exact xpls_R _ _ | exact xkept_R hW _ _ | exact xwait_R hW _ _ ) | (exact ⟨by omega, by omega⟩) | exact wf _ (by omega) (by omega) | exact wg _ (by omega) (by omega)) (by first | omega | assumption | (with_reducible first | exact hR _ | exact xwd_R hR _ _ | exact xch_R hR _ _ | exact am_R_and _ _ | exact am_R_or _ _ | exact am_R_xor _ _ | exact am_R_shl _ _ | exact am_R_shr _ _ | exact bit_R _ _ | exact xpls_R _ _ | exact xkept_R hW _ _ | exact xwait_R hW _ _ ) | (exact ⟨by omega, by omega⟩) | exact wf _ (by omega) (by omega) | exact wg _ (by omega) (by omega))) rfl am_obX rfl (Nat.le_of_ble_eq_true rfl) (Nat.le_of_ble_eq_true rfl) ?_
      refine sx_ifB_eq (tgt := 52) dX3_isPlace_22 (by decide) (fun c22 => ?_) (fun c22 => ?_)
      · -- 22t
        refine sx_iconst dX3_isPlace_52 ?_
        exact sx_zret dX3_isPlace_53 rfl (by decide) (by first | (simp [xpl, c5, c13, c22]; done) | grind [xpl]) rfl
      · -- 22f
        refine sx_aload_n dX3_isPlace_25 rfl ?_
        refine sx_iload_n dX3_isPlace_26 rfl ?_
        refine sx_iload_n dX3_isPlace_27 rfl ?_
        refine sx_callVi dX3_isPlace_28 ml_X3_59 mv3_kept (tx_kept _ _ hW (by first | omega | assumption | (with_reducible first | exact hR _ | exact xwd_R hR _ _ | exact xch_R hR _ _ | exact am_R_and _ _ | exact am_R_or _ _ | exact am_R_xor _ _ | exact am_R_shl _ _ | exact am_R_shr _ _ | exact bit_R _ _ | exact xpls_R _ _ | exact xkept_R hW _ _ | exact xwait_R hW _ _ ) | (exact ⟨by omega, by omega⟩) | exact wf _ (by omega) (by omega) | exact wg _ (by omega) (by omega)) (by first | omega | assumption | (with_reducible first | exact hR _ | exact xwd_R hR _ _ | exact xch_R hR _ _ | exact am_R_and _ _ | exact am_R_or _ _ | exact am_R_xor _ _ | exact am_R_shl _ _ | exact am_R_shr _ _ | exact bit_R _ _ | exact xpls_R _ _ | exact xkept_R hW _ _ | exact xwait_R hW _ _ ) | (exact ⟨by omega, by omega⟩) | exact wf _ (by omega) (by omega) | exact wg _ (by omega) (by omega))) rfl am_obX rfl (Nat.le_of_ble_eq_true rfl) (Nat.le_of_ble_eq_true rfl) ?_
        refine sx_if_ge (tgt := 52) dX3_isPlace_31 (by decide) (by first | omega | assumption | (with_reducible first | exact hR _ | exact xwd_R hR _ _ | exact xch_R hR _ _ | exact am_R_and _ _ | exact am_R_or _ _ | exact am_R_xor _ _ | exact am_R_shl _ _ | exact am_R_shr _ _ | exact bit_R _ _ | exact xpls_R _ _ | exact xkept_R hW _ _ | exact xwait_R hW _ _ ) | (exact ⟨by omega, by omega⟩) | exact wf _ (by omega) (by omega) | exact wg _ (by omega) (by omega)) (fun c31 => ?_) (fun c31 => ?_)
        · -- 31t
          refine sx_iconst dX3_isPlace_52 ?_
          exact sx_zret dX3_isPlace_53 rfl (by decide) (by first | (simp [xpl, c5, c13, c22, c31]; done) | grind [xpl]) rfl
        · -- 31f
          refine sx_aload_n dX3_isPlace_34 rfl ?_
          refine sx_aload_n dX3_isPlace_35 rfl ?_
          refine sx_iload_n dX3_isPlace_36 rfl ?_
          refine sx_iconst dX3_isPlace_37 ?_
          refine sx_callVi dX3_isPlace_38 ml_X3_36 mv3_ch (tx_ch _ _ (by first | omega | assumption | (with_reducible first | exact hR _ | exact xwd_R hR _ _ | exact xch_R hR _ _ | exact am_R_and _ _ | exact am_R_or _ _ | exact am_R_xor _ _ | exact am_R_shl _ _ | exact am_R_shr _ _ | exact bit_R _ _ | exact xpls_R _ _ | exact xkept_R hW _ _ | exact xwait_R hW _ _ ) | (exact ⟨by omega, by omega⟩) | exact wf _ (by omega) (by omega) | exact wg _ (by omega) (by omega)) (by first | omega | assumption | (with_reducible first | exact hR _ | exact xwd_R hR _ _ | exact xch_R hR _ _ | exact am_R_and _ _ | exact am_R_or _ _ | exact am_R_xor _ _ | exact am_R_shl _ _ | exact am_R_shr _ _ | exact bit_R _ _ | exact xpls_R _ _ | exact xkept_R hW _ _ | exact xwait_R hW _ _ ) | (exact ⟨by omega, by omega⟩) | exact wf _ (by omega) (by omega) | exact wg _ (by omega) (by omega))) rfl am_obX rfl (Nat.le_of_ble_eq_true rfl) (Nat.le_of_ble_eq_true rfl) ?_
          refine sx_iload_n dX3_isPlace_41 rfl ?_
          refine sx_callVi dX3_isPlace_42 ml_X3_62 mv3_waiting (tx_waiting _ _ hW (by first | omega | assumption | (with_reducible first | exact hR _ | exact xwd_R hR _ _ | exact xch_R hR _ _ | exact am_R_and _ _ | exact am_R_or _ _ | exact am_R_xor _ _ | exact am_R_shl _ _ | exact am_R_shr _ _ | exact bit_R _ _ | exact xpls_R _ _ | exact xkept_R hW _ _ | exact xwait_R hW _ _ ) | (exact ⟨by omega, by omega⟩) | exact wf _ (by omega) (by omega) | exact wg _ (by omega) (by omega)) (by first | omega | assumption | (with_reducible first | exact hR _ | exact xwd_R hR _ _ | exact xch_R hR _ _ | exact am_R_and _ _ | exact am_R_or _ _ | exact am_R_xor _ _ | exact am_R_shl _ _ | exact am_R_shr _ _ | exact bit_R _ _ | exact xpls_R _ _ | exact xkept_R hW _ _ | exact xwait_R hW _ _ ) | (exact ⟨by omega, by omega⟩) | exact wf _ (by omega) (by omega) | exact wg _ (by omega) (by omega))) rfl am_obX rfl (Nat.le_of_ble_eq_true rfl) (Nat.le_of_ble_eq_true rfl) ?_
          refine sx_if_ge (tgt := 52) dX3_isPlace_45 (by decide) (by first | omega | assumption | (with_reducible first | exact hR _ | exact xwd_R hR _ _ | exact xch_R hR _ _ | exact am_R_and _ _ | exact am_R_or _ _ | exact am_R_xor _ _ | exact am_R_shl _ _ | exact am_R_shr _ _ | exact bit_R _ _ | exact xpls_R _ _ | exact xkept_R hW _ _ | exact xwait_R hW _ _ ) | (exact ⟨by omega, by omega⟩) | exact wf _ (by omega) (by omega) | exact wg _ (by omega) (by omega)) (fun c45 => ?_) (fun c45 => ?_)
          · -- 45t
            refine sx_iconst dX3_isPlace_52 ?_
            exact sx_zret dX3_isPlace_53 rfl (by decide) (by first | (simp [xpl, c5, c13, c22, c31, c45]; done) | grind [xpl]) rfl
          · -- 45f
            refine sx_iconst dX3_isPlace_48 ?_
            refine sx_goto (tgt := 53) dX3_isPlace_49 (by decide) ?_
            exact sx_zret dX3_isPlace_53 rfl (by decide) (by first | (simp [xpl, c5, c13, c22, c31, c45]; done) | grind [xpl]) rfl
set_option maxHeartbeats 4000000 in
set_option maxRecDepth 100000 in
theorem tx_places {h0 : am_H} {X : am_M} {S : Nat → Int} (c : Int) (hW : WX S) (hc : 0 ≤ c ∧ c < 8)  : Ct 4 Y3_places [.inr (7, 0), .inl c] (some (.inl (xpls S c))) (xh h0 X S) (xh h0 X S) := by
  refine Ct_of (by decide +kernel) (Nat.le_of_ble_eq_true rfl) ?_
  show Sx 4 Y3_places (xh h0 X S) (some (.inl (xpls S c))) 0 [some (.inr (7, 0)), some (.inl c), none, none] [] (xh h0 X S)
  refine xs_vh (fun hR hRX => ?_)
  obtain ⟨w0, w1, wg, wf, wo⟩ := id hW
  refine sx_iconst dX3_places_0 ?_
  refine sx_istore_n dX3_places_1 (by decide) ?_
  refine sx_iconst dX3_places_2 ?_
  refine sx_istore_n dX3_places_3 (by decide) ?_
  have loop4 : ∀ (n : Nat) (nn : Int) (row : Nat), (6 - row) = n → row ≤ 6 → nn = cntW (fun r => xpl S c r) row → Sx 4 Y3_places (xh h0 X S) (some (.inl (xpls S c))) 4 [some (.inr (7, 0)), some (.inl c), some (.inl nn), some (.inl (row : Int))] [] (xh h0 X S) := by
    intro n
    induction n using Nat.strongRecOn with
    | _ n ih4 =>
      intro nn row hn hle hf
      refine sx_iload_n dX3_places_4 rfl ?_
      refine sx_bipush dX3_places_5 rfl ?_
      refine sx_icmp_ge (tgt := 33) dX3_places_7 (by decide) (by first | omega | assumption | (with_reducible first | exact hR _ | exact xwd_R hR _ _ | exact xch_R hR _ _ | exact am_R_and _ _ | exact am_R_or _ _ | exact am_R_xor _ _ | exact am_R_shl _ _ | exact am_R_shr _ _ | exact bit_R _ _ | exact xpls_R _ _ | exact xkept_R hW _ _ | exact xwait_R hW _ _ ) | (exact ⟨by omega, by omega⟩) | exact wf _ (by omega) (by omega) | exact wg _ (by omega) (by omega)) ⟨by decide, by decide⟩ (fun c7 => ?_) (fun c7 => ?_)
      · -- 7t
        refine sx_iload_n dX3_places_33 rfl ?_
        exact sx_iret dX3_places_34 rfl (by rw [hf, show row = 6 by omega]; rfl) rfl
      · -- 7f
        refine sx_iload_n dX3_places_10 rfl ?_
        refine sx_aload_n dX3_places_11 rfl ?_
        refine sx_iload_n dX3_places_12 rfl ?_
        refine sx_iload_n dX3_places_13 rfl ?_
        refine sx_callVi dX3_places_14 ml_X3_65 mv3_isPlace (tx_isPlace _ _ hW (by first | omega | assumption | (with_reducible first | exact hR _ | exact xwd_R hR _ _ | exact xch_R hR _ _ | exact am_R_and _ _ | exact am_R_or _ _ | exact am_R_xor _ _ | exact am_R_shl _ _ | exact am_R_shr _ _ | exact bit_R _ _ | exact xpls_R _ _ | exact xkept_R hW _ _ | exact xwait_R hW _ _ ) | (exact ⟨by omega, by omega⟩) | exact wf _ (by omega) (by omega) | exact wg _ (by omega) (by omega)) (by first | omega | assumption | (with_reducible first | exact hR _ | exact xwd_R hR _ _ | exact xch_R hR _ _ | exact am_R_and _ _ | exact am_R_or _ _ | exact am_R_xor _ _ | exact am_R_shl _ _ | exact am_R_shr _ _ | exact bit_R _ _ | exact xpls_R _ _ | exact xkept_R hW _ _ | exact xwait_R hW _ _ ) | (exact ⟨by omega, by omega⟩) | exact wf _ (by omega) (by omega) | exact wg _ (by omega) (by omega))) rfl am_obX rfl (Nat.le_of_ble_eq_true rfl) (Nat.le_of_ble_eq_true rfl) ?_
        refine sx_ifB_eq (tgt := 24) dX3_places_17 (by decide) (fun c17 => ?_) (fun c17 => ?_)
        · -- 17t
          refine sx_iconst dX3_places_24 ?_
          refine sx_iadd dX3_places_25 ?_
          refine sx_istore_n dX3_places_26 (by decide) ?_
          refine sx_iinc dX3_places_27 rfl (by decide) ?_
          refine sx_goto (tgt := 4) dX3_places_30 (by decide) ?_
          exact ih4 _ (by omega) _ (row + 1) rfl (by omega) (by simp [cntW, c7, c17, hf])
        · -- 17f
          refine sx_iconst dX3_places_20 ?_
          refine sx_goto (tgt := 25) dX3_places_21 (by decide) ?_
          refine sx_iadd dX3_places_25 ?_
          refine sx_istore_n dX3_places_26 (by decide) ?_
          refine sx_iinc dX3_places_27 rfl (by decide) ?_
          refine sx_goto (tgt := 4) dX3_places_30 (by decide) ?_
          exact ih4 _ (by omega) _ (row + 1) rfl (by omega) (by simp [cntW, c7, c17, hf])
  exact loop4 _ _ 0 rfl (by omega) rfl
set_option maxHeartbeats 4000000 in
set_option maxRecDepth 100000 in
theorem tx_lowest {h0 : am_H} {X : am_M} {S : Nat → Int} (c : Int) (hW : WX S) (hc : 0 ≤ c ∧ c < 8) (hex : xlow S c < 6) : Ct 4 Y3_lowest [.inr (7, 0), .inl c] (some (.inl (xlow S c))) (xh h0 X S) (xh h0 X S) := by
  refine Ct_of (by decide +kernel) (Nat.le_of_ble_eq_true rfl) ?_
  show Sx 4 Y3_lowest (xh h0 X S) (some (.inl (xlow S c))) 0 [some (.inr (7, 0)), some (.inl c), none] [] (xh h0 X S)
  refine xs_vh (fun hR hRX => ?_)
  obtain ⟨w0, w1, wg, wf, wo⟩ := id hW
  refine sx_iconst dX3_lowest_0 ?_
  refine sx_istore_n dX3_lowest_1 (by decide) ?_
  have loop2 : ∀ (n : Nat) (row : Nat), (6 - row) = n → row ≤ 6 → xlow S c = fstW (fun r => xpl S c r) row (6 - row) → xlow S c < 6 → Sx 4 Y3_lowest (xh h0 X S) (some (.inl (xlow S c))) 2 [some (.inr (7, 0)), some (.inl c), some (.inl (row : Int))] [] (xh h0 X S) := by
    intro n
    induction n using Nat.strongRecOn with
    | _ n ih2 =>
      intro row hn hle hf hlt
      have hr6 : row < 6 := by
        rcases Nat.lt_or_ge row 6 with q | q
        · exact q
        · rw [show row = 6 by omega] at hf; have hf : xlow S c = 6 := hf; omega
      refine sx_aload_n dX3_lowest_2 rfl ?_
      refine sx_iload_n dX3_lowest_3 rfl ?_
      refine sx_iload_n dX3_lowest_4 rfl ?_
      refine sx_callVi dX3_lowest_5 ml_X3_65 mv3_isPlace (tx_isPlace _ _ hW (by first | omega | assumption | (with_reducible first | exact hR _ | exact xwd_R hR _ _ | exact xch_R hR _ _ | exact am_R_and _ _ | exact am_R_or _ _ | exact am_R_xor _ _ | exact am_R_shl _ _ | exact am_R_shr _ _ | exact bit_R _ _ | exact xpls_R _ _ | exact xkept_R hW _ _ | exact xwait_R hW _ _ ) | (exact ⟨by omega, by omega⟩) | exact wf _ (by omega) (by omega) | exact wg _ (by omega) (by omega)) (by first | omega | assumption | (with_reducible first | exact hR _ | exact xwd_R hR _ _ | exact xch_R hR _ _ | exact am_R_and _ _ | exact am_R_or _ _ | exact am_R_xor _ _ | exact am_R_shl _ _ | exact am_R_shr _ _ | exact bit_R _ _ | exact xpls_R _ _ | exact xkept_R hW _ _ | exact xwait_R hW _ _ ) | (exact ⟨by omega, by omega⟩) | exact wf _ (by omega) (by omega) | exact wg _ (by omega) (by omega))) rfl am_obX rfl (Nat.le_of_ble_eq_true rfl) (Nat.le_of_ble_eq_true rfl) ?_
      refine sx_ifB_ne (tgt := 17) dX3_lowest_8 (by decide) (fun c8 => ?_) (fun c8 => ?_)
      · -- 8t
        refine sx_iload_n dX3_lowest_17 rfl ?_
        exact sx_iret dX3_lowest_18 rfl (by rw [hf, show 6 - row = (6 - (row + 1)) + 1 by omega]; simp [fstW, c8]) rfl
      · -- 8f
        refine sx_iinc dX3_lowest_11 rfl (by decide) ?_
        refine sx_goto (tgt := 2) dX3_lowest_14 (by decide) ?_
        exact ih2 _ (by omega) (row + 1) rfl (by omega) (by rw [hf, show 6 - row = (6 - (row + 1)) + 1 by omega]; simp [fstW, c8]) hlt
  exact loop2 _ 0 rfl (by omega) rfl hex
set_option maxHeartbeats 4000000 in
set_option maxRecDepth 100000 in
theorem tx_lost {h0 : am_H} {X : am_M} {S : Nat → Int} (hW : WX S)  : Ct 1 Y3_lost [.inr (7, 0)] (some (.inl (xlost S))) (xh h0 X S) (xh h0 X S) := by
  refine Ct_of (by decide +kernel) (Nat.le_of_ble_eq_true rfl) ?_
  show Sx 1 Y3_lost (xh h0 X S) (some (.inl (xlost S))) 0 [some (.inr (7, 0)), none, none] [] (xh h0 X S)
  refine xs_vh (fun hR hRX => ?_)
  obtain ⟨w0, w1, wg, wf, wo⟩ := id hW
  refine sx_iconst dX3_lost_0 ?_
  refine sx_istore_n dX3_lost_1 (by decide) ?_
  refine sx_iconst dX3_lost_2 ?_
  refine sx_istore_n dX3_lost_3 (by decide) ?_
  have loop4 : ∀ (n : Nat) (nn : Int) (w : Nat), (S 1 - w).toNat = n → (w : Int) ≤ S 1 → nn = cntW (fun w => xwd S w 1 == 2) w → Sx 1 Y3_lost (xh h0 X S) (some (.inl (xlost S))) 4 [some (.inr (7, 0)), some (.inl nn), some (.inl (w : Int))] [] (xh h0 X S) := by
    intro n
    induction n using Nat.strongRecOn with
    | _ n ih4 =>
      intro nn w hn hle hf
      refine sx_iload_n dX3_lost_4 rfl ?_
      refine sx_aload_n dX3_lost_5 rfl ?_
      refine xs_getr (j := 1) dX3_lost_6 fl_X3_7 (by decide) rfl ?_
      refine sx_iconst dX3_lost_9 ?_
      refine xs_ild (n := 208) (m := 1) dX3_lost_10 rfl (by decide) (by decide) (by decide) rfl (fun r10 => ?_)
      refine sx_icmp_ge (tgt := 38) dX3_lost_11 (by decide) (by first | omega | assumption | (with_reducible first | exact hR _ | exact xwd_R hR _ _ | exact xch_R hR _ _ | exact am_R_and _ _ | exact am_R_or _ _ | exact am_R_xor _ _ | exact am_R_shl _ _ | exact am_R_shr _ _ | exact bit_R _ _ | exact xpls_R _ _ | exact xkept_R hW _ _ | exact xwait_R hW _ _ ) | (exact ⟨by omega, by omega⟩) | exact wf _ (by omega) (by omega) | exact wg _ (by omega) (by omega)) (by first | omega | assumption | (with_reducible first | exact hR _ | exact xwd_R hR _ _ | exact xch_R hR _ _ | exact am_R_and _ _ | exact am_R_or _ _ | exact am_R_xor _ _ | exact am_R_shl _ _ | exact am_R_shr _ _ | exact bit_R _ _ | exact xpls_R _ _ | exact xkept_R hW _ _ | exact xwait_R hW _ _ ) | (exact ⟨by omega, by omega⟩) | exact wf _ (by omega) (by omega) | exact wg _ (by omega) (by omega)) (fun c11 => ?_) (fun c11 => ?_)
      · -- 11t
        refine sx_iload_n dX3_lost_38 rfl ?_
        exact sx_iret dX3_lost_39 rfl (by rw [hf, show w = (S 1).toNat by omega]; rfl) rfl
      · -- 11f
        refine sx_iload_n dX3_lost_14 rfl ?_
        refine sx_aload_n dX3_lost_15 rfl ?_
        refine sx_iload_n dX3_lost_16 rfl ?_
        refine sx_iconst dX3_lost_17 ?_
        refine sx_callVi dX3_lost_18 ml_X3_45 mv3_wd (tx_wd _ _ (by first | omega | assumption | (with_reducible first | exact hR _ | exact xwd_R hR _ _ | exact xch_R hR _ _ | exact am_R_and _ _ | exact am_R_or _ _ | exact am_R_xor _ _ | exact am_R_shl _ _ | exact am_R_shr _ _ | exact bit_R _ _ | exact xpls_R _ _ | exact xkept_R hW _ _ | exact xwait_R hW _ _ ) | (exact ⟨by omega, by omega⟩) | exact wf _ (by omega) (by omega) | exact wg _ (by omega) (by omega)) (by first | omega | assumption | (with_reducible first | exact hR _ | exact xwd_R hR _ _ | exact xch_R hR _ _ | exact am_R_and _ _ | exact am_R_or _ _ | exact am_R_xor _ _ | exact am_R_shl _ _ | exact am_R_shr _ _ | exact bit_R _ _ | exact xpls_R _ _ | exact xkept_R hW _ _ | exact xwait_R hW _ _ ) | (exact ⟨by omega, by omega⟩) | exact wf _ (by omega) (by omega) | exact wg _ (by omega) (by omega))) rfl am_obX rfl (Nat.le_of_ble_eq_true rfl) (Nat.le_of_ble_eq_true rfl) ?_
        refine sx_iconst dX3_lost_21 ?_
        refine sx_icmp_ne (tgt := 29) dX3_lost_22 (by decide) (by first | omega | assumption | (with_reducible first | exact hR _ | exact xwd_R hR _ _ | exact xch_R hR _ _ | exact am_R_and _ _ | exact am_R_or _ _ | exact am_R_xor _ _ | exact am_R_shl _ _ | exact am_R_shr _ _ | exact bit_R _ _ | exact xpls_R _ _ | exact xkept_R hW _ _ | exact xwait_R hW _ _ ) | (exact ⟨by omega, by omega⟩) | exact wf _ (by omega) (by omega) | exact wg _ (by omega) (by omega)) ⟨by decide, by decide⟩ (fun c22 => ?_) (fun c22 => ?_)
        · -- 22t
          refine sx_iconst dX3_lost_29 ?_
          refine sx_iadd dX3_lost_30 ?_
          refine sx_istore_n dX3_lost_31 (by decide) ?_
          refine sx_iinc dX3_lost_32 rfl (by decide) ?_
          refine sx_goto (tgt := 4) dX3_lost_35 (by decide) ?_
          exact ih4 _ (by omega) _ (w + 1) rfl (by omega) (by simp [cntW, c11, c22, hf])
        · -- 22f
          refine sx_iconst dX3_lost_25 ?_
          refine sx_goto (tgt := 30) dX3_lost_26 (by decide) ?_
          refine sx_iadd dX3_lost_30 ?_
          refine sx_istore_n dX3_lost_31 (by decide) ?_
          refine sx_iinc dX3_lost_32 rfl (by decide) ?_
          refine sx_goto (tgt := 4) dX3_lost_35 (by decide) ?_
          exact ih4 _ (by omega) _ (w + 1) rfl (by omega) (by simp [cntW, c11, c22, hf])
  exact loop4 _ _ 0 rfl (by omega) rfl
set_option maxHeartbeats 4000000 in
set_option maxRecDepth 100000 in
theorem tx_words {h0 : am_H} {X : am_M} {S : Nat → Int} (c : Int) (hW : WX S) (hc : 0 ≤ c ∧ c < 8)  : Ct 2 Y3_words [.inr (7, 0), .inl c] (some (.inl (xwords S c))) (xh h0 X S) (xh h0 X S) := by
  refine Ct_of (by decide +kernel) (Nat.le_of_ble_eq_true rfl) ?_
  show Sx 2 Y3_words (xh h0 X S) (some (.inl (xwords S c))) 0 [some (.inr (7, 0)), some (.inl c), none, none] [] (xh h0 X S)
  refine xs_vh (fun hR hRX => ?_)
  obtain ⟨w0, w1, wg, wf, wo⟩ := id hW
  refine sx_iconst dX3_words_0 ?_
  refine sx_istore_n dX3_words_1 (by decide) ?_
  refine sx_iconst dX3_words_2 ?_
  refine sx_istore_n dX3_words_3 (by decide) ?_
  have loop4 : ∀ (n : Nat) (nn : Int) (row : Nat), (6 - row) = n → row ≤ 6 → nn = cntW (fun r => decide (0 ≤ xkept S c r)) row → Sx 2 Y3_words (xh h0 X S) (some (.inl (xwords S c))) 4 [some (.inr (7, 0)), some (.inl c), some (.inl nn), some (.inl (row : Int))] [] (xh h0 X S) := by
    intro n
    induction n using Nat.strongRecOn with
    | _ n ih4 =>
      intro nn row hn hle hf
      refine sx_iload_n dX3_words_4 rfl ?_
      refine sx_bipush dX3_words_5 rfl ?_
      refine sx_icmp_ge (tgt := 33) dX3_words_7 (by decide) (by first | omega | assumption | (with_reducible first | exact hR _ | exact xwd_R hR _ _ | exact xch_R hR _ _ | exact am_R_and _ _ | exact am_R_or _ _ | exact am_R_xor _ _ | exact am_R_shl _ _ | exact am_R_shr _ _ | exact bit_R _ _ | exact xpls_R _ _ | exact xkept_R hW _ _ | exact xwait_R hW _ _ ) | (exact ⟨by omega, by omega⟩) | exact wf _ (by omega) (by omega) | exact wg _ (by omega) (by omega)) ⟨by decide, by decide⟩ (fun c7 => ?_) (fun c7 => ?_)
      · -- 7t
        refine sx_iload_n dX3_words_33 rfl ?_
        exact sx_iret dX3_words_34 rfl (by rw [hf, show row = 6 by omega]; rfl) rfl
      · -- 7f
        refine sx_iload_n dX3_words_10 rfl ?_
        refine sx_aload_n dX3_words_11 rfl ?_
        refine sx_iload_n dX3_words_12 rfl ?_
        refine sx_iload_n dX3_words_13 rfl ?_
        refine sx_callVi dX3_words_14 ml_X3_59 mv3_kept (tx_kept _ _ hW (by first | omega | assumption | (with_reducible first | exact hR _ | exact xwd_R hR _ _ | exact xch_R hR _ _ | exact am_R_and _ _ | exact am_R_or _ _ | exact am_R_xor _ _ | exact am_R_shl _ _ | exact am_R_shr _ _ | exact bit_R _ _ | exact xpls_R _ _ | exact xkept_R hW _ _ | exact xwait_R hW _ _ ) | (exact ⟨by omega, by omega⟩) | exact wf _ (by omega) (by omega) | exact wg _ (by omega) (by omega)) (by first | omega | assumption | (with_reducible first | exact hR _ | exact xwd_R hR _ _ | exact xch_R hR _ _ | exact am_R_and _ _ | exact am_R_or _ _ | exact am_R_xor _ _ | exact am_R_shl _ _ | exact am_R_shr _ _ | exact bit_R _ _ | exact xpls_R _ _ | exact xkept_R hW _ _ | exact xwait_R hW _ _ ) | (exact ⟨by omega, by omega⟩) | exact wf _ (by omega) (by omega) | exact wg _ (by omega) (by omega))) rfl am_obX rfl (Nat.le_of_ble_eq_true rfl) (Nat.le_of_ble_eq_true rfl) ?_
        refine sx_if_ge (tgt := 24) dX3_words_17 (by decide) (by first | omega | assumption | (with_reducible first | exact hR _ | exact xwd_R hR _ _ | exact xch_R hR _ _ | exact am_R_and _ _ | exact am_R_or _ _ | exact am_R_xor _ _ | exact am_R_shl _ _ | exact am_R_shr _ _ | exact bit_R _ _ | exact xpls_R _ _ | exact xkept_R hW _ _ | exact xwait_R hW _ _ ) | (exact ⟨by omega, by omega⟩) | exact wf _ (by omega) (by omega) | exact wg _ (by omega) (by omega)) (fun c17 => ?_) (fun c17 => ?_)
        · -- 17t
          refine sx_iconst dX3_words_24 ?_
          refine sx_iadd dX3_words_25 ?_
          refine sx_istore_n dX3_words_26 (by decide) ?_
          refine sx_iinc dX3_words_27 rfl (by decide) ?_
          refine sx_goto (tgt := 4) dX3_words_30 (by decide) ?_
          exact ih4 _ (by omega) _ (row + 1) rfl (by omega) (by simp [cntW, hf]; omega)
        · -- 17f
          refine sx_iconst dX3_words_20 ?_
          refine sx_goto (tgt := 25) dX3_words_21 (by decide) ?_
          refine sx_iadd dX3_words_25 ?_
          refine sx_istore_n dX3_words_26 (by decide) ?_
          refine sx_iinc dX3_words_27 rfl (by decide) ?_
          refine sx_goto (tgt := 4) dX3_words_30 (by decide) ?_
          exact ih4 _ (by omega) _ (row + 1) rfl (by omega) (by simp [cntW, hf]; omega)
  exact loop4 _ _ 0 rfl (by omega) rfl
set_option maxHeartbeats 4000000 in
set_option maxRecDepth 100000 in
theorem tx_guarded {h0 : am_H} {X : am_M} {S : Nat → Int} (f : Int) (hW : WX S) (hc : 0 ≤ f ∧ f ≤ 2) : Ct 3 Y3_guarded [.inr (7, 0), .inl f] (some (.inl (xgd S f))) (xh h0 X S) (xh h0 X S) := by
  refine Ct_of (by decide +kernel) (Nat.le_of_ble_eq_true rfl) ?_
  show Sx 3 Y3_guarded (xh h0 X S) (some (.inl (xgd S f))) 0 [some (.inr (7, 0)), some (.inl f), none, none] [] (xh h0 X S)
  refine xs_vh (fun hR hRX => ?_)
  obtain ⟨w0, w1, wg, wf, wo⟩ := id hW
  refine sx_iconst dX3_guarded_0 ?_
  refine sx_istore_n dX3_guarded_1 (by decide) ?_
  refine sx_iconst dX3_guarded_2 ?_
  refine sx_istore_n dX3_guarded_3 (by decide) ?_
  have loop4 : ∀ (n : Nat) (nn : Int) (row : Nat), (6 - row) = n → row ≤ 6 → nn = orW (fun r => xgu S f r) row → Sx 3 Y3_guarded (xh h0 X S) (some (.inl (xgd S f))) 4 [some (.inr (7, 0)), some (.inl f), some (.inl nn), some (.inl (row : Int))] [] (xh h0 X S) := by
    intro n
    induction n using Nat.strongRecOn with
    | _ n ih4 =>
      intro nn row hn hle hf
      refine sx_iload_n dX3_guarded_4 rfl ?_
      refine sx_bipush dX3_guarded_5 rfl ?_
      refine sx_icmp_ge (tgt := 35) dX3_guarded_7 (by decide) (by first | omega | assumption | (with_reducible first | exact hR _ | exact xwd_R hR _ _ | exact xch_R hR _ _ | exact am_R_and _ _ | exact am_R_or _ _ | exact am_R_xor _ _ | exact am_R_shl _ _ | exact am_R_shr _ _ | exact bit_R _ _ | exact xpls_R _ _ | exact xkept_R hW _ _ | exact xwait_R hW _ _ ) | (exact ⟨by omega, by omega⟩) | exact wf _ (by omega) (by omega) | exact wg _ (by omega) (by omega)) ⟨by decide, by decide⟩ (fun c7 => ?_) (fun c7 => ?_)
      · -- 7t
        refine sx_iload_n dX3_guarded_35 rfl ?_
        exact sx_iret dX3_guarded_36 rfl (by rw [hf, show row = 6 by omega]; rfl) rfl
      · -- 7f
        refine sx_iload_n dX3_guarded_10 rfl ?_
        refine sx_aload_n dX3_guarded_11 rfl ?_
        refine sx_iload_n dX3_guarded_12 rfl ?_
        refine sx_iload_n dX3_guarded_13 rfl ?_
        refine sx_callVi dX3_guarded_14 ml_X3_76 mv3_isGuarded (tx_isGuarded _ _ hW (by first | omega | assumption | (with_reducible first | exact hR _ | exact xwd_R hR _ _ | exact xch_R hR _ _ | exact am_R_and _ _ | exact am_R_or _ _ | exact am_R_xor _ _ | exact am_R_shl _ _ | exact am_R_shr _ _ | exact bit_R _ _ | exact xpls_R _ _ | exact xkept_R hW _ _ | exact xwait_R hW _ _ ) | (exact ⟨by omega, by omega⟩) | exact wf _ (by omega) (by omega) | exact wg _ (by omega) (by omega)) (by first | omega | assumption | (with_reducible first | exact hR _ | exact xwd_R hR _ _ | exact xch_R hR _ _ | exact am_R_and _ _ | exact am_R_or _ _ | exact am_R_xor _ _ | exact am_R_shl _ _ | exact am_R_shr _ _ | exact bit_R _ _ | exact xpls_R _ _ | exact xkept_R hW _ _ | exact xwait_R hW _ _ ) | (exact ⟨by omega, by omega⟩) | exact wf _ (by omega) (by omega) | exact wg _ (by omega) (by omega))) rfl am_obX rfl (Nat.le_of_ble_eq_true rfl) (Nat.le_of_ble_eq_true rfl) ?_
        refine sx_ifB_eq (tgt := 26) dX3_guarded_17 (by decide) (fun c17 => ?_) (fun c17 => ?_)
        · -- 17t
          refine sx_iconst dX3_guarded_26 ?_
          refine sx_ior dX3_guarded_27 ?_
          refine sx_istore_n dX3_guarded_28 (by decide) ?_
          refine sx_iinc dX3_guarded_29 rfl (by decide) ?_
          refine sx_goto (tgt := 4) dX3_guarded_32 (by decide) ?_
          exact ih4 _ (by omega) _ (row + 1) rfl (by omega) (by simp [orW, c7, c17, hf])
        · -- 17f
          refine sx_iconst dX3_guarded_20 ?_
          refine sx_iload_n dX3_guarded_21 rfl ?_
          refine sx_ishl dX3_guarded_22 ?_
          refine sx_goto (tgt := 27) dX3_guarded_23 (by decide) ?_
          refine sx_ior dX3_guarded_27 ?_
          refine sx_istore_n dX3_guarded_28 (by decide) ?_
          refine sx_iinc dX3_guarded_29 rfl (by decide) ?_
          refine sx_goto (tgt := 4) dX3_guarded_32 (by decide) ?_
          exact ih4 _ (by omega) _ (row + 1) rfl (by omega) (by simp [orW, c7, c17, hf])
  exact loop4 _ _ 0 rfl (by omega) rfl
set_option maxHeartbeats 4000000 in
set_option maxRecDepth 100000 in
theorem tx_ones {h : am_H} (b : Int) : Ct 0 Y3_ones [.inl b] (some (.inl (xones b))) h h := by
  refine Ct_of (by decide +kernel) (Nat.le_of_ble_eq_true rfl) ?_
  show Sx 0 Y3_ones h (some (.inl (xones b))) 0 [some (.inl b), none, none] [] h
  refine sx_iconst dX3_ones_0 ?_
  refine sx_istore_n dX3_ones_1 (by decide) ?_
  refine sx_iconst dX3_ones_2 ?_
  refine sx_istore_n dX3_ones_3 (by decide) ?_
  have loop4 : ∀ (n : Nat) (nn : Int) (k : Nat), (8 - k) = n → k ≤ 8 → nn = sumW (fun k => bit b k) k → Sx 0 Y3_ones h (some (.inl (xones b))) 4 [some (.inl b), some (.inl nn), some (.inl (k : Int))] [] h := by
    intro n
    induction n using Nat.strongRecOn with
    | _ n ih4 =>
      intro nn k hn hle hf
      refine sx_iload_n dX3_ones_4 rfl ?_
      refine sx_bipush dX3_ones_5 rfl ?_
      refine sx_icmp_ge (tgt := 24) dX3_ones_7 (by decide) (by first | omega | assumption | (with_reducible first | exact hR _ | exact xwd_R hR _ _ | exact xch_R hR _ _ | exact am_R_and _ _ | exact am_R_or _ _ | exact am_R_xor _ _ | exact am_R_shl _ _ | exact am_R_shr _ _ | exact bit_R _ _ | exact xpls_R _ _ | exact xkept_R hW _ _ | exact xwait_R hW _ _ ) | (exact ⟨by omega, by omega⟩) | exact wf _ (by omega) (by omega) | exact wg _ (by omega) (by omega)) ⟨by decide, by decide⟩ (fun c7 => ?_) (fun c7 => ?_)
      · -- 7t
        refine sx_iload_n dX3_ones_24 rfl ?_
        exact sx_iret dX3_ones_25 rfl (by rw [hf, show k = 8 by omega]; rfl) rfl
      · -- 7f
        refine sx_iload_n dX3_ones_10 rfl ?_
        refine sx_iload_n dX3_ones_11 rfl ?_
        refine sx_iload_n dX3_ones_12 rfl ?_
        refine sx_ishr dX3_ones_13 ?_
        refine sx_iconst dX3_ones_14 ?_
        refine sx_iand dX3_ones_15 ?_
        refine sx_iadd dX3_ones_16 ?_
        refine sx_istore_n dX3_ones_17 (by decide) ?_
        refine sx_iinc dX3_ones_18 rfl (by decide) ?_
        refine sx_goto (tgt := 4) dX3_ones_21 (by decide) ?_
        exact ih4 _ (by omega) _ (k + 1) rfl (by omega) (by simp [sumW, bit, hf])
  exact loop4 _ _ 0 rfl (by omega) rfl
