theorem tR {x a b : Int} (h : a ≤ x ∧ x ≤ b) (ha : -2147483648 ≤ a) (hb : b ≤ 2147483647) : am_R x := ⟨by omega, by omega⟩
set_option maxHeartbeats 4000000 in
set_option maxRecDepth 100000 in
theorem tx_elect {h0 : am_H} {X : am_M} {S : Nat → Int} (c : Int) (hW : WX S) (hc9 : am_R c) (hst : 0 ≤ X 0 5 ∧ X 0 5 ≤ 4) {n : Int} (hB : BX S n) (hn : n ≤ 500000000)  : Ct 5 Y3_elect [.inr (7, 0), .inl c] (some (.inl (xelects S c).1)) (xh h0 X S) (xh h0 (xact (am_u3 X 3 S) (xelects S c).1) (xelects S c).2) := by
  refine Ct_of (by decide +kernel) (Nat.le_of_ble_eq_true rfl) ?_
  show Sx 5 Y3_elect (xh h0 (xact (am_u3 X 3 S) (xelects S c).1) (xelects S c).2) (some (.inl (xelects S c).1)) 0 [some (.inr (7, 0)), some (.inl c)] [] (xh h0 X S)
  refine xs_vh (fun hR hRX => ?_)
  obtain ⟨w0, w1, wg, wf, wo⟩ := id hW
  refine sx_aload_n dX3_elect_0 rfl ?_
  refine sx_callVv dX3_elect_1 ml_X3_84 mv3_keeps tx_keeps rfl am_obX rfl (Nat.le_of_ble_eq_true rfl) (Nat.le_of_ble_eq_true rfl) ?_
  refine sx_aload_n dX3_elect_4 rfl ?_
  refine sx_aload_n dX3_elect_5 rfl ?_
  refine sx_iload_n dX3_elect_6 rfl ?_
  refine sx_callVi dX3_elect_7 ml_X3_103 mv3_elects (tx_elects _ hW hc9) rfl am_obX rfl (Nat.le_of_ble_eq_true rfl) (Nat.le_of_ble_eq_true rfl) ?_
  refine sx_callVi dX3_elect_10 ml_X3_87 mv3_acted (tx_acted _ (xelects_R S c) (by exact hst)) rfl am_obX rfl (Nat.le_of_ble_eq_true rfl) (Nat.le_of_ble_eq_true rfl) ?_
  exact sx_iret dX3_elect_13 rfl rfl rfl
set_option maxHeartbeats 4000000 in
set_option maxRecDepth 100000 in
theorem tx_kill {h0 : am_H} {X : am_M} {S : Nat → Int} (c : Int) (hW : WX S) (hc9 : am_R c) (hst : 0 ≤ X 0 5 ∧ X 0 5 ≤ 4) {n : Int} (hB : BX S n) (hn : n ≤ 500000000)  : Ct 5 Y3_kill [.inr (7, 0), .inl c] (some (.inl (xkills S c).1)) (xh h0 X S) (xh h0 (xact (am_u3 X 3 S) (xkills S c).1) (xkills S c).2) := by
  refine Ct_of (by decide +kernel) (Nat.le_of_ble_eq_true rfl) ?_
  show Sx 5 Y3_kill (xh h0 (xact (am_u3 X 3 S) (xkills S c).1) (xkills S c).2) (some (.inl (xkills S c).1)) 0 [some (.inr (7, 0)), some (.inl c)] [] (xh h0 X S)
  refine xs_vh (fun hR hRX => ?_)
  obtain ⟨w0, w1, wg, wf, wo⟩ := id hW
  refine sx_aload_n dX3_kill_0 rfl ?_
  refine sx_callVv dX3_kill_1 ml_X3_84 mv3_keeps tx_keeps rfl am_obX rfl (Nat.le_of_ble_eq_true rfl) (Nat.le_of_ble_eq_true rfl) ?_
  refine sx_aload_n dX3_kill_4 rfl ?_
  refine sx_aload_n dX3_kill_5 rfl ?_
  refine sx_iload_n dX3_kill_6 rfl ?_
  refine sx_callVi dX3_kill_7 ml_X3_114 mv3_kills (tx_kills _ hW hc9 (by have := hB.2.2.1; omega)) rfl am_obX rfl (Nat.le_of_ble_eq_true rfl) (Nat.le_of_ble_eq_true rfl) ?_
  refine sx_callVi dX3_kill_10 ml_X3_87 mv3_acted (tx_acted _ (tR (xkills_b hW) (by decide) (by decide)) (by exact hst)) rfl am_obX rfl (Nat.le_of_ble_eq_true rfl) (Nat.le_of_ble_eq_true rfl) ?_
  exact sx_iret dX3_kill_13 rfl rfl rfl
set_option maxHeartbeats 4000000 in
set_option maxRecDepth 100000 in
theorem tx_breaks {h0 : am_H} {X : am_M} {S : Nat → Int} (c row : Int) (hW : WX S) (hc9 : am_R c) (hrow9 : am_R row) (hst : 0 ≤ X 0 5 ∧ X 0 5 ≤ 4) {n : Int} (hB : BX S n) (hn : n ≤ 500000000)  : Ct 5 Y3_breaks [.inr (7, 0), .inl c, .inl row] (some (.inl (xbreaks S c row).1)) (xh h0 X S) (xh h0 (xact (am_u3 X 3 S) (xbreaks S c row).1) (xbreaks S c row).2) := by
  refine Ct_of (by decide +kernel) (Nat.le_of_ble_eq_true rfl) ?_
  show Sx 5 Y3_breaks (xh h0 (xact (am_u3 X 3 S) (xbreaks S c row).1) (xbreaks S c row).2) (some (.inl (xbreaks S c row).1)) 0 [some (.inr (7, 0)), some (.inl c), some (.inl row)] [] (xh h0 X S)
  refine xs_vh (fun hR hRX => ?_)
  obtain ⟨w0, w1, wg, wf, wo⟩ := id hW
  refine sx_aload_n dX3_breaks_0 rfl ?_
  refine sx_callVv dX3_breaks_1 ml_X3_84 mv3_keeps tx_keeps rfl am_obX rfl (Nat.le_of_ble_eq_true rfl) (Nat.le_of_ble_eq_true rfl) ?_
  refine sx_aload_n dX3_breaks_4 rfl ?_
  refine sx_aload_n dX3_breaks_5 rfl ?_
  refine sx_iload_n dX3_breaks_6 rfl ?_
  refine sx_iload_n dX3_breaks_7 rfl ?_
  refine sx_callVi dX3_breaks_8 ml_X3_117 mv3_breaksOne (tx_breaksOne _ _ hW hc9 hrow9 (by have := hB.2.2.1; omega)) rfl am_obX rfl (Nat.le_of_ble_eq_true rfl) (Nat.le_of_ble_eq_true rfl) ?_
  refine sx_callVi dX3_breaks_11 ml_X3_87 mv3_acted (tx_acted _ (tR (xbreaks_b hW) (by decide) (by decide)) (by exact hst)) rfl am_obX rfl (Nat.le_of_ble_eq_true rfl) (Nat.le_of_ble_eq_true rfl) ?_
  exact sx_iret dX3_breaks_14 rfl rfl rfl
set_option maxHeartbeats 4000000 in
set_option maxRecDepth 100000 in
theorem tx_put {h0 : am_H} {X : am_M} {S : Nat → Int} (c v : Int) (hW : WX S) (hc9 : am_R c) (hv9 : am_R v) (hst : 0 ≤ X 0 5 ∧ X 0 5 ≤ 4) {n : Int} (hB : BX S n) (hn : n ≤ 500000000)  : Ct 6 Y3_put [.inr (7, 0), .inl c, .inl v] (some (.inl (xputs S c v).1)) (xh h0 X S) (xh h0 (xact (am_u3 X 3 S) (xputs S c v).1) (xputs S c v).2) := by
  refine Ct_of (by decide +kernel) (Nat.le_of_ble_eq_true rfl) ?_
  show Sx 6 Y3_put (xh h0 (xact (am_u3 X 3 S) (xputs S c v).1) (xputs S c v).2) (some (.inl (xputs S c v).1)) 0 [some (.inr (7, 0)), some (.inl c), some (.inl v)] [] (xh h0 X S)
  refine xs_vh (fun hR hRX => ?_)
  obtain ⟨w0, w1, wg, wf, wo⟩ := id hW
  refine sx_aload_n dX3_put_0 rfl ?_
  refine sx_callVv dX3_put_1 ml_X3_84 mv3_keeps tx_keeps rfl am_obX rfl (Nat.le_of_ble_eq_true rfl) (Nat.le_of_ble_eq_true rfl) ?_
  refine sx_aload_n dX3_put_4 rfl ?_
  refine sx_aload_n dX3_put_5 rfl ?_
  refine sx_iload_n dX3_put_6 rfl ?_
  refine sx_iload_n dX3_put_7 rfl ?_
  refine sx_callVi dX3_put_8 ml_X3_130 mv3_putsOne (tx_putsOne _ _ hW hc9 hv9) rfl am_obX rfl (Nat.le_of_ble_eq_true rfl) (Nat.le_of_ble_eq_true rfl) ?_
  refine sx_callVi dX3_put_11 ml_X3_87 mv3_acted (tx_acted _ (tR (xputs_b hW) (by decide) (by decide)) (by exact hst)) rfl am_obX rfl (Nat.le_of_ble_eq_true rfl) (Nat.le_of_ble_eq_true rfl) ?_
  exact sx_iret dX3_put_14 rfl rfl rfl
set_option maxHeartbeats 4000000 in
set_option maxRecDepth 100000 in
theorem tx_empty {h0 : am_H} {X : am_M} {S : Nat → Int} (c : Int) (hW : WX S) (hc9 : am_R c) (hst : 0 ≤ X 0 5 ∧ X 0 5 ≤ 4) {n : Int} (hB : BX S n) (hn : n ≤ 500000000)  : Ct 7 Y3_empty [.inr (7, 0), .inl c] (some (.inl (xempt S c).1)) (xh h0 X S) (xh h0 (xact (xemX (am_u3 X 3 S) S c) (xempt S c).1) (xempt S c).2) := by
  refine Ct_of (by decide +kernel) (Nat.le_of_ble_eq_true rfl) ?_
  show Sx 7 Y3_empty (xh h0 (xact (xemX (am_u3 X 3 S) S c) (xempt S c).1) (xempt S c).2) (some (.inl (xempt S c).1)) 0 [some (.inr (7, 0)), some (.inl c)] [] (xh h0 X S)
  refine xs_vh (fun hR hRX => ?_)
  obtain ⟨w0, w1, wg, wf, wo⟩ := id hW
  refine sx_aload_n dX3_empty_0 rfl ?_
  refine sx_callVv dX3_empty_1 ml_X3_84 mv3_keeps tx_keeps rfl am_obX rfl (Nat.le_of_ble_eq_true rfl) (Nat.le_of_ble_eq_true rfl) ?_
  refine sx_aload_n dX3_empty_4 rfl ?_
  refine sx_aload_n dX3_empty_5 rfl ?_
  refine sx_iload_n dX3_empty_6 rfl ?_
  refine sx_callVi dX3_empty_7 ml_X3_139 mv3_empties (tx_empties _ hW hc9) rfl am_obX rfl (Nat.le_of_ble_eq_true rfl) (Nat.le_of_ble_eq_true rfl) ?_
  have hst2 : 0 ≤ xemX (am_u3 X 3 S) S c 0 5 ∧ xemX (am_u3 X 3 S) S c 0 5 ≤ 4 := by
    unfold xemX
    (repeat' split) <;> exact hst
  refine sx_callVi dX3_empty_10 ml_X3_87 mv3_acted (tx_acted _ (tR (xempt_b S c) (by decide) (by decide)) hst2) rfl am_obX rfl (Nat.le_of_ble_eq_true rfl) (Nat.le_of_ble_eq_true rfl) ?_
  exact sx_iret dX3_empty_13 rfl rfl rfl
set_option maxHeartbeats 4000000 in
set_option maxRecDepth 100000 in
theorem tx_tick {h0 : am_H} {X : am_M} {S : Nat → Int} (t : Int) (hW : WX S) (ht9 : am_R t) (hst : 0 ≤ X 0 5 ∧ X 0 5 ≤ 4) {n : Int} (hB : BX S n) (hn : n ≤ 500000000)  : Ct 9 Y3_tick [.inr (7, 0), .inl t] (some (.inl (xticks S t).1)) (xh h0 X S) (xh h0 (xact (am_u3 X 3 S) (xticks S t).1) (xticks S t).2) := by
  refine Ct_of (by decide +kernel) (Nat.le_of_ble_eq_true rfl) ?_
  show Sx 9 Y3_tick (xh h0 (xact (am_u3 X 3 S) (xticks S t).1) (xticks S t).2) (some (.inl (xticks S t).1)) 0 [some (.inr (7, 0)), some (.inl t)] [] (xh h0 X S)
  refine xs_vh (fun hR hRX => ?_)
  obtain ⟨w0, w1, wg, wf, wo⟩ := id hW
  refine sx_aload_n dX3_tick_0 rfl ?_
  refine sx_callVv dX3_tick_1 ml_X3_84 mv3_keeps tx_keeps rfl am_obX rfl (Nat.le_of_ble_eq_true rfl) (Nat.le_of_ble_eq_true rfl) ?_
  refine sx_aload_n dX3_tick_4 rfl ?_
  refine sx_aload_n dX3_tick_5 rfl ?_
  refine sx_iload_n dX3_tick_6 rfl ?_
  refine sx_callVi dX3_tick_7 ml_X3_159 mv3_ticks (tx_ticks _ hW ht9 hB (by omega)) rfl am_obX rfl (Nat.le_of_ble_eq_true rfl) (Nat.le_of_ble_eq_true rfl) ?_
  refine sx_callVi dX3_tick_10 ml_X3_87 mv3_acted (tx_acted _ (tR (xticks_b S t) (by decide) (by decide)) (by exact hst)) rfl am_obX rfl (Nat.le_of_ble_eq_true rfl) (Nat.le_of_ble_eq_true rfl) ?_
  exact sx_iret dX3_tick_13 rfl rfl rfl
set_option maxHeartbeats 4000000 in
set_option maxRecDepth 100000 in
theorem tx_chip {h0 : am_H} {X : am_M} {S : Nat → Int} (f sp : Int) (hW : WX S) (hf9 : am_R f) (hsp9 : am_R sp) (hst : 0 ≤ X 0 5 ∧ X 0 5 ≤ 4)  : Ct 1 Y3_chip [.inr (7, 0), .inl f, .inl sp] (some (.inl (xchipR S f sp))) (xh h0 X S) (xh h0 (xchipX X S f sp) (xchipS S f sp)) := by
  refine Ct_of (by decide +kernel) (Nat.le_of_ble_eq_true rfl) ?_
  show Sx 1 Y3_chip (xh h0 (xchipX X S f sp) (xchipS S f sp)) (some (.inl (xchipR S f sp))) 0 [some (.inr (7, 0)), some (.inl f), some (.inl sp), none] [] (xh h0 X S)
  refine xs_vh (fun hR hRX => ?_)
  obtain ⟨w0, w1, wg, wf, wo⟩ := id hW
  refine sx_iload_n dX3_chip_0 rfl ?_
  refine sx_iconst dX3_chip_1 ?_
  refine sx_iconst dX3_chip_2 ?_
  refine sx_callSi dX3_chip_3 ml_X3_32 ms3_in (tx_in _ _ _ (by first | omega | assumption | (with_reducible first | exact hR _ | exact xwd_R hR _ _ | exact xch_R hR _ _ | exact am_R_and _ _ | exact am_R_or _ _ | exact am_R_xor _ _ | exact am_R_shl _ _ | exact am_R_shr _ _ | exact bit_R _ _ | exact xpls_R _ _ | exact xkept_R hW _ _ | exact xwait_R hW _ _ ) | (exact ⟨by omega, by omega⟩) | exact wf _ (by omega) (by omega) | exact wg _ (by omega) (by omega)) (by first | omega | assumption | (with_reducible first | exact hR _ | exact xwd_R hR _ _ | exact xch_R hR _ _ | exact am_R_and _ _ | exact am_R_or _ _ | exact am_R_xor _ _ | exact am_R_shl _ _ | exact am_R_shr _ _ | exact bit_R _ _ | exact xpls_R _ _ | exact xkept_R hW _ _ | exact xwait_R hW _ _ ) | (exact ⟨by omega, by omega⟩) | exact wf _ (by omega) (by omega) | exact wg _ (by omega) (by omega)) (by first | omega | assumption | (with_reducible first | exact hR _ | exact xwd_R hR _ _ | exact xch_R hR _ _ | exact am_R_and _ _ | exact am_R_or _ _ | exact am_R_xor _ _ | exact am_R_shl _ _ | exact am_R_shr _ _ | exact bit_R _ _ | exact xpls_R _ _ | exact xkept_R hW _ _ | exact xwait_R hW _ _ ) | (exact ⟨by omega, by omega⟩) | exact wf _ (by omega) (by omega) | exact wg _ (by omega) (by omega))) rfl rfl (Nat.le_of_ble_eq_true rfl) (Nat.le_of_ble_eq_true rfl) ?_
  refine sx_ifB_eq (tgt := 18) dX3_chip_6 (by decide) (fun c6 => ?_) (fun c6 => ?_)
  · -- 6t
    refine sx_ldc dX3_chip_18 kc_X3_40 ?_
    exact sx_iret dX3_chip_20 rfl (by unfold xchipR; (repeat' split) <;> first | contradiction | (exfalso; omega) | rfl | (rw [← he0]) | (rw [he0])) (by unfold xchipS xchipX; (repeat' split) <;> first | contradiction | (exfalso; omega) | rfl | (rw [← he0]) | (rw [he0]))
  · -- 6f
    refine sx_iload_n dX3_chip_9 rfl ?_
    refine sx_iconst dX3_chip_10 ?_
    refine sx_iconst dX3_chip_11 ?_
    refine sx_callSi dX3_chip_12 ml_X3_32 ms3_in (tx_in _ _ _ (by first | omega | assumption | (with_reducible first | exact hR _ | exact xwd_R hR _ _ | exact xch_R hR _ _ | exact am_R_and _ _ | exact am_R_or _ _ | exact am_R_xor _ _ | exact am_R_shl _ _ | exact am_R_shr _ _ | exact bit_R _ _ | exact xpls_R _ _ | exact xkept_R hW _ _ | exact xwait_R hW _ _ ) | (exact ⟨by omega, by omega⟩) | exact wf _ (by omega) (by omega) | exact wg _ (by omega) (by omega)) (by first | omega | assumption | (with_reducible first | exact hR _ | exact xwd_R hR _ _ | exact xch_R hR _ _ | exact am_R_and _ _ | exact am_R_or _ _ | exact am_R_xor _ _ | exact am_R_shl _ _ | exact am_R_shr _ _ | exact bit_R _ _ | exact xpls_R _ _ | exact xkept_R hW _ _ | exact xwait_R hW _ _ ) | (exact ⟨by omega, by omega⟩) | exact wf _ (by omega) (by omega) | exact wg _ (by omega) (by omega)) (by first | omega | assumption | (with_reducible first | exact hR _ | exact xwd_R hR _ _ | exact xch_R hR _ _ | exact am_R_and _ _ | exact am_R_or _ _ | exact am_R_xor _ _ | exact am_R_shl _ _ | exact am_R_shr _ _ | exact bit_R _ _ | exact xpls_R _ _ | exact xkept_R hW _ _ | exact xwait_R hW _ _ ) | (exact ⟨by omega, by omega⟩) | exact wf _ (by omega) (by omega) | exact wg _ (by omega) (by omega))) rfl rfl (Nat.le_of_ble_eq_true rfl) (Nat.le_of_ble_eq_true rfl) ?_
    refine sx_ifB_ne (tgt := 21) dX3_chip_15 (by decide) (fun c15 => ?_) (fun c15 => ?_)
    · -- 15t
      refine sx_aload_n dX3_chip_21 rfl ?_
      refine xs_getr (j := 1) dX3_chip_22 fl_X3_7 (by decide) rfl ?_
      refine sx_iconst dX3_chip_25 ?_
      refine xs_ild (n := 208) (m := 0) dX3_chip_26 rfl (by decide) (by decide) (by decide) rfl (fun r26 => ?_)
      refine sx_bipush dX3_chip_27 rfl ?_
      refine sx_icmp_ne (tgt := 35) dX3_chip_29 (by decide) (by first | omega | assumption | (with_reducible first | exact hR _ | exact xwd_R hR _ _ | exact xch_R hR _ _ | exact am_R_xor _ _ | exact am_R_or _ _ | exact xkept_R hW _ _ | exact xwait_R hW _ _ | exact xpls_R _ _ | exact xwords_R _ _) | (exact ⟨by omega, by omega⟩)) ⟨by decide, by decide⟩ (fun c29 => ?_) (fun c29 => ?_)
      · -- 29t
        refine sx_aload_n dX3_chip_35 rfl ?_
        refine sx_callVv dX3_chip_36 ml_X3_84 mv3_keeps tx_keeps rfl am_obX rfl (Nat.le_of_ble_eq_true rfl) (Nat.le_of_ble_eq_true rfl) ?_
        refine sx_bipush dX3_chip_39 rfl ?_
        refine sx_iconst dX3_chip_41 ?_
        refine sx_aload_n dX3_chip_42 rfl ?_
        refine xs_getr (j := 1) dX3_chip_43 fl_X3_7 (by decide) rfl ?_
        refine sx_iconst dX3_chip_46 ?_
        refine xs_ild (n := 208) (m := 0) dX3_chip_47 rfl (by decide) (by decide) (by decide) rfl (fun r47 => ?_)
        refine sx_imul dX3_chip_48 ?_
        refine sx_iadd dX3_chip_49 ?_
        refine sx_istore_n dX3_chip_50 (by decide) ?_
        refine sx_aload_n dX3_chip_51 rfl ?_
        refine xs_getr (j := 1) dX3_chip_52 fl_X3_7 (by decide) rfl ?_
        refine sx_iload_n dX3_chip_55 rfl ?_
        refine sx_iload_n dX3_chip_56 rfl ?_
        refine xs_ist (n := 208) dX3_chip_57 rfl (by decide) (by first | omega | assumption | (with_reducible first | exact hR _ | exact xwd_R hR _ _ | exact xch_R hR _ _ | exact am_R_xor _ _ | exact am_R_or _ _ | exact xkept_R hW _ _ | exact xwait_R hW _ _ | exact xpls_R _ _ | exact xwords_R _ _) | (exact ⟨by omega, by omega⟩)) (by first | omega | assumption | (with_reducible first | exact hR _ | exact xwd_R hR _ _ | exact xch_R hR _ _ | exact am_R_xor _ _ | exact am_R_or _ _ | exact xkept_R hW _ _ | exact xwait_R hW _ _ | exact xpls_R _ _ | exact xwords_R _ _) | (exact ⟨by omega, by omega⟩)) rfl (by first | omega | assumption | (with_reducible first | exact hR _ | exact xwd_R hR _ _ | exact xch_R hR _ _ | exact am_R_xor _ _ | exact am_R_or _ _ | exact xkept_R hW _ _ | exact xwait_R hW _ _ | exact xpls_R _ _ | exact xwords_R _ _) | (exact ⟨by omega, by omega⟩)) ?_
        refine sx_aload_n dX3_chip_58 rfl ?_
        refine xs_getr (j := 1) dX3_chip_59 fl_X3_7 (by decide) rfl ?_
        refine sx_iload_n dX3_chip_62 rfl ?_
        refine sx_iconst dX3_chip_63 ?_
        refine sx_iadd dX3_chip_64 ?_
        refine sx_iload_n dX3_chip_65 rfl ?_
        refine xs_ist (n := 208) dX3_chip_66 rfl (by decide) (by first | omega | assumption | (with_reducible first | exact hR _ | exact xwd_R hR _ _ | exact xch_R hR _ _ | exact am_R_xor _ _ | exact am_R_or _ _ | exact xkept_R hW _ _ | exact xwait_R hW _ _ | exact xpls_R _ _ | exact xwords_R _ _) | (exact ⟨by omega, by omega⟩)) (by first | omega | assumption | (with_reducible first | exact hR _ | exact xwd_R hR _ _ | exact xch_R hR _ _ | exact am_R_xor _ _ | exact am_R_or _ _ | exact xkept_R hW _ _ | exact xwait_R hW _ _ | exact xpls_R _ _ | exact xwords_R _ _) | (exact ⟨by omega, by omega⟩)) rfl (by first | omega | assumption | (with_reducible first | exact hR _ | exact xwd_R hR _ _ | exact xch_R hR _ _ | exact am_R_xor _ _ | exact am_R_or _ _ | exact xkept_R hW _ _ | exact xwait_R hW _ _ | exact xpls_R _ _ | exact xwords_R _ _) | (exact ⟨by omega, by omega⟩)) ?_
        refine sx_aload_n dX3_chip_67 rfl ?_
        refine xs_getr (j := 1) dX3_chip_68 fl_X3_7 (by decide) rfl ?_
        refine sx_iload_n dX3_chip_71 rfl ?_
        refine sx_iconst dX3_chip_72 ?_
        refine sx_iadd dX3_chip_73 ?_
        refine sx_iconst dX3_chip_74 ?_
        refine xs_ist (n := 208) dX3_chip_75 rfl (by decide) (by first | omega | assumption | (with_reducible first | exact hR _ | exact xwd_R hR _ _ | exact xch_R hR _ _ | exact am_R_xor _ _ | exact am_R_or _ _ | exact xkept_R hW _ _ | exact xwait_R hW _ _ | exact xpls_R _ _ | exact xwords_R _ _) | (exact ⟨by omega, by omega⟩)) (by first | omega | assumption | (with_reducible first | exact hR _ | exact xwd_R hR _ _ | exact xch_R hR _ _ | exact am_R_xor _ _ | exact am_R_or _ _ | exact xkept_R hW _ _ | exact xwait_R hW _ _ | exact xpls_R _ _ | exact xwords_R _ _) | (exact ⟨by omega, by omega⟩)) rfl ⟨by decide, by decide⟩ ?_
        refine sx_aload_n dX3_chip_76 rfl ?_
        refine xs_getr (j := 1) dX3_chip_77 fl_X3_7 (by decide) rfl ?_
        refine sx_iload_n dX3_chip_80 rfl ?_
        refine sx_iconst dX3_chip_81 ?_
        refine sx_iadd dX3_chip_82 ?_
        refine sx_iconst dX3_chip_83 ?_
        refine xs_ist (n := 208) dX3_chip_84 rfl (by decide) (by first | omega | assumption | (with_reducible first | exact hR _ | exact xwd_R hR _ _ | exact xch_R hR _ _ | exact am_R_xor _ _ | exact am_R_or _ _ | exact xkept_R hW _ _ | exact xwait_R hW _ _ | exact xpls_R _ _ | exact xwords_R _ _) | (exact ⟨by omega, by omega⟩)) (by first | omega | assumption | (with_reducible first | exact hR _ | exact xwd_R hR _ _ | exact xch_R hR _ _ | exact am_R_xor _ _ | exact am_R_or _ _ | exact xkept_R hW _ _ | exact xwait_R hW _ _ | exact xpls_R _ _ | exact xwords_R _ _) | (exact ⟨by omega, by omega⟩)) rfl ⟨by decide, by decide⟩ ?_
        have hq0 : am_u1 (am_u1 (am_u1 (am_u1 S (8 + 4 * S 0).toNat f) (8 + 4 * S 0 + 1).toNat sp) (8 + 4 * S 0 + 2).toNat 1) (8 + 4 * S 0 + 3).toNat 0 0 = S 0 := by
          rw [am_u1_ne _ _ (by omega), am_u1_ne _ _ (by omega), am_u1_ne _ _ (by omega), am_u1_ne _ _ (by omega)]
        refine sx_aload_n dX3_chip_85 rfl ?_
        refine xs_getr (j := 1) dX3_chip_86 fl_X3_7 (by decide) rfl ?_
        refine sx_iconst dX3_chip_89 ?_
        refine sx_dup2 dX3_chip_90 ?_
        refine xs_ild (n := 208) (m := 0) dX3_chip_91 rfl (by decide) (by decide) (by decide) rfl (fun r91 => ?_)
        refine sx_iconst dX3_chip_92 ?_
        refine sx_iadd dX3_chip_93 ?_
        refine xs_ist (n := 208) (m := 0) dX3_chip_94 rfl (by decide) (by decide) (by decide) rfl (by rw [hq0]; exact ⟨by omega, by omega⟩) ?_
        have he0 : xaddc S f sp 0 - 1 = S 0 := by
          unfold xaddc
          rw [am_u1_at, am_u1_ne _ _ (by omega), am_u1_ne _ _ (by omega), am_u1_ne _ _ (by omega), am_u1_ne _ _ (by omega)]
          omega
        refine sx_heq (xh h0 (am_u3 X 3 S) (xaddc S f sp)) rfl ?_
        refine sx_aload_n dX3_chip_95 rfl ?_
        refine sx_aload_n dX3_chip_96 rfl ?_
        refine xs_getr (j := 1) dX3_chip_97 fl_X3_7 (by decide) rfl ?_
        refine sx_iconst dX3_chip_100 ?_
        refine xs_ild (n := 208) (m := 0) dX3_chip_101 rfl (by decide) (by decide) (by decide) rfl (fun r101 => ?_)
        refine sx_iconst dX3_chip_102 ?_
        refine sx_isub dX3_chip_103 ?_
        refine sx_callVi dX3_chip_104 ml_X3_87 mv3_acted (tx_acted _ (by rw [he0]; exact ⟨by omega, by omega⟩) (by exact hst)) rfl am_obX rfl (Nat.le_of_ble_eq_true rfl) (Nat.le_of_ble_eq_true rfl) ?_
        exact sx_iret dX3_chip_107 rfl (by unfold xchipR; (repeat' split) <;> first | contradiction | (exfalso; omega) | rfl | (rw [← he0]) | (rw [he0])) (by unfold xchipS xchipX; (repeat' split) <;> first | contradiction | (exfalso; omega) | rfl | (rw [← he0]) | (rw [he0]))
      · -- 29f
        refine sx_ldc dX3_chip_32 kc_X3_83 ?_
        exact sx_iret dX3_chip_34 rfl (by unfold xchipR; (repeat' split) <;> first | contradiction | (exfalso; omega) | rfl | (rw [← he0]) | (rw [he0])) (by unfold xchipS xchipX; (repeat' split) <;> first | contradiction | (exfalso; omega) | rfl | (rw [← he0]) | (rw [he0]))
    · -- 15f
      refine sx_ldc dX3_chip_18 kc_X3_40 ?_
      exact sx_iret dX3_chip_20 rfl (by unfold xchipR; (repeat' split) <;> first | contradiction | (exfalso; omega) | rfl | (rw [← he0]) | (rw [he0])) (by unfold xchipS xchipX; (repeat' split) <;> first | contradiction | (exfalso; omega) | rfl | (rw [← he0]) | (rw [he0]))
set_option maxHeartbeats 4000000 in
set_option maxRecDepth 100000 in
theorem tx_chipOf {h0 : am_H} {X : am_M} {S : Nat → Int} (c k : Int) (hW : WX S) (hc9 : am_R c) (hk9 : am_R k)  : Ct 5 Y3_chipOf [.inr (7, 0), .inl c, .inl k] (some (.inl (xchipOf S c k))) (xh h0 X S) (xh h0 X S) := by
  refine Ct_of (by decide +kernel) (Nat.le_of_ble_eq_true rfl) ?_
  show Sx 5 Y3_chipOf (xh h0 X S) (some (.inl (xchipOf S c k))) 0 [some (.inr (7, 0)), some (.inl c), some (.inl k)] [] (xh h0 X S)
  refine xs_vh (fun hR hRX => ?_)
  obtain ⟨w0, w1, wg, wf, wo⟩ := id hW
  refine sx_aload_n dX3_chipOf_0 rfl ?_
  refine sx_iload_n dX3_chipOf_1 rfl ?_
  refine sx_callVi dX3_chipOf_2 ml_X3_90 mv3_isChip (tx_isChip _ hW (by first | omega | assumption | (with_reducible first | exact hR _ | exact xwd_R hR _ _ | exact xch_R hR _ _ | exact am_R_and _ _ | exact am_R_or _ _ | exact am_R_xor _ _ | exact am_R_shl _ _ | exact am_R_shr _ _ | exact bit_R _ _ | exact xpls_R _ _ | exact xkept_R hW _ _ | exact xwait_R hW _ _ ) | (exact ⟨by omega, by omega⟩) | exact wf _ (by omega) (by omega) | exact wg _ (by omega) (by omega))) rfl am_obX rfl (Nat.le_of_ble_eq_true rfl) (Nat.le_of_ble_eq_true rfl) ?_
  refine sx_ifB_eq (tgt := 18) dX3_chipOf_5 (by decide) (fun c5 => ?_) (fun c5 => ?_)
  · -- 5t
    refine sx_ldc dX3_chipOf_18 kc_X3_40 ?_
    exact sx_iret dX3_chipOf_20 rfl (by unfold xchipOf; (repeat' split) <;> first | contradiction | (exfalso; omega) | rfl | (simp_all; done)) rfl
  · -- 5f
    refine sx_iload_n dX3_chipOf_8 rfl ?_
    refine sx_iconst dX3_chipOf_9 ?_
    refine sx_bipush dX3_chipOf_10 rfl ?_
    refine sx_callSi dX3_chipOf_12 ml_X3_32 ms3_in (tx_in _ _ _ (by first | omega | assumption | (with_reducible first | exact hR _ | exact xwd_R hR _ _ | exact xch_R hR _ _ | exact am_R_and _ _ | exact am_R_or _ _ | exact am_R_xor _ _ | exact am_R_shl _ _ | exact am_R_shr _ _ | exact bit_R _ _ | exact xpls_R _ _ | exact xkept_R hW _ _ | exact xwait_R hW _ _ ) | (exact ⟨by omega, by omega⟩) | exact wf _ (by omega) (by omega) | exact wg _ (by omega) (by omega)) (by first | omega | assumption | (with_reducible first | exact hR _ | exact xwd_R hR _ _ | exact xch_R hR _ _ | exact am_R_and _ _ | exact am_R_or _ _ | exact am_R_xor _ _ | exact am_R_shl _ _ | exact am_R_shr _ _ | exact bit_R _ _ | exact xpls_R _ _ | exact xkept_R hW _ _ | exact xwait_R hW _ _ ) | (exact ⟨by omega, by omega⟩) | exact wf _ (by omega) (by omega) | exact wg _ (by omega) (by omega)) (by first | omega | assumption | (with_reducible first | exact hR _ | exact xwd_R hR _ _ | exact xch_R hR _ _ | exact am_R_and _ _ | exact am_R_or _ _ | exact am_R_xor _ _ | exact am_R_shl _ _ | exact am_R_shr _ _ | exact bit_R _ _ | exact xpls_R _ _ | exact xkept_R hW _ _ | exact xwait_R hW _ _ ) | (exact ⟨by omega, by omega⟩) | exact wf _ (by omega) (by omega) | exact wg _ (by omega) (by omega))) rfl rfl (Nat.le_of_ble_eq_true rfl) (Nat.le_of_ble_eq_true rfl) ?_
    refine sx_ifB_ne (tgt := 21) dX3_chipOf_15 (by decide) (fun c15 => ?_) (fun c15 => ?_)
    · -- 15t
      refine sx_iload_n dX3_chipOf_21 rfl ?_
      have hs22 : k < 0 ∨ 5 < k ∨ k = 0 ∨ k = 1 ∨ k = 2 ∨ k = 3 ∨ k = 4 ∨ k = 5 := by omega
      rcases hs22 with hs22 | hs22 | hs22 | hs22 | hs22 | hs22 | hs22 | hs22
      · refine sx_tableOut (tgt := 107) dX3_chipOf_22 (by first | omega | assumption | (with_reducible first | exact hR _ | exact xwd_R hR _ _ | exact xch_R hR _ _ | exact am_R_xor _ _ | exact am_R_or _ _ | exact xkept_R hW _ _ | exact xwait_R hW _ _ | exact xpls_R _ _ | exact xwords_R _ _) | (exact ⟨by omega, by omega⟩)) (Or.inl hs22) (by decide) ?_
        refine sx_aload_n dX3_chipOf_107 rfl ?_
        refine sx_iload_n dX3_chipOf_108 rfl ?_
        refine sx_iconst dX3_chipOf_109 ?_
        refine sx_callVi dX3_chipOf_110 ml_X3_36 mv3_ch (tx_ch _ _ (by first | omega | assumption | (with_reducible first | exact hR _ | exact xwd_R hR _ _ | exact xch_R hR _ _ | exact am_R_xor _ _ | exact am_R_or _ _ | exact xkept_R hW _ _ | exact xwait_R hW _ _ | exact xpls_R _ _ | exact xwords_R _ _) | (exact ⟨by omega, by omega⟩)) (by first | omega | assumption | (with_reducible first | exact hR _ | exact xwd_R hR _ _ | exact xch_R hR _ _ | exact am_R_xor _ _ | exact am_R_or _ _ | exact xkept_R hW _ _ | exact xwait_R hW _ _ | exact xpls_R _ _ | exact xwords_R _ _) | (exact ⟨by omega, by omega⟩))) rfl am_obX rfl (Nat.le_of_ble_eq_true rfl) (Nat.le_of_ble_eq_true rfl) ?_
        exact sx_iret dX3_chipOf_113 rfl (by unfold xchipOf; (repeat' split) <;> first | contradiction | (exfalso; omega) | rfl | (simp_all; done)) rfl
      · refine sx_tableOut (tgt := 107) dX3_chipOf_22 (by first | omega | assumption | (with_reducible first | exact hR _ | exact xwd_R hR _ _ | exact xch_R hR _ _ | exact am_R_xor _ _ | exact am_R_or _ _ | exact xkept_R hW _ _ | exact xwait_R hW _ _ | exact xpls_R _ _ | exact xwords_R _ _) | (exact ⟨by omega, by omega⟩)) (Or.inr hs22) (by decide) ?_
        refine sx_aload_n dX3_chipOf_107 rfl ?_
        refine sx_iload_n dX3_chipOf_108 rfl ?_
        refine sx_iconst dX3_chipOf_109 ?_
        refine sx_callVi dX3_chipOf_110 ml_X3_36 mv3_ch (tx_ch _ _ (by first | omega | assumption | (with_reducible first | exact hR _ | exact xwd_R hR _ _ | exact xch_R hR _ _ | exact am_R_xor _ _ | exact am_R_or _ _ | exact xkept_R hW _ _ | exact xwait_R hW _ _ | exact xpls_R _ _ | exact xwords_R _ _) | (exact ⟨by omega, by omega⟩)) (by first | omega | assumption | (with_reducible first | exact hR _ | exact xwd_R hR _ _ | exact xch_R hR _ _ | exact am_R_xor _ _ | exact am_R_or _ _ | exact xkept_R hW _ _ | exact xwait_R hW _ _ | exact xpls_R _ _ | exact xwords_R _ _) | (exact ⟨by omega, by omega⟩))) rfl am_obX rfl (Nat.le_of_ble_eq_true rfl) (Nat.le_of_ble_eq_true rfl) ?_
        exact sx_iret dX3_chipOf_113 rfl (by unfold xchipOf; (repeat' split) <;> first | contradiction | (exfalso; omega) | rfl | (simp_all; done)) rfl
      · subst hs22
        refine sx_tableIn (tgt := 60) (off := 38) dX3_chipOf_22 ⟨by decide, by decide⟩ (by decide) (by decide) rfl (by decide) ?_
        refine sx_aload_n dX3_chipOf_60 rfl ?_
        refine sx_iload_n dX3_chipOf_61 rfl ?_
        refine sx_iconst dX3_chipOf_62 ?_
        refine sx_callVi dX3_chipOf_63 ml_X3_36 mv3_ch (tx_ch _ _ (by first | omega | assumption | (with_reducible first | exact hR _ | exact xwd_R hR _ _ | exact xch_R hR _ _ | exact am_R_xor _ _ | exact am_R_or _ _ | exact xkept_R hW _ _ | exact xwait_R hW _ _ | exact xpls_R _ _ | exact xwords_R _ _) | (exact ⟨by omega, by omega⟩)) (by first | omega | assumption | (with_reducible first | exact hR _ | exact xwd_R hR _ _ | exact xch_R hR _ _ | exact am_R_xor _ _ | exact am_R_or _ _ | exact xkept_R hW _ _ | exact xwait_R hW _ _ | exact xpls_R _ _ | exact xwords_R _ _) | (exact ⟨by omega, by omega⟩))) rfl am_obX rfl (Nat.le_of_ble_eq_true rfl) (Nat.le_of_ble_eq_true rfl) ?_
        exact sx_iret dX3_chipOf_66 rfl (by unfold xchipOf; (repeat' split) <;> first | contradiction | (exfalso; omega) | rfl | (simp_all; done)) rfl
      · subst hs22
        refine sx_tableIn (tgt := 67) (off := 45) dX3_chipOf_22 ⟨by decide, by decide⟩ (by decide) (by decide) rfl (by decide) ?_
        refine sx_aload_n dX3_chipOf_67 rfl ?_
        refine sx_iload_n dX3_chipOf_68 rfl ?_
        refine sx_iconst dX3_chipOf_69 ?_
        refine sx_callVi dX3_chipOf_70 ml_X3_36 mv3_ch (tx_ch _ _ (by first | omega | assumption | (with_reducible first | exact hR _ | exact xwd_R hR _ _ | exact xch_R hR _ _ | exact am_R_xor _ _ | exact am_R_or _ _ | exact xkept_R hW _ _ | exact xwait_R hW _ _ | exact xpls_R _ _ | exact xwords_R _ _) | (exact ⟨by omega, by omega⟩)) (by first | omega | assumption | (with_reducible first | exact hR _ | exact xwd_R hR _ _ | exact xch_R hR _ _ | exact am_R_xor _ _ | exact am_R_or _ _ | exact xkept_R hW _ _ | exact xwait_R hW _ _ | exact xpls_R _ _ | exact xwords_R _ _) | (exact ⟨by omega, by omega⟩))) rfl am_obX rfl (Nat.le_of_ble_eq_true rfl) (Nat.le_of_ble_eq_true rfl) ?_
        exact sx_iret dX3_chipOf_73 rfl (by unfold xchipOf; (repeat' split) <;> first | contradiction | (exfalso; omega) | rfl | (simp_all; done)) rfl
      · subst hs22
        refine sx_tableIn (tgt := 74) (off := 52) dX3_chipOf_22 ⟨by decide, by decide⟩ (by decide) (by decide) rfl (by decide) ?_
        refine sx_aload_n dX3_chipOf_74 rfl ?_
        refine sx_iload_n dX3_chipOf_75 rfl ?_
        refine sx_callVi dX3_chipOf_76 ml_X3_56 mv3_isGodfather (tx_isGodfather _ hW (by first | omega | assumption | (with_reducible first | exact hR _ | exact xwd_R hR _ _ | exact xch_R hR _ _ | exact am_R_and _ _ | exact am_R_or _ _ | exact am_R_xor _ _ | exact am_R_shl _ _ | exact am_R_shr _ _ | exact bit_R _ _ | exact xpls_R _ _ | exact xkept_R hW _ _ | exact xwait_R hW _ _ ) | (exact ⟨by omega, by omega⟩) | exact wf _ (by omega) (by omega) | exact wg _ (by omega) (by omega)) (by first | omega | assumption | (with_reducible first | exact hR _ | exact xwd_R hR _ _ | exact xch_R hR _ _ | exact am_R_and _ _ | exact am_R_or _ _ | exact am_R_xor _ _ | exact am_R_shl _ _ | exact am_R_shr _ _ | exact bit_R _ _ | exact xpls_R _ _ | exact xkept_R hW _ _ | exact xwait_R hW _ _ ) | (exact ⟨by omega, by omega⟩) | exact wf _ (by omega) (by omega) | exact wg _ (by omega) (by omega))) rfl am_obX rfl (Nat.le_of_ble_eq_true rfl) (Nat.le_of_ble_eq_true rfl) ?_
        refine sx_ifB_eq (tgt := 86) dX3_chipOf_79 (by decide) (fun c79 => ?_) (fun c79 => ?_)
        · -- 79t
          refine sx_iconst dX3_chipOf_86 ?_
          exact sx_iret dX3_chipOf_87 rfl (by unfold xchipOf; (repeat' split) <;> first | contradiction | (exfalso; omega) | rfl | (simp_all; done)) rfl
        · -- 79f
          refine sx_iconst dX3_chipOf_82 ?_
          refine sx_goto (tgt := 87) dX3_chipOf_83 (by decide) ?_
          exact sx_iret dX3_chipOf_87 rfl (by unfold xchipOf; (repeat' split) <;> first | contradiction | (exfalso; omega) | rfl | (simp_all; done)) rfl
      · subst hs22
        refine sx_tableIn (tgt := 88) (off := 66) dX3_chipOf_22 ⟨by decide, by decide⟩ (by decide) (by decide) rfl (by decide) ?_
        refine sx_aload_n dX3_chipOf_88 rfl ?_
        refine sx_iload_n dX3_chipOf_89 rfl ?_
        refine sx_callVi dX3_chipOf_90 ml_X3_93 mv3_words (tx_words _ hW (by first | omega | assumption | (with_reducible first | exact hR _ | exact xwd_R hR _ _ | exact xch_R hR _ _ | exact am_R_xor _ _ | exact am_R_or _ _ | exact xkept_R hW _ _ | exact xwait_R hW _ _ | exact xpls_R _ _ | exact xwords_R _ _) | (exact ⟨by omega, by omega⟩))) rfl am_obX rfl (Nat.le_of_ble_eq_true rfl) (Nat.le_of_ble_eq_true rfl) ?_
        exact sx_iret dX3_chipOf_93 rfl (by unfold xchipOf; (repeat' split) <;> first | contradiction | (exfalso; omega) | rfl | (simp_all; done)) rfl
      · subst hs22
        refine sx_tableIn (tgt := 94) (off := 72) dX3_chipOf_22 ⟨by decide, by decide⟩ (by decide) (by decide) rfl (by decide) ?_
        refine sx_aload_n dX3_chipOf_94 rfl ?_
        refine sx_iload_n dX3_chipOf_95 rfl ?_
        refine sx_callVi dX3_chipOf_96 ml_X3_68 mv3_places (tx_places _ hW (by first | omega | assumption | (with_reducible first | exact hR _ | exact xwd_R hR _ _ | exact xch_R hR _ _ | exact am_R_and _ _ | exact am_R_or _ _ | exact am_R_xor _ _ | exact am_R_shl _ _ | exact am_R_shr _ _ | exact bit_R _ _ | exact xpls_R _ _ | exact xkept_R hW _ _ | exact xwait_R hW _ _ ) | (exact ⟨by omega, by omega⟩) | exact wf _ (by omega) (by omega) | exact wg _ (by omega) (by omega))) rfl am_obX rfl (Nat.le_of_ble_eq_true rfl) (Nat.le_of_ble_eq_true rfl) ?_
        exact sx_iret dX3_chipOf_99 rfl (by unfold xchipOf; (repeat' split) <;> first | contradiction | (exfalso; omega) | rfl | (simp_all; done)) rfl
      · subst hs22
        refine sx_tableIn (tgt := 100) (off := 78) dX3_chipOf_22 ⟨by decide, by decide⟩ (by decide) (by decide) rfl (by decide) ?_
        refine sx_aload_n dX3_chipOf_100 rfl ?_
        refine sx_iload_n dX3_chipOf_101 rfl ?_
        refine sx_iconst dX3_chipOf_102 ?_
        refine sx_callVi dX3_chipOf_103 ml_X3_36 mv3_ch (tx_ch _ _ (by first | omega | assumption | (with_reducible first | exact hR _ | exact xwd_R hR _ _ | exact xch_R hR _ _ | exact am_R_xor _ _ | exact am_R_or _ _ | exact xkept_R hW _ _ | exact xwait_R hW _ _ | exact xpls_R _ _ | exact xwords_R _ _) | (exact ⟨by omega, by omega⟩)) (by first | omega | assumption | (with_reducible first | exact hR _ | exact xwd_R hR _ _ | exact xch_R hR _ _ | exact am_R_xor _ _ | exact am_R_or _ _ | exact xkept_R hW _ _ | exact xwait_R hW _ _ | exact xpls_R _ _ | exact xwords_R _ _) | (exact ⟨by omega, by omega⟩))) rfl am_obX rfl (Nat.le_of_ble_eq_true rfl) (Nat.le_of_ble_eq_true rfl) ?_
        exact sx_iret dX3_chipOf_106 rfl (by unfold xchipOf; (repeat' split) <;> first | contradiction | (exfalso; omega) | rfl | (simp_all; done)) rfl
    · -- 15f
      refine sx_ldc dX3_chipOf_18 kc_X3_40 ?_
      exact sx_iret dX3_chipOf_20 rfl (by unfold xchipOf; (repeat' split) <;> first | contradiction | (exfalso; omega) | rfl | (simp_all; done)) rfl
set_option maxHeartbeats 4000000 in
set_option maxRecDepth 100000 in
theorem tx_rowOf {h0 : am_H} {X : am_M} {S : Nat → Int} (c row : Int) (hW : WX S) (hc9 : am_R c) (hr9 : am_R row)  : Ct 4 Y3_rowOf [.inr (7, 0), .inl c, .inl row] (some (.inl (xrowOf S c row))) (xh h0 X S) (xh h0 X S) := by
  refine Ct_of (by decide +kernel) (Nat.le_of_ble_eq_true rfl) ?_
  show Sx 4 Y3_rowOf (xh h0 X S) (some (.inl (xrowOf S c row))) 0 [some (.inr (7, 0)), some (.inl c), some (.inl row)] [] (xh h0 X S)
  refine xs_vh (fun hR hRX => ?_)
  obtain ⟨w0, w1, wg, wf, wo⟩ := id hW
  refine sx_aload_n dX3_rowOf_0 rfl ?_
  refine sx_iload_n dX3_rowOf_1 rfl ?_
  refine sx_callVi dX3_rowOf_2 ml_X3_90 mv3_isChip (tx_isChip _ hW (by first | omega | assumption | (with_reducible first | exact hR _ | exact xwd_R hR _ _ | exact xch_R hR _ _ | exact am_R_and _ _ | exact am_R_or _ _ | exact am_R_xor _ _ | exact am_R_shl _ _ | exact am_R_shr _ _ | exact bit_R _ _ | exact xpls_R _ _ | exact xkept_R hW _ _ | exact xwait_R hW _ _ ) | (exact ⟨by omega, by omega⟩) | exact wf _ (by omega) (by omega) | exact wg _ (by omega) (by omega))) rfl am_obX rfl (Nat.le_of_ble_eq_true rfl) (Nat.le_of_ble_eq_true rfl) ?_
  refine sx_ifB_eq (tgt := 17) dX3_rowOf_5 (by decide) (fun c5 => ?_) (fun c5 => ?_)
  · -- 5t
    refine sx_ldc dX3_rowOf_17 kc_X3_40 ?_
    exact sx_iret dX3_rowOf_19 rfl (by unfold xrowOf; (repeat' split) <;> first | contradiction | (exfalso; omega) | rfl | (simp_all; done)) rfl
  · -- 5f
    refine sx_iload_n dX3_rowOf_8 rfl ?_
    refine sx_iconst dX3_rowOf_9 ?_
    refine sx_iconst dX3_rowOf_10 ?_
    refine sx_callSi dX3_rowOf_11 ml_X3_32 ms3_in (tx_in _ _ _ (by first | omega | assumption | (with_reducible first | exact hR _ | exact xwd_R hR _ _ | exact xch_R hR _ _ | exact am_R_and _ _ | exact am_R_or _ _ | exact am_R_xor _ _ | exact am_R_shl _ _ | exact am_R_shr _ _ | exact bit_R _ _ | exact xpls_R _ _ | exact xkept_R hW _ _ | exact xwait_R hW _ _ ) | (exact ⟨by omega, by omega⟩) | exact wf _ (by omega) (by omega) | exact wg _ (by omega) (by omega)) (by first | omega | assumption | (with_reducible first | exact hR _ | exact xwd_R hR _ _ | exact xch_R hR _ _ | exact am_R_and _ _ | exact am_R_or _ _ | exact am_R_xor _ _ | exact am_R_shl _ _ | exact am_R_shr _ _ | exact bit_R _ _ | exact xpls_R _ _ | exact xkept_R hW _ _ | exact xwait_R hW _ _ ) | (exact ⟨by omega, by omega⟩) | exact wf _ (by omega) (by omega) | exact wg _ (by omega) (by omega)) (by first | omega | assumption | (with_reducible first | exact hR _ | exact xwd_R hR _ _ | exact xch_R hR _ _ | exact am_R_and _ _ | exact am_R_or _ _ | exact am_R_xor _ _ | exact am_R_shl _ _ | exact am_R_shr _ _ | exact bit_R _ _ | exact xpls_R _ _ | exact xkept_R hW _ _ | exact xwait_R hW _ _ ) | (exact ⟨by omega, by omega⟩) | exact wf _ (by omega) (by omega) | exact wg _ (by omega) (by omega))) rfl rfl (Nat.le_of_ble_eq_true rfl) (Nat.le_of_ble_eq_true rfl) ?_
    refine sx_ifB_ne (tgt := 20) dX3_rowOf_14 (by decide) (fun c14 => ?_) (fun c14 => ?_)
    · -- 14t
      refine sx_aload_n dX3_rowOf_20 rfl ?_
      refine sx_iload_n dX3_rowOf_21 rfl ?_
      refine sx_callVi dX3_rowOf_22 ml_X3_52 mv3_lives (tx_lives _ (by first | omega | assumption | (with_reducible first | exact hR _ | exact xwd_R hR _ _ | exact xch_R hR _ _ | exact am_R_and _ _ | exact am_R_or _ _ | exact am_R_xor _ _ | exact am_R_shl _ _ | exact am_R_shr _ _ | exact bit_R _ _ | exact xpls_R _ _ | exact xkept_R hW _ _ | exact xwait_R hW _ _ ) | (exact ⟨by omega, by omega⟩) | exact wf _ (by omega) (by omega) | exact wg _ (by omega) (by omega))) rfl am_obX rfl (Nat.le_of_ble_eq_true rfl) (Nat.le_of_ble_eq_true rfl) ?_
      refine sx_ifB_eq (tgt := 37) dX3_rowOf_25 (by decide) (fun c25 => ?_) (fun c25 => ?_)
      · -- 25t
        refine sx_ldc dX3_rowOf_37 kc_X3_96 ?_
        exact sx_iret dX3_rowOf_39 rfl (by unfold xrowOf; (repeat' split) <;> first | contradiction | (exfalso; omega) | rfl | (simp_all; done)) rfl
      · -- 25f
        refine sx_aload_n dX3_rowOf_28 rfl ?_
        refine sx_iload_n dX3_rowOf_29 rfl ?_
        refine sx_iload_n dX3_rowOf_30 rfl ?_
        refine sx_callVi dX3_rowOf_31 ml_X3_48 mv3_isWhole (tx_isWhole _ _ (by first | omega | assumption | (with_reducible first | exact hR _ | exact xwd_R hR _ _ | exact xch_R hR _ _ | exact am_R_and _ _ | exact am_R_or _ _ | exact am_R_xor _ _ | exact am_R_shl _ _ | exact am_R_shr _ _ | exact bit_R _ _ | exact xpls_R _ _ | exact xkept_R hW _ _ | exact xwait_R hW _ _ ) | (exact ⟨by omega, by omega⟩) | exact wf _ (by omega) (by omega) | exact wg _ (by omega) (by omega)) (by first | omega | assumption | (with_reducible first | exact hR _ | exact xwd_R hR _ _ | exact xch_R hR _ _ | exact am_R_and _ _ | exact am_R_or _ _ | exact am_R_xor _ _ | exact am_R_shl _ _ | exact am_R_shr _ _ | exact bit_R _ _ | exact xpls_R _ _ | exact xkept_R hW _ _ | exact xwait_R hW _ _ ) | (exact ⟨by omega, by omega⟩) | exact wf _ (by omega) (by omega) | exact wg _ (by omega) (by omega))) rfl am_obX rfl (Nat.le_of_ble_eq_true rfl) (Nat.le_of_ble_eq_true rfl) ?_
        refine sx_ifB_ne (tgt := 40) dX3_rowOf_34 (by decide) (fun c34 => ?_) (fun c34 => ?_)
        · -- 34t
          refine sx_aload_n dX3_rowOf_40 rfl ?_
          refine sx_iload_n dX3_rowOf_41 rfl ?_
          refine sx_callVi dX3_rowOf_42 ml_X3_56 mv3_isGodfather (tx_isGodfather _ hW (by first | omega | assumption | (with_reducible first | exact hR _ | exact xwd_R hR _ _ | exact xch_R hR _ _ | exact am_R_and _ _ | exact am_R_or _ _ | exact am_R_xor _ _ | exact am_R_shl _ _ | exact am_R_shr _ _ | exact bit_R _ _ | exact xpls_R _ _ | exact xkept_R hW _ _ | exact xwait_R hW _ _ ) | (exact ⟨by omega, by omega⟩) | exact wf _ (by omega) (by omega) | exact wg _ (by omega) (by omega)) (by first | omega | assumption | (with_reducible first | exact hR _ | exact xwd_R hR _ _ | exact xch_R hR _ _ | exact am_R_and _ _ | exact am_R_or _ _ | exact am_R_xor _ _ | exact am_R_shl _ _ | exact am_R_shr _ _ | exact bit_R _ _ | exact xpls_R _ _ | exact xkept_R hW _ _ | exact xwait_R hW _ _ ) | (exact ⟨by omega, by omega⟩) | exact wf _ (by omega) (by omega) | exact wg _ (by omega) (by omega))) rfl am_obX rfl (Nat.le_of_ble_eq_true rfl) (Nat.le_of_ble_eq_true rfl) ?_
          refine sx_ifB_eq (tgt := 60) dX3_rowOf_45 (by decide) (fun c45 => ?_) (fun c45 => ?_)
          · -- 45t
            refine sx_aload_n dX3_rowOf_60 rfl ?_
            refine sx_iload_n dX3_rowOf_61 rfl ?_
            refine sx_iload_n dX3_rowOf_62 rfl ?_
            refine sx_callVi dX3_rowOf_63 ml_X3_59 mv3_kept (tx_kept _ _ hW (by first | omega | assumption | (with_reducible first | exact hR _ | exact xwd_R hR _ _ | exact xch_R hR _ _ | exact am_R_and _ _ | exact am_R_or _ _ | exact am_R_xor _ _ | exact am_R_shl _ _ | exact am_R_shr _ _ | exact bit_R _ _ | exact xpls_R _ _ | exact xkept_R hW _ _ | exact xwait_R hW _ _ ) | (exact ⟨by omega, by omega⟩) | exact wf _ (by omega) (by omega) | exact wg _ (by omega) (by omega)) (by first | omega | assumption | (with_reducible first | exact hR _ | exact xwd_R hR _ _ | exact xch_R hR _ _ | exact am_R_and _ _ | exact am_R_or _ _ | exact am_R_xor _ _ | exact am_R_shl _ _ | exact am_R_shr _ _ | exact bit_R _ _ | exact xpls_R _ _ | exact xkept_R hW _ _ | exact xwait_R hW _ _ ) | (exact ⟨by omega, by omega⟩) | exact wf _ (by omega) (by omega) | exact wg _ (by omega) (by omega))) rfl am_obX rfl (Nat.le_of_ble_eq_true rfl) (Nat.le_of_ble_eq_true rfl) ?_
            refine sx_if_ge (tgt := 74) dX3_rowOf_66 (by decide) (by first | omega | assumption | (with_reducible first | exact hR _ | exact xwd_R hR _ _ | exact xch_R hR _ _ | exact am_R_xor _ _ | exact am_R_or _ _ | exact xkept_R hW _ _ | exact xwait_R hW _ _ | exact xpls_R _ _ | exact xwords_R _ _) | (exact ⟨by omega, by omega⟩)) (fun c66 => ?_) (fun c66 => ?_)
            · -- 66t
              refine sx_aload_n dX3_rowOf_74 rfl ?_
              refine sx_iload_n dX3_rowOf_75 rfl ?_
              refine sx_iload_n dX3_rowOf_76 rfl ?_
              refine sx_callVi dX3_rowOf_77 ml_X3_59 mv3_kept (tx_kept _ _ hW (by first | omega | assumption | (with_reducible first | exact hR _ | exact xwd_R hR _ _ | exact xch_R hR _ _ | exact am_R_and _ _ | exact am_R_or _ _ | exact am_R_xor _ _ | exact am_R_shl _ _ | exact am_R_shr _ _ | exact bit_R _ _ | exact xpls_R _ _ | exact xkept_R hW _ _ | exact xwait_R hW _ _ ) | (exact ⟨by omega, by omega⟩) | exact wf _ (by omega) (by omega) | exact wg _ (by omega) (by omega)) (by first | omega | assumption | (with_reducible first | exact hR _ | exact xwd_R hR _ _ | exact xch_R hR _ _ | exact am_R_and _ _ | exact am_R_or _ _ | exact am_R_xor _ _ | exact am_R_shl _ _ | exact am_R_shr _ _ | exact bit_R _ _ | exact xpls_R _ _ | exact xkept_R hW _ _ | exact xwait_R hW _ _ ) | (exact ⟨by omega, by omega⟩) | exact wf _ (by omega) (by omega) | exact wg _ (by omega) (by omega))) rfl am_obX rfl (Nat.le_of_ble_eq_true rfl) (Nat.le_of_ble_eq_true rfl) ?_
              exact sx_iret dX3_rowOf_80 rfl (by unfold xrowOf; (repeat' split) <;> first | contradiction | (exfalso; omega) | rfl | (simp_all; done)) rfl
            · -- 66f
              refine sx_ldc dX3_rowOf_69 kc_X3_123 ?_
              refine sx_goto (tgt := 80) dX3_rowOf_71 (by decide) ?_
              exact sx_iret dX3_rowOf_80 rfl (by unfold xrowOf; (repeat' split) <;> first | contradiction | (exfalso; omega) | rfl | (simp_all; done)) rfl
          · -- 45f
            refine sx_aload_n dX3_rowOf_48 rfl ?_
            refine sx_aload_n dX3_rowOf_49 rfl ?_
            refine sx_iload_n dX3_rowOf_50 rfl ?_
            refine sx_iconst dX3_rowOf_51 ?_
            refine sx_callVi dX3_rowOf_52 ml_X3_36 mv3_ch (tx_ch _ _ (by first | omega | assumption | (with_reducible first | exact hR _ | exact xwd_R hR _ _ | exact xch_R hR _ _ | exact am_R_xor _ _ | exact am_R_or _ _ | exact xkept_R hW _ _ | exact xwait_R hW _ _ | exact xpls_R _ _ | exact xwords_R _ _) | (exact ⟨by omega, by omega⟩)) (by first | omega | assumption | (with_reducible first | exact hR _ | exact xwd_R hR _ _ | exact xch_R hR _ _ | exact am_R_xor _ _ | exact am_R_or _ _ | exact xkept_R hW _ _ | exact xwait_R hW _ _ | exact xpls_R _ _ | exact xwords_R _ _) | (exact ⟨by omega, by omega⟩))) rfl am_obX rfl (Nat.le_of_ble_eq_true rfl) (Nat.le_of_ble_eq_true rfl) ?_
            have hf9 := wf c (by omega) (by omega)
            refine sx_iload_n dX3_rowOf_55 rfl ?_
            refine sx_callVi dX3_rowOf_56 ml_X3_120 mv3_sum (tx_sum _ _ hW (by first | omega | assumption | (with_reducible first | exact hR _ | exact xwd_R hR _ _ | exact xch_R hR _ _ | exact am_R_xor _ _ | exact am_R_or _ _ | exact xkept_R hW _ _ | exact xwait_R hW _ _ | exact xpls_R _ _ | exact xwords_R _ _) | (exact ⟨by omega, by omega⟩)) (by first | omega | assumption | (with_reducible first | exact hR _ | exact xwd_R hR _ _ | exact xch_R hR _ _ | exact am_R_xor _ _ | exact am_R_or _ _ | exact xkept_R hW _ _ | exact xwait_R hW _ _ | exact xpls_R _ _ | exact xwords_R _ _) | (exact ⟨by omega, by omega⟩))) rfl am_obX rfl (Nat.le_of_ble_eq_true rfl) (Nat.le_of_ble_eq_true rfl) ?_
            exact sx_iret dX3_rowOf_59 rfl (by unfold xrowOf; (repeat' split) <;> first | contradiction | (exfalso; omega) | rfl | (simp_all; done)) rfl
        · -- 34f
          refine sx_ldc dX3_rowOf_37 kc_X3_96 ?_
          exact sx_iret dX3_rowOf_39 rfl (by unfold xrowOf; (repeat' split) <;> first | contradiction | (exfalso; omega) | rfl | (simp_all; done)) rfl
    · -- 14f
      refine sx_ldc dX3_rowOf_17 kc_X3_40 ?_
      exact sx_iret dX3_rowOf_19 rfl (by unfold xrowOf; (repeat' split) <;> first | contradiction | (exfalso; omega) | rfl | (simp_all; done)) rfl
set_option maxHeartbeats 4000000 in
set_option maxRecDepth 100000 in
theorem tx_read {h0 : am_H} {X : am_M} {S : Nat → Int} (w : Int) (hW : WX S) (hw9 : am_R w)  : Ct 2 Y3_read [.inr (7, 0), .inl w] (some (.inl (xread S w))) (xh h0 X S) (xh h0 X S) := by
  refine Ct_of (by decide +kernel) (Nat.le_of_ble_eq_true rfl) ?_
  show Sx 2 Y3_read (xh h0 X S) (some (.inl (xread S w))) 0 [some (.inr (7, 0)), some (.inl w)] [] (xh h0 X S)
  refine xs_vh (fun hR hRX => ?_)
  obtain ⟨w0, w1, wg, wf, wo⟩ := id hW
  refine sx_aload_n dX3_read_0 rfl ?_
  refine sx_iload_n dX3_read_1 rfl ?_
  refine sx_callVi dX3_read_2 ml_X3_133 mv3_isWord (tx_isWord _ hW (by first | omega | assumption | (with_reducible first | exact hR _ | exact xwd_R hR _ _ | exact xch_R hR _ _ | exact am_R_and _ _ | exact am_R_or _ _ | exact am_R_xor _ _ | exact am_R_shl _ _ | exact am_R_shr _ _ | exact bit_R _ _ | exact xpls_R _ _ | exact xkept_R hW _ _ | exact xwait_R hW _ _ ) | (exact ⟨by omega, by omega⟩) | exact wf _ (by omega) (by omega) | exact wg _ (by omega) (by omega))) rfl am_obX rfl (Nat.le_of_ble_eq_true rfl) (Nat.le_of_ble_eq_true rfl) ?_
  refine sx_ifB_ne (tgt := 11) dX3_read_5 (by decide) (fun c5 => ?_) (fun c5 => ?_)
  · -- 5t
    refine sx_aload_n dX3_read_11 rfl ?_
    refine sx_iload_n dX3_read_12 rfl ?_
    refine sx_iconst dX3_read_13 ?_
    refine sx_callVi dX3_read_14 ml_X3_45 mv3_wd (tx_wd _ _ (by first | omega | assumption | (with_reducible first | exact hR _ | exact xwd_R hR _ _ | exact xch_R hR _ _ | exact am_R_xor _ _ | exact am_R_or _ _ | exact xkept_R hW _ _ | exact xwait_R hW _ _ | exact xpls_R _ _ | exact xwords_R _ _) | (exact ⟨by omega, by omega⟩)) (by first | omega | assumption | (with_reducible first | exact hR _ | exact xwd_R hR _ _ | exact xch_R hR _ _ | exact am_R_xor _ _ | exact am_R_or _ _ | exact xkept_R hW _ _ | exact xwait_R hW _ _ | exact xpls_R _ _ | exact xwords_R _ _) | (exact ⟨by omega, by omega⟩))) rfl am_obX rfl (Nat.le_of_ble_eq_true rfl) (Nat.le_of_ble_eq_true rfl) ?_
    refine sx_iconst dX3_read_17 ?_
    refine sx_icmp_ne (tgt := 26) dX3_read_18 (by decide) (by first | omega | assumption | (with_reducible first | exact hR _ | exact xwd_R hR _ _ | exact xch_R hR _ _ | exact am_R_xor _ _ | exact am_R_or _ _ | exact xkept_R hW _ _ | exact xwait_R hW _ _ | exact xpls_R _ _ | exact xwords_R _ _) | (exact ⟨by omega, by omega⟩)) ⟨by decide, by decide⟩ (fun c18 => ?_) (fun c18 => ?_)
    · -- 18t
      refine sx_aload_n dX3_read_26 rfl ?_
      refine sx_iload_n dX3_read_27 rfl ?_
      refine sx_iconst dX3_read_28 ?_
      refine sx_callVi dX3_read_29 ml_X3_45 mv3_wd (tx_wd _ _ (by first | omega | assumption | (with_reducible first | exact hR _ | exact xwd_R hR _ _ | exact xch_R hR _ _ | exact am_R_xor _ _ | exact am_R_or _ _ | exact xkept_R hW _ _ | exact xwait_R hW _ _ | exact xpls_R _ _ | exact xwords_R _ _) | (exact ⟨by omega, by omega⟩)) (by first | omega | assumption | (with_reducible first | exact hR _ | exact xwd_R hR _ _ | exact xch_R hR _ _ | exact am_R_xor _ _ | exact am_R_or _ _ | exact xkept_R hW _ _ | exact xwait_R hW _ _ | exact xpls_R _ _ | exact xwords_R _ _) | (exact ⟨by omega, by omega⟩))) rfl am_obX rfl (Nat.le_of_ble_eq_true rfl) (Nat.le_of_ble_eq_true rfl) ?_
      exact sx_iret dX3_read_32 rfl (by unfold xread; (repeat' split) <;> first | contradiction | (exfalso; omega) | rfl | (simp_all; done)) rfl
    · -- 18f
      refine sx_ldc dX3_read_21 kc_X3_123 ?_
      refine sx_goto (tgt := 32) dX3_read_23 (by decide) ?_
      exact sx_iret dX3_read_32 rfl (by unfold xread; (repeat' split) <;> first | contradiction | (exfalso; omega) | rfl | (simp_all; done)) rfl
  · -- 5f
    refine sx_ldc dX3_read_8 kc_X3_40 ?_
    exact sx_iret dX3_read_10 rfl (by unfold xread; (repeat' split) <;> first | contradiction | (exfalso; omega) | rfl | (simp_all; done)) rfl
set_option maxHeartbeats 4000000 in
set_option maxRecDepth 100000 in
theorem tx_write {h0 : am_H} {X : am_M} {S : Nat → Int} (w v : Int) (hW : WX S) (hw9 : am_R w) (hv9 : am_R v) (hst : 0 ≤ X 0 5 ∧ X 0 5 ≤ 4)  : Ct 2 Y3_write [.inr (7, 0), .inl w, .inl v] (some (.inl (xwriteR S w v))) (xh h0 X S) (xh h0 (xwriteX X S w v) (xwriteS S w v)) := by
  refine Ct_of (by decide +kernel) (Nat.le_of_ble_eq_true rfl) ?_
  show Sx 2 Y3_write (xh h0 (xwriteX X S w v) (xwriteS S w v)) (some (.inl (xwriteR S w v))) 0 [some (.inr (7, 0)), some (.inl w), some (.inl v), none] [] (xh h0 X S)
  refine xs_vh (fun hR hRX => ?_)
  obtain ⟨w0, w1, wg, wf, wo⟩ := id hW
  refine sx_aload_n dX3_write_0 rfl ?_
  refine sx_iload_n dX3_write_1 rfl ?_
  refine sx_callVi dX3_write_2 ml_X3_133 mv3_isWord (tx_isWord _ hW (by first | omega | assumption | (with_reducible first | exact hR _ | exact xwd_R hR _ _ | exact xch_R hR _ _ | exact am_R_and _ _ | exact am_R_or _ _ | exact am_R_xor _ _ | exact am_R_shl _ _ | exact am_R_shr _ _ | exact bit_R _ _ | exact xpls_R _ _ | exact xkept_R hW _ _ | exact xwait_R hW _ _ ) | (exact ⟨by omega, by omega⟩) | exact wf _ (by omega) (by omega) | exact wg _ (by omega) (by omega))) rfl am_obX rfl (Nat.le_of_ble_eq_true rfl) (Nat.le_of_ble_eq_true rfl) ?_
  refine sx_ifB_eq (tgt := 19) dX3_write_5 (by decide) (fun c5 => ?_) (fun c5 => ?_)
  · -- 5t
    refine sx_ldc dX3_write_19 kc_X3_40 ?_
    exact sx_iret dX3_write_21 rfl (by unfold xwriteR; (repeat' split) <;> first | contradiction | (exfalso; omega) | rfl | (simp_all; done)) (by unfold xwriteX xwriteS; (repeat' split) <;> first | contradiction | (exfalso; omega) | rfl | (simp_all; done))
  · -- 5f
    refine sx_iload_n dX3_write_8 rfl ?_
    refine sx_iconst dX3_write_9 ?_
    refine sx_sipush dX3_write_10 rfl ?_
    refine sx_callSi dX3_write_13 ml_X3_32 ms3_in (tx_in _ _ _ (by first | omega | assumption | (with_reducible first | exact hR _ | exact xwd_R hR _ _ | exact xch_R hR _ _ | exact am_R_and _ _ | exact am_R_or _ _ | exact am_R_xor _ _ | exact am_R_shl _ _ | exact am_R_shr _ _ | exact bit_R _ _ | exact xpls_R _ _ | exact xkept_R hW _ _ | exact xwait_R hW _ _ ) | (exact ⟨by omega, by omega⟩) | exact wf _ (by omega) (by omega) | exact wg _ (by omega) (by omega)) (by first | omega | assumption | (with_reducible first | exact hR _ | exact xwd_R hR _ _ | exact xch_R hR _ _ | exact am_R_and _ _ | exact am_R_or _ _ | exact am_R_xor _ _ | exact am_R_shl _ _ | exact am_R_shr _ _ | exact bit_R _ _ | exact xpls_R _ _ | exact xkept_R hW _ _ | exact xwait_R hW _ _ ) | (exact ⟨by omega, by omega⟩) | exact wf _ (by omega) (by omega) | exact wg _ (by omega) (by omega)) (by first | omega | assumption | (with_reducible first | exact hR _ | exact xwd_R hR _ _ | exact xch_R hR _ _ | exact am_R_and _ _ | exact am_R_or _ _ | exact am_R_xor _ _ | exact am_R_shl _ _ | exact am_R_shr _ _ | exact bit_R _ _ | exact xpls_R _ _ | exact xkept_R hW _ _ | exact xwait_R hW _ _ ) | (exact ⟨by omega, by omega⟩) | exact wf _ (by omega) (by omega) | exact wg _ (by omega) (by omega))) rfl rfl (Nat.le_of_ble_eq_true rfl) (Nat.le_of_ble_eq_true rfl) ?_
    refine sx_ifB_ne (tgt := 22) dX3_write_16 (by decide) (fun c16 => ?_) (fun c16 => ?_)
    · -- 16t
      refine sx_aload_n dX3_write_22 rfl ?_
      refine sx_iload_n dX3_write_23 rfl ?_
      refine sx_iconst dX3_write_24 ?_
      refine sx_callVi dX3_write_25 ml_X3_45 mv3_wd (tx_wd _ _ (by first | omega | assumption | (with_reducible first | exact hR _ | exact xwd_R hR _ _ | exact xch_R hR _ _ | exact am_R_xor _ _ | exact am_R_or _ _ | exact xkept_R hW _ _ | exact xwait_R hW _ _ | exact xpls_R _ _ | exact xwords_R _ _) | (exact ⟨by omega, by omega⟩)) (by first | omega | assumption | (with_reducible first | exact hR _ | exact xwd_R hR _ _ | exact xch_R hR _ _ | exact am_R_xor _ _ | exact am_R_or _ _ | exact xkept_R hW _ _ | exact xwait_R hW _ _ | exact xpls_R _ _ | exact xwords_R _ _) | (exact ⟨by omega, by omega⟩))) rfl am_obX rfl (Nat.le_of_ble_eq_true rfl) (Nat.le_of_ble_eq_true rfl) ?_
      refine sx_if_eq (tgt := 34) dX3_write_28 (by decide) (by first | omega | assumption | (with_reducible first | exact hR _ | exact xwd_R hR _ _ | exact xch_R hR _ _ | exact am_R_xor _ _ | exact am_R_or _ _ | exact xkept_R hW _ _ | exact xwait_R hW _ _ | exact xpls_R _ _ | exact xwords_R _ _) | (exact ⟨by omega, by omega⟩)) (fun c28 => ?_) (fun c28 => ?_)
      · -- 28t
        refine sx_aload_n dX3_write_34 rfl ?_
        refine sx_callVv dX3_write_35 ml_X3_84 mv3_keeps tx_keeps rfl am_obX rfl (Nat.le_of_ble_eq_true rfl) (Nat.le_of_ble_eq_true rfl) ?_
        refine sx_aload_n dX3_write_38 rfl ?_
        refine sx_iload_n dX3_write_39 rfl ?_
        refine sx_iconst dX3_write_40 ?_
        refine sx_callVi dX3_write_41 ml_X3_45 mv3_wd (tx_wd _ _ (by first | omega | assumption | (with_reducible first | exact hR _ | exact xwd_R hR _ _ | exact xch_R hR _ _ | exact am_R_xor _ _ | exact am_R_or _ _ | exact xkept_R hW _ _ | exact xwait_R hW _ _ | exact xpls_R _ _ | exact xwords_R _ _) | (exact ⟨by omega, by omega⟩)) (by first | omega | assumption | (with_reducible first | exact hR _ | exact xwd_R hR _ _ | exact xch_R hR _ _ | exact am_R_xor _ _ | exact am_R_or _ _ | exact xkept_R hW _ _ | exact xwait_R hW _ _ | exact xpls_R _ _ | exact xwords_R _ _) | (exact ⟨by omega, by omega⟩))) rfl am_obX rfl (Nat.le_of_ble_eq_true rfl) (Nat.le_of_ble_eq_true rfl) ?_
        refine sx_istore_n dX3_write_44 (by decide) ?_
        refine sx_aload_n dX3_write_45 rfl ?_
        refine sx_iload_n dX3_write_46 rfl ?_
        refine sx_iconst dX3_write_47 ?_
        refine sx_iload_n dX3_write_48 rfl ?_
        refine sx_callVv dX3_write_49 ml_X3_72 mv3_lays (tx_lays _ _ _ (by omega) (by decide) (by exact ⟨by omega, by omega⟩)) rfl am_obX rfl (Nat.le_of_ble_eq_true rfl) (Nat.le_of_ble_eq_true rfl) ?_
        refine sx_aload_n dX3_write_52 rfl ?_
        refine sx_iload_n dX3_write_53 rfl ?_
        refine sx_callVi dX3_write_54 ml_X3_87 mv3_acted (tx_acted _ (by exact xwd_R hR w 0) (by exact hst)) rfl am_obX rfl (Nat.le_of_ble_eq_true rfl) (Nat.le_of_ble_eq_true rfl) ?_
        exact sx_iret dX3_write_57 rfl (by unfold xwriteR; (repeat' split) <;> first | contradiction | (exfalso; omega) | rfl | (simp_all; done)) (by unfold xwriteX xwriteS; (repeat' split) <;> first | contradiction | (exfalso; omega) | rfl | (simp_all; done))
      · -- 28f
        refine sx_ldc dX3_write_31 kc_X3_96 ?_
        exact sx_iret dX3_write_33 rfl (by unfold xwriteR; (repeat' split) <;> first | contradiction | (exfalso; omega) | rfl | (simp_all; done)) (by unfold xwriteX xwriteS; (repeat' split) <;> first | contradiction | (exfalso; omega) | rfl | (simp_all; done))
    · -- 16f
      refine sx_ldc dX3_write_19 kc_X3_40 ?_
      exact sx_iret dX3_write_21 rfl (by unfold xwriteR; (repeat' split) <;> first | contradiction | (exfalso; omega) | rfl | (simp_all; done)) (by unfold xwriteX xwriteS; (repeat' split) <;> first | contradiction | (exfalso; omega) | rfl | (simp_all; done))
set_option maxHeartbeats 4000000 in
set_option maxRecDepth 100000 in
theorem tx_carry {h0 : am_H} {X : am_M} {S : Nat → Int} (w c : Int) (hW : WX S) (hw9 : am_R w) (hc9 : am_R c) (hst : 0 ≤ X 0 5 ∧ X 0 5 ≤ 4)  : Ct 6 Y3_carry [.inr (7, 0), .inl w, .inl c] (some (.inl (xcarR S w c))) (xh h0 X S) (xh h0 (xcarX X S w c) (xcarS S w c)) := by
  refine Ct_of (by decide +kernel) (Nat.le_of_ble_eq_true rfl) ?_
  show Sx 6 Y3_carry (xh h0 (xcarX X S w c) (xcarS S w c)) (some (.inl (xcarR S w c))) 0 [some (.inr (7, 0)), some (.inl w), some (.inl c), none] [] (xh h0 X S)
  refine xs_vh (fun hR hRX => ?_)
  obtain ⟨w0, w1, wg, wf, wo⟩ := id hW
  refine sx_aload_n dX3_carry_0 rfl ?_
  refine sx_iload_n dX3_carry_1 rfl ?_
  refine sx_callVi dX3_carry_2 ml_X3_133 mv3_isWord (tx_isWord _ hW (by first | omega | assumption | (with_reducible first | exact hR _ | exact xwd_R hR _ _ | exact xch_R hR _ _ | exact am_R_and _ _ | exact am_R_or _ _ | exact am_R_xor _ _ | exact am_R_shl _ _ | exact am_R_shr _ _ | exact bit_R _ _ | exact xpls_R _ _ | exact xkept_R hW _ _ | exact xwait_R hW _ _ ) | (exact ⟨by omega, by omega⟩) | exact wf _ (by omega) (by omega) | exact wg _ (by omega) (by omega))) rfl am_obX rfl (Nat.le_of_ble_eq_true rfl) (Nat.le_of_ble_eq_true rfl) ?_
  refine sx_ifB_eq (tgt := 16) dX3_carry_5 (by decide) (fun c5 => ?_) (fun c5 => ?_)
  · -- 5t
    refine sx_ldc dX3_carry_16 kc_X3_40 ?_
    exact sx_iret dX3_carry_18 rfl (by unfold xcarR xcarC; (repeat' split) <;> first | contradiction | (exfalso; omega) | rfl | (simp_all; done)) (by unfold xcarX xcarS xcarC; (repeat' split) <;> first | contradiction | (exfalso; omega) | rfl | (simp_all; done))
  · -- 5f
    refine sx_aload_n dX3_carry_8 rfl ?_
    refine sx_iload_n dX3_carry_9 rfl ?_
    refine sx_callVi dX3_carry_10 ml_X3_90 mv3_isChip (tx_isChip _ hW (by first | omega | assumption | (with_reducible first | exact hR _ | exact xwd_R hR _ _ | exact xch_R hR _ _ | exact am_R_and _ _ | exact am_R_or _ _ | exact am_R_xor _ _ | exact am_R_shl _ _ | exact am_R_shr _ _ | exact bit_R _ _ | exact xpls_R _ _ | exact xkept_R hW _ _ | exact xwait_R hW _ _ ) | (exact ⟨by omega, by omega⟩) | exact wf _ (by omega) (by omega) | exact wg _ (by omega) (by omega))) rfl am_obX rfl (Nat.le_of_ble_eq_true rfl) (Nat.le_of_ble_eq_true rfl) ?_
    refine sx_ifB_ne (tgt := 19) dX3_carry_13 (by decide) (fun c13 => ?_) (fun c13 => ?_)
    · -- 13t
      refine sx_aload_n dX3_carry_19 rfl ?_
      refine sx_iload_n dX3_carry_20 rfl ?_
      refine sx_iconst dX3_carry_21 ?_
      refine sx_callVi dX3_carry_22 ml_X3_45 mv3_wd (tx_wd _ _ (by first | omega | assumption | (with_reducible first | exact hR _ | exact xwd_R hR _ _ | exact xch_R hR _ _ | exact am_R_xor _ _ | exact am_R_or _ _ | exact xkept_R hW _ _ | exact xwait_R hW _ _ | exact xpls_R _ _ | exact xwords_R _ _) | (exact ⟨by omega, by omega⟩)) (by first | omega | assumption | (with_reducible first | exact hR _ | exact xwd_R hR _ _ | exact xch_R hR _ _ | exact am_R_xor _ _ | exact am_R_or _ _ | exact xkept_R hW _ _ | exact xwait_R hW _ _ | exact xpls_R _ _ | exact xwords_R _ _) | (exact ⟨by omega, by omega⟩))) rfl am_obX rfl (Nat.le_of_ble_eq_true rfl) (Nat.le_of_ble_eq_true rfl) ?_
      refine sx_if_ne (tgt := 46) dX3_carry_25 (by decide) (by first | omega | assumption | (with_reducible first | exact hR _ | exact xwd_R hR _ _ | exact xch_R hR _ _ | exact am_R_xor _ _ | exact am_R_or _ _ | exact xkept_R hW _ _ | exact xwait_R hW _ _ | exact xpls_R _ _ | exact xwords_R _ _) | (exact ⟨by omega, by omega⟩)) (fun c25 => ?_) (fun c25 => ?_)
      · -- 25t
        refine sx_ldc dX3_carry_46 kc_X3_96 ?_
        exact sx_iret dX3_carry_48 rfl (by unfold xcarR xcarC; (repeat' split) <;> first | contradiction | (exfalso; omega) | rfl | (simp_all; done)) (by unfold xcarX xcarS xcarC; (repeat' split) <;> first | contradiction | (exfalso; omega) | rfl | (simp_all; done))
      · -- 25f
        refine sx_aload_n dX3_carry_28 rfl ?_
        refine sx_iload_n dX3_carry_29 rfl ?_
        refine sx_iconst dX3_carry_30 ?_
        refine sx_callVi dX3_carry_31 ml_X3_45 mv3_wd (tx_wd _ _ (by first | omega | assumption | (with_reducible first | exact hR _ | exact xwd_R hR _ _ | exact xch_R hR _ _ | exact am_R_xor _ _ | exact am_R_or _ _ | exact xkept_R hW _ _ | exact xwait_R hW _ _ | exact xpls_R _ _ | exact xwords_R _ _) | (exact ⟨by omega, by omega⟩)) (by first | omega | assumption | (with_reducible first | exact hR _ | exact xwd_R hR _ _ | exact xch_R hR _ _ | exact am_R_xor _ _ | exact am_R_or _ _ | exact xkept_R hW _ _ | exact xwait_R hW _ _ | exact xpls_R _ _ | exact xwords_R _ _) | (exact ⟨by omega, by omega⟩))) rfl am_obX rfl (Nat.le_of_ble_eq_true rfl) (Nat.le_of_ble_eq_true rfl) ?_
        refine sx_iload_n dX3_carry_34 rfl ?_
        refine sx_icmp_eq (tgt := 46) dX3_carry_35 (by decide) (by first | omega | assumption | (with_reducible first | exact hR _ | exact xwd_R hR _ _ | exact xch_R hR _ _ | exact am_R_xor _ _ | exact am_R_or _ _ | exact xkept_R hW _ _ | exact xwait_R hW _ _ | exact xpls_R _ _ | exact xwords_R _ _) | (exact ⟨by omega, by omega⟩)) (by first | omega | assumption | (with_reducible first | exact hR _ | exact xwd_R hR _ _ | exact xch_R hR _ _ | exact am_R_xor _ _ | exact am_R_or _ _ | exact xkept_R hW _ _ | exact xwait_R hW _ _ | exact xpls_R _ _ | exact xwords_R _ _) | (exact ⟨by omega, by omega⟩)) (fun c35 => ?_) (fun c35 => ?_)
        · -- 35t
          refine sx_ldc dX3_carry_46 kc_X3_96 ?_
          exact sx_iret dX3_carry_48 rfl (by unfold xcarR xcarC; (repeat' split) <;> first | contradiction | (exfalso; omega) | rfl | (simp_all; done)) (by unfold xcarX xcarS xcarC; (repeat' split) <;> first | contradiction | (exfalso; omega) | rfl | (simp_all; done))
        · -- 35f
          refine sx_aload_n dX3_carry_38 rfl ?_
          refine sx_iload_n dX3_carry_39 rfl ?_
          refine sx_callVi dX3_carry_40 ml_X3_68 mv3_places (tx_places _ hW (by first | omega | assumption | (with_reducible first | exact hR _ | exact xwd_R hR _ _ | exact xch_R hR _ _ | exact am_R_xor _ _ | exact am_R_or _ _ | exact xkept_R hW _ _ | exact xwait_R hW _ _ | exact xpls_R _ _ | exact xwords_R _ _) | (exact ⟨by omega, by omega⟩))) rfl am_obX rfl (Nat.le_of_ble_eq_true rfl) (Nat.le_of_ble_eq_true rfl) ?_
          refine sx_if_ne (tgt := 49) dX3_carry_43 (by decide) (by first | omega | assumption | (with_reducible first | exact hR _ | exact xwd_R hR _ _ | exact xch_R hR _ _ | exact am_R_xor _ _ | exact am_R_or _ _ | exact xkept_R hW _ _ | exact xwait_R hW _ _ | exact xpls_R _ _ | exact xwords_R _ _) | (exact ⟨by omega, by omega⟩)) (fun c43 => ?_) (fun c43 => ?_)
          · -- 43t
            have hl := xlow_lt (S := S) (c := c) c43
            have hl0 := xlow_0 S c
            refine sx_aload_n dX3_carry_49 rfl ?_
            refine sx_callVv dX3_carry_50 ml_X3_84 mv3_keeps tx_keeps rfl am_obX rfl (Nat.le_of_ble_eq_true rfl) (Nat.le_of_ble_eq_true rfl) ?_
            refine sx_aload_n dX3_carry_53 rfl ?_
            refine sx_iload_n dX3_carry_54 rfl ?_
            refine sx_callVi dX3_carry_55 ml_X3_124 mv3_lowest (tx_lowest _ hW (by omega) hl) rfl am_obX rfl (Nat.le_of_ble_eq_true rfl) (Nat.le_of_ble_eq_true rfl) ?_
            refine sx_istore_n dX3_carry_58 (by decide) ?_
            refine sx_aload_n dX3_carry_59 rfl ?_
            refine sx_iload_n dX3_carry_60 rfl ?_
            refine sx_iload_n dX3_carry_61 rfl ?_
            refine sx_iload_n dX3_carry_62 rfl ?_
            refine sx_callVv dX3_carry_63 ml_X3_127 mv3_sits (tx_sits _ _ _ (by omega) (by omega) (by exact ⟨by omega, by omega⟩)) rfl am_obX rfl (Nat.le_of_ble_eq_true rfl) (Nat.le_of_ble_eq_true rfl) ?_
            refine sx_aload_n dX3_carry_66 rfl ?_
            refine sx_iload_n dX3_carry_67 rfl ?_
            refine sx_callVi dX3_carry_68 ml_X3_87 mv3_acted (tx_acted _ (by exact ⟨by omega, by omega⟩) (by exact hst)) rfl am_obX rfl (Nat.le_of_ble_eq_true rfl) (Nat.le_of_ble_eq_true rfl) ?_
            exact sx_iret dX3_carry_71 rfl (by unfold xcarR xcarC; (repeat' split) <;> first | contradiction | (exfalso; omega) | rfl | (simp_all; done)) (by unfold xcarX xcarS xcarC; (repeat' split) <;> first | contradiction | (exfalso; omega) | rfl | (simp_all; done))
          · -- 43f
            refine sx_ldc dX3_carry_46 kc_X3_96 ?_
            exact sx_iret dX3_carry_48 rfl (by unfold xcarR xcarC; (repeat' split) <;> first | contradiction | (exfalso; omega) | rfl | (simp_all; done)) (by unfold xcarX xcarS xcarC; (repeat' split) <;> first | contradiction | (exfalso; omega) | rfl | (simp_all; done))
    · -- 13f
      refine sx_ldc dX3_carry_16 kc_X3_40 ?_
      exact sx_iret dX3_carry_18 rfl (by unfold xcarR xcarC; (repeat' split) <;> first | contradiction | (exfalso; omega) | rfl | (simp_all; done)) (by unfold xcarX xcarS xcarC; (repeat' split) <;> first | contradiction | (exfalso; omega) | rfl | (simp_all; done))
set_option maxHeartbeats 4000000 in
set_option maxRecDepth 100000 in
theorem tx_wordOf {h0 : am_H} {X : am_M} {S : Nat → Int} (w k : Int) (hW : WX S) (hw9 : am_R w) (hk9 : am_R k)  : Ct 2 Y3_wordOf [.inr (7, 0), .inl w, .inl k] (some (.inl (xwordOf S w k))) (xh h0 X S) (xh h0 X S) := by
  refine Ct_of (by decide +kernel) (Nat.le_of_ble_eq_true rfl) ?_
  show Sx 2 Y3_wordOf (xh h0 X S) (some (.inl (xwordOf S w k))) 0 [some (.inr (7, 0)), some (.inl w), some (.inl k), none] [] (xh h0 X S)
  refine xs_vh (fun hR hRX => ?_)
  obtain ⟨w0, w1, wg, wf, wo⟩ := id hW
  refine sx_aload_n dX3_wordOf_0 rfl ?_
  refine sx_iload_n dX3_wordOf_1 rfl ?_
  refine sx_callVi dX3_wordOf_2 ml_X3_133 mv3_isWord (tx_isWord _ hW (by first | omega | assumption | (with_reducible first | exact hR _ | exact xwd_R hR _ _ | exact xch_R hR _ _ | exact am_R_and _ _ | exact am_R_or _ _ | exact am_R_xor _ _ | exact am_R_shl _ _ | exact am_R_shr _ _ | exact bit_R _ _ | exact xpls_R _ _ | exact xkept_R hW _ _ | exact xwait_R hW _ _ ) | (exact ⟨by omega, by omega⟩) | exact wf _ (by omega) (by omega) | exact wg _ (by omega) (by omega))) rfl am_obX rfl (Nat.le_of_ble_eq_true rfl) (Nat.le_of_ble_eq_true rfl) ?_
  refine sx_ifB_eq (tgt := 17) dX3_wordOf_5 (by decide) (fun c5 => ?_) (fun c5 => ?_)
  · -- 5t
    refine sx_ldc dX3_wordOf_17 kc_X3_40 ?_
    exact sx_iret dX3_wordOf_19 rfl (by unfold xwordOf; (repeat' split) <;> first | contradiction | (exfalso; omega) | rfl | (simp_all; done)) rfl
  · -- 5f
    refine sx_iload_n dX3_wordOf_8 rfl ?_
    refine sx_iconst dX3_wordOf_9 ?_
    refine sx_iconst dX3_wordOf_10 ?_
    refine sx_callSi dX3_wordOf_11 ml_X3_32 ms3_in (tx_in _ _ _ (by first | omega | assumption | (with_reducible first | exact hR _ | exact xwd_R hR _ _ | exact xch_R hR _ _ | exact am_R_and _ _ | exact am_R_or _ _ | exact am_R_xor _ _ | exact am_R_shl _ _ | exact am_R_shr _ _ | exact bit_R _ _ | exact xpls_R _ _ | exact xkept_R hW _ _ | exact xwait_R hW _ _ ) | (exact ⟨by omega, by omega⟩) | exact wf _ (by omega) (by omega) | exact wg _ (by omega) (by omega)) (by first | omega | assumption | (with_reducible first | exact hR _ | exact xwd_R hR _ _ | exact xch_R hR _ _ | exact am_R_and _ _ | exact am_R_or _ _ | exact am_R_xor _ _ | exact am_R_shl _ _ | exact am_R_shr _ _ | exact bit_R _ _ | exact xpls_R _ _ | exact xkept_R hW _ _ | exact xwait_R hW _ _ ) | (exact ⟨by omega, by omega⟩) | exact wf _ (by omega) (by omega) | exact wg _ (by omega) (by omega)) (by first | omega | assumption | (with_reducible first | exact hR _ | exact xwd_R hR _ _ | exact xch_R hR _ _ | exact am_R_and _ _ | exact am_R_or _ _ | exact am_R_xor _ _ | exact am_R_shl _ _ | exact am_R_shr _ _ | exact bit_R _ _ | exact xpls_R _ _ | exact xkept_R hW _ _ | exact xwait_R hW _ _ ) | (exact ⟨by omega, by omega⟩) | exact wf _ (by omega) (by omega) | exact wg _ (by omega) (by omega))) rfl rfl (Nat.le_of_ble_eq_true rfl) (Nat.le_of_ble_eq_true rfl) ?_
    refine sx_ifB_ne (tgt := 20) dX3_wordOf_14 (by decide) (fun c14 => ?_) (fun c14 => ?_)
    · -- 14t
      refine sx_aload_n dX3_wordOf_20 rfl ?_
      refine sx_iload_n dX3_wordOf_21 rfl ?_
      refine sx_iconst dX3_wordOf_22 ?_
      refine sx_callVi dX3_wordOf_23 ml_X3_45 mv3_wd (tx_wd _ _ (by first | omega | assumption | (with_reducible first | exact hR _ | exact xwd_R hR _ _ | exact xch_R hR _ _ | exact am_R_xor _ _ | exact am_R_or _ _ | exact xkept_R hW _ _ | exact xwait_R hW _ _ | exact xpls_R _ _ | exact xwords_R _ _) | (exact ⟨by omega, by omega⟩)) (by first | omega | assumption | (with_reducible first | exact hR _ | exact xwd_R hR _ _ | exact xch_R hR _ _ | exact am_R_xor _ _ | exact am_R_or _ _ | exact xkept_R hW _ _ | exact xwait_R hW _ _ | exact xpls_R _ _ | exact xwords_R _ _) | (exact ⟨by omega, by omega⟩))) rfl am_obX rfl (Nat.le_of_ble_eq_true rfl) (Nat.le_of_ble_eq_true rfl) ?_
      refine sx_istore_n dX3_wordOf_26 (by decide) ?_
      refine sx_iload_n dX3_wordOf_27 rfl ?_
      have hs28 : k < 0 ∨ 4 < k ∨ k = 0 ∨ k = 1 ∨ k = 2 ∨ k = 3 ∨ k = 4 := by omega
      rcases hs28 with hs28 | hs28 | hs28 | hs28 | hs28 | hs28 | hs28
      · refine sx_tableOut (tgt := 117) dX3_wordOf_28 (by first | omega | assumption | (with_reducible first | exact hR _ | exact xwd_R hR _ _ | exact xch_R hR _ _ | exact am_R_xor _ _ | exact am_R_or _ _ | exact xkept_R hW _ _ | exact xwait_R hW _ _ | exact xpls_R _ _ | exact xwords_R _ _) | (exact ⟨by omega, by omega⟩)) (Or.inl hs28) (by decide) ?_
        refine sx_aload_n dX3_wordOf_117 rfl ?_
        refine sx_iload_n dX3_wordOf_118 rfl ?_
        refine sx_bipush dX3_wordOf_119 rfl ?_
        refine sx_callVi dX3_wordOf_121 ml_X3_45 mv3_wd (tx_wd _ _ (by first | omega | assumption | (with_reducible first | exact hR _ | exact xwd_R hR _ _ | exact xch_R hR _ _ | exact am_R_xor _ _ | exact am_R_or _ _ | exact xkept_R hW _ _ | exact xwait_R hW _ _ | exact xpls_R _ _ | exact xwords_R _ _) | (exact ⟨by omega, by omega⟩)) (by first | omega | assumption | (with_reducible first | exact hR _ | exact xwd_R hR _ _ | exact xch_R hR _ _ | exact am_R_xor _ _ | exact am_R_or _ _ | exact xkept_R hW _ _ | exact xwait_R hW _ _ | exact xpls_R _ _ | exact xwords_R _ _) | (exact ⟨by omega, by omega⟩))) rfl am_obX rfl (Nat.le_of_ble_eq_true rfl) (Nat.le_of_ble_eq_true rfl) ?_
        exact sx_iret dX3_wordOf_124 rfl (by unfold xwordOf; (repeat' split) <;> first | contradiction | (exfalso; omega) | rfl | (simp_all; done)) rfl
      · refine sx_tableOut (tgt := 117) dX3_wordOf_28 (by first | omega | assumption | (with_reducible first | exact hR _ | exact xwd_R hR _ _ | exact xch_R hR _ _ | exact am_R_xor _ _ | exact am_R_or _ _ | exact xkept_R hW _ _ | exact xwait_R hW _ _ | exact xpls_R _ _ | exact xwords_R _ _) | (exact ⟨by omega, by omega⟩)) (Or.inr hs28) (by decide) ?_
        refine sx_aload_n dX3_wordOf_117 rfl ?_
        refine sx_iload_n dX3_wordOf_118 rfl ?_
        refine sx_bipush dX3_wordOf_119 rfl ?_
        refine sx_callVi dX3_wordOf_121 ml_X3_45 mv3_wd (tx_wd _ _ (by first | omega | assumption | (with_reducible first | exact hR _ | exact xwd_R hR _ _ | exact xch_R hR _ _ | exact am_R_xor _ _ | exact am_R_or _ _ | exact xkept_R hW _ _ | exact xwait_R hW _ _ | exact xpls_R _ _ | exact xwords_R _ _) | (exact ⟨by omega, by omega⟩)) (by first | omega | assumption | (with_reducible first | exact hR _ | exact xwd_R hR _ _ | exact xch_R hR _ _ | exact am_R_xor _ _ | exact am_R_or _ _ | exact xkept_R hW _ _ | exact xwait_R hW _ _ | exact xpls_R _ _ | exact xwords_R _ _) | (exact ⟨by omega, by omega⟩))) rfl am_obX rfl (Nat.le_of_ble_eq_true rfl) (Nat.le_of_ble_eq_true rfl) ?_
        exact sx_iret dX3_wordOf_124 rfl (by unfold xwordOf; (repeat' split) <;> first | contradiction | (exfalso; omega) | rfl | (simp_all; done)) rfl
      · subst hs28
        refine sx_tableIn (tgt := 64) (off := 36) dX3_wordOf_28 ⟨by decide, by decide⟩ (by decide) (by decide) rfl (by decide) ?_
        refine sx_iload_n dX3_wordOf_64 rfl ?_
        exact sx_iret dX3_wordOf_65 rfl (by unfold xwordOf; (repeat' split) <;> first | contradiction | (exfalso; omega) | rfl | (simp_all; done)) rfl
      · subst hs28
        refine sx_tableIn (tgt := 66) (off := 38) dX3_wordOf_28 ⟨by decide, by decide⟩ (by decide) (by decide) rfl (by decide) ?_
        refine sx_iload_n dX3_wordOf_66 rfl ?_
        refine sx_if_ne (tgt := 79) dX3_wordOf_67 (by decide) (by first | omega | assumption | (with_reducible first | exact hR _ | exact xwd_R hR _ _ | exact xch_R hR _ _ | exact am_R_xor _ _ | exact am_R_or _ _ | exact xkept_R hW _ _ | exact xwait_R hW _ _ | exact xpls_R _ _ | exact xwords_R _ _) | (exact ⟨by omega, by omega⟩)) (fun c67 => ?_) (fun c67 => ?_)
        · -- 67t
          refine sx_ldc dX3_wordOf_79 kc_X3_123 ?_
          exact sx_iret dX3_wordOf_81 rfl (by unfold xwordOf; (repeat' split) <;> first | contradiction | (exfalso; omega) | rfl | (simp_all; done)) rfl
        · -- 67f
          refine sx_aload_n dX3_wordOf_70 rfl ?_
          refine sx_iload_n dX3_wordOf_71 rfl ?_
          refine sx_iconst dX3_wordOf_72 ?_
          refine sx_callVi dX3_wordOf_73 ml_X3_45 mv3_wd (tx_wd _ _ (by first | omega | assumption | (with_reducible first | exact hR _ | exact xwd_R hR _ _ | exact xch_R hR _ _ | exact am_R_xor _ _ | exact am_R_or _ _ | exact xkept_R hW _ _ | exact xwait_R hW _ _ | exact xpls_R _ _ | exact xwords_R _ _) | (exact ⟨by omega, by omega⟩)) (by first | omega | assumption | (with_reducible first | exact hR _ | exact xwd_R hR _ _ | exact xch_R hR _ _ | exact am_R_xor _ _ | exact am_R_or _ _ | exact xkept_R hW _ _ | exact xwait_R hW _ _ | exact xpls_R _ _ | exact xwords_R _ _) | (exact ⟨by omega, by omega⟩))) rfl am_obX rfl (Nat.le_of_ble_eq_true rfl) (Nat.le_of_ble_eq_true rfl) ?_
          refine sx_goto (tgt := 81) dX3_wordOf_76 (by decide) ?_
          exact sx_iret dX3_wordOf_81 rfl (by unfold xwordOf; (repeat' split) <;> first | contradiction | (exfalso; omega) | rfl | (simp_all; done)) rfl
      · subst hs28
        refine sx_tableIn (tgt := 82) (off := 54) dX3_wordOf_28 ⟨by decide, by decide⟩ (by decide) (by decide) rfl (by decide) ?_
        refine sx_iload_n dX3_wordOf_82 rfl ?_
        refine sx_iconst dX3_wordOf_83 ?_
        refine sx_icmp_ne (tgt := 92) dX3_wordOf_84 (by decide) (by first | omega | assumption | (with_reducible first | exact hR _ | exact xwd_R hR _ _ | exact xch_R hR _ _ | exact am_R_xor _ _ | exact am_R_or _ _ | exact xkept_R hW _ _ | exact xwait_R hW _ _ | exact xpls_R _ _ | exact xwords_R _ _) | (exact ⟨by omega, by omega⟩)) ⟨by decide, by decide⟩ (fun c84 => ?_) (fun c84 => ?_)
        · -- 84t
          refine sx_aload_n dX3_wordOf_92 rfl ?_
          refine sx_iload_n dX3_wordOf_93 rfl ?_
          refine sx_iload_n dX3_wordOf_94 rfl ?_
          refine sx_iconst dX3_wordOf_95 ?_
          refine sx_iadd dX3_wordOf_96 ?_
          refine sx_callVi dX3_wordOf_97 ml_X3_45 mv3_wd (tx_wd _ _ (by first | omega | assumption | (with_reducible first | exact hR _ | exact xwd_R hR _ _ | exact xch_R hR _ _ | exact am_R_xor _ _ | exact am_R_or _ _ | exact xkept_R hW _ _ | exact xwait_R hW _ _ | exact xpls_R _ _ | exact xwords_R _ _) | (exact ⟨by omega, by omega⟩)) (by first | omega | assumption | (with_reducible first | exact hR _ | exact xwd_R hR _ _ | exact xch_R hR _ _ | exact am_R_xor _ _ | exact am_R_or _ _ | exact xkept_R hW _ _ | exact xwait_R hW _ _ | exact xpls_R _ _ | exact xwords_R _ _) | (exact ⟨by omega, by omega⟩))) rfl am_obX rfl (Nat.le_of_ble_eq_true rfl) (Nat.le_of_ble_eq_true rfl) ?_
          exact sx_iret dX3_wordOf_100 rfl (by unfold xwordOf; (repeat' split) <;> first | contradiction | (exfalso; omega) | rfl | (simp_all; done)) rfl
        · -- 84f
          refine sx_ldc dX3_wordOf_87 kc_X3_123 ?_
          refine sx_goto (tgt := 100) dX3_wordOf_89 (by decide) ?_
          exact sx_iret dX3_wordOf_100 rfl (by unfold xwordOf; (repeat' split) <;> first | contradiction | (exfalso; omega) | rfl | (simp_all; done)) rfl
      · subst hs28
        refine sx_tableIn (tgt := 82) (off := 54) dX3_wordOf_28 ⟨by decide, by decide⟩ (by decide) (by decide) rfl (by decide) ?_
        refine sx_iload_n dX3_wordOf_82 rfl ?_
        refine sx_iconst dX3_wordOf_83 ?_
        refine sx_icmp_ne (tgt := 92) dX3_wordOf_84 (by decide) (by first | omega | assumption | (with_reducible first | exact hR _ | exact xwd_R hR _ _ | exact xch_R hR _ _ | exact am_R_xor _ _ | exact am_R_or _ _ | exact xkept_R hW _ _ | exact xwait_R hW _ _ | exact xpls_R _ _ | exact xwords_R _ _) | (exact ⟨by omega, by omega⟩)) ⟨by decide, by decide⟩ (fun c84 => ?_) (fun c84 => ?_)
        · -- 84t
          refine sx_aload_n dX3_wordOf_92 rfl ?_
          refine sx_iload_n dX3_wordOf_93 rfl ?_
          refine sx_iload_n dX3_wordOf_94 rfl ?_
          refine sx_iconst dX3_wordOf_95 ?_
          refine sx_iadd dX3_wordOf_96 ?_
          refine sx_callVi dX3_wordOf_97 ml_X3_45 mv3_wd (tx_wd _ _ (by first | omega | assumption | (with_reducible first | exact hR _ | exact xwd_R hR _ _ | exact xch_R hR _ _ | exact am_R_xor _ _ | exact am_R_or _ _ | exact xkept_R hW _ _ | exact xwait_R hW _ _ | exact xpls_R _ _ | exact xwords_R _ _) | (exact ⟨by omega, by omega⟩)) (by first | omega | assumption | (with_reducible first | exact hR _ | exact xwd_R hR _ _ | exact xch_R hR _ _ | exact am_R_xor _ _ | exact am_R_or _ _ | exact xkept_R hW _ _ | exact xwait_R hW _ _ | exact xpls_R _ _ | exact xwords_R _ _) | (exact ⟨by omega, by omega⟩))) rfl am_obX rfl (Nat.le_of_ble_eq_true rfl) (Nat.le_of_ble_eq_true rfl) ?_
          exact sx_iret dX3_wordOf_100 rfl (by unfold xwordOf; (repeat' split) <;> first | contradiction | (exfalso; omega) | rfl | (simp_all; done)) rfl
        · -- 84f
          refine sx_ldc dX3_wordOf_87 kc_X3_123 ?_
          refine sx_goto (tgt := 100) dX3_wordOf_89 (by decide) ?_
          exact sx_iret dX3_wordOf_100 rfl (by unfold xwordOf; (repeat' split) <;> first | contradiction | (exfalso; omega) | rfl | (simp_all; done)) rfl
      · subst hs28
        refine sx_tableIn (tgt := 101) (off := 73) dX3_wordOf_28 ⟨by decide, by decide⟩ (by decide) (by decide) rfl (by decide) ?_
        refine sx_iload_n dX3_wordOf_101 rfl ?_
        refine sx_iconst dX3_wordOf_102 ?_
        refine sx_icmp_ne (tgt := 114) dX3_wordOf_103 (by decide) (by first | omega | assumption | (with_reducible first | exact hR _ | exact xwd_R hR _ _ | exact xch_R hR _ _ | exact am_R_xor _ _ | exact am_R_or _ _ | exact xkept_R hW _ _ | exact xwait_R hW _ _ | exact xpls_R _ _ | exact xwords_R _ _) | (exact ⟨by omega, by omega⟩)) ⟨by decide, by decide⟩ (fun c103 => ?_) (fun c103 => ?_)
        · -- 103t
          refine sx_ldc dX3_wordOf_114 kc_X3_123 ?_
          exact sx_iret dX3_wordOf_116 rfl (by unfold xwordOf; (repeat' split) <;> first | contradiction | (exfalso; omega) | rfl | (simp_all; done)) rfl
        · -- 103f
          refine sx_aload_n dX3_wordOf_106 rfl ?_
          refine sx_iload_n dX3_wordOf_107 rfl ?_
          refine sx_callVi dX3_wordOf_108 ml_X3_142 mv3_ahead (tx_ahead _ hW (by first | omega | assumption | (with_reducible first | exact hR _ | exact xwd_R hR _ _ | exact xch_R hR _ _ | exact am_R_xor _ _ | exact am_R_or _ _ | exact xkept_R hW _ _ | exact xwait_R hW _ _ | exact xpls_R _ _ | exact xwords_R _ _) | (exact ⟨by omega, by omega⟩))) rfl am_obX rfl (Nat.le_of_ble_eq_true rfl) (Nat.le_of_ble_eq_true rfl) ?_
          refine sx_goto (tgt := 116) dX3_wordOf_111 (by decide) ?_
          exact sx_iret dX3_wordOf_116 rfl (by unfold xwordOf; (repeat' split) <;> first | contradiction | (exfalso; omega) | rfl | (simp_all; done)) rfl
    · -- 14f
      refine sx_ldc dX3_wordOf_17 kc_X3_40 ?_
      exact sx_iret dX3_wordOf_19 rfl (by unfold xwordOf; (repeat' split) <;> first | contradiction | (exfalso; omega) | rfl | (simp_all; done)) rfl
set_option maxHeartbeats 4000000 in
set_option maxRecDepth 100000 in
theorem tx_familyOf {h0 : am_H} {X : am_M} {S : Nat → Int} (f k : Int) (hW : WX S) (hf9 : am_R f) (hk9 : am_R k)  : Ct 4 Y3_familyOf [.inr (7, 0), .inl f, .inl k] (some (.inl (xfamOf S f k))) (xh h0 X S) (xh h0 X S) := by
  refine Ct_of (by decide +kernel) (Nat.le_of_ble_eq_true rfl) ?_
  show Sx 4 Y3_familyOf (xh h0 X S) (some (.inl (xfamOf S f k))) 0 [some (.inr (7, 0)), some (.inl f), some (.inl k), none, none] [] (xh h0 X S)
  refine xs_vh (fun hR hRX => ?_)
  obtain ⟨w0, w1, wg, wf, wo⟩ := id hW
  refine sx_iload_n dX3_familyOf_0 rfl ?_
  refine sx_iconst dX3_familyOf_1 ?_
  refine sx_iconst dX3_familyOf_2 ?_
  refine sx_callSi dX3_familyOf_3 ml_X3_32 ms3_in (tx_in _ _ _ (by first | omega | assumption | (with_reducible first | exact hR _ | exact xwd_R hR _ _ | exact xch_R hR _ _ | exact am_R_and _ _ | exact am_R_or _ _ | exact am_R_xor _ _ | exact am_R_shl _ _ | exact am_R_shr _ _ | exact bit_R _ _ | exact xpls_R _ _ | exact xkept_R hW _ _ | exact xwait_R hW _ _ ) | (exact ⟨by omega, by omega⟩) | exact wf _ (by omega) (by omega) | exact wg _ (by omega) (by omega)) (by first | omega | assumption | (with_reducible first | exact hR _ | exact xwd_R hR _ _ | exact xch_R hR _ _ | exact am_R_and _ _ | exact am_R_or _ _ | exact am_R_xor _ _ | exact am_R_shl _ _ | exact am_R_shr _ _ | exact bit_R _ _ | exact xpls_R _ _ | exact xkept_R hW _ _ | exact xwait_R hW _ _ ) | (exact ⟨by omega, by omega⟩) | exact wf _ (by omega) (by omega) | exact wg _ (by omega) (by omega)) (by first | omega | assumption | (with_reducible first | exact hR _ | exact xwd_R hR _ _ | exact xch_R hR _ _ | exact am_R_and _ _ | exact am_R_or _ _ | exact am_R_xor _ _ | exact am_R_shl _ _ | exact am_R_shr _ _ | exact bit_R _ _ | exact xpls_R _ _ | exact xkept_R hW _ _ | exact xwait_R hW _ _ ) | (exact ⟨by omega, by omega⟩) | exact wf _ (by omega) (by omega) | exact wg _ (by omega) (by omega))) rfl rfl (Nat.le_of_ble_eq_true rfl) (Nat.le_of_ble_eq_true rfl) ?_
  refine sx_ifB_eq (tgt := 19) dX3_familyOf_6 (by decide) (fun c6 => ?_) (fun c6 => ?_)
  · -- 6t
    refine sx_ldc dX3_familyOf_19 kc_X3_40 ?_
    exact sx_iret dX3_familyOf_21 rfl (by unfold xfamOf xgod; (repeat' split) <;> first | contradiction | (exfalso; omega) | rfl | (simp_all; done)) rfl
  · -- 6f
    refine sx_iload_n dX3_familyOf_9 rfl ?_
    refine sx_iconst dX3_familyOf_10 ?_
    refine sx_bipush dX3_familyOf_11 rfl ?_
    refine sx_callSi dX3_familyOf_13 ml_X3_32 ms3_in (tx_in _ _ _ (by first | omega | assumption | (with_reducible first | exact hR _ | exact xwd_R hR _ _ | exact xch_R hR _ _ | exact am_R_and _ _ | exact am_R_or _ _ | exact am_R_xor _ _ | exact am_R_shl _ _ | exact am_R_shr _ _ | exact bit_R _ _ | exact xpls_R _ _ | exact xkept_R hW _ _ | exact xwait_R hW _ _ ) | (exact ⟨by omega, by omega⟩) | exact wf _ (by omega) (by omega) | exact wg _ (by omega) (by omega)) (by first | omega | assumption | (with_reducible first | exact hR _ | exact xwd_R hR _ _ | exact xch_R hR _ _ | exact am_R_and _ _ | exact am_R_or _ _ | exact am_R_xor _ _ | exact am_R_shl _ _ | exact am_R_shr _ _ | exact bit_R _ _ | exact xpls_R _ _ | exact xkept_R hW _ _ | exact xwait_R hW _ _ ) | (exact ⟨by omega, by omega⟩) | exact wf _ (by omega) (by omega) | exact wg _ (by omega) (by omega)) (by first | omega | assumption | (with_reducible first | exact hR _ | exact xwd_R hR _ _ | exact xch_R hR _ _ | exact am_R_and _ _ | exact am_R_or _ _ | exact am_R_xor _ _ | exact am_R_shl _ _ | exact am_R_shr _ _ | exact bit_R _ _ | exact xpls_R _ _ | exact xkept_R hW _ _ | exact xwait_R hW _ _ ) | (exact ⟨by omega, by omega⟩) | exact wf _ (by omega) (by omega) | exact wg _ (by omega) (by omega))) rfl rfl (Nat.le_of_ble_eq_true rfl) (Nat.le_of_ble_eq_true rfl) ?_
    refine sx_ifB_ne (tgt := 22) dX3_familyOf_16 (by decide) (fun c16 => ?_) (fun c16 => ?_)
    · -- 16t
      refine sx_iconst dX3_familyOf_22 ?_
      refine sx_istore_n dX3_familyOf_23 (by decide) ?_
      refine sx_iconst dX3_familyOf_24 ?_
      refine sx_istore dX3_familyOf_25 (by decide) ?_
      have loop27 : ∀ (n : Nat) (g : Int) (c : Nat), (S 0 - c).toNat = n → (c : Int) ≤ S 0 → g = xliv S f c → Sx 4 Y3_familyOf (xh h0 X S) (some (.inl (xfamOf S f k))) 27 [some (.inr (7, 0)), some (.inl f), some (.inl k), some (.inl g), some (.inl (c : Int))] [] (xh h0 X S) := by
        intro n
        induction n using Nat.strongRecOn with
        | _ n ih27 =>
          intro g c hn hle hf
          refine sx_iload dX3_familyOf_27 rfl ?_
          refine sx_aload_n dX3_familyOf_29 rfl ?_
          refine xs_getr (j := 1) dX3_familyOf_30 fl_X3_7 (by decide) rfl ?_
          refine sx_iconst dX3_familyOf_33 ?_
          refine xs_ild (n := 208) (m := 0) dX3_familyOf_34 rfl (by decide) (by decide) (by decide) rfl (fun r34 => ?_)
          refine sx_icmp_ge (tgt := 75) dX3_familyOf_35 (by decide) (by first | omega | assumption | (with_reducible first | exact hR _ | exact xwd_R hR _ _ | exact xch_R hR _ _ | exact am_R_xor _ _ | exact am_R_or _ _ | exact xkept_R hW _ _ | exact xwait_R hW _ _ | exact xpls_R _ _ | exact xwords_R _ _) | (exact ⟨by omega, by omega⟩)) (by first | omega | assumption | (with_reducible first | exact hR _ | exact xwd_R hR _ _ | exact xch_R hR _ _ | exact am_R_xor _ _ | exact am_R_or _ _ | exact xkept_R hW _ _ | exact xwait_R hW _ _ | exact xpls_R _ _ | exact xwords_R _ _) | (exact ⟨by omega, by omega⟩)) (fun c35 => ?_) (fun c35 => ?_)
          · -- 35t
            have hcS : c = (S 0).toNat := by omega
            rw [hcS] at hf
            refine sx_iload_n dX3_familyOf_75 rfl ?_
            have hs76 : k < 0 ∨ 5 < k ∨ k = 0 ∨ k = 1 ∨ k = 2 ∨ k = 3 ∨ k = 4 ∨ k = 5 := by omega
            rcases hs76 with hs76 | hs76 | hs76 | hs76 | hs76 | hs76 | hs76 | hs76
            · refine sx_tableOut (tgt := 173) dX3_familyOf_76 (by first | omega | assumption | (with_reducible first | exact hR _ | exact xwd_R hR _ _ | exact xch_R hR _ _ | exact am_R_xor _ _ | exact am_R_or _ _ | exact xkept_R hW _ _ | exact xwait_R hW _ _ | exact xpls_R _ _ | exact xwords_R _ _) | (exact ⟨by omega, by omega⟩)) (Or.inl hs76) (by decide) ?_
              refine sx_aload_n dX3_familyOf_173 rfl ?_
              refine sx_iload_n dX3_familyOf_174 rfl ?_
              refine sx_callVi dX3_familyOf_175 ml_X3_149 mv3_firstOf (tx_firstOf _ hW (by first | omega | assumption | (with_reducible first | exact hR _ | exact xwd_R hR _ _ | exact xch_R hR _ _ | exact am_R_xor _ _ | exact am_R_or _ _ | exact xkept_R hW _ _ | exact xwait_R hW _ _ | exact xpls_R _ _ | exact xwords_R _ _) | (exact ⟨by omega, by omega⟩))) rfl am_obX rfl (Nat.le_of_ble_eq_true rfl) (Nat.le_of_ble_eq_true rfl) ?_
              have hff9 := xfirst_b hW f
              refine sx_if_ge (tgt := 186) dX3_familyOf_178 (by decide) (by first | omega | assumption | (with_reducible first | exact hR _ | exact xwd_R hR _ _ | exact xch_R hR _ _ | exact am_R_xor _ _ | exact am_R_or _ _ | exact xkept_R hW _ _ | exact xwait_R hW _ _ | exact xpls_R _ _ | exact xwords_R _ _) | (exact ⟨by omega, by omega⟩)) (fun c178 => ?_) (fun c178 => ?_)
              · -- 178t
                refine sx_aload_n dX3_familyOf_186 rfl ?_
                refine sx_iload_n dX3_familyOf_187 rfl ?_
                refine sx_callVi dX3_familyOf_188 ml_X3_149 mv3_firstOf (tx_firstOf _ hW (by first | omega | assumption | (with_reducible first | exact hR _ | exact xwd_R hR _ _ | exact xch_R hR _ _ | exact am_R_xor _ _ | exact am_R_or _ _ | exact xkept_R hW _ _ | exact xwait_R hW _ _ | exact xpls_R _ _ | exact xwords_R _ _) | (exact ⟨by omega, by omega⟩))) rfl am_obX rfl (Nat.le_of_ble_eq_true rfl) (Nat.le_of_ble_eq_true rfl) ?_
                exact sx_iret dX3_familyOf_191 rfl (by unfold xfamOf xgod; (repeat' split) <;> first | contradiction | (exfalso; omega) | rfl | (simp_all; done)) rfl
              · -- 178f
                refine sx_ldc dX3_familyOf_181 kc_X3_123 ?_
                refine sx_goto (tgt := 191) dX3_familyOf_183 (by decide) ?_
                exact sx_iret dX3_familyOf_191 rfl (by unfold xfamOf xgod; (repeat' split) <;> first | contradiction | (exfalso; omega) | rfl | (simp_all; done)) rfl
            · refine sx_tableOut (tgt := 173) dX3_familyOf_76 (by first | omega | assumption | (with_reducible first | exact hR _ | exact xwd_R hR _ _ | exact xch_R hR _ _ | exact am_R_xor _ _ | exact am_R_or _ _ | exact xkept_R hW _ _ | exact xwait_R hW _ _ | exact xpls_R _ _ | exact xwords_R _ _) | (exact ⟨by omega, by omega⟩)) (Or.inr hs76) (by decide) ?_
              refine sx_aload_n dX3_familyOf_173 rfl ?_
              refine sx_iload_n dX3_familyOf_174 rfl ?_
              refine sx_callVi dX3_familyOf_175 ml_X3_149 mv3_firstOf (tx_firstOf _ hW (by first | omega | assumption | (with_reducible first | exact hR _ | exact xwd_R hR _ _ | exact xch_R hR _ _ | exact am_R_xor _ _ | exact am_R_or _ _ | exact xkept_R hW _ _ | exact xwait_R hW _ _ | exact xpls_R _ _ | exact xwords_R _ _) | (exact ⟨by omega, by omega⟩))) rfl am_obX rfl (Nat.le_of_ble_eq_true rfl) (Nat.le_of_ble_eq_true rfl) ?_
              have hff9 := xfirst_b hW f
              refine sx_if_ge (tgt := 186) dX3_familyOf_178 (by decide) (by first | omega | assumption | (with_reducible first | exact hR _ | exact xwd_R hR _ _ | exact xch_R hR _ _ | exact am_R_xor _ _ | exact am_R_or _ _ | exact xkept_R hW _ _ | exact xwait_R hW _ _ | exact xpls_R _ _ | exact xwords_R _ _) | (exact ⟨by omega, by omega⟩)) (fun c178 => ?_) (fun c178 => ?_)
              · -- 178t
                refine sx_aload_n dX3_familyOf_186 rfl ?_
                refine sx_iload_n dX3_familyOf_187 rfl ?_
                refine sx_callVi dX3_familyOf_188 ml_X3_149 mv3_firstOf (tx_firstOf _ hW (by first | omega | assumption | (with_reducible first | exact hR _ | exact xwd_R hR _ _ | exact xch_R hR _ _ | exact am_R_xor _ _ | exact am_R_or _ _ | exact xkept_R hW _ _ | exact xwait_R hW _ _ | exact xpls_R _ _ | exact xwords_R _ _) | (exact ⟨by omega, by omega⟩))) rfl am_obX rfl (Nat.le_of_ble_eq_true rfl) (Nat.le_of_ble_eq_true rfl) ?_
                exact sx_iret dX3_familyOf_191 rfl (by unfold xfamOf xgod; (repeat' split) <;> first | contradiction | (exfalso; omega) | rfl | (simp_all; done)) rfl
              · -- 178f
                refine sx_ldc dX3_familyOf_181 kc_X3_123 ?_
                refine sx_goto (tgt := 191) dX3_familyOf_183 (by decide) ?_
                exact sx_iret dX3_familyOf_191 rfl (by unfold xfamOf xgod; (repeat' split) <;> first | contradiction | (exfalso; omega) | rfl | (simp_all; done)) rfl
            · subst hs76
              refine sx_tableIn (tgt := 116) (off := 40) dX3_familyOf_76 ⟨by decide, by decide⟩ (by decide) (by decide) rfl (by decide) ?_
              have hgf := wg f (by omega) (by omega)
              unfold xgod at hgf
              refine sx_aload_n dX3_familyOf_116 rfl ?_
              refine xs_getr (j := 1) dX3_familyOf_117 fl_X3_7 (by decide) rfl ?_
              refine sx_iconst dX3_familyOf_120 ?_
              refine sx_iload_n dX3_familyOf_121 rfl ?_
              refine sx_iadd dX3_familyOf_122 ?_
              refine xs_ild (n := 208) dX3_familyOf_123 rfl (by decide) (by first | omega | assumption | (with_reducible first | exact hR _ | exact xwd_R hR _ _ | exact xch_R hR _ _ | exact am_R_xor _ _ | exact am_R_or _ _ | exact xkept_R hW _ _ | exact xwait_R hW _ _ | exact xpls_R _ _ | exact xwords_R _ _) | (exact ⟨by omega, by omega⟩)) (by first | omega | assumption | (with_reducible first | exact hR _ | exact xwd_R hR _ _ | exact xch_R hR _ _ | exact am_R_xor _ _ | exact am_R_or _ _ | exact xkept_R hW _ _ | exact xwait_R hW _ _ | exact xpls_R _ _ | exact xwords_R _ _) | (exact ⟨by omega, by omega⟩)) rfl (fun r123 => ?_)
              refine sx_if_ge (tgt := 132) dX3_familyOf_124 (by decide) (by first | omega | assumption | (with_reducible first | exact hR _ | exact xwd_R hR _ _ | exact xch_R hR _ _ | exact am_R_xor _ _ | exact am_R_or _ _ | exact xkept_R hW _ _ | exact xwait_R hW _ _ | exact xpls_R _ _ | exact xwords_R _ _) | (exact ⟨by omega, by omega⟩)) (fun c124 => ?_) (fun c124 => ?_)
              · -- 124t
                refine sx_aload_n dX3_familyOf_132 rfl ?_
                refine xs_getr (j := 1) dX3_familyOf_133 fl_X3_7 (by decide) rfl ?_
                refine sx_iconst dX3_familyOf_136 ?_
                refine sx_iload_n dX3_familyOf_137 rfl ?_
                refine sx_iadd dX3_familyOf_138 ?_
                refine xs_ild (n := 208) dX3_familyOf_139 rfl (by decide) (by first | omega | assumption | (with_reducible first | exact hR _ | exact xwd_R hR _ _ | exact xch_R hR _ _ | exact am_R_xor _ _ | exact am_R_or _ _ | exact xkept_R hW _ _ | exact xwait_R hW _ _ | exact xpls_R _ _ | exact xwords_R _ _) | (exact ⟨by omega, by omega⟩)) (by first | omega | assumption | (with_reducible first | exact hR _ | exact xwd_R hR _ _ | exact xch_R hR _ _ | exact am_R_xor _ _ | exact am_R_or _ _ | exact xkept_R hW _ _ | exact xwait_R hW _ _ | exact xpls_R _ _ | exact xwords_R _ _) | (exact ⟨by omega, by omega⟩)) rfl (fun r139 => ?_)
                exact sx_iret dX3_familyOf_140 rfl (by unfold xfamOf xgod; (repeat' split) <;> first | contradiction | (exfalso; omega) | rfl | (simp_all; done)) rfl
              · -- 124f
                refine sx_ldc dX3_familyOf_127 kc_X3_123 ?_
                refine sx_goto (tgt := 140) dX3_familyOf_129 (by decide) ?_
                exact sx_iret dX3_familyOf_140 rfl (by unfold xfamOf xgod; (repeat' split) <;> first | contradiction | (exfalso; omega) | rfl | (simp_all; done)) rfl
            · subst hs76
              refine sx_tableIn (tgt := 141) (off := 65) dX3_familyOf_76 ⟨by decide, by decide⟩ (by decide) (by decide) rfl (by decide) ?_
              refine sx_iload_n dX3_familyOf_141 rfl ?_
              exact sx_iret dX3_familyOf_142 rfl (by unfold xfamOf xgod; (repeat' split) <;> first | contradiction | (exfalso; omega) | rfl | (simp_all; done)) rfl
            · subst hs76
              refine sx_tableIn (tgt := 143) (off := 67) dX3_familyOf_76 ⟨by decide, by decide⟩ (by decide) (by decide) rfl (by decide) ?_
              refine sx_aload_n dX3_familyOf_143 rfl ?_
              refine sx_iload_n dX3_familyOf_144 rfl ?_
              refine sx_iconst dX3_familyOf_145 ?_
              refine sx_iconst dX3_familyOf_146 ?_
              refine sx_callVi dX3_familyOf_147 ml_X3_145 mv3_many (tx_many _ _ _ hW (by first | omega | assumption | (with_reducible first | exact hR _ | exact xwd_R hR _ _ | exact xch_R hR _ _ | exact am_R_xor _ _ | exact am_R_or _ _ | exact xkept_R hW _ _ | exact xwait_R hW _ _ | exact xpls_R _ _ | exact xwords_R _ _) | (exact ⟨by omega, by omega⟩)) (by first | omega | assumption | (with_reducible first | exact hR _ | exact xwd_R hR _ _ | exact xch_R hR _ _ | exact am_R_xor _ _ | exact am_R_or _ _ | exact xkept_R hW _ _ | exact xwait_R hW _ _ | exact xpls_R _ _ | exact xwords_R _ _) | (exact ⟨by omega, by omega⟩)) (by first | omega | assumption | (with_reducible first | exact hR _ | exact xwd_R hR _ _ | exact xch_R hR _ _ | exact am_R_xor _ _ | exact am_R_or _ _ | exact xkept_R hW _ _ | exact xwait_R hW _ _ | exact xpls_R _ _ | exact xwords_R _ _) | (exact ⟨by omega, by omega⟩))) rfl am_obX rfl (Nat.le_of_ble_eq_true rfl) (Nat.le_of_ble_eq_true rfl) ?_
              exact sx_iret dX3_familyOf_150 rfl (by unfold xfamOf xgod; (repeat' split) <;> first | contradiction | (exfalso; omega) | rfl | (simp_all; done)) rfl
            · subst hs76
              refine sx_tableIn (tgt := 151) (off := 75) dX3_familyOf_76 ⟨by decide, by decide⟩ (by decide) (by decide) rfl (by decide) ?_
              refine sx_aload_n dX3_familyOf_151 rfl ?_
              refine sx_iload_n dX3_familyOf_152 rfl ?_
              refine sx_iconst dX3_familyOf_153 ?_
              refine sx_iconst dX3_familyOf_154 ?_
              refine sx_callVi dX3_familyOf_155 ml_X3_145 mv3_many (tx_many _ _ _ hW (by first | omega | assumption | (with_reducible first | exact hR _ | exact xwd_R hR _ _ | exact xch_R hR _ _ | exact am_R_xor _ _ | exact am_R_or _ _ | exact xkept_R hW _ _ | exact xwait_R hW _ _ | exact xpls_R _ _ | exact xwords_R _ _) | (exact ⟨by omega, by omega⟩)) (by first | omega | assumption | (with_reducible first | exact hR _ | exact xwd_R hR _ _ | exact xch_R hR _ _ | exact am_R_xor _ _ | exact am_R_or _ _ | exact xkept_R hW _ _ | exact xwait_R hW _ _ | exact xpls_R _ _ | exact xwords_R _ _) | (exact ⟨by omega, by omega⟩)) (by first | omega | assumption | (with_reducible first | exact hR _ | exact xwd_R hR _ _ | exact xch_R hR _ _ | exact am_R_xor _ _ | exact am_R_or _ _ | exact xkept_R hW _ _ | exact xwait_R hW _ _ | exact xpls_R _ _ | exact xwords_R _ _) | (exact ⟨by omega, by omega⟩))) rfl am_obX rfl (Nat.le_of_ble_eq_true rfl) (Nat.le_of_ble_eq_true rfl) ?_
              exact sx_iret dX3_familyOf_158 rfl (by unfold xfamOf xgod; (repeat' split) <;> first | contradiction | (exfalso; omega) | rfl | (simp_all; done)) rfl
            · subst hs76
              refine sx_tableIn (tgt := 159) (off := 83) dX3_familyOf_76 ⟨by decide, by decide⟩ (by decide) (by decide) rfl (by decide) ?_
              refine sx_aload_n dX3_familyOf_159 rfl ?_
              refine sx_iload_n dX3_familyOf_160 rfl ?_
              refine sx_callVi dX3_familyOf_161 ml_X3_97 mv3_guarded (tx_guarded _ hW (by first | omega | assumption | (with_reducible first | exact hR _ | exact xwd_R hR _ _ | exact xch_R hR _ _ | exact am_R_xor _ _ | exact am_R_or _ _ | exact xkept_R hW _ _ | exact xwait_R hW _ _ | exact xpls_R _ _ | exact xwords_R _ _) | (exact ⟨by omega, by omega⟩))) rfl am_obX rfl (Nat.le_of_ble_eq_true rfl) (Nat.le_of_ble_eq_true rfl) ?_
              exact sx_iret dX3_familyOf_164 rfl (by unfold xfamOf xgod; (repeat' split) <;> first | contradiction | (exfalso; omega) | rfl | (simp_all; done)) rfl
            · subst hs76
              refine sx_tableIn (tgt := 165) (off := 89) dX3_familyOf_76 ⟨by decide, by decide⟩ (by decide) (by decide) rfl (by decide) ?_
              refine sx_aload_n dX3_familyOf_165 rfl ?_
              refine sx_iload_n dX3_familyOf_166 rfl ?_
              refine sx_iconst dX3_familyOf_167 ?_
              refine sx_iconst dX3_familyOf_168 ?_
              refine sx_callVi dX3_familyOf_169 ml_X3_145 mv3_many (tx_many _ _ _ hW (by first | omega | assumption | (with_reducible first | exact hR _ | exact xwd_R hR _ _ | exact xch_R hR _ _ | exact am_R_xor _ _ | exact am_R_or _ _ | exact xkept_R hW _ _ | exact xwait_R hW _ _ | exact xpls_R _ _ | exact xwords_R _ _) | (exact ⟨by omega, by omega⟩)) (by first | omega | assumption | (with_reducible first | exact hR _ | exact xwd_R hR _ _ | exact xch_R hR _ _ | exact am_R_xor _ _ | exact am_R_or _ _ | exact xkept_R hW _ _ | exact xwait_R hW _ _ | exact xpls_R _ _ | exact xwords_R _ _) | (exact ⟨by omega, by omega⟩)) (by first | omega | assumption | (with_reducible first | exact hR _ | exact xwd_R hR _ _ | exact xch_R hR _ _ | exact am_R_xor _ _ | exact am_R_or _ _ | exact xkept_R hW _ _ | exact xwait_R hW _ _ | exact xpls_R _ _ | exact xwords_R _ _) | (exact ⟨by omega, by omega⟩))) rfl am_obX rfl (Nat.le_of_ble_eq_true rfl) (Nat.le_of_ble_eq_true rfl) ?_
              exact sx_iret dX3_familyOf_172 rfl (by unfold xfamOf xgod; (repeat' split) <;> first | contradiction | (exfalso; omega) | rfl | (simp_all; done)) rfl
          · -- 35f
            refine sx_iload_n dX3_familyOf_38 rfl ?_
            refine sx_aload_n dX3_familyOf_39 rfl ?_
            refine sx_iload dX3_familyOf_40 rfl ?_
            refine sx_iconst dX3_familyOf_42 ?_
            refine sx_callVi dX3_familyOf_43 ml_X3_36 mv3_ch (tx_ch _ _ (by first | omega | assumption | (with_reducible first | exact hR _ | exact xwd_R hR _ _ | exact xch_R hR _ _ | exact am_R_xor _ _ | exact am_R_or _ _ | exact xkept_R hW _ _ | exact xwait_R hW _ _ | exact xpls_R _ _ | exact xwords_R _ _) | (exact ⟨by omega, by omega⟩)) (by first | omega | assumption | (with_reducible first | exact hR _ | exact xwd_R hR _ _ | exact xch_R hR _ _ | exact am_R_xor _ _ | exact am_R_or _ _ | exact xkept_R hW _ _ | exact xwait_R hW _ _ | exact xpls_R _ _ | exact xwords_R _ _) | (exact ⟨by omega, by omega⟩))) rfl am_obX rfl (Nat.le_of_ble_eq_true rfl) (Nat.le_of_ble_eq_true rfl) ?_
            refine sx_iload_n dX3_familyOf_46 rfl ?_
            refine sx_icmp_ne (tgt := 66) dX3_familyOf_47 (by decide) (by first | omega | assumption | (with_reducible first | exact hR _ | exact xwd_R hR _ _ | exact xch_R hR _ _ | exact am_R_xor _ _ | exact am_R_or _ _ | exact xkept_R hW _ _ | exact xwait_R hW _ _ | exact xpls_R _ _ | exact xwords_R _ _) | (exact ⟨by omega, by omega⟩)) (by first | omega | assumption | (with_reducible first | exact hR _ | exact xwd_R hR _ _ | exact xch_R hR _ _ | exact am_R_xor _ _ | exact am_R_or _ _ | exact xkept_R hW _ _ | exact xwait_R hW _ _ | exact xpls_R _ _ | exact xwords_R _ _) | (exact ⟨by omega, by omega⟩)) (fun c47 => ?_) (fun c47 => ?_)
            · -- 47t
              refine sx_iconst dX3_familyOf_66 ?_
              refine sx_ior dX3_familyOf_67 ?_
              refine sx_istore_n dX3_familyOf_68 (by decide) ?_
              refine sx_iinc dX3_familyOf_69 rfl (by decide) ?_
              refine sx_goto (tgt := 27) dX3_familyOf_72 (by decide) ?_
              exact ih27 _ (by omega) _ (c + 1) rfl (by omega) (by simp [xliv, c6, c16, c35, c47, hf])
            · -- 47f
              refine sx_aload_n dX3_familyOf_50 rfl ?_
              refine sx_iload dX3_familyOf_51 rfl ?_
              refine sx_callVi dX3_familyOf_53 ml_X3_52 mv3_lives (tx_lives _ (by first | omega | assumption | (with_reducible first | exact hR _ | exact xwd_R hR _ _ | exact xch_R hR _ _ | exact am_R_and _ _ | exact am_R_or _ _ | exact am_R_xor _ _ | exact am_R_shl _ _ | exact am_R_shr _ _ | exact bit_R _ _ | exact xpls_R _ _ | exact xkept_R hW _ _ | exact xwait_R hW _ _ ) | (exact ⟨by omega, by omega⟩) | exact wf _ (by omega) (by omega) | exact wg _ (by omega) (by omega))) rfl am_obX rfl (Nat.le_of_ble_eq_true rfl) (Nat.le_of_ble_eq_true rfl) ?_
              refine sx_ifB_eq (tgt := 66) dX3_familyOf_56 (by decide) (fun c56 => ?_) (fun c56 => ?_)
              · -- 56t
                refine sx_iconst dX3_familyOf_66 ?_
                refine sx_ior dX3_familyOf_67 ?_
                refine sx_istore_n dX3_familyOf_68 (by decide) ?_
                refine sx_iinc dX3_familyOf_69 rfl (by decide) ?_
                refine sx_goto (tgt := 27) dX3_familyOf_72 (by decide) ?_
                exact ih27 _ (by omega) _ (c + 1) rfl (by omega) (by simp [xliv, c6, c16, c35, c47, c56, hf])
              · -- 56f
                refine sx_iconst dX3_familyOf_59 ?_
                refine sx_iload dX3_familyOf_60 rfl ?_
                refine sx_ishl dX3_familyOf_62 ?_
                refine sx_goto (tgt := 67) dX3_familyOf_63 (by decide) ?_
                refine sx_ior dX3_familyOf_67 ?_
                refine sx_istore_n dX3_familyOf_68 (by decide) ?_
                refine sx_iinc dX3_familyOf_69 rfl (by decide) ?_
                refine sx_goto (tgt := 27) dX3_familyOf_72 (by decide) ?_
                exact ih27 _ (by omega) _ (c + 1) rfl (by omega) (by simp [xliv, c6, c16, c35, c47, c56, hf])
      exact loop27 _ _ 0 rfl (by omega) rfl
    · -- 16f
      refine sx_ldc dX3_familyOf_19 kc_X3_40 ?_
      exact sx_iret dX3_familyOf_21 rfl (by unfold xfamOf xgod; (repeat' split) <;> first | contradiction | (exfalso; omega) | rfl | (simp_all; done)) rfl
set_option maxHeartbeats 4000000 in
set_option maxRecDepth 100000 in
theorem tx_lossOf {h0 : am_H} {X : am_M} {S : Nat → Int} (a b : Int) (hW : WX S) (ha9 : am_R a) (hb9 : am_R b) (h4 : S 4 ≤ 900000000)  : Ct 5 Y3_lossOf [.inr (7, 0), .inl a, .inl b] (some (.inl (xlossOf S a b))) (xh h0 X S) (xh h0 (am_u3 X 4 S) S) := by
  refine Ct_of (by decide +kernel) (Nat.le_of_ble_eq_true rfl) ?_
  show Sx 5 Y3_lossOf (xh h0 (am_u3 X 4 S) S) (some (.inl (xlossOf S a b))) 0 [some (.inr (7, 0)), some (.inl a), some (.inl b), none] [] (xh h0 X S)
  refine xs_vh (fun hR hRX => ?_)
  obtain ⟨w0, w1, wg, wf, wo⟩ := id hW
  have hWk := WX_kills (c := a) hW
  have hk4 := xkills_4 (c := a) hW
  refine sx_aload_n dX3_lossOf_0 rfl ?_
  refine sx_callVv dX3_lossOf_1 ml_X3_162 mv3_puts tx_puts rfl am_obX rfl (Nat.le_of_ble_eq_true rfl) (Nat.le_of_ble_eq_true rfl) ?_
  refine sx_aload_n dX3_lossOf_4 rfl ?_
  refine sx_iload_n dX3_lossOf_5 rfl ?_
  refine sx_callVi dX3_lossOf_6 ml_X3_114 mv3_kills (tx_kills _ (by first | exact hW | exact hWk) (by assumption) (by omega)) rfl am_obX rfl (Nat.le_of_ble_eq_true rfl) (Nat.le_of_ble_eq_true rfl) ?_
  refine sx_istore_n dX3_lossOf_9 (by decide) ?_
  refine sx_iload_n dX3_lossOf_10 rfl ?_
  refine sx_iload_n dX3_lossOf_11 rfl ?_
  refine sx_if_ge (tgt := 19) dX3_lossOf_12 (by decide) (by first | omega | assumption | (with_reducible first | exact hR _ | exact xwd_R hR _ _ | exact xch_R hR _ _ | exact am_R_xor _ _ | exact am_R_or _ _ | exact xkept_R hW _ _ | exact xwait_R hW _ _ | exact xpls_R _ _ | exact xwords_R _ _) | (exact ⟨by omega, by omega⟩)) (fun c12 => ?_) (fun c12 => ?_)
  · -- 12t
    refine sx_aload_n dX3_lossOf_19 rfl ?_
    refine sx_iload_n dX3_lossOf_20 rfl ?_
    refine sx_callVi dX3_lossOf_21 ml_X3_114 mv3_kills (tx_kills _ (by first | exact hW | exact hWk) (by assumption) (by omega)) rfl am_obX rfl (Nat.le_of_ble_eq_true rfl) (Nat.le_of_ble_eq_true rfl) ?_
    refine sx_iadd dX3_lossOf_24 ?_
    refine sx_istore_n dX3_lossOf_25 (by decide) ?_
    refine sx_aload_n dX3_lossOf_26 rfl ?_
    refine sx_callVv dX3_lossOf_27 ml_X3_165 mv3_restores tx_restores rfl am_obX rfl (Nat.le_of_ble_eq_true rfl) (Nat.le_of_ble_eq_true rfl) ?_
    refine sx_iload_n dX3_lossOf_30 rfl ?_
    exact sx_iret dX3_lossOf_31 rfl (by unfold xlossOf; (repeat' split) <;> first | contradiction | (exfalso; omega) | rfl | (simp_all; done)) rfl
  · -- 12f
    refine sx_iconst dX3_lossOf_15 ?_
    refine sx_goto (tgt := 24) dX3_lossOf_16 (by decide) ?_
    refine sx_iadd dX3_lossOf_24 ?_
    refine sx_istore_n dX3_lossOf_25 (by decide) ?_
    refine sx_aload_n dX3_lossOf_26 rfl ?_
    refine sx_callVv dX3_lossOf_27 ml_X3_165 mv3_restores tx_restores rfl am_obX rfl (Nat.le_of_ble_eq_true rfl) (Nat.le_of_ble_eq_true rfl) ?_
    refine sx_iload_n dX3_lossOf_30 rfl ?_
    exact sx_iret dX3_lossOf_31 rfl (by unfold xlossOf; (repeat' split) <;> first | contradiction | (exfalso; omega) | rfl | (simp_all; done)) rfl
set_option maxHeartbeats 4000000 in
set_option maxRecDepth 100000 in
theorem tx_loss {h0 : am_H} {X : am_M} {S : Nat → Int} (a b : Int) (hW : WX S) (ha9 : am_R a) (hb9 : am_R b) (h4 : S 4 ≤ 900000000)  : Ct 6 Y3_loss [.inr (7, 0), .inl a, .inl b] (some (.inl (xloss S a b))) (xh h0 X S) (xh h0 (xlossX X S a b) S) := by
  refine Ct_of (by decide +kernel) (Nat.le_of_ble_eq_true rfl) ?_
  show Sx 6 Y3_loss (xh h0 (xlossX X S a b) S) (some (.inl (xloss S a b))) 0 [some (.inr (7, 0)), some (.inl a), some (.inl b)] [] (xh h0 X S)
  refine xs_vh (fun hR hRX => ?_)
  obtain ⟨w0, w1, wg, wf, wo⟩ := id hW
  refine sx_aload_n dX3_loss_0 rfl ?_
  refine sx_iload_n dX3_loss_1 rfl ?_
  refine sx_callVi dX3_loss_2 ml_X3_90 mv3_isChip (tx_isChip _ hW (by first | omega | assumption | (with_reducible first | exact hR _ | exact xwd_R hR _ _ | exact xch_R hR _ _ | exact am_R_and _ _ | exact am_R_or _ _ | exact am_R_xor _ _ | exact am_R_shl _ _ | exact am_R_shr _ _ | exact bit_R _ _ | exact xpls_R _ _ | exact xkept_R hW _ _ | exact xwait_R hW _ _ ) | (exact ⟨by omega, by omega⟩) | exact wf _ (by omega) (by omega) | exact wg _ (by omega) (by omega))) rfl am_obX rfl (Nat.le_of_ble_eq_true rfl) (Nat.le_of_ble_eq_true rfl) ?_
  refine sx_ifB_eq (tgt := 26) dX3_loss_5 (by decide) (fun c5 => ?_) (fun c5 => ?_)
  · -- 5t
    refine sx_ldc dX3_loss_26 kc_X3_40 ?_
    exact sx_iret dX3_loss_28 rfl (by unfold xloss xlossG; (repeat' split) <;> first | contradiction | (exfalso; omega) | rfl | (simp_all; done)) (by unfold xlossX xlossG; (repeat' split) <;> first | contradiction | (exfalso; omega) | rfl | (simp_all; done))
  · -- 5f
    refine sx_iload_n dX3_loss_8 rfl ?_
    refine sx_iconst dX3_loss_9 ?_
    refine sx_icmp_eq (tgt := 21) dX3_loss_10 (by decide) (by first | omega | assumption | (with_reducible first | exact hR _ | exact xwd_R hR _ _ | exact xch_R hR _ _ | exact am_R_xor _ _ | exact am_R_or _ _ | exact xkept_R hW _ _ | exact xwait_R hW _ _ | exact xpls_R _ _ | exact xwords_R _ _) | (exact ⟨by omega, by omega⟩)) ⟨by decide, by decide⟩ (fun c10 => ?_) (fun c10 => ?_)
    · -- 10t
      refine sx_iload_n dX3_loss_21 rfl ?_
      refine sx_iload_n dX3_loss_22 rfl ?_
      refine sx_icmp_ne (tgt := 29) dX3_loss_23 (by decide) (by first | omega | assumption | (with_reducible first | exact hR _ | exact xwd_R hR _ _ | exact xch_R hR _ _ | exact am_R_xor _ _ | exact am_R_or _ _ | exact xkept_R hW _ _ | exact xwait_R hW _ _ | exact xpls_R _ _ | exact xwords_R _ _) | (exact ⟨by omega, by omega⟩)) (by first | omega | assumption | (with_reducible first | exact hR _ | exact xwd_R hR _ _ | exact xch_R hR _ _ | exact am_R_xor _ _ | exact am_R_or _ _ | exact xkept_R hW _ _ | exact xwait_R hW _ _ | exact xpls_R _ _ | exact xwords_R _ _) | (exact ⟨by omega, by omega⟩)) (fun c23 => ?_) (fun c23 => ?_)
      · -- 23t
        refine sx_aload_n dX3_loss_29 rfl ?_
        refine sx_iload_n dX3_loss_30 rfl ?_
        refine sx_callVi dX3_loss_31 ml_X3_52 mv3_lives (tx_lives _ (by first | omega | assumption | (with_reducible first | exact hR _ | exact xwd_R hR _ _ | exact xch_R hR _ _ | exact am_R_xor _ _ | exact am_R_or _ _ | exact xkept_R hW _ _ | exact xwait_R hW _ _ | exact xpls_R _ _ | exact xwords_R _ _) | (exact ⟨by omega, by omega⟩))) rfl am_obX rfl (Nat.le_of_ble_eq_true rfl) (Nat.le_of_ble_eq_true rfl) ?_
        refine sx_ifB_eq (tgt := 58) dX3_loss_34 (by decide) (fun c34 => ?_) (fun c34 => ?_)
        · -- 34t
          refine sx_ldc dX3_loss_58 kc_X3_96 ?_
          exact sx_iret dX3_loss_60 rfl (by unfold xloss xlossG; (repeat' split) <;> first | contradiction | (exfalso; omega) | rfl | (simp_all; done)) (by unfold xlossX xlossG; (repeat' split) <;> first | contradiction | (exfalso; omega) | rfl | (simp_all; done))
        · -- 34f
          refine sx_iload_n dX3_loss_37 rfl ?_
          refine sx_if_lt (tgt := 49) dX3_loss_38 (by decide) (by first | omega | assumption | (with_reducible first | exact hR _ | exact xwd_R hR _ _ | exact xch_R hR _ _ | exact am_R_xor _ _ | exact am_R_or _ _ | exact xkept_R hW _ _ | exact xwait_R hW _ _ | exact xpls_R _ _ | exact xwords_R _ _) | (exact ⟨by omega, by omega⟩)) (fun c38 => ?_) (fun c38 => ?_)
          · -- 38t
            refine sx_aload_n dX3_loss_49 rfl ?_
            refine sx_iload_n dX3_loss_50 rfl ?_
            refine sx_iload_n dX3_loss_51 rfl ?_
            refine sx_callVi dX3_loss_52 ml_X3_168 mv3_lossOf (tx_lossOf _ _ hW ha9 hb9 h4) rfl am_obX rfl (Nat.le_of_ble_eq_true rfl) (Nat.le_of_ble_eq_true rfl) ?_
            refine sx_goto (tgt := 60) dX3_loss_55 (by decide) ?_
            exact sx_iret dX3_loss_60 rfl (by unfold xloss xlossG; (repeat' split) <;> first | contradiction | (exfalso; omega) | rfl | (simp_all; done)) (by unfold xlossX xlossG; (repeat' split) <;> first | contradiction | (exfalso; omega) | rfl | (simp_all; done))
          · -- 38f
            refine sx_aload_n dX3_loss_41 rfl ?_
            refine sx_iload_n dX3_loss_42 rfl ?_
            refine sx_callVi dX3_loss_43 ml_X3_52 mv3_lives (tx_lives _ (by first | omega | assumption | (with_reducible first | exact hR _ | exact xwd_R hR _ _ | exact xch_R hR _ _ | exact am_R_xor _ _ | exact am_R_or _ _ | exact xkept_R hW _ _ | exact xwait_R hW _ _ | exact xpls_R _ _ | exact xwords_R _ _) | (exact ⟨by omega, by omega⟩))) rfl am_obX rfl (Nat.le_of_ble_eq_true rfl) (Nat.le_of_ble_eq_true rfl) ?_
            refine sx_ifB_eq (tgt := 58) dX3_loss_46 (by decide) (fun c46 => ?_) (fun c46 => ?_)
            · -- 46t
              refine sx_ldc dX3_loss_58 kc_X3_96 ?_
              exact sx_iret dX3_loss_60 rfl (by unfold xloss xlossG; (repeat' split) <;> first | contradiction | (exfalso; omega) | rfl | (simp_all; done)) (by unfold xlossX xlossG; (repeat' split) <;> first | contradiction | (exfalso; omega) | rfl | (simp_all; done))
            · -- 46f
              refine sx_aload_n dX3_loss_49 rfl ?_
              refine sx_iload_n dX3_loss_50 rfl ?_
              refine sx_iload_n dX3_loss_51 rfl ?_
              refine sx_callVi dX3_loss_52 ml_X3_168 mv3_lossOf (tx_lossOf _ _ hW ha9 hb9 h4) rfl am_obX rfl (Nat.le_of_ble_eq_true rfl) (Nat.le_of_ble_eq_true rfl) ?_
              refine sx_goto (tgt := 60) dX3_loss_55 (by decide) ?_
              exact sx_iret dX3_loss_60 rfl (by unfold xloss xlossG; (repeat' split) <;> first | contradiction | (exfalso; omega) | rfl | (simp_all; done)) (by unfold xlossX xlossG; (repeat' split) <;> first | contradiction | (exfalso; omega) | rfl | (simp_all; done))
      · -- 23f
        refine sx_ldc dX3_loss_26 kc_X3_40 ?_
        exact sx_iret dX3_loss_28 rfl (by unfold xloss xlossG; (repeat' split) <;> first | contradiction | (exfalso; omega) | rfl | (simp_all; done)) (by unfold xlossX xlossG; (repeat' split) <;> first | contradiction | (exfalso; omega) | rfl | (simp_all; done))
    · -- 10f
      refine sx_aload_n dX3_loss_13 rfl ?_
      refine sx_iload_n dX3_loss_14 rfl ?_
      refine sx_callVi dX3_loss_15 ml_X3_90 mv3_isChip (tx_isChip _ hW (by first | omega | assumption | (with_reducible first | exact hR _ | exact xwd_R hR _ _ | exact xch_R hR _ _ | exact am_R_and _ _ | exact am_R_or _ _ | exact am_R_xor _ _ | exact am_R_shl _ _ | exact am_R_shr _ _ | exact bit_R _ _ | exact xpls_R _ _ | exact xkept_R hW _ _ | exact xwait_R hW _ _ ) | (exact ⟨by omega, by omega⟩) | exact wf _ (by omega) (by omega) | exact wg _ (by omega) (by omega))) rfl am_obX rfl (Nat.le_of_ble_eq_true rfl) (Nat.le_of_ble_eq_true rfl) ?_
      refine sx_ifB_eq (tgt := 26) dX3_loss_18 (by decide) (fun c18 => ?_) (fun c18 => ?_)
      · -- 18t
        refine sx_ldc dX3_loss_26 kc_X3_40 ?_
        exact sx_iret dX3_loss_28 rfl (by unfold xloss xlossG; (repeat' split) <;> first | contradiction | (exfalso; omega) | rfl | (simp_all; done)) (by unfold xlossX xlossG; (repeat' split) <;> first | contradiction | (exfalso; omega) | rfl | (simp_all; done))
      · -- 18f
        refine sx_iload_n dX3_loss_21 rfl ?_
        refine sx_iload_n dX3_loss_22 rfl ?_
        refine sx_icmp_ne (tgt := 29) dX3_loss_23 (by decide) (by first | omega | assumption | (with_reducible first | exact hR _ | exact xwd_R hR _ _ | exact xch_R hR _ _ | exact am_R_xor _ _ | exact am_R_or _ _ | exact xkept_R hW _ _ | exact xwait_R hW _ _ | exact xpls_R _ _ | exact xwords_R _ _) | (exact ⟨by omega, by omega⟩)) (by first | omega | assumption | (with_reducible first | exact hR _ | exact xwd_R hR _ _ | exact xch_R hR _ _ | exact am_R_xor _ _ | exact am_R_or _ _ | exact xkept_R hW _ _ | exact xwait_R hW _ _ | exact xpls_R _ _ | exact xwords_R _ _) | (exact ⟨by omega, by omega⟩)) (fun c23 => ?_) (fun c23 => ?_)
        · -- 23t
          refine sx_aload_n dX3_loss_29 rfl ?_
          refine sx_iload_n dX3_loss_30 rfl ?_
          refine sx_callVi dX3_loss_31 ml_X3_52 mv3_lives (tx_lives _ (by first | omega | assumption | (with_reducible first | exact hR _ | exact xwd_R hR _ _ | exact xch_R hR _ _ | exact am_R_xor _ _ | exact am_R_or _ _ | exact xkept_R hW _ _ | exact xwait_R hW _ _ | exact xpls_R _ _ | exact xwords_R _ _) | (exact ⟨by omega, by omega⟩))) rfl am_obX rfl (Nat.le_of_ble_eq_true rfl) (Nat.le_of_ble_eq_true rfl) ?_
          refine sx_ifB_eq (tgt := 58) dX3_loss_34 (by decide) (fun c34 => ?_) (fun c34 => ?_)
          · -- 34t
            refine sx_ldc dX3_loss_58 kc_X3_96 ?_
            exact sx_iret dX3_loss_60 rfl (by unfold xloss xlossG; (repeat' split) <;> first | contradiction | (exfalso; omega) | rfl | (simp_all; done)) (by unfold xlossX xlossG; (repeat' split) <;> first | contradiction | (exfalso; omega) | rfl | (simp_all; done))
          · -- 34f
            refine sx_iload_n dX3_loss_37 rfl ?_
            refine sx_if_lt (tgt := 49) dX3_loss_38 (by decide) (by first | omega | assumption | (with_reducible first | exact hR _ | exact xwd_R hR _ _ | exact xch_R hR _ _ | exact am_R_xor _ _ | exact am_R_or _ _ | exact xkept_R hW _ _ | exact xwait_R hW _ _ | exact xpls_R _ _ | exact xwords_R _ _) | (exact ⟨by omega, by omega⟩)) (fun c38 => ?_) (fun c38 => ?_)
            · -- 38t
              refine sx_aload_n dX3_loss_49 rfl ?_
              refine sx_iload_n dX3_loss_50 rfl ?_
              refine sx_iload_n dX3_loss_51 rfl ?_
              refine sx_callVi dX3_loss_52 ml_X3_168 mv3_lossOf (tx_lossOf _ _ hW ha9 hb9 h4) rfl am_obX rfl (Nat.le_of_ble_eq_true rfl) (Nat.le_of_ble_eq_true rfl) ?_
              refine sx_goto (tgt := 60) dX3_loss_55 (by decide) ?_
              exact sx_iret dX3_loss_60 rfl (by unfold xloss xlossG; (repeat' split) <;> first | contradiction | (exfalso; omega) | rfl | (simp_all; done)) (by unfold xlossX xlossG; (repeat' split) <;> first | contradiction | (exfalso; omega) | rfl | (simp_all; done))
            · -- 38f
              refine sx_aload_n dX3_loss_41 rfl ?_
              refine sx_iload_n dX3_loss_42 rfl ?_
              refine sx_callVi dX3_loss_43 ml_X3_52 mv3_lives (tx_lives _ (by first | omega | assumption | (with_reducible first | exact hR _ | exact xwd_R hR _ _ | exact xch_R hR _ _ | exact am_R_xor _ _ | exact am_R_or _ _ | exact xkept_R hW _ _ | exact xwait_R hW _ _ | exact xpls_R _ _ | exact xwords_R _ _) | (exact ⟨by omega, by omega⟩))) rfl am_obX rfl (Nat.le_of_ble_eq_true rfl) (Nat.le_of_ble_eq_true rfl) ?_
              refine sx_ifB_eq (tgt := 58) dX3_loss_46 (by decide) (fun c46 => ?_) (fun c46 => ?_)
              · -- 46t
                refine sx_ldc dX3_loss_58 kc_X3_96 ?_
                exact sx_iret dX3_loss_60 rfl (by unfold xloss xlossG; (repeat' split) <;> first | contradiction | (exfalso; omega) | rfl | (simp_all; done)) (by unfold xlossX xlossG; (repeat' split) <;> first | contradiction | (exfalso; omega) | rfl | (simp_all; done))
              · -- 46f
                refine sx_aload_n dX3_loss_49 rfl ?_
                refine sx_iload_n dX3_loss_50 rfl ?_
                refine sx_iload_n dX3_loss_51 rfl ?_
                refine sx_callVi dX3_loss_52 ml_X3_168 mv3_lossOf (tx_lossOf _ _ hW ha9 hb9 h4) rfl am_obX rfl (Nat.le_of_ble_eq_true rfl) (Nat.le_of_ble_eq_true rfl) ?_
                refine sx_goto (tgt := 60) dX3_loss_55 (by decide) ?_
                exact sx_iret dX3_loss_60 rfl (by unfold xloss xlossG; (repeat' split) <;> first | contradiction | (exfalso; omega) | rfl | (simp_all; done)) (by unfold xlossX xlossG; (repeat' split) <;> first | contradiction | (exfalso; omega) | rfl | (simp_all; done))
        · -- 23f
          refine sx_ldc dX3_loss_26 kc_X3_40 ?_
          exact sx_iret dX3_loss_28 rfl (by unfold xloss xlossG; (repeat' split) <;> first | contradiction | (exfalso; omega) | rfl | (simp_all; done)) (by unfold xlossX xlossG; (repeat' split) <;> first | contradiction | (exfalso; omega) | rfl | (simp_all; done))
set_option maxHeartbeats 4000000 in
set_option maxRecDepth 100000 in
theorem tx_safe {h0 : am_H} {X : am_M} {S : Nat → Int} (hW : WX S) (h4 : S 4 ≤ 900000000)  : Ct 6 Y3_safe [.inr (7, 0)] (some (.inl (xsafe S (S 0).toNat))) (xh h0 X S) (xh h0 (xsafX X S (S 0).toNat) S) := by
  refine Ct_of (by decide +kernel) (Nat.le_of_ble_eq_true rfl) ?_
  show Sx 6 Y3_safe (xh h0 (xsafX X S (S 0).toNat) S) (some (.inl (xsafe S (S 0).toNat))) 0 [some (.inr (7, 0)), none, none] [] (xh h0 X S)
  refine xs_vh (fun hR hRX => ?_)
  obtain ⟨w0, w1, wg, wf, wo⟩ := id hW
  refine sx_iconst dX3_safe_0 ?_
  refine sx_istore_n dX3_safe_1 (by decide) ?_
  refine sx_iconst dX3_safe_2 ?_
  refine sx_istore_n dX3_safe_3 (by decide) ?_
  have loop4 : ∀ (n : Nat) (c : Nat), (S 0 - c).toNat = n → (c : Int) ≤ S 0 → Sx 6 Y3_safe (xh h0 (xsafX X S (S 0).toNat) S) (some (.inl (xsafe S (S 0).toNat))) 4 [some (.inr (7, 0)), some (.inl (xsafe S c)), some (.inl (c : Int))] [] (xh h0 (xsafX X S c) S) := by
    intro n
    induction n using Nat.strongRecOn with
    | _ n ih4 =>
      intro c hn hle
      refine sx_iload_n dX3_safe_4 rfl ?_
      refine sx_aload_n dX3_safe_5 rfl ?_
      refine xs_getr (j := 1) dX3_safe_6 fl_X3_7 (by decide) rfl ?_
      refine sx_iconst dX3_safe_9 ?_
      refine xs_ild (n := 208) (m := 0) dX3_safe_10 rfl (by decide) (by decide) (by decide) rfl (fun r10 => ?_)
      refine sx_icmp_ge (tgt := 47) dX3_safe_11 (by decide) (by first | omega | assumption | (with_reducible first | exact hR _ | exact xwd_R hR _ _ | exact xch_R hR _ _ | exact am_R_xor _ _ | exact am_R_or _ _ | exact xkept_R hW _ _ | exact xwait_R hW _ _ | exact xpls_R _ _ | exact xwords_R _ _) | (exact ⟨by omega, by omega⟩)) (by first | omega | assumption | (with_reducible first | exact hR _ | exact xwd_R hR _ _ | exact xch_R hR _ _ | exact am_R_xor _ _ | exact am_R_or _ _ | exact xkept_R hW _ _ | exact xwait_R hW _ _ | exact xpls_R _ _ | exact xwords_R _ _) | (exact ⟨by omega, by omega⟩)) (fun c11 => ?_) (fun c11 => ?_)
      · -- 11t
        obtain rfl : c = (S 0).toNat := by omega
        refine sx_iload_n dX3_safe_47 rfl ?_
        exact sx_iret dX3_safe_48 rfl rfl rfl
      · -- 11f
        refine sx_iload_n dX3_safe_14 rfl ?_
        refine sx_aload_n dX3_safe_15 rfl ?_
        refine sx_iload_n dX3_safe_16 rfl ?_
        refine sx_callVi dX3_safe_17 ml_X3_52 mv3_lives (tx_lives _ (by first | omega | assumption | (with_reducible first | exact hR _ | exact xwd_R hR _ _ | exact xch_R hR _ _ | exact am_R_xor _ _ | exact am_R_or _ _ | exact xkept_R hW _ _ | exact xwait_R hW _ _ | exact xpls_R _ _ | exact xwords_R _ _) | (exact ⟨by omega, by omega⟩))) rfl am_obX rfl (Nat.le_of_ble_eq_true rfl) (Nat.le_of_ble_eq_true rfl) ?_
        refine sx_ifB_eq (tgt := 38) dX3_safe_20 (by decide) (fun c20 => ?_) (fun c20 => ?_)
        · -- 20t
          refine sx_iconst dX3_safe_38 ?_
          refine sx_ior dX3_safe_39 ?_
          refine sx_istore_n dX3_safe_40 (by decide) ?_
          refine sx_iinc dX3_safe_41 rfl (by decide) ?_
          refine sx_goto (tgt := 4) dX3_safe_44 (by decide) ?_
          refine sx_heq (xh h0 (xsafX X S (c + 1)) S) (by simp [xsafX, c20]) ?_
          have hih := ih4 _ (by omega) (c + 1) rfl (by omega)
          simp only [xsafe] at hih
          first | rw [if_pos c20, if_pos c29] at hih | rw [if_pos c20, if_neg c29] at hih | rw [if_neg c20] at hih
          exact hih
        · -- 20f
          refine sx_aload_n dX3_safe_23 rfl ?_
          refine sx_iload_n dX3_safe_24 rfl ?_
          refine sx_iconst dX3_safe_25 ?_
          refine sx_callVi dX3_safe_26 ml_X3_168 mv3_lossOf (tx_lossOf _ _ hW (by exact ⟨by omega, by omega⟩) (by exact ⟨by omega, by omega⟩) h4) rfl am_obX rfl (Nat.le_of_ble_eq_true rfl) (Nat.le_of_ble_eq_true rfl) ?_
          have hlb := xlossOf_b (a := c) (b := -1) hW
          refine sx_if_ne (tgt := 38) dX3_safe_29 (by decide) (by first | omega | assumption | (with_reducible first | exact hR _ | exact xwd_R hR _ _ | exact xch_R hR _ _ | exact am_R_xor _ _ | exact am_R_or _ _ | exact xkept_R hW _ _ | exact xwait_R hW _ _ | exact xpls_R _ _ | exact xwords_R _ _) | (exact ⟨by omega, by omega⟩)) (fun c29 => ?_) (fun c29 => ?_)
          · -- 29t
            refine sx_iconst dX3_safe_38 ?_
            refine sx_ior dX3_safe_39 ?_
            refine sx_istore_n dX3_safe_40 (by decide) ?_
            refine sx_iinc dX3_safe_41 rfl (by decide) ?_
            refine sx_goto (tgt := 4) dX3_safe_44 (by decide) ?_
            refine sx_heq (xh h0 (xsafX X S (c + 1)) S) (by simp [xsafX, c20]) ?_
            have hih := ih4 _ (by omega) (c + 1) rfl (by omega)
            simp only [xsafe] at hih
            first | rw [if_pos c20, if_pos c29] at hih | rw [if_pos c20, if_neg c29] at hih | rw [if_neg c20] at hih
            exact hih
          · -- 29f
            refine sx_iconst dX3_safe_32 ?_
            refine sx_iload_n dX3_safe_33 rfl ?_
            refine sx_ishl dX3_safe_34 ?_
            refine sx_goto (tgt := 39) dX3_safe_35 (by decide) ?_
            refine sx_ior dX3_safe_39 ?_
            refine sx_istore_n dX3_safe_40 (by decide) ?_
            refine sx_iinc dX3_safe_41 rfl (by decide) ?_
            refine sx_goto (tgt := 4) dX3_safe_44 (by decide) ?_
            refine sx_heq (xh h0 (xsafX X S (c + 1)) S) (by simp [xsafX, c20]) ?_
            have hih := ih4 _ (by omega) (c + 1) rfl (by omega)
            simp only [xsafe] at hih
            first | rw [if_pos c20, if_pos c29] at hih | rw [if_pos c20, if_neg c29] at hih | rw [if_neg c20] at hih
            exact hih
  exact loop4 _ 0 rfl (by omega)
