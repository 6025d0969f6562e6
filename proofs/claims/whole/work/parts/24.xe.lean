set_option maxHeartbeats 4000000 in
set_option maxRecDepth 100000 in
theorem tx_putsOne {h0 : am_H} {X : am_M} {S : Nat → Int} (c v : Int) (hW : WX S) (hc : am_R c) (hv : am_R v)  : Ct 5 Y3_putsOne [.inr (7, 0), .inl c, .inl v] (some (.inl (xputs S c v).1)) (xh h0 X S) (xh h0 X (xputs S c v).2) := by
  refine Ct_of (by decide +kernel) (Nat.le_of_ble_eq_true rfl) ?_
  show Sx 5 Y3_putsOne (xh h0 X (xputs S c v).2) (some (.inl (xputs S c v).1)) 0 [some (.inr (7, 0)), some (.inl c), some (.inl v), none, none] [] (xh h0 X S)
  refine xs_vh (fun hR hRX => ?_)
  obtain ⟨w0, w1, wg, wf, wo⟩ := id hW
  refine sx_aload_n dX3_putsOne_0 rfl ?_
  refine sx_iload_n dX3_putsOne_1 rfl ?_
  refine sx_callVi dX3_putsOne_2 ml_X3_90 mv3_isChip (tx_isChip _ hW (by first | omega | assumption | (with_reducible first | exact hR _ | exact xwd_R hR _ _ | exact xch_R hR _ _ | exact am_R_and _ _ | exact am_R_or _ _ | exact am_R_xor _ _ | exact am_R_shl _ _ | exact am_R_shr _ _ | exact bit_R _ _ | exact xpls_R _ _ | exact xkept_R hW _ _ | exact xwait_R hW _ _ | exact xwords_R _ _) | (exact ⟨by omega, by omega⟩) | exact wf _ (by omega) (by omega) | exact wg _ (by omega) (by omega))) rfl am_obX rfl (Nat.le_of_ble_eq_true rfl) (Nat.le_of_ble_eq_true rfl) ?_
  refine sx_ifB_eq (tgt := 19) dX3_putsOne_5 (by decide) (fun c5 => ?_) (fun c5 => ?_)
  · -- 5t
    refine sx_ldc dX3_putsOne_19 kc_X3_40 ?_
    exact sx_iret dX3_putsOne_21 rfl (by unfold xputs; (repeat' split) <;> first | contradiction | (exfalso; omega) | rfl | (congr 2; omega) | (simp_all; done)) (by unfold xputs; (repeat' split) <;> first | contradiction | (exfalso; omega) | rfl | (congr 2; omega) | (simp_all; done))
  · -- 5f
    refine sx_iload_n dX3_putsOne_8 rfl ?_
    refine sx_iconst dX3_putsOne_9 ?_
    refine sx_sipush dX3_putsOne_10 rfl ?_
    refine sx_callSi dX3_putsOne_13 ml_X3_32 ms3_in (tx_in _ _ _ (by first | omega | assumption | (with_reducible first | exact hR _ | exact xwd_R hR _ _ | exact xch_R hR _ _ | exact am_R_and _ _ | exact am_R_or _ _ | exact am_R_xor _ _ | exact am_R_shl _ _ | exact am_R_shr _ _ | exact bit_R _ _ | exact xpls_R _ _ | exact xkept_R hW _ _ | exact xwait_R hW _ _ ) | (exact ⟨by omega, by omega⟩) | exact wf _ (by omega) (by omega) | exact wg _ (by omega) (by omega)) (by first | omega | assumption | (with_reducible first | exact hR _ | exact xwd_R hR _ _ | exact xch_R hR _ _ | exact am_R_and _ _ | exact am_R_or _ _ | exact am_R_xor _ _ | exact am_R_shl _ _ | exact am_R_shr _ _ | exact bit_R _ _ | exact xpls_R _ _ | exact xkept_R hW _ _ | exact xwait_R hW _ _ ) | (exact ⟨by omega, by omega⟩) | exact wf _ (by omega) (by omega) | exact wg _ (by omega) (by omega)) (by first | omega | assumption | (with_reducible first | exact hR _ | exact xwd_R hR _ _ | exact xch_R hR _ _ | exact am_R_and _ _ | exact am_R_or _ _ | exact am_R_xor _ _ | exact am_R_shl _ _ | exact am_R_shr _ _ | exact bit_R _ _ | exact xpls_R _ _ | exact xkept_R hW _ _ | exact xwait_R hW _ _ ) | (exact ⟨by omega, by omega⟩) | exact wf _ (by omega) (by omega) | exact wg _ (by omega) (by omega))) rfl rfl (Nat.le_of_ble_eq_true rfl) (Nat.le_of_ble_eq_true rfl) ?_
    refine sx_ifB_ne (tgt := 22) dX3_putsOne_16 (by decide) (fun c16 => ?_) (fun c16 => ?_)
    · -- 16t
      have hc8 : 0 ≤ c ∧ c < 8 := ⟨c5.1, by omega⟩
      refine sx_aload_n dX3_putsOne_22 rfl ?_
      refine sx_iload_n dX3_putsOne_23 rfl ?_
      refine sx_callVi dX3_putsOne_24 ml_X3_68 mv3_places (tx_places _ hW hc8) rfl am_obX rfl (Nat.le_of_ble_eq_true rfl) (Nat.le_of_ble_eq_true rfl) ?_
      refine sx_if_ne (tgt := 33) dX3_putsOne_27 (by decide) (by first | omega | assumption | (with_reducible first | exact hR _ | exact xwd_R hR _ _ | exact xch_R hR _ _ | exact am_R_xor _ _ | exact am_R_or _ _ | exact xkept_R hW _ _ | exact xwait_R hW _ _ | exact xpls_R _ _ | exact xwords_R _ _) | (exact ⟨by omega, by omega⟩)) (fun c27 => ?_) (fun c27 => ?_)
      · -- 27t
        refine sx_aload_n dX3_putsOne_33 rfl ?_
        refine xs_getr (j := 1) dX3_putsOne_34 fl_X3_7 (by decide) rfl ?_
        refine sx_iconst dX3_putsOne_37 ?_
        refine xs_ild (n := 208) (m := 1) dX3_putsOne_38 rfl (by decide) (by decide) (by decide) rfl (fun r38 => ?_)
        refine sx_bipush dX3_putsOne_39 rfl ?_
        refine sx_icmp_ne (tgt := 47) dX3_putsOne_41 (by decide) (by first | omega | assumption | (with_reducible first | exact hR _ | exact xwd_R hR _ _ | exact xch_R hR _ _ | exact am_R_xor _ _ | exact am_R_or _ _ | exact xkept_R hW _ _ | exact xwait_R hW _ _ | exact xpls_R _ _ | exact xwords_R _ _) | (exact ⟨by omega, by omega⟩)) ⟨by decide, by decide⟩ (fun c41 => ?_) (fun c41 => ?_)
        · -- 41t
          refine sx_aload_n dX3_putsOne_47 rfl ?_
          refine sx_iload_n dX3_putsOne_48 rfl ?_
          refine sx_callVi dX3_putsOne_49 ml_X3_124 mv3_lowest (tx_lowest _ hW hc8 (xlow_lt c27)) rfl am_obX rfl (Nat.le_of_ble_eq_true rfl) (Nat.le_of_ble_eq_true rfl) ?_
          refine sx_istore_n dX3_putsOne_52 (by decide) ?_
          refine sx_aload_n dX3_putsOne_53 rfl ?_
          refine xs_getr (j := 1) dX3_putsOne_54 fl_X3_7 (by decide) rfl ?_
          refine sx_iconst dX3_putsOne_57 ?_
          refine xs_ild (n := 208) (m := 1) dX3_putsOne_58 rfl (by decide) (by decide) (by decide) rfl (fun r58 => ?_)
          refine sx_istore dX3_putsOne_59 (by decide) ?_
          refine sx_aload_n dX3_putsOne_61 rfl ?_
          refine xs_getr (j := 1) dX3_putsOne_62 fl_X3_7 (by decide) rfl ?_
          refine sx_iconst dX3_putsOne_65 ?_
          refine sx_dup2 dX3_putsOne_66 ?_
          refine xs_ild (n := 208) (m := 1) dX3_putsOne_67 rfl (by decide) (by decide) (by decide) rfl (fun r67 => ?_)
          refine sx_iconst dX3_putsOne_68 ?_
          refine sx_iadd dX3_putsOne_69 ?_
          refine xs_ist (n := 208) (m := 1) dX3_putsOne_70 rfl (by decide) (by decide) (by decide) rfl (by first | omega | assumption | (with_reducible first | exact hR _ | exact xwd_R hR _ _ | exact xch_R hR _ _ | exact am_R_xor _ _ | exact am_R_or _ _ | exact xkept_R hW _ _ | exact xwait_R hW _ _ | exact xpls_R _ _ | exact xwords_R _ _) | (exact ⟨by omega, by omega⟩)) ?_
          refine sx_aload_n dX3_putsOne_71 rfl ?_
          refine sx_iload dX3_putsOne_72 rfl ?_
          refine sx_iconst dX3_putsOne_74 ?_
          refine sx_iload_n dX3_putsOne_75 rfl ?_
          refine sx_callVv dX3_putsOne_76 ml_X3_72 mv3_lays (tx_lays _ _ _ (by omega) (by decide) (by first | (exact ⟨by omega, by omega⟩) | exact ⟨by decide, by decide⟩)) rfl am_obX rfl (Nat.le_of_ble_eq_true rfl) (Nat.le_of_ble_eq_true rfl) ?_
          refine sx_aload_n dX3_putsOne_79 rfl ?_
          refine sx_iload dX3_putsOne_80 rfl ?_
          refine sx_iconst dX3_putsOne_82 ?_
          refine sx_iconst dX3_putsOne_83 ?_
          refine sx_callVv dX3_putsOne_84 ml_X3_72 mv3_lays (tx_lays _ _ _ (by omega) (by decide) (by first | (exact ⟨by omega, by omega⟩) | exact ⟨by decide, by decide⟩)) rfl am_obX rfl (Nat.le_of_ble_eq_true rfl) (Nat.le_of_ble_eq_true rfl) ?_
          refine sx_aload_n dX3_putsOne_87 rfl ?_
          refine sx_iload dX3_putsOne_88 rfl ?_
          refine sx_bipush dX3_putsOne_90 rfl ?_
          refine sx_iconst dX3_putsOne_92 ?_
          refine sx_callVv dX3_putsOne_93 ml_X3_72 mv3_lays (tx_lays _ _ _ (by omega) (by decide) (by first | (exact ⟨by omega, by omega⟩) | exact ⟨by decide, by decide⟩)) rfl am_obX rfl (Nat.le_of_ble_eq_true rfl) (Nat.le_of_ble_eq_true rfl) ?_
          refine sx_aload_n dX3_putsOne_96 rfl ?_
          refine sx_iload dX3_putsOne_97 rfl ?_
          refine sx_iload_n dX3_putsOne_99 rfl ?_
          refine sx_iload_n dX3_putsOne_100 rfl ?_
          refine sx_callVv dX3_putsOne_101 ml_X3_127 mv3_sits (tx_sits _ _ _ (by omega) hc8 (by have q := xlow_0 S c; exact ⟨by omega, by omega⟩)) rfl am_obX rfl (Nat.le_of_ble_eq_true rfl) (Nat.le_of_ble_eq_true rfl) ?_
          refine sx_iload dX3_putsOne_104 rfl ?_
          exact sx_iret dX3_putsOne_106 rfl (by unfold xputs; (repeat' split) <;> first | contradiction | (exfalso; omega) | rfl | (congr 2; omega) | (simp_all; done)) (by unfold xputs; (repeat' split) <;> first | contradiction | (exfalso; omega) | rfl | (congr 2; omega) | (simp_all; done))
        · -- 41f
          refine sx_ldc dX3_putsOne_44 kc_X3_83 ?_
          exact sx_iret dX3_putsOne_46 rfl (by unfold xputs; (repeat' split) <;> first | contradiction | (exfalso; omega) | rfl | (congr 2; omega) | (simp_all; done)) (by unfold xputs; (repeat' split) <;> first | contradiction | (exfalso; omega) | rfl | (congr 2; omega) | (simp_all; done))
      · -- 27f
        refine sx_ldc dX3_putsOne_30 kc_X3_96 ?_
        exact sx_iret dX3_putsOne_32 rfl (by unfold xputs; (repeat' split) <;> first | contradiction | (exfalso; omega) | rfl | (congr 2; omega) | (simp_all; done)) (by unfold xputs; (repeat' split) <;> first | contradiction | (exfalso; omega) | rfl | (congr 2; omega) | (simp_all; done))
    · -- 16f
      refine sx_ldc dX3_putsOne_19 kc_X3_40 ?_
      exact sx_iret dX3_putsOne_21 rfl (by unfold xputs; (repeat' split) <;> first | contradiction | (exfalso; omega) | rfl | (congr 2; omega) | (simp_all; done)) (by unfold xputs; (repeat' split) <;> first | contradiction | (exfalso; omega) | rfl | (congr 2; omega) | (simp_all; done))
set_option maxHeartbeats 4000000 in
set_option maxRecDepth 100000 in
theorem tx_ahead {h0 : am_H} {X : am_M} {S : Nat → Int} (word : Int) (hW : WX S) (hw : 0 ≤ word ∧ word < 24)  : Ct 1 Y3_ahead [.inr (7, 0), .inl word] (some (.inl (xahead S word))) (xh h0 X S) (xh h0 X S) := by
  refine Ct_of (by decide +kernel) (Nat.le_of_ble_eq_true rfl) ?_
  show Sx 1 Y3_ahead (xh h0 X S) (some (.inl (xahead S word))) 0 [some (.inr (7, 0)), some (.inl word), none, none] [] (xh h0 X S)
  refine xs_vh (fun hR hRX => ?_)
  obtain ⟨w0, w1, wg, wf, wo⟩ := id hW
  refine sx_iconst dX3_ahead_0 ?_
  refine sx_istore_n dX3_ahead_1 (by decide) ?_
  refine sx_iconst dX3_ahead_2 ?_
  refine sx_istore_n dX3_ahead_3 (by decide) ?_
  have loop4 : ∀ (n : Nat) (nn : Int) (w : Nat), (S 1 - w).toNat = n → (w : Int) ≤ S 1 → nn = cntW (fun w => xwd S w 1 == 1 && (xwd S w 4 == xwd S word 4 && decide (xwd S w 5 < xwd S word 5))) w → Sx 1 Y3_ahead (xh h0 X S) (some (.inl (xahead S word))) 4 [some (.inr (7, 0)), some (.inl word), some (.inl nn), some (.inl (w : Int))] [] (xh h0 X S) := by
    intro n
    induction n using Nat.strongRecOn with
    | _ n ih4 =>
      intro nn w hn hle hf
      refine sx_iload_n dX3_ahead_4 rfl ?_
      refine sx_aload_n dX3_ahead_5 rfl ?_
      refine xs_getr (j := 1) dX3_ahead_6 fl_X3_7 (by decide) rfl ?_
      refine sx_iconst dX3_ahead_9 ?_
      refine xs_ild (n := 208) (m := 1) dX3_ahead_10 rfl (by decide) (by decide) (by decide) rfl (fun r10 => ?_)
      refine sx_icmp_ge (tgt := 68) dX3_ahead_11 (by decide) (by first | omega | assumption | (with_reducible first | exact hR _ | exact xwd_R hR _ _ | exact xch_R hR _ _ | exact am_R_xor _ _ | exact am_R_or _ _ | exact xkept_R hW _ _ | exact xwait_R hW _ _ | exact xpls_R _ _ | exact xwords_R _ _) | (exact ⟨by omega, by omega⟩)) (by first | omega | assumption | (with_reducible first | exact hR _ | exact xwd_R hR _ _ | exact xch_R hR _ _ | exact am_R_xor _ _ | exact am_R_or _ _ | exact xkept_R hW _ _ | exact xwait_R hW _ _ | exact xpls_R _ _ | exact xwords_R _ _) | (exact ⟨by omega, by omega⟩)) (fun c11 => ?_) (fun c11 => ?_)
      · -- 11t
        refine sx_iload_n dX3_ahead_68 rfl ?_
        exact sx_iret dX3_ahead_69 rfl (by rw [hf, show w = (S 1).toNat by omega]; rfl) rfl
      · -- 11f
        refine sx_iload_n dX3_ahead_14 rfl ?_
        refine sx_aload_n dX3_ahead_15 rfl ?_
        refine sx_iload_n dX3_ahead_16 rfl ?_
        refine sx_iconst dX3_ahead_17 ?_
        refine sx_callVi dX3_ahead_18 ml_X3_45 mv3_wd (tx_wd _ _ (by first | omega | assumption | (with_reducible first | exact hR _ | exact xwd_R hR _ _ | exact xch_R hR _ _ | exact am_R_xor _ _ | exact am_R_or _ _ | exact xkept_R hW _ _ | exact xwait_R hW _ _ | exact xpls_R _ _ | exact xwords_R _ _) | (exact ⟨by omega, by omega⟩)) (by first | omega | assumption | (with_reducible first | exact hR _ | exact xwd_R hR _ _ | exact xch_R hR _ _ | exact am_R_xor _ _ | exact am_R_or _ _ | exact xkept_R hW _ _ | exact xwait_R hW _ _ | exact xpls_R _ _ | exact xwords_R _ _) | (exact ⟨by omega, by omega⟩))) rfl am_obX rfl (Nat.le_of_ble_eq_true rfl) (Nat.le_of_ble_eq_true rfl) ?_
        refine sx_iconst dX3_ahead_21 ?_
        refine sx_icmp_ne (tgt := 59) dX3_ahead_22 (by decide) (by first | omega | assumption | (with_reducible first | exact hR _ | exact xwd_R hR _ _ | exact xch_R hR _ _ | exact am_R_xor _ _ | exact am_R_or _ _ | exact xkept_R hW _ _ | exact xwait_R hW _ _ | exact xpls_R _ _ | exact xwords_R _ _) | (exact ⟨by omega, by omega⟩)) ⟨by decide, by decide⟩ (fun c22 => ?_) (fun c22 => ?_)
        · -- 22t
          refine sx_iconst dX3_ahead_59 ?_
          refine sx_iadd dX3_ahead_60 ?_
          refine sx_istore_n dX3_ahead_61 (by decide) ?_
          refine sx_iinc dX3_ahead_62 rfl (by decide) ?_
          refine sx_goto (tgt := 4) dX3_ahead_65 (by decide) ?_
          exact ih4 _ (by omega) _ (w + 1) rfl (by omega) (by first | (simp [cntW, c11, c22, hf]; done) | (simp [cntW, c11, c22, hf]; omega))
        · -- 22f
          refine sx_aload_n dX3_ahead_25 rfl ?_
          refine sx_iload_n dX3_ahead_26 rfl ?_
          refine sx_iconst dX3_ahead_27 ?_
          refine sx_callVi dX3_ahead_28 ml_X3_45 mv3_wd (tx_wd _ _ (by first | omega | assumption | (with_reducible first | exact hR _ | exact xwd_R hR _ _ | exact xch_R hR _ _ | exact am_R_xor _ _ | exact am_R_or _ _ | exact xkept_R hW _ _ | exact xwait_R hW _ _ | exact xpls_R _ _ | exact xwords_R _ _) | (exact ⟨by omega, by omega⟩)) (by first | omega | assumption | (with_reducible first | exact hR _ | exact xwd_R hR _ _ | exact xch_R hR _ _ | exact am_R_xor _ _ | exact am_R_or _ _ | exact xkept_R hW _ _ | exact xwait_R hW _ _ | exact xpls_R _ _ | exact xwords_R _ _) | (exact ⟨by omega, by omega⟩))) rfl am_obX rfl (Nat.le_of_ble_eq_true rfl) (Nat.le_of_ble_eq_true rfl) ?_
          refine sx_aload_n dX3_ahead_31 rfl ?_
          refine sx_iload_n dX3_ahead_32 rfl ?_
          refine sx_iconst dX3_ahead_33 ?_
          refine sx_callVi dX3_ahead_34 ml_X3_45 mv3_wd (tx_wd _ _ (by first | omega | assumption | (with_reducible first | exact hR _ | exact xwd_R hR _ _ | exact xch_R hR _ _ | exact am_R_xor _ _ | exact am_R_or _ _ | exact xkept_R hW _ _ | exact xwait_R hW _ _ | exact xpls_R _ _ | exact xwords_R _ _) | (exact ⟨by omega, by omega⟩)) (by first | omega | assumption | (with_reducible first | exact hR _ | exact xwd_R hR _ _ | exact xch_R hR _ _ | exact am_R_xor _ _ | exact am_R_or _ _ | exact xkept_R hW _ _ | exact xwait_R hW _ _ | exact xpls_R _ _ | exact xwords_R _ _) | (exact ⟨by omega, by omega⟩))) rfl am_obX rfl (Nat.le_of_ble_eq_true rfl) (Nat.le_of_ble_eq_true rfl) ?_
          refine sx_icmp_ne (tgt := 59) dX3_ahead_37 (by decide) (by first | omega | assumption | (with_reducible first | exact hR _ | exact xwd_R hR _ _ | exact xch_R hR _ _ | exact am_R_xor _ _ | exact am_R_or _ _ | exact xkept_R hW _ _ | exact xwait_R hW _ _ | exact xpls_R _ _ | exact xwords_R _ _) | (exact ⟨by omega, by omega⟩)) (by first | omega | assumption | (with_reducible first | exact hR _ | exact xwd_R hR _ _ | exact xch_R hR _ _ | exact am_R_xor _ _ | exact am_R_or _ _ | exact xkept_R hW _ _ | exact xwait_R hW _ _ | exact xpls_R _ _ | exact xwords_R _ _) | (exact ⟨by omega, by omega⟩)) (fun c37 => ?_) (fun c37 => ?_)
          · -- 37t
            refine sx_iconst dX3_ahead_59 ?_
            refine sx_iadd dX3_ahead_60 ?_
            refine sx_istore_n dX3_ahead_61 (by decide) ?_
            refine sx_iinc dX3_ahead_62 rfl (by decide) ?_
            refine sx_goto (tgt := 4) dX3_ahead_65 (by decide) ?_
            exact ih4 _ (by omega) _ (w + 1) rfl (by omega) (by first | (simp [cntW, c11, c22, c37, hf]; done) | (simp [cntW, c11, c22, c37, hf]; omega))
          · -- 37f
            refine sx_aload_n dX3_ahead_40 rfl ?_
            refine sx_iload_n dX3_ahead_41 rfl ?_
            refine sx_iconst dX3_ahead_42 ?_
            refine sx_callVi dX3_ahead_43 ml_X3_45 mv3_wd (tx_wd _ _ (by first | omega | assumption | (with_reducible first | exact hR _ | exact xwd_R hR _ _ | exact xch_R hR _ _ | exact am_R_xor _ _ | exact am_R_or _ _ | exact xkept_R hW _ _ | exact xwait_R hW _ _ | exact xpls_R _ _ | exact xwords_R _ _) | (exact ⟨by omega, by omega⟩)) (by first | omega | assumption | (with_reducible first | exact hR _ | exact xwd_R hR _ _ | exact xch_R hR _ _ | exact am_R_xor _ _ | exact am_R_or _ _ | exact xkept_R hW _ _ | exact xwait_R hW _ _ | exact xpls_R _ _ | exact xwords_R _ _) | (exact ⟨by omega, by omega⟩))) rfl am_obX rfl (Nat.le_of_ble_eq_true rfl) (Nat.le_of_ble_eq_true rfl) ?_
            refine sx_aload_n dX3_ahead_46 rfl ?_
            refine sx_iload_n dX3_ahead_47 rfl ?_
            refine sx_iconst dX3_ahead_48 ?_
            refine sx_callVi dX3_ahead_49 ml_X3_45 mv3_wd (tx_wd _ _ (by first | omega | assumption | (with_reducible first | exact hR _ | exact xwd_R hR _ _ | exact xch_R hR _ _ | exact am_R_xor _ _ | exact am_R_or _ _ | exact xkept_R hW _ _ | exact xwait_R hW _ _ | exact xpls_R _ _ | exact xwords_R _ _) | (exact ⟨by omega, by omega⟩)) (by first | omega | assumption | (with_reducible first | exact hR _ | exact xwd_R hR _ _ | exact xch_R hR _ _ | exact am_R_xor _ _ | exact am_R_or _ _ | exact xkept_R hW _ _ | exact xwait_R hW _ _ | exact xpls_R _ _ | exact xwords_R _ _) | (exact ⟨by omega, by omega⟩))) rfl am_obX rfl (Nat.le_of_ble_eq_true rfl) (Nat.le_of_ble_eq_true rfl) ?_
            refine sx_icmp_ge (tgt := 59) dX3_ahead_52 (by decide) (by first | omega | assumption | (with_reducible first | exact hR _ | exact xwd_R hR _ _ | exact xch_R hR _ _ | exact am_R_xor _ _ | exact am_R_or _ _ | exact xkept_R hW _ _ | exact xwait_R hW _ _ | exact xpls_R _ _ | exact xwords_R _ _) | (exact ⟨by omega, by omega⟩)) (by first | omega | assumption | (with_reducible first | exact hR _ | exact xwd_R hR _ _ | exact xch_R hR _ _ | exact am_R_xor _ _ | exact am_R_or _ _ | exact xkept_R hW _ _ | exact xwait_R hW _ _ | exact xpls_R _ _ | exact xwords_R _ _) | (exact ⟨by omega, by omega⟩)) (fun c52 => ?_) (fun c52 => ?_)
            · -- 52t
              refine sx_iconst dX3_ahead_59 ?_
              refine sx_iadd dX3_ahead_60 ?_
              refine sx_istore_n dX3_ahead_61 (by decide) ?_
              refine sx_iinc dX3_ahead_62 rfl (by decide) ?_
              refine sx_goto (tgt := 4) dX3_ahead_65 (by decide) ?_
              exact ih4 _ (by omega) _ (w + 1) rfl (by omega) (by first | (simp [cntW, c11, c22, c37, c52, hf]; done) | (simp [cntW, c11, c22, c37, c52, hf]; omega))
            · -- 52f
              refine sx_iconst dX3_ahead_55 ?_
              refine sx_goto (tgt := 60) dX3_ahead_56 (by decide) ?_
              refine sx_iadd dX3_ahead_60 ?_
              refine sx_istore_n dX3_ahead_61 (by decide) ?_
              refine sx_iinc dX3_ahead_62 rfl (by decide) ?_
              refine sx_goto (tgt := 4) dX3_ahead_65 (by decide) ?_
              exact ih4 _ (by omega) _ (w + 1) rfl (by omega) (by first | (simp [cntW, c11, c22, c37, c52, hf]; done) | (simp [cntW, c11, c22, c37, c52, hf]; omega))
  exact loop4 _ _ 0 rfl (by omega) rfl
set_option maxHeartbeats 4000000 in
set_option maxRecDepth 100000 in
theorem tx_firstOf {h0 : am_H} {X : am_M} {S : Nat → Int} (f : Int) (hW : WX S) (hf9 : am_R f)  : Ct 1 Y3_firstOf [.inr (7, 0), .inl f] (some (.inl (xfirst S f))) (xh h0 X S) (xh h0 X S) := by
  refine Ct_of (by decide +kernel) (Nat.le_of_ble_eq_true rfl) ?_
  show Sx 1 Y3_firstOf (xh h0 X S) (some (.inl (xfirst S f))) 0 [some (.inr (7, 0)), some (.inl f), none, none, none] [] (xh h0 X S)
  refine xs_vh (fun hR hRX => ?_)
  obtain ⟨w0, w1, wg, wf, wo⟩ := id hW
  refine sx_iconst dX3_firstOf_0 ?_
  refine sx_istore_n dX3_firstOf_1 (by decide) ?_
  refine sx_iconst dX3_firstOf_2 ?_
  refine sx_istore_n dX3_firstOf_3 (by decide) ?_
  have loop4 : ∀ (n : Nat) (g : Int) (w : Nat), (S 1 - w).toNat = n → (w : Int) ≤ S 1 → g = xfirstN S f w → -1 ≤ g → g < w → Sx 1 Y3_firstOf (xh h0 X S) (some (.inl (xfirst S f))) 4 [some (.inr (7, 0)), some (.inl f), some (.inl g), some (.inl (w : Int)), none] [] (xh h0 X S) := by
    intro n
    induction n using Nat.strongRecOn with
    | _ n ih4 =>
      intro g w hn hle hf hg0 hg1
      refine sx_iload_n dX3_firstOf_4 rfl ?_
      refine sx_aload_n dX3_firstOf_5 rfl ?_
      refine xs_getr (j := 1) dX3_firstOf_6 fl_X3_7 (by decide) rfl ?_
      refine sx_iconst dX3_firstOf_9 ?_
      refine xs_ild (n := 208) (m := 1) dX3_firstOf_10 rfl (by decide) (by decide) (by decide) rfl (fun r10 => ?_)
      refine sx_icmp_ge (tgt := 77) dX3_firstOf_11 (by decide) (by first | omega | assumption | (with_reducible first | exact hR _ | exact xwd_R hR _ _ | exact xch_R hR _ _ | exact am_R_xor _ _ | exact am_R_or _ _ | exact xkept_R hW _ _ | exact xwait_R hW _ _ | exact xpls_R _ _ | exact xwords_R _ _) | (exact ⟨by omega, by omega⟩)) (by first | omega | assumption | (with_reducible first | exact hR _ | exact xwd_R hR _ _ | exact xch_R hR _ _ | exact am_R_xor _ _ | exact am_R_or _ _ | exact xkept_R hW _ _ | exact xwait_R hW _ _ | exact xpls_R _ _ | exact xwords_R _ _) | (exact ⟨by omega, by omega⟩)) (fun c11 => ?_) (fun c11 => ?_)
      · -- 11t
        refine sx_iload_n dX3_firstOf_77 rfl ?_
        exact sx_iret dX3_firstOf_78 rfl (by rw [hf, show w = (S 1).toNat by omega]; rfl) rfl
      · -- 11f
        refine sx_aload_n dX3_firstOf_14 rfl ?_
        refine sx_iload_n dX3_firstOf_15 rfl ?_
        refine sx_iconst dX3_firstOf_16 ?_
        refine sx_callVi dX3_firstOf_17 ml_X3_45 mv3_wd (tx_wd _ _ (by first | omega | assumption | (with_reducible first | exact hR _ | exact xwd_R hR _ _ | exact xch_R hR _ _ | exact am_R_xor _ _ | exact am_R_or _ _ | exact xkept_R hW _ _ | exact xwait_R hW _ _ | exact xpls_R _ _ | exact xwords_R _ _) | (exact ⟨by omega, by omega⟩)) (by first | omega | assumption | (with_reducible first | exact hR _ | exact xwd_R hR _ _ | exact xch_R hR _ _ | exact am_R_xor _ _ | exact am_R_or _ _ | exact xkept_R hW _ _ | exact xwait_R hW _ _ | exact xpls_R _ _ | exact xwords_R _ _) | (exact ⟨by omega, by omega⟩))) rfl am_obX rfl (Nat.le_of_ble_eq_true rfl) (Nat.le_of_ble_eq_true rfl) ?_
        refine sx_iconst dX3_firstOf_20 ?_
        refine sx_icmp_ne (tgt := 57) dX3_firstOf_21 (by decide) (by first | omega | assumption | (with_reducible first | exact hR _ | exact xwd_R hR _ _ | exact xch_R hR _ _ | exact am_R_xor _ _ | exact am_R_or _ _ | exact xkept_R hW _ _ | exact xwait_R hW _ _ | exact xpls_R _ _ | exact xwords_R _ _) | (exact ⟨by omega, by omega⟩)) ⟨by decide, by decide⟩ (fun c21 => ?_) (fun c21 => ?_)
        · -- 21t
          refine sx_iconst dX3_firstOf_57 ?_
          refine sx_istore dX3_firstOf_58 (by decide) ?_
          refine sx_iload dX3_firstOf_60 rfl ?_
          refine sx_if_eq (tgt := 69) dX3_firstOf_62 (by decide) ⟨by decide, by decide⟩ (fun _ => ?_) (fun q => absurd q (by decide))
          refine sx_iload_n dX3_firstOf_69 rfl ?_
          refine sx_istore_n dX3_firstOf_70 (by decide) ?_
          refine sx_iinc dX3_firstOf_71 rfl (by decide) ?_
          refine sx_goto (tgt := 4) dX3_firstOf_74 (by decide) ?_
          exact sx_forget 4 (ih4 _ (by omega) _ (w + 1) rfl (by omega) (by first | exact xfirstN_y hf (by assumption) (by assumption) (Or.inl (by assumption)) | exact xfirstN_y hf (by assumption) (by assumption) (Or.inr (by assumption)) | exact xfirstN_n hf (Or.inl (by assumption)) | exact xfirstN_n hf (Or.inr (Or.inl (by assumption))) | exact xfirstN_n hf (Or.inr (Or.inr ⟨by assumption, by assumption⟩))) (by omega) (by omega))
        · -- 21f
          refine sx_aload_n dX3_firstOf_24 rfl ?_
          refine sx_iload_n dX3_firstOf_25 rfl ?_
          refine sx_iconst dX3_firstOf_26 ?_
          refine sx_callVi dX3_firstOf_27 ml_X3_45 mv3_wd (tx_wd _ _ (by first | omega | assumption | (with_reducible first | exact hR _ | exact xwd_R hR _ _ | exact xch_R hR _ _ | exact am_R_xor _ _ | exact am_R_or _ _ | exact xkept_R hW _ _ | exact xwait_R hW _ _ | exact xpls_R _ _ | exact xwords_R _ _) | (exact ⟨by omega, by omega⟩)) (by first | omega | assumption | (with_reducible first | exact hR _ | exact xwd_R hR _ _ | exact xch_R hR _ _ | exact am_R_xor _ _ | exact am_R_or _ _ | exact xkept_R hW _ _ | exact xwait_R hW _ _ | exact xpls_R _ _ | exact xwords_R _ _) | (exact ⟨by omega, by omega⟩))) rfl am_obX rfl (Nat.le_of_ble_eq_true rfl) (Nat.le_of_ble_eq_true rfl) ?_
          refine sx_iload_n dX3_firstOf_30 rfl ?_
          refine sx_icmp_ne (tgt := 57) dX3_firstOf_31 (by decide) (by first | omega | assumption | (with_reducible first | exact hR _ | exact xwd_R hR _ _ | exact xch_R hR _ _ | exact am_R_xor _ _ | exact am_R_or _ _ | exact xkept_R hW _ _ | exact xwait_R hW _ _ | exact xpls_R _ _ | exact xwords_R _ _) | (exact ⟨by omega, by omega⟩)) (by first | omega | assumption | (with_reducible first | exact hR _ | exact xwd_R hR _ _ | exact xch_R hR _ _ | exact am_R_xor _ _ | exact am_R_or _ _ | exact xkept_R hW _ _ | exact xwait_R hW _ _ | exact xpls_R _ _ | exact xwords_R _ _) | (exact ⟨by omega, by omega⟩)) (fun c31 => ?_) (fun c31 => ?_)
          · -- 31t
            refine sx_iconst dX3_firstOf_57 ?_
            refine sx_istore dX3_firstOf_58 (by decide) ?_
            refine sx_iload dX3_firstOf_60 rfl ?_
            refine sx_if_eq (tgt := 69) dX3_firstOf_62 (by decide) ⟨by decide, by decide⟩ (fun _ => ?_) (fun q => absurd q (by decide))
            refine sx_iload_n dX3_firstOf_69 rfl ?_
            refine sx_istore_n dX3_firstOf_70 (by decide) ?_
            refine sx_iinc dX3_firstOf_71 rfl (by decide) ?_
            refine sx_goto (tgt := 4) dX3_firstOf_74 (by decide) ?_
            exact sx_forget 4 (ih4 _ (by omega) _ (w + 1) rfl (by omega) (by first | exact xfirstN_y hf (by assumption) (by assumption) (Or.inl (by assumption)) | exact xfirstN_y hf (by assumption) (by assumption) (Or.inr (by assumption)) | exact xfirstN_n hf (Or.inl (by assumption)) | exact xfirstN_n hf (Or.inr (Or.inl (by assumption))) | exact xfirstN_n hf (Or.inr (Or.inr ⟨by assumption, by assumption⟩))) (by omega) (by omega))
          · -- 31f
            refine sx_iload_n dX3_firstOf_34 rfl ?_
            refine sx_if_lt (tgt := 53) dX3_firstOf_35 (by decide) (by first | omega | assumption | (with_reducible first | exact hR _ | exact xwd_R hR _ _ | exact xch_R hR _ _ | exact am_R_xor _ _ | exact am_R_or _ _ | exact xkept_R hW _ _ | exact xwait_R hW _ _ | exact xpls_R _ _ | exact xwords_R _ _) | (exact ⟨by omega, by omega⟩)) (fun c35 => ?_) (fun c35 => ?_)
            · -- 35t
              refine sx_iconst dX3_firstOf_53 ?_
              refine sx_goto (tgt := 58) dX3_firstOf_54 (by decide) ?_
              refine sx_istore dX3_firstOf_58 (by decide) ?_
              refine sx_iload dX3_firstOf_60 rfl ?_
              refine sx_if_eq (tgt := 69) dX3_firstOf_62 (by decide) ⟨by decide, by decide⟩ (fun q => absurd q (by decide)) (fun _ => ?_)
              refine sx_iload_n dX3_firstOf_65 rfl ?_
              refine sx_goto (tgt := 70) dX3_firstOf_66 (by decide) ?_
              refine sx_istore_n dX3_firstOf_70 (by decide) ?_
              refine sx_iinc dX3_firstOf_71 rfl (by decide) ?_
              refine sx_goto (tgt := 4) dX3_firstOf_74 (by decide) ?_
              exact sx_forget 4 (ih4 _ (by omega) _ (w + 1) rfl (by omega) (by first | exact xfirstN_y hf (by assumption) (by assumption) (Or.inl (by assumption)) | exact xfirstN_y hf (by assumption) (by assumption) (Or.inr (by assumption)) | exact xfirstN_n hf (Or.inl (by assumption)) | exact xfirstN_n hf (Or.inr (Or.inl (by assumption))) | exact xfirstN_n hf (Or.inr (Or.inr ⟨by assumption, by assumption⟩))) (by omega) (by omega))
            · -- 35f
              refine sx_aload_n dX3_firstOf_38 rfl ?_
              refine sx_iload_n dX3_firstOf_39 rfl ?_
              refine sx_iconst dX3_firstOf_40 ?_
              refine sx_callVi dX3_firstOf_41 ml_X3_45 mv3_wd (tx_wd _ _ (by first | omega | assumption | (with_reducible first | exact hR _ | exact xwd_R hR _ _ | exact xch_R hR _ _ | exact am_R_xor _ _ | exact am_R_or _ _ | exact xkept_R hW _ _ | exact xwait_R hW _ _ | exact xpls_R _ _ | exact xwords_R _ _) | (exact ⟨by omega, by omega⟩)) (by first | omega | assumption | (with_reducible first | exact hR _ | exact xwd_R hR _ _ | exact xch_R hR _ _ | exact am_R_xor _ _ | exact am_R_or _ _ | exact xkept_R hW _ _ | exact xwait_R hW _ _ | exact xpls_R _ _ | exact xwords_R _ _) | (exact ⟨by omega, by omega⟩))) rfl am_obX rfl (Nat.le_of_ble_eq_true rfl) (Nat.le_of_ble_eq_true rfl) ?_
              refine sx_aload_n dX3_firstOf_44 rfl ?_
              refine sx_iload_n dX3_firstOf_45 rfl ?_
              refine sx_iconst dX3_firstOf_46 ?_
              refine sx_callVi dX3_firstOf_47 ml_X3_45 mv3_wd (tx_wd _ _ (by first | omega | assumption | (with_reducible first | exact hR _ | exact xwd_R hR _ _ | exact xch_R hR _ _ | exact am_R_xor _ _ | exact am_R_or _ _ | exact xkept_R hW _ _ | exact xwait_R hW _ _ | exact xpls_R _ _ | exact xwords_R _ _) | (exact ⟨by omega, by omega⟩)) (by first | omega | assumption | (with_reducible first | exact hR _ | exact xwd_R hR _ _ | exact xch_R hR _ _ | exact am_R_xor _ _ | exact am_R_or _ _ | exact xkept_R hW _ _ | exact xwait_R hW _ _ | exact xpls_R _ _ | exact xwords_R _ _) | (exact ⟨by omega, by omega⟩))) rfl am_obX rfl (Nat.le_of_ble_eq_true rfl) (Nat.le_of_ble_eq_true rfl) ?_
              refine sx_icmp_ge (tgt := 57) dX3_firstOf_50 (by decide) (by first | omega | assumption | (with_reducible first | exact hR _ | exact xwd_R hR _ _ | exact xch_R hR _ _ | exact am_R_xor _ _ | exact am_R_or _ _ | exact xkept_R hW _ _ | exact xwait_R hW _ _ | exact xpls_R _ _ | exact xwords_R _ _) | (exact ⟨by omega, by omega⟩)) (by first | omega | assumption | (with_reducible first | exact hR _ | exact xwd_R hR _ _ | exact xch_R hR _ _ | exact am_R_xor _ _ | exact am_R_or _ _ | exact xkept_R hW _ _ | exact xwait_R hW _ _ | exact xpls_R _ _ | exact xwords_R _ _) | (exact ⟨by omega, by omega⟩)) (fun c50 => ?_) (fun c50 => ?_)
              · -- 50t
                refine sx_iconst dX3_firstOf_57 ?_
                refine sx_istore dX3_firstOf_58 (by decide) ?_
                refine sx_iload dX3_firstOf_60 rfl ?_
                refine sx_if_eq (tgt := 69) dX3_firstOf_62 (by decide) ⟨by decide, by decide⟩ (fun _ => ?_) (fun q => absurd q (by decide))
                refine sx_iload_n dX3_firstOf_69 rfl ?_
                refine sx_istore_n dX3_firstOf_70 (by decide) ?_
                refine sx_iinc dX3_firstOf_71 rfl (by decide) ?_
                refine sx_goto (tgt := 4) dX3_firstOf_74 (by decide) ?_
                exact sx_forget 4 (ih4 _ (by omega) _ (w + 1) rfl (by omega) (by first | exact xfirstN_y hf (by assumption) (by assumption) (Or.inl (by assumption)) | exact xfirstN_y hf (by assumption) (by assumption) (Or.inr (by assumption)) | exact xfirstN_n hf (Or.inl (by assumption)) | exact xfirstN_n hf (Or.inr (Or.inl (by assumption))) | exact xfirstN_n hf (Or.inr (Or.inr ⟨by assumption, by assumption⟩))) (by omega) (by omega))
              · -- 50f
                refine sx_iconst dX3_firstOf_53 ?_
                refine sx_goto (tgt := 58) dX3_firstOf_54 (by decide) ?_
                refine sx_istore dX3_firstOf_58 (by decide) ?_
                refine sx_iload dX3_firstOf_60 rfl ?_
                refine sx_if_eq (tgt := 69) dX3_firstOf_62 (by decide) ⟨by decide, by decide⟩ (fun q => absurd q (by decide)) (fun _ => ?_)
                refine sx_iload_n dX3_firstOf_65 rfl ?_
                refine sx_goto (tgt := 70) dX3_firstOf_66 (by decide) ?_
                refine sx_istore_n dX3_firstOf_70 (by decide) ?_
                refine sx_iinc dX3_firstOf_71 rfl (by decide) ?_
                refine sx_goto (tgt := 4) dX3_firstOf_74 (by decide) ?_
                exact sx_forget 4 (ih4 _ (by omega) _ (w + 1) rfl (by omega) (by first | exact xfirstN_y hf (by assumption) (by assumption) (Or.inl (by assumption)) | exact xfirstN_y hf (by assumption) (by assumption) (Or.inr (by assumption)) | exact xfirstN_n hf (Or.inl (by assumption)) | exact xfirstN_n hf (Or.inr (Or.inl (by assumption))) | exact xfirstN_n hf (Or.inr (Or.inr ⟨by assumption, by assumption⟩))) (by omega) (by omega))
  exact loop4 _ _ 0 rfl (by omega) rfl (by omega) (by decide)
set_option maxHeartbeats 4000000 in
set_option maxRecDepth 100000 in
theorem tx_many {h0 : am_H} {X : am_M} {S : Nat → Int} (f st b : Int) (hW : WX S) (hf9 : am_R f) (hs9 : am_R st) (hb9 : am_R b)  : Ct 3 Y3_many [.inr (7, 0), .inl f, .inl st, .inl b] (some (.inl (xmany S f st (!(b == 0))))) (xh h0 X S) (xh h0 X S) := by
  refine Ct_of (by decide +kernel) (Nat.le_of_ble_eq_true rfl) ?_
  show Sx 3 Y3_many (xh h0 X S) (some (.inl (xmany S f st (!(b == 0))))) 0 [some (.inr (7, 0)), some (.inl f), some (.inl st), some (.inl b), none, none, none] [] (xh h0 X S)
  refine xs_vh (fun hR hRX => ?_)
  obtain ⟨w0, w1, wg, wf, wo⟩ := id hW
  refine sx_iconst dX3_many_0 ?_
  refine sx_istore dX3_many_1 (by decide) ?_
  refine sx_iconst dX3_many_3 ?_
  refine sx_istore dX3_many_4 (by decide) ?_
  have loop6 : ∀ (n : Nat) (nn : Int) (w : Nat), (S 1 - w).toNat = n → (w : Int) ≤ S 1 → nn = cntW (fun w => (xwd S w 1 == st && (decide (f < 0) || xwd S w 4 == f)) && !((!(b == 0)) && xgu S (xwd S w 4) (xwd S w 3))) w → Sx 3 Y3_many (xh h0 X S) (some (.inl (xmany S f st (!(b == 0))))) 6 [some (.inr (7, 0)), some (.inl f), some (.inl st), some (.inl b), some (.inl nn), some (.inl (w : Int)), none] [] (xh h0 X S) := by
    intro n
    induction n using Nat.strongRecOn with
    | _ n ih6 =>
      intro nn w hn hle hf
      refine sx_iload dX3_many_6 rfl ?_
      refine sx_aload_n dX3_many_8 rfl ?_
      refine xs_getr (j := 1) dX3_many_9 fl_X3_7 (by decide) rfl ?_
      refine sx_iconst dX3_many_12 ?_
      refine xs_ild (n := 208) (m := 1) dX3_many_13 rfl (by decide) (by decide) (by decide) rfl (fun r13 => ?_)
      refine sx_icmp_ge (tgt := 96) dX3_many_14 (by decide) (by first | omega | assumption | (with_reducible first | exact hR _ | exact xwd_R hR _ _ | exact xch_R hR _ _ | exact am_R_xor _ _ | exact am_R_or _ _ | exact xkept_R hW _ _ | exact xwait_R hW _ _ | exact xpls_R _ _ | exact xwords_R _ _) | (exact ⟨by omega, by omega⟩)) (by first | omega | assumption | (with_reducible first | exact hR _ | exact xwd_R hR _ _ | exact xch_R hR _ _ | exact am_R_xor _ _ | exact am_R_or _ _ | exact xkept_R hW _ _ | exact xwait_R hW _ _ | exact xpls_R _ _ | exact xwords_R _ _) | (exact ⟨by omega, by omega⟩)) (fun c14 => ?_) (fun c14 => ?_)
      · -- 14t
        refine sx_iload dX3_many_96 rfl ?_
        exact sx_iret dX3_many_98 rfl (by rw [hf, show w = (S 1).toNat by omega]; rfl) rfl
      · -- 14f
        refine sx_aload_n dX3_many_17 rfl ?_
        refine sx_iload dX3_many_18 rfl ?_
        refine sx_iconst dX3_many_20 ?_
        refine sx_callVi dX3_many_21 ml_X3_45 mv3_wd (tx_wd _ _ (by first | omega | assumption | (with_reducible first | exact hR _ | exact xwd_R hR _ _ | exact xch_R hR _ _ | exact am_R_xor _ _ | exact am_R_or _ _ | exact xkept_R hW _ _ | exact xwait_R hW _ _ | exact xpls_R _ _ | exact xwords_R _ _) | (exact ⟨by omega, by omega⟩)) (by first | omega | assumption | (with_reducible first | exact hR _ | exact xwd_R hR _ _ | exact xch_R hR _ _ | exact am_R_xor _ _ | exact am_R_or _ _ | exact xkept_R hW _ _ | exact xwait_R hW _ _ | exact xpls_R _ _ | exact xwords_R _ _) | (exact ⟨by omega, by omega⟩))) rfl am_obX rfl (Nat.le_of_ble_eq_true rfl) (Nat.le_of_ble_eq_true rfl) ?_
        refine sx_iload_n dX3_many_24 rfl ?_
        refine sx_icmp_ne (tgt := 47) dX3_many_25 (by decide) (by first | omega | assumption | (with_reducible first | exact hR _ | exact xwd_R hR _ _ | exact xch_R hR _ _ | exact am_R_xor _ _ | exact am_R_or _ _ | exact xkept_R hW _ _ | exact xwait_R hW _ _ | exact xpls_R _ _ | exact xwords_R _ _) | (exact ⟨by omega, by omega⟩)) (by first | omega | assumption | (with_reducible first | exact hR _ | exact xwd_R hR _ _ | exact xch_R hR _ _ | exact am_R_xor _ _ | exact am_R_or _ _ | exact xkept_R hW _ _ | exact xwait_R hW _ _ | exact xpls_R _ _ | exact xwords_R _ _) | (exact ⟨by omega, by omega⟩)) (fun c25 => ?_) (fun c25 => ?_)
        · -- 25t
          refine sx_iconst dX3_many_47 ?_
          refine sx_istore dX3_many_48 (by decide) ?_
          refine sx_iload dX3_many_50 rfl ?_
          refine sx_iload dX3_many_52 rfl ?_
          refine sx_if_eq (tgt := 86) dX3_many_54 (by decide) ⟨by decide, by decide⟩ (fun _ => ?_) (fun q => absurd q (by decide))
          refine sx_iconst dX3_many_86 ?_
          refine sx_iadd dX3_many_87 ?_
          refine sx_istore dX3_many_88 (by decide) ?_
          refine sx_iinc dX3_many_90 rfl (by decide) ?_
          refine sx_goto (tgt := 6) dX3_many_93 (by decide) ?_
          exact sx_forget 6 (ih6 _ (by omega) _ (w + 1) rfl (by omega) (by first | (simp [cntW, c14, c25, hf]; done) | (clear ih6; simp_all [cntW]; done) | (simp [cntW, c14, c25, hf]; omega)))
        · -- 25f
          refine sx_iload_n dX3_many_28 rfl ?_
          refine sx_if_lt (tgt := 43) dX3_many_29 (by decide) (by first | omega | assumption | (with_reducible first | exact hR _ | exact xwd_R hR _ _ | exact xch_R hR _ _ | exact am_R_xor _ _ | exact am_R_or _ _ | exact xkept_R hW _ _ | exact xwait_R hW _ _ | exact xpls_R _ _ | exact xwords_R _ _) | (exact ⟨by omega, by omega⟩)) (fun c29 => ?_) (fun c29 => ?_)
          · -- 29t
            refine sx_iconst dX3_many_43 ?_
            refine sx_goto (tgt := 48) dX3_many_44 (by decide) ?_
            refine sx_istore dX3_many_48 (by decide) ?_
            refine sx_iload dX3_many_50 rfl ?_
            refine sx_iload dX3_many_52 rfl ?_
            refine sx_if_eq (tgt := 86) dX3_many_54 (by decide) ⟨by decide, by decide⟩ (fun q => absurd q (by decide)) (fun _ => ?_)
            refine sx_iload_n dX3_many_57 rfl ?_
            refine sx_if_eq (tgt := 82) dX3_many_58 (by decide) (by first | omega | assumption | (with_reducible first | exact hR _ | exact xwd_R hR _ _ | exact xch_R hR _ _ | exact am_R_xor _ _ | exact am_R_or _ _ | exact xkept_R hW _ _ | exact xwait_R hW _ _ | exact xpls_R _ _ | exact xwords_R _ _) | (exact ⟨by omega, by omega⟩)) (fun c58 => ?_) (fun c58 => ?_)
            · -- 58t
              refine sx_iconst dX3_many_82 ?_
              refine sx_goto (tgt := 87) dX3_many_83 (by decide) ?_
              refine sx_iadd dX3_many_87 ?_
              refine sx_istore dX3_many_88 (by decide) ?_
              refine sx_iinc dX3_many_90 rfl (by decide) ?_
              refine sx_goto (tgt := 6) dX3_many_93 (by decide) ?_
              exact sx_forget 6 (ih6 _ (by omega) _ (w + 1) rfl (by omega) (by first | (simp [cntW, c14, c25, c29, c58, hf]; done) | (clear ih6; simp_all [cntW]; done) | (simp [cntW, c14, c25, c29, c58, hf]; omega)))
            · -- 58f
              refine sx_aload_n dX3_many_61 rfl ?_
              refine sx_aload_n dX3_many_62 rfl ?_
              refine sx_iload dX3_many_63 rfl ?_
              refine sx_iconst dX3_many_65 ?_
              refine sx_callVi dX3_many_66 ml_X3_45 mv3_wd (tx_wd _ _ (by first | omega | assumption | (with_reducible first | exact hR _ | exact xwd_R hR _ _ | exact xch_R hR _ _ | exact am_R_xor _ _ | exact am_R_or _ _ | exact xkept_R hW _ _ | exact xwait_R hW _ _ | exact xpls_R _ _ | exact xwords_R _ _) | (exact ⟨by omega, by omega⟩)) (by first | omega | assumption | (with_reducible first | exact hR _ | exact xwd_R hR _ _ | exact xch_R hR _ _ | exact am_R_xor _ _ | exact am_R_or _ _ | exact xkept_R hW _ _ | exact xwait_R hW _ _ | exact xpls_R _ _ | exact xwords_R _ _) | (exact ⟨by omega, by omega⟩))) rfl am_obX rfl (Nat.le_of_ble_eq_true rfl) (Nat.le_of_ble_eq_true rfl) ?_
              refine sx_aload_n dX3_many_69 rfl ?_
              refine sx_iload dX3_many_70 rfl ?_
              refine sx_iconst dX3_many_72 ?_
              refine sx_callVi dX3_many_73 ml_X3_45 mv3_wd (tx_wd _ _ (by first | omega | assumption | (with_reducible first | exact hR _ | exact xwd_R hR _ _ | exact xch_R hR _ _ | exact am_R_xor _ _ | exact am_R_or _ _ | exact xkept_R hW _ _ | exact xwait_R hW _ _ | exact xpls_R _ _ | exact xwords_R _ _) | (exact ⟨by omega, by omega⟩)) (by first | omega | assumption | (with_reducible first | exact hR _ | exact xwd_R hR _ _ | exact xch_R hR _ _ | exact am_R_xor _ _ | exact am_R_or _ _ | exact xkept_R hW _ _ | exact xwait_R hW _ _ | exact xpls_R _ _ | exact xwords_R _ _) | (exact ⟨by omega, by omega⟩))) rfl am_obX rfl (Nat.le_of_ble_eq_true rfl) (Nat.le_of_ble_eq_true rfl) ?_
              refine sx_callVi dX3_many_76 ml_X3_76 mv3_isGuarded (tx_isGuarded _ _ hW (wo _ (by omega) (by omega)).1 (wo _ (by omega) (by omega)).2) rfl am_obX rfl (Nat.le_of_ble_eq_true rfl) (Nat.le_of_ble_eq_true rfl) ?_
              refine sx_ifB_ne (tgt := 86) dX3_many_79 (by decide) (fun c79 => ?_) (fun c79 => ?_)
              · -- 79t
                refine sx_iconst dX3_many_86 ?_
                refine sx_iadd dX3_many_87 ?_
                refine sx_istore dX3_many_88 (by decide) ?_
                refine sx_iinc dX3_many_90 rfl (by decide) ?_
                refine sx_goto (tgt := 6) dX3_many_93 (by decide) ?_
                exact sx_forget 6 (ih6 _ (by omega) _ (w + 1) rfl (by omega) (by first | (simp [cntW, c14, c25, c29, c58, c79, hf]; done) | (clear ih6; simp_all [cntW]; done) | (simp [cntW, c14, c25, c29, c58, c79, hf]; omega)))
              · -- 79f
                refine sx_iconst dX3_many_82 ?_
                refine sx_goto (tgt := 87) dX3_many_83 (by decide) ?_
                refine sx_iadd dX3_many_87 ?_
                refine sx_istore dX3_many_88 (by decide) ?_
                refine sx_iinc dX3_many_90 rfl (by decide) ?_
                refine sx_goto (tgt := 6) dX3_many_93 (by decide) ?_
                exact sx_forget 6 (ih6 _ (by omega) _ (w + 1) rfl (by omega) (by first | (simp [cntW, c14, c25, c29, c58, c79, hf]; done) | (clear ih6; simp_all [cntW]; done) | (simp [cntW, c14, c25, c29, c58, c79, hf]; omega)))
          · -- 29f
            refine sx_aload_n dX3_many_32 rfl ?_
            refine sx_iload dX3_many_33 rfl ?_
            refine sx_iconst dX3_many_35 ?_
            refine sx_callVi dX3_many_36 ml_X3_45 mv3_wd (tx_wd _ _ (by first | omega | assumption | (with_reducible first | exact hR _ | exact xwd_R hR _ _ | exact xch_R hR _ _ | exact am_R_xor _ _ | exact am_R_or _ _ | exact xkept_R hW _ _ | exact xwait_R hW _ _ | exact xpls_R _ _ | exact xwords_R _ _) | (exact ⟨by omega, by omega⟩)) (by first | omega | assumption | (with_reducible first | exact hR _ | exact xwd_R hR _ _ | exact xch_R hR _ _ | exact am_R_xor _ _ | exact am_R_or _ _ | exact xkept_R hW _ _ | exact xwait_R hW _ _ | exact xpls_R _ _ | exact xwords_R _ _) | (exact ⟨by omega, by omega⟩))) rfl am_obX rfl (Nat.le_of_ble_eq_true rfl) (Nat.le_of_ble_eq_true rfl) ?_
            refine sx_iload_n dX3_many_39 rfl ?_
            refine sx_icmp_ne (tgt := 47) dX3_many_40 (by decide) (by first | omega | assumption | (with_reducible first | exact hR _ | exact xwd_R hR _ _ | exact xch_R hR _ _ | exact am_R_xor _ _ | exact am_R_or _ _ | exact xkept_R hW _ _ | exact xwait_R hW _ _ | exact xpls_R _ _ | exact xwords_R _ _) | (exact ⟨by omega, by omega⟩)) (by first | omega | assumption | (with_reducible first | exact hR _ | exact xwd_R hR _ _ | exact xch_R hR _ _ | exact am_R_xor _ _ | exact am_R_or _ _ | exact xkept_R hW _ _ | exact xwait_R hW _ _ | exact xpls_R _ _ | exact xwords_R _ _) | (exact ⟨by omega, by omega⟩)) (fun c40 => ?_) (fun c40 => ?_)
            · -- 40t
              refine sx_iconst dX3_many_47 ?_
              refine sx_istore dX3_many_48 (by decide) ?_
              refine sx_iload dX3_many_50 rfl ?_
              refine sx_iload dX3_many_52 rfl ?_
              refine sx_if_eq (tgt := 86) dX3_many_54 (by decide) ⟨by decide, by decide⟩ (fun _ => ?_) (fun q => absurd q (by decide))
              refine sx_iconst dX3_many_86 ?_
              refine sx_iadd dX3_many_87 ?_
              refine sx_istore dX3_many_88 (by decide) ?_
              refine sx_iinc dX3_many_90 rfl (by decide) ?_
              refine sx_goto (tgt := 6) dX3_many_93 (by decide) ?_
              exact sx_forget 6 (ih6 _ (by omega) _ (w + 1) rfl (by omega) (by first | (simp [cntW, c14, c25, c29, c40, hf]; done) | (clear ih6; simp_all [cntW]; done) | (simp [cntW, c14, c25, c29, c40, hf]; omega)))
            · -- 40f
              refine sx_iconst dX3_many_43 ?_
              refine sx_goto (tgt := 48) dX3_many_44 (by decide) ?_
              refine sx_istore dX3_many_48 (by decide) ?_
              refine sx_iload dX3_many_50 rfl ?_
              refine sx_iload dX3_many_52 rfl ?_
              refine sx_if_eq (tgt := 86) dX3_many_54 (by decide) ⟨by decide, by decide⟩ (fun q => absurd q (by decide)) (fun _ => ?_)
              refine sx_iload_n dX3_many_57 rfl ?_
              refine sx_if_eq (tgt := 82) dX3_many_58 (by decide) (by first | omega | assumption | (with_reducible first | exact hR _ | exact xwd_R hR _ _ | exact xch_R hR _ _ | exact am_R_xor _ _ | exact am_R_or _ _ | exact xkept_R hW _ _ | exact xwait_R hW _ _ | exact xpls_R _ _ | exact xwords_R _ _) | (exact ⟨by omega, by omega⟩)) (fun c58 => ?_) (fun c58 => ?_)
              · -- 58t
                refine sx_iconst dX3_many_82 ?_
                refine sx_goto (tgt := 87) dX3_many_83 (by decide) ?_
                refine sx_iadd dX3_many_87 ?_
                refine sx_istore dX3_many_88 (by decide) ?_
                refine sx_iinc dX3_many_90 rfl (by decide) ?_
                refine sx_goto (tgt := 6) dX3_many_93 (by decide) ?_
                exact sx_forget 6 (ih6 _ (by omega) _ (w + 1) rfl (by omega) (by first | (simp [cntW, c14, c25, c29, c40, c58, hf]; done) | (clear ih6; simp_all [cntW]; done) | (simp [cntW, c14, c25, c29, c40, c58, hf]; omega)))
              · -- 58f
                refine sx_aload_n dX3_many_61 rfl ?_
                refine sx_aload_n dX3_many_62 rfl ?_
                refine sx_iload dX3_many_63 rfl ?_
                refine sx_iconst dX3_many_65 ?_
                refine sx_callVi dX3_many_66 ml_X3_45 mv3_wd (tx_wd _ _ (by first | omega | assumption | (with_reducible first | exact hR _ | exact xwd_R hR _ _ | exact xch_R hR _ _ | exact am_R_xor _ _ | exact am_R_or _ _ | exact xkept_R hW _ _ | exact xwait_R hW _ _ | exact xpls_R _ _ | exact xwords_R _ _) | (exact ⟨by omega, by omega⟩)) (by first | omega | assumption | (with_reducible first | exact hR _ | exact xwd_R hR _ _ | exact xch_R hR _ _ | exact am_R_xor _ _ | exact am_R_or _ _ | exact xkept_R hW _ _ | exact xwait_R hW _ _ | exact xpls_R _ _ | exact xwords_R _ _) | (exact ⟨by omega, by omega⟩))) rfl am_obX rfl (Nat.le_of_ble_eq_true rfl) (Nat.le_of_ble_eq_true rfl) ?_
                refine sx_aload_n dX3_many_69 rfl ?_
                refine sx_iload dX3_many_70 rfl ?_
                refine sx_iconst dX3_many_72 ?_
                refine sx_callVi dX3_many_73 ml_X3_45 mv3_wd (tx_wd _ _ (by first | omega | assumption | (with_reducible first | exact hR _ | exact xwd_R hR _ _ | exact xch_R hR _ _ | exact am_R_xor _ _ | exact am_R_or _ _ | exact xkept_R hW _ _ | exact xwait_R hW _ _ | exact xpls_R _ _ | exact xwords_R _ _) | (exact ⟨by omega, by omega⟩)) (by first | omega | assumption | (with_reducible first | exact hR _ | exact xwd_R hR _ _ | exact xch_R hR _ _ | exact am_R_xor _ _ | exact am_R_or _ _ | exact xkept_R hW _ _ | exact xwait_R hW _ _ | exact xpls_R _ _ | exact xwords_R _ _) | (exact ⟨by omega, by omega⟩))) rfl am_obX rfl (Nat.le_of_ble_eq_true rfl) (Nat.le_of_ble_eq_true rfl) ?_
                refine sx_callVi dX3_many_76 ml_X3_76 mv3_isGuarded (tx_isGuarded _ _ hW (wo _ (by omega) (by omega)).1 (wo _ (by omega) (by omega)).2) rfl am_obX rfl (Nat.le_of_ble_eq_true rfl) (Nat.le_of_ble_eq_true rfl) ?_
                refine sx_ifB_ne (tgt := 86) dX3_many_79 (by decide) (fun c79 => ?_) (fun c79 => ?_)
                · -- 79t
                  refine sx_iconst dX3_many_86 ?_
                  refine sx_iadd dX3_many_87 ?_
                  refine sx_istore dX3_many_88 (by decide) ?_
                  refine sx_iinc dX3_many_90 rfl (by decide) ?_
                  refine sx_goto (tgt := 6) dX3_many_93 (by decide) ?_
                  exact sx_forget 6 (ih6 _ (by omega) _ (w + 1) rfl (by omega) (by first | (simp [cntW, c14, c25, c29, c40, c58, c79, hf]; done) | (clear ih6; simp_all [cntW]; done) | (simp [cntW, c14, c25, c29, c40, c58, c79, hf]; omega)))
                · -- 79f
                  refine sx_iconst dX3_many_82 ?_
                  refine sx_goto (tgt := 87) dX3_many_83 (by decide) ?_
                  refine sx_iadd dX3_many_87 ?_
                  refine sx_istore dX3_many_88 (by decide) ?_
                  refine sx_iinc dX3_many_90 rfl (by decide) ?_
                  refine sx_goto (tgt := 6) dX3_many_93 (by decide) ?_
                  exact sx_forget 6 (ih6 _ (by omega) _ (w + 1) rfl (by omega) (by first | (simp [cntW, c14, c25, c29, c40, c58, c79, hf]; done) | (clear ih6; simp_all [cntW]; done) | (simp [cntW, c14, c25, c29, c40, c58, c79, hf]; omega)))
  exact loop6 _ _ 0 rfl (by omega) rfl
set_option maxHeartbeats 4000000 in
set_option maxRecDepth 100000 in
theorem tx_sum {h0 : am_H} {X : am_M} {S : Nat → Int} (f row : Int) (hW : WX S) (hf9 : am_R f) (hr9 : am_R row)  : Ct 1 Y3_sum [.inr (7, 0), .inl f, .inl row] (some (.inl (xsum S f row (S 1).toNat))) (xh h0 X S) (xh h0 X S) := by
  refine Ct_of (by decide +kernel) (Nat.le_of_ble_eq_true rfl) ?_
  show Sx 1 Y3_sum (xh h0 X S) (some (.inl (xsum S f row (S 1).toNat))) 0 [some (.inr (7, 0)), some (.inl f), some (.inl row), none, none] [] (xh h0 X S)
  refine xs_vh (fun hR hRX => ?_)
  obtain ⟨w0, w1, wg, wf, wo⟩ := id hW
  refine sx_iconst dX3_sum_0 ?_
  refine sx_istore_n dX3_sum_1 (by decide) ?_
  refine sx_iconst dX3_sum_2 ?_
  refine sx_istore dX3_sum_3 (by decide) ?_
  have loop5 : ∀ (n : Nat) (nn : Int) (w : Nat), (S 1 - w).toNat = n → (w : Int) ≤ S 1 → nn = xsum S f row w → Sx 1 Y3_sum (xh h0 X S) (some (.inl (xsum S f row (S 1).toNat))) 5 [some (.inr (7, 0)), some (.inl f), some (.inl row), some (.inl nn), some (.inl (w : Int))] [] (xh h0 X S) := by
    intro n
    induction n using Nat.strongRecOn with
    | _ n ih5 =>
      intro nn w hn hle hf
      refine sx_iload dX3_sum_5 rfl ?_
      refine sx_aload_n dX3_sum_7 rfl ?_
      refine xs_getr (j := 1) dX3_sum_8 fl_X3_7 (by decide) rfl ?_
      refine sx_iconst dX3_sum_11 ?_
      refine xs_ild (n := 208) (m := 1) dX3_sum_12 rfl (by decide) (by decide) (by decide) rfl (fun r12 => ?_)
      refine sx_icmp_ge (tgt := 69) dX3_sum_13 (by decide) (by first | omega | assumption | (with_reducible first | exact hR _ | exact xwd_R hR _ _ | exact xch_R hR _ _ | exact am_R_xor _ _ | exact am_R_or _ _ | exact xkept_R hW _ _ | exact xwait_R hW _ _ | exact xpls_R _ _ | exact xwords_R _ _) | (exact ⟨by omega, by omega⟩)) (by first | omega | assumption | (with_reducible first | exact hR _ | exact xwd_R hR _ _ | exact xch_R hR _ _ | exact am_R_xor _ _ | exact am_R_or _ _ | exact xkept_R hW _ _ | exact xwait_R hW _ _ | exact xpls_R _ _ | exact xwords_R _ _) | (exact ⟨by omega, by omega⟩)) (fun c13 => ?_) (fun c13 => ?_)
      · -- 13t
        refine sx_iload_n dX3_sum_69 rfl ?_
        exact sx_iret dX3_sum_70 rfl (by rw [hf, show w = (S 1).toNat by omega]) rfl
      · -- 13f
        refine sx_iload_n dX3_sum_16 rfl ?_
        refine sx_aload_n dX3_sum_17 rfl ?_
        refine sx_iload dX3_sum_18 rfl ?_
        refine sx_iconst dX3_sum_20 ?_
        refine sx_callVi dX3_sum_21 ml_X3_45 mv3_wd (tx_wd _ _ (by first | omega | assumption | (with_reducible first | exact hR _ | exact xwd_R hR _ _ | exact xch_R hR _ _ | exact am_R_xor _ _ | exact am_R_or _ _ | exact xkept_R hW _ _ | exact xwait_R hW _ _ | exact xpls_R _ _ | exact xwords_R _ _) | (exact ⟨by omega, by omega⟩)) (by first | omega | assumption | (with_reducible first | exact hR _ | exact xwd_R hR _ _ | exact xch_R hR _ _ | exact am_R_xor _ _ | exact am_R_or _ _ | exact xkept_R hW _ _ | exact xwait_R hW _ _ | exact xpls_R _ _ | exact xwords_R _ _) | (exact ⟨by omega, by omega⟩))) rfl am_obX rfl (Nat.le_of_ble_eq_true rfl) (Nat.le_of_ble_eq_true rfl) ?_
        refine sx_iconst dX3_sum_24 ?_
        refine sx_icmp_eq (tgt := 60) dX3_sum_25 (by decide) (by first | omega | assumption | (with_reducible first | exact hR _ | exact xwd_R hR _ _ | exact xch_R hR _ _ | exact am_R_xor _ _ | exact am_R_or _ _ | exact xkept_R hW _ _ | exact xwait_R hW _ _ | exact xpls_R _ _ | exact xwords_R _ _) | (exact ⟨by omega, by omega⟩)) ⟨by decide, by decide⟩ (fun c25 => ?_) (fun c25 => ?_)
        · -- 25t
          refine sx_iconst dX3_sum_60 ?_
          refine sx_ixor dX3_sum_61 ?_
          refine sx_istore_n dX3_sum_62 (by decide) ?_
          refine sx_iinc dX3_sum_63 rfl (by decide) ?_
          refine sx_goto (tgt := 5) dX3_sum_66 (by decide) ?_
          exact ih5 _ (by omega) _ (w + 1) rfl (by omega) (by simp [xsum, c13, c25, hf])
        · -- 25f
          refine sx_aload_n dX3_sum_28 rfl ?_
          refine sx_iload dX3_sum_29 rfl ?_
          refine sx_iconst dX3_sum_31 ?_
          refine sx_callVi dX3_sum_32 ml_X3_45 mv3_wd (tx_wd _ _ (by first | omega | assumption | (with_reducible first | exact hR _ | exact xwd_R hR _ _ | exact xch_R hR _ _ | exact am_R_xor _ _ | exact am_R_or _ _ | exact xkept_R hW _ _ | exact xwait_R hW _ _ | exact xpls_R _ _ | exact xwords_R _ _) | (exact ⟨by omega, by omega⟩)) (by first | omega | assumption | (with_reducible first | exact hR _ | exact xwd_R hR _ _ | exact xch_R hR _ _ | exact am_R_xor _ _ | exact am_R_or _ _ | exact xkept_R hW _ _ | exact xwait_R hW _ _ | exact xpls_R _ _ | exact xwords_R _ _) | (exact ⟨by omega, by omega⟩))) rfl am_obX rfl (Nat.le_of_ble_eq_true rfl) (Nat.le_of_ble_eq_true rfl) ?_
          refine sx_iload_n dX3_sum_35 rfl ?_
          refine sx_icmp_ne (tgt := 60) dX3_sum_36 (by decide) (by first | omega | assumption | (with_reducible first | exact hR _ | exact xwd_R hR _ _ | exact xch_R hR _ _ | exact am_R_xor _ _ | exact am_R_or _ _ | exact xkept_R hW _ _ | exact xwait_R hW _ _ | exact xpls_R _ _ | exact xwords_R _ _) | (exact ⟨by omega, by omega⟩)) (by first | omega | assumption | (with_reducible first | exact hR _ | exact xwd_R hR _ _ | exact xch_R hR _ _ | exact am_R_xor _ _ | exact am_R_or _ _ | exact xkept_R hW _ _ | exact xwait_R hW _ _ | exact xpls_R _ _ | exact xwords_R _ _) | (exact ⟨by omega, by omega⟩)) (fun c36 => ?_) (fun c36 => ?_)
          · -- 36t
            refine sx_iconst dX3_sum_60 ?_
            refine sx_ixor dX3_sum_61 ?_
            refine sx_istore_n dX3_sum_62 (by decide) ?_
            refine sx_iinc dX3_sum_63 rfl (by decide) ?_
            refine sx_goto (tgt := 5) dX3_sum_66 (by decide) ?_
            exact ih5 _ (by omega) _ (w + 1) rfl (by omega) (by simp [xsum, c13, c25, c36, hf])
          · -- 36f
            refine sx_aload_n dX3_sum_39 rfl ?_
            refine sx_iload dX3_sum_40 rfl ?_
            refine sx_iconst dX3_sum_42 ?_
            refine sx_callVi dX3_sum_43 ml_X3_45 mv3_wd (tx_wd _ _ (by first | omega | assumption | (with_reducible first | exact hR _ | exact xwd_R hR _ _ | exact xch_R hR _ _ | exact am_R_xor _ _ | exact am_R_or _ _ | exact xkept_R hW _ _ | exact xwait_R hW _ _ | exact xpls_R _ _ | exact xwords_R _ _) | (exact ⟨by omega, by omega⟩)) (by first | omega | assumption | (with_reducible first | exact hR _ | exact xwd_R hR _ _ | exact xch_R hR _ _ | exact am_R_xor _ _ | exact am_R_or _ _ | exact xkept_R hW _ _ | exact xwait_R hW _ _ | exact xpls_R _ _ | exact xwords_R _ _) | (exact ⟨by omega, by omega⟩))) rfl am_obX rfl (Nat.le_of_ble_eq_true rfl) (Nat.le_of_ble_eq_true rfl) ?_
            refine sx_iload_n dX3_sum_46 rfl ?_
            refine sx_icmp_ne (tgt := 60) dX3_sum_47 (by decide) (by first | omega | assumption | (with_reducible first | exact hR _ | exact xwd_R hR _ _ | exact xch_R hR _ _ | exact am_R_xor _ _ | exact am_R_or _ _ | exact xkept_R hW _ _ | exact xwait_R hW _ _ | exact xpls_R _ _ | exact xwords_R _ _) | (exact ⟨by omega, by omega⟩)) (by first | omega | assumption | (with_reducible first | exact hR _ | exact xwd_R hR _ _ | exact xch_R hR _ _ | exact am_R_xor _ _ | exact am_R_or _ _ | exact xkept_R hW _ _ | exact xwait_R hW _ _ | exact xpls_R _ _ | exact xwords_R _ _) | (exact ⟨by omega, by omega⟩)) (fun c47 => ?_) (fun c47 => ?_)
            · -- 47t
              refine sx_iconst dX3_sum_60 ?_
              refine sx_ixor dX3_sum_61 ?_
              refine sx_istore_n dX3_sum_62 (by decide) ?_
              refine sx_iinc dX3_sum_63 rfl (by decide) ?_
              refine sx_goto (tgt := 5) dX3_sum_66 (by decide) ?_
              exact ih5 _ (by omega) _ (w + 1) rfl (by omega) (by simp [xsum, c13, c25, c36, c47, hf])
            · -- 47f
              refine sx_aload_n dX3_sum_50 rfl ?_
              refine sx_iload dX3_sum_51 rfl ?_
              refine sx_iconst dX3_sum_53 ?_
              refine sx_callVi dX3_sum_54 ml_X3_45 mv3_wd (tx_wd _ _ (by first | omega | assumption | (with_reducible first | exact hR _ | exact xwd_R hR _ _ | exact xch_R hR _ _ | exact am_R_xor _ _ | exact am_R_or _ _ | exact xkept_R hW _ _ | exact xwait_R hW _ _ | exact xpls_R _ _ | exact xwords_R _ _) | (exact ⟨by omega, by omega⟩)) (by first | omega | assumption | (with_reducible first | exact hR _ | exact xwd_R hR _ _ | exact xch_R hR _ _ | exact am_R_xor _ _ | exact am_R_or _ _ | exact xkept_R hW _ _ | exact xwait_R hW _ _ | exact xpls_R _ _ | exact xwords_R _ _) | (exact ⟨by omega, by omega⟩))) rfl am_obX rfl (Nat.le_of_ble_eq_true rfl) (Nat.le_of_ble_eq_true rfl) ?_
              refine sx_goto (tgt := 61) dX3_sum_57 (by decide) ?_
              refine sx_ixor dX3_sum_61 ?_
              refine sx_istore_n dX3_sum_62 (by decide) ?_
              refine sx_iinc dX3_sum_63 rfl (by decide) ?_
              refine sx_goto (tgt := 5) dX3_sum_66 (by decide) ?_
              exact ih5 _ (by omega) _ (w + 1) rfl (by omega) (by simp [xsum, c13, c25, c36, c47, hf])
  exact loop5 _ _ 0 rfl (by omega) rfl
set_option maxHeartbeats 4000000 in
set_option maxRecDepth 100000 in
theorem tx_raises {h0 : am_H} {X : am_M} {S : Nat → Int} (f : Int) (hW : WX S) (hf9 : 0 ≤ f ∧ f ≤ 2) {n : Int} (hB : BX S n) (hn : n ≤ 1000000000)  : Ct 6 Y3_raises [.inr (7, 0), .inl f] (some (.inl (if xraB S f = true then 1 else 0))) (xh h0 X S) (xh h0 X (xra S f)) := by
  refine Ct_of (by decide +kernel) (Nat.le_of_ble_eq_true rfl) ?_
  show Sx 6 Y3_raises (xh h0 X (xra S f)) (some (.inl (if xraB S f = true then 1 else 0))) 0 [some (.inr (7, 0)), some (.inl f), none, none] [] (xh h0 X S)
  refine xs_vh (fun hR hRX => ?_)
  obtain ⟨w0, w1, wg, wf, wo⟩ := id hW
  have hfb := xfirst_b hW f
  refine sx_aload_n dX3_raises_0 rfl ?_
  refine sx_iload_n dX3_raises_1 rfl ?_
  refine sx_callVi dX3_raises_2 ml_X3_149 mv3_firstOf (tx_firstOf _ hW (by exact ⟨by omega, by omega⟩)) rfl am_obX rfl (Nat.le_of_ble_eq_true rfl) (Nat.le_of_ble_eq_true rfl) ?_
  refine sx_istore_n dX3_raises_5 (by decide) ?_
  refine sx_iload_n dX3_raises_6 rfl ?_
  refine sx_if_ge (tgt := 12) dX3_raises_7 (by decide) (by first | omega | assumption | (with_reducible first | exact hR2 _ | exact xwd_R hR2 _ _ | exact xch_R hR2 _ _ | exact hR _ | exact xwd_R hR _ _ | exact xch_R hR _ _ | exact am_R_xor _ _ | exact am_R_or _ _ | exact xkept_R hW _ _ | exact xwait_R hW _ _ | exact xpls_R _ _ | exact xwords_R _ _) | (exact ⟨by omega, by omega⟩)) (fun c7 => ?_) (fun c7 => ?_)
  · -- 7t
    refine sx_aload_n dX3_raises_12 rfl ?_
    refine sx_iload_n dX3_raises_13 rfl ?_
    refine sx_iconst dX3_raises_14 ?_
    refine sx_iconst dX3_raises_15 ?_
    refine sx_callVv dX3_raises_16 ml_X3_72 mv3_lays (tx_lays _ _ _ (by omega) (by decide) (by first | exact ⟨by decide, by decide⟩ | exact ⟨by have := (xwd_R hR2 (xfirst S f) 6).1; omega, by omega⟩)) rfl am_obX rfl (Nat.le_of_ble_eq_true rfl) (Nat.le_of_ble_eq_true rfl) ?_
    have hW1 : WX (xlay S (xfirst S f) 1 2) := WX_lay hW (by omega) (by decide) (by omega) (by omega)
    have htb := xtarget_b hW1 f (-1)
    refine sx_aload_n dX3_raises_19 rfl ?_
    refine sx_iload_n dX3_raises_20 rfl ?_
    refine sx_iconst dX3_raises_21 ?_
    refine sx_callVi dX3_raises_22 ml_X3_136 mv3_target (tx_target _ _ hW1 (by exact ⟨by omega, by omega⟩) (by exact ⟨by decide, by decide⟩)) rfl am_obX rfl (Nat.le_of_ble_eq_true rfl) (Nat.le_of_ble_eq_true rfl) ?_
    refine sx_istore_n dX3_raises_25 (by decide) ?_
    refine sx_iload_n dX3_raises_26 rfl ?_
    refine sx_if_ge (tgt := 39) dX3_raises_27 (by decide) (by first | omega | assumption | (with_reducible first | exact hR2 _ | exact xwd_R hR2 _ _ | exact xch_R hR2 _ _ | exact hR _ | exact xwd_R hR _ _ | exact xch_R hR _ _ | exact am_R_xor _ _ | exact am_R_or _ _ | exact xkept_R hW _ _ | exact xwait_R hW _ _ | exact xpls_R _ _ | exact xwords_R _ _) | (exact ⟨by omega, by omega⟩)) (fun c27 => ?_) (fun c27 => ?_)
    · -- 27t
      have hp := xtarget_pl (S := (xlay S (xfirst S f) 1 2)) (f := f) (wt := -1) (by omega)
      have hl := xlow_lt hp.1
      have hl0 := xlow_0 (xlay S (xfirst S f) 1 2) (xtarget (xlay S (xfirst S f) 1 2) f (-1))
      refine sx_aload_n dX3_raises_39 rfl ?_
      refine sx_iload_n dX3_raises_40 rfl ?_
      refine sx_iload_n dX3_raises_41 rfl ?_
      refine sx_aload_n dX3_raises_42 rfl ?_
      refine sx_iload_n dX3_raises_43 rfl ?_
      refine sx_callVi dX3_raises_44 ml_X3_124 mv3_lowest (tx_lowest _ hW1 (by omega) hl) rfl am_obX rfl (Nat.le_of_ble_eq_true rfl) (Nat.le_of_ble_eq_true rfl) ?_
      refine sx_callVv dX3_raises_47 ml_X3_127 mv3_sits (tx_sits _ _ _ (by omega) (by omega) (by exact ⟨by omega, by omega⟩)) rfl am_obX rfl (Nat.le_of_ble_eq_true rfl) (Nat.le_of_ble_eq_true rfl) ?_
      refine xs_vh (fun hR2 _ => ?_)
      have h6 : xwd (xsits (xlay S (xfirst S f) 1 2) (xfirst S f) (xtarget (xlay S (xfirst S f) 1 2) f (-1)) (xlow (xlay S (xfirst S f) 1 2) (xtarget (xlay S (xfirst S f) 1 2) f (-1)))) (xfirst S f) 6 ≤ n := by
        rw [xsits_6 (by omega) (by omega), xlay_ne ⟨by omega, by decide, by decide⟩ ⟨by omega, by decide, by decide⟩ (Or.inr (by decide))]
        exact hB.2.2.2 _ (by omega) (by omega)
      refine sx_aload_n dX3_raises_50 rfl ?_
      refine sx_iload_n dX3_raises_51 rfl ?_
      refine sx_bipush dX3_raises_52 rfl ?_
      refine sx_aload_n dX3_raises_54 rfl ?_
      refine sx_iload_n dX3_raises_55 rfl ?_
      refine sx_bipush dX3_raises_56 rfl ?_
      refine sx_callVi dX3_raises_58 ml_X3_45 mv3_wd (tx_wd _ _ (by omega) (by decide)) rfl am_obX rfl (Nat.le_of_ble_eq_true rfl) (Nat.le_of_ble_eq_true rfl) ?_
      refine sx_iconst dX3_raises_61 ?_
      refine sx_iadd dX3_raises_62 ?_
      refine sx_callVv dX3_raises_63 ml_X3_72 mv3_lays (tx_lays _ _ _ (by omega) (by decide) (by first | exact ⟨by decide, by decide⟩ | exact ⟨by have := (xwd_R hR2 (xfirst S f) 6).1; omega, by omega⟩)) rfl am_obX rfl (Nat.le_of_ble_eq_true rfl) (Nat.le_of_ble_eq_true rfl) ?_
      have h3 : xraS S f 3 = S 3 := by
        unfold xraS
        rw [xlay_lo (by omega) (by decide) (by decide), xsits_lo (by omega) (by decide), xlay_lo (by omega) (by decide) (by decide)]
      have hB3 := hB.2.1
      have hR3 := hR 3
      refine sx_heq (xh h0 X (xraS S f)) rfl ?_
      refine sx_aload_n dX3_raises_66 rfl ?_
      refine xs_getr (j := 1) dX3_raises_67 fl_X3_7 (by decide) rfl ?_
      refine sx_iconst dX3_raises_70 ?_
      refine sx_dup2 dX3_raises_71 ?_
      refine xs_ild (n := 208) (m := 3) dX3_raises_72 rfl (by decide) (by decide) (by decide) rfl (fun r72 => ?_)
      refine sx_iconst dX3_raises_73 ?_
      refine sx_iadd dX3_raises_74 ?_
      refine xs_ist (n := 208) (m := 3) dX3_raises_75 rfl (by decide) (by decide) (by decide) rfl (by rw [h3]; exact ⟨by have := hR3.1; omega, by omega⟩) ?_
      refine sx_iconst dX3_raises_76 ?_
      exact sx_zret dX3_raises_77 rfl (by decide) (by simp [xraB, c7, c27]; try omega) (by unfold xra; (repeat' split) <;> first | contradiction | (exfalso; omega) | rfl | (congr 2; omega) | (simp_all; done))
    · -- 27f
      refine sx_aload_n dX3_raises_30 rfl ?_
      refine sx_iload_n dX3_raises_31 rfl ?_
      refine sx_iconst dX3_raises_32 ?_
      refine sx_iconst dX3_raises_33 ?_
      refine sx_callVv dX3_raises_34 ml_X3_72 mv3_lays (tx_lays _ _ _ (by omega) (by decide) (by first | exact ⟨by decide, by decide⟩ | exact ⟨by have := (xwd_R hR2 (xfirst S f) 6).1; omega, by omega⟩)) rfl am_obX rfl (Nat.le_of_ble_eq_true rfl) (Nat.le_of_ble_eq_true rfl) ?_
      refine sx_iconst dX3_raises_37 ?_
      exact sx_zret dX3_raises_38 rfl (by decide) (by simp [xraB, c7, c27]; try omega) (by unfold xra; (repeat' split) <;> first | contradiction | (exfalso; omega) | rfl | (congr 2; omega) | (simp_all; done))
  · -- 7f
    refine sx_iconst dX3_raises_10 ?_
    exact sx_zret dX3_raises_11 rfl (by decide) (by simp [xraB, c7]; try omega) (by unfold xra; (repeat' split) <;> first | contradiction | (exfalso; omega) | rfl | (congr 2; omega) | (simp_all; done))
set_option maxHeartbeats 4000000 in
set_option maxRecDepth 100000 in
theorem tx_tickOne {h0 : am_H} {X : am_M} {S : Nat → Int} (hW : WX S) {n : Int} (hB : BX S n) (hn : n ≤ 900000000)  : Ct 7 Y3_tickOne [.inr (7, 0)] (some (.inl (xt1n S))) (xh h0 X S) (xh h0 X (xt1 S)) := by
  refine Ct_of (by decide +kernel) (Nat.le_of_ble_eq_true rfl) ?_
  show Sx 7 Y3_tickOne (xh h0 X (xt1 S)) (some (.inl (xt1n S))) 0 [some (.inr (7, 0)), none, none] [] (xh h0 X S)
  refine xs_vh (fun hR hRX => ?_)
  obtain ⟨w0, w1, wg, wf, wo⟩ := id hW
  have hW1 : WX (xra S 0) := WX_ra hW
  have hW2 : WX (xra (xra S 0) 1) := WX_ra hW1
  have hB1 := BX_ra (f := 0) hW hB
  have hB2 := BX_ra (f := 1) hW1 hB1
  have hB3 := BX_ra (f := 2) hW2 hB2
  refine sx_iconst dX3_tickOne_0 ?_
  refine sx_istore_n dX3_tickOne_1 (by decide) ?_
  refine sx_iconst dX3_tickOne_2 ?_
  refine sx_istore_n dX3_tickOne_3 (by decide) ?_
  refine sx_iload_n dX3_tickOne_4 rfl ?_
  refine sx_iconst dX3_tickOne_5 ?_
  refine sx_icmp_ge (tgt := 31) dX3_tickOne_6 (by decide) ⟨by decide, by decide⟩ ⟨by decide, by decide⟩ (fun q => absurd q (by decide)) (fun _ => ?_)
  refine sx_iload_n dX3_tickOne_9 rfl ?_
  refine sx_aload_n dX3_tickOne_10 rfl ?_
  refine sx_iload_n dX3_tickOne_11 rfl ?_
  refine sx_callVi dX3_tickOne_12 ml_X3_152 mv3_raises (tx_raises 0 (by first | exact hW | exact hW1 | exact hW2) (by decide) (by first | exact hB | exact hB1 | exact hB2) (by omega)) rfl am_obX rfl (Nat.le_of_ble_eq_true rfl) (Nat.le_of_ble_eq_true rfl) ?_
  refine sx_ifB_eq (tgt := 22) dX3_tickOne_15 (by decide) (fun c15 => ?_) (fun c15 => ?_)
  · -- 15t
    refine sx_iconst dX3_tickOne_22 ?_
    refine sx_iadd dX3_tickOne_23 ?_
    refine sx_istore_n dX3_tickOne_24 (by decide) ?_
    refine sx_iinc dX3_tickOne_25 rfl (by decide) ?_
    refine sx_goto (tgt := 4) dX3_tickOne_28 (by decide) ?_
    refine sx_iload_n dX3_tickOne_4 rfl ?_
    refine sx_iconst dX3_tickOne_5 ?_
    refine sx_icmp_ge (tgt := 31) dX3_tickOne_6 (by decide) ⟨by decide, by decide⟩ ⟨by decide, by decide⟩ (fun q => absurd q (by decide)) (fun _ => ?_)
    refine sx_iload_n dX3_tickOne_9 rfl ?_
    refine sx_aload_n dX3_tickOne_10 rfl ?_
    refine sx_iload_n dX3_tickOne_11 rfl ?_
    refine sx_callVi dX3_tickOne_12 ml_X3_152 mv3_raises (tx_raises 1 (by first | exact hW | exact hW1 | exact hW2) (by decide) (by first | exact hB | exact hB1 | exact hB2) (by omega)) rfl am_obX rfl (Nat.le_of_ble_eq_true rfl) (Nat.le_of_ble_eq_true rfl) ?_
    refine sx_ifB_eq (tgt := 22) dX3_tickOne_15 (by decide) (fun c15 => ?_) (fun c15 => ?_)
    · -- 15t
      refine sx_iconst dX3_tickOne_22 ?_
      refine sx_iadd dX3_tickOne_23 ?_
      refine sx_istore_n dX3_tickOne_24 (by decide) ?_
      refine sx_iinc dX3_tickOne_25 rfl (by decide) ?_
      refine sx_goto (tgt := 4) dX3_tickOne_28 (by decide) ?_
      refine sx_iload_n dX3_tickOne_4 rfl ?_
      refine sx_iconst dX3_tickOne_5 ?_
      refine sx_icmp_ge (tgt := 31) dX3_tickOne_6 (by decide) ⟨by decide, by decide⟩ ⟨by decide, by decide⟩ (fun q => absurd q (by decide)) (fun _ => ?_)
      refine sx_iload_n dX3_tickOne_9 rfl ?_
      refine sx_aload_n dX3_tickOne_10 rfl ?_
      refine sx_iload_n dX3_tickOne_11 rfl ?_
      refine sx_callVi dX3_tickOne_12 ml_X3_152 mv3_raises (tx_raises 2 (by first | exact hW | exact hW1 | exact hW2) (by decide) (by first | exact hB | exact hB1 | exact hB2) (by omega)) rfl am_obX rfl (Nat.le_of_ble_eq_true rfl) (Nat.le_of_ble_eq_true rfl) ?_
      refine sx_ifB_eq (tgt := 22) dX3_tickOne_15 (by decide) (fun c15 => ?_) (fun c15 => ?_)
      · -- 15t
        refine sx_iconst dX3_tickOne_22 ?_
        refine sx_iadd dX3_tickOne_23 ?_
        refine sx_istore_n dX3_tickOne_24 (by decide) ?_
        refine sx_iinc dX3_tickOne_25 rfl (by decide) ?_
        refine sx_goto (tgt := 4) dX3_tickOne_28 (by decide) ?_
        refine sx_iload_n dX3_tickOne_4 rfl ?_
        refine sx_iconst dX3_tickOne_5 ?_
        refine sx_icmp_ge (tgt := 31) dX3_tickOne_6 (by decide) ⟨by decide, by decide⟩ ⟨by decide, by decide⟩ (fun _ => ?_) (fun q => absurd q (by decide))
        refine xs_vh (fun hR2 _ => ?_)
        have hq := hB3.1
        have hq2 := (hR2 2).1
        refine sx_aload_n dX3_tickOne_31 rfl ?_
        refine xs_getr (j := 1) dX3_tickOne_32 fl_X3_7 (by decide) rfl ?_
        refine sx_iconst dX3_tickOne_35 ?_
        refine sx_dup2 dX3_tickOne_36 ?_
        refine xs_ild (n := 208) (m := 2) dX3_tickOne_37 rfl (by decide) (by decide) (by decide) rfl (fun r37 => ?_)
        refine sx_iconst dX3_tickOne_38 ?_
        refine sx_iadd dX3_tickOne_39 ?_
        refine xs_ist (n := 208) (m := 2) dX3_tickOne_40 rfl (by decide) (by decide) (by decide) rfl (by exact ⟨by omega, by omega⟩) ?_
        refine sx_iload_n dX3_tickOne_41 rfl ?_
        exact sx_iret dX3_tickOne_42 rfl (by unfold xt1n; (repeat' split) <;> first | contradiction | rfl) rfl
      · -- 15f
        refine sx_iconst dX3_tickOne_18 ?_
        refine sx_goto (tgt := 23) dX3_tickOne_19 (by decide) ?_
        refine sx_iadd dX3_tickOne_23 ?_
        refine sx_istore_n dX3_tickOne_24 (by decide) ?_
        refine sx_iinc dX3_tickOne_25 rfl (by decide) ?_
        refine sx_goto (tgt := 4) dX3_tickOne_28 (by decide) ?_
        refine sx_iload_n dX3_tickOne_4 rfl ?_
        refine sx_iconst dX3_tickOne_5 ?_
        refine sx_icmp_ge (tgt := 31) dX3_tickOne_6 (by decide) ⟨by decide, by decide⟩ ⟨by decide, by decide⟩ (fun _ => ?_) (fun q => absurd q (by decide))
        refine xs_vh (fun hR2 _ => ?_)
        have hq := hB3.1
        have hq2 := (hR2 2).1
        refine sx_aload_n dX3_tickOne_31 rfl ?_
        refine xs_getr (j := 1) dX3_tickOne_32 fl_X3_7 (by decide) rfl ?_
        refine sx_iconst dX3_tickOne_35 ?_
        refine sx_dup2 dX3_tickOne_36 ?_
        refine xs_ild (n := 208) (m := 2) dX3_tickOne_37 rfl (by decide) (by decide) (by decide) rfl (fun r37 => ?_)
        refine sx_iconst dX3_tickOne_38 ?_
        refine sx_iadd dX3_tickOne_39 ?_
        refine xs_ist (n := 208) (m := 2) dX3_tickOne_40 rfl (by decide) (by decide) (by decide) rfl (by exact ⟨by omega, by omega⟩) ?_
        refine sx_iload_n dX3_tickOne_41 rfl ?_
        exact sx_iret dX3_tickOne_42 rfl (by unfold xt1n; (repeat' split) <;> first | contradiction | rfl) rfl
    · -- 15f
      refine sx_iconst dX3_tickOne_18 ?_
      refine sx_goto (tgt := 23) dX3_tickOne_19 (by decide) ?_
      refine sx_iadd dX3_tickOne_23 ?_
      refine sx_istore_n dX3_tickOne_24 (by decide) ?_
      refine sx_iinc dX3_tickOne_25 rfl (by decide) ?_
      refine sx_goto (tgt := 4) dX3_tickOne_28 (by decide) ?_
      refine sx_iload_n dX3_tickOne_4 rfl ?_
      refine sx_iconst dX3_tickOne_5 ?_
      refine sx_icmp_ge (tgt := 31) dX3_tickOne_6 (by decide) ⟨by decide, by decide⟩ ⟨by decide, by decide⟩ (fun q => absurd q (by decide)) (fun _ => ?_)
      refine sx_iload_n dX3_tickOne_9 rfl ?_
      refine sx_aload_n dX3_tickOne_10 rfl ?_
      refine sx_iload_n dX3_tickOne_11 rfl ?_
      refine sx_callVi dX3_tickOne_12 ml_X3_152 mv3_raises (tx_raises 2 (by first | exact hW | exact hW1 | exact hW2) (by decide) (by first | exact hB | exact hB1 | exact hB2) (by omega)) rfl am_obX rfl (Nat.le_of_ble_eq_true rfl) (Nat.le_of_ble_eq_true rfl) ?_
      refine sx_ifB_eq (tgt := 22) dX3_tickOne_15 (by decide) (fun c15 => ?_) (fun c15 => ?_)
      · -- 15t
        refine sx_iconst dX3_tickOne_22 ?_
        refine sx_iadd dX3_tickOne_23 ?_
        refine sx_istore_n dX3_tickOne_24 (by decide) ?_
        refine sx_iinc dX3_tickOne_25 rfl (by decide) ?_
        refine sx_goto (tgt := 4) dX3_tickOne_28 (by decide) ?_
        refine sx_iload_n dX3_tickOne_4 rfl ?_
        refine sx_iconst dX3_tickOne_5 ?_
        refine sx_icmp_ge (tgt := 31) dX3_tickOne_6 (by decide) ⟨by decide, by decide⟩ ⟨by decide, by decide⟩ (fun _ => ?_) (fun q => absurd q (by decide))
        refine xs_vh (fun hR2 _ => ?_)
        have hq := hB3.1
        have hq2 := (hR2 2).1
        refine sx_aload_n dX3_tickOne_31 rfl ?_
        refine xs_getr (j := 1) dX3_tickOne_32 fl_X3_7 (by decide) rfl ?_
        refine sx_iconst dX3_tickOne_35 ?_
        refine sx_dup2 dX3_tickOne_36 ?_
        refine xs_ild (n := 208) (m := 2) dX3_tickOne_37 rfl (by decide) (by decide) (by decide) rfl (fun r37 => ?_)
        refine sx_iconst dX3_tickOne_38 ?_
        refine sx_iadd dX3_tickOne_39 ?_
        refine xs_ist (n := 208) (m := 2) dX3_tickOne_40 rfl (by decide) (by decide) (by decide) rfl (by exact ⟨by omega, by omega⟩) ?_
        refine sx_iload_n dX3_tickOne_41 rfl ?_
        exact sx_iret dX3_tickOne_42 rfl (by unfold xt1n; (repeat' split) <;> first | contradiction | rfl) rfl
      · -- 15f
        refine sx_iconst dX3_tickOne_18 ?_
        refine sx_goto (tgt := 23) dX3_tickOne_19 (by decide) ?_
        refine sx_iadd dX3_tickOne_23 ?_
        refine sx_istore_n dX3_tickOne_24 (by decide) ?_
        refine sx_iinc dX3_tickOne_25 rfl (by decide) ?_
        refine sx_goto (tgt := 4) dX3_tickOne_28 (by decide) ?_
        refine sx_iload_n dX3_tickOne_4 rfl ?_
        refine sx_iconst dX3_tickOne_5 ?_
        refine sx_icmp_ge (tgt := 31) dX3_tickOne_6 (by decide) ⟨by decide, by decide⟩ ⟨by decide, by decide⟩ (fun _ => ?_) (fun q => absurd q (by decide))
        refine xs_vh (fun hR2 _ => ?_)
        have hq := hB3.1
        have hq2 := (hR2 2).1
        refine sx_aload_n dX3_tickOne_31 rfl ?_
        refine xs_getr (j := 1) dX3_tickOne_32 fl_X3_7 (by decide) rfl ?_
        refine sx_iconst dX3_tickOne_35 ?_
        refine sx_dup2 dX3_tickOne_36 ?_
        refine xs_ild (n := 208) (m := 2) dX3_tickOne_37 rfl (by decide) (by decide) (by decide) rfl (fun r37 => ?_)
        refine sx_iconst dX3_tickOne_38 ?_
        refine sx_iadd dX3_tickOne_39 ?_
        refine xs_ist (n := 208) (m := 2) dX3_tickOne_40 rfl (by decide) (by decide) (by decide) rfl (by exact ⟨by omega, by omega⟩) ?_
        refine sx_iload_n dX3_tickOne_41 rfl ?_
        exact sx_iret dX3_tickOne_42 rfl (by unfold xt1n; (repeat' split) <;> first | contradiction | rfl) rfl
  · -- 15f
    refine sx_iconst dX3_tickOne_18 ?_
    refine sx_goto (tgt := 23) dX3_tickOne_19 (by decide) ?_
    refine sx_iadd dX3_tickOne_23 ?_
    refine sx_istore_n dX3_tickOne_24 (by decide) ?_
    refine sx_iinc dX3_tickOne_25 rfl (by decide) ?_
    refine sx_goto (tgt := 4) dX3_tickOne_28 (by decide) ?_
    refine sx_iload_n dX3_tickOne_4 rfl ?_
    refine sx_iconst dX3_tickOne_5 ?_
    refine sx_icmp_ge (tgt := 31) dX3_tickOne_6 (by decide) ⟨by decide, by decide⟩ ⟨by decide, by decide⟩ (fun q => absurd q (by decide)) (fun _ => ?_)
    refine sx_iload_n dX3_tickOne_9 rfl ?_
    refine sx_aload_n dX3_tickOne_10 rfl ?_
    refine sx_iload_n dX3_tickOne_11 rfl ?_
    refine sx_callVi dX3_tickOne_12 ml_X3_152 mv3_raises (tx_raises 1 (by first | exact hW | exact hW1 | exact hW2) (by decide) (by first | exact hB | exact hB1 | exact hB2) (by omega)) rfl am_obX rfl (Nat.le_of_ble_eq_true rfl) (Nat.le_of_ble_eq_true rfl) ?_
    refine sx_ifB_eq (tgt := 22) dX3_tickOne_15 (by decide) (fun c15 => ?_) (fun c15 => ?_)
    · -- 15t
      refine sx_iconst dX3_tickOne_22 ?_
      refine sx_iadd dX3_tickOne_23 ?_
      refine sx_istore_n dX3_tickOne_24 (by decide) ?_
      refine sx_iinc dX3_tickOne_25 rfl (by decide) ?_
      refine sx_goto (tgt := 4) dX3_tickOne_28 (by decide) ?_
      refine sx_iload_n dX3_tickOne_4 rfl ?_
      refine sx_iconst dX3_tickOne_5 ?_
      refine sx_icmp_ge (tgt := 31) dX3_tickOne_6 (by decide) ⟨by decide, by decide⟩ ⟨by decide, by decide⟩ (fun q => absurd q (by decide)) (fun _ => ?_)
      refine sx_iload_n dX3_tickOne_9 rfl ?_
      refine sx_aload_n dX3_tickOne_10 rfl ?_
      refine sx_iload_n dX3_tickOne_11 rfl ?_
      refine sx_callVi dX3_tickOne_12 ml_X3_152 mv3_raises (tx_raises 2 (by first | exact hW | exact hW1 | exact hW2) (by decide) (by first | exact hB | exact hB1 | exact hB2) (by omega)) rfl am_obX rfl (Nat.le_of_ble_eq_true rfl) (Nat.le_of_ble_eq_true rfl) ?_
      refine sx_ifB_eq (tgt := 22) dX3_tickOne_15 (by decide) (fun c15 => ?_) (fun c15 => ?_)
      · -- 15t
        refine sx_iconst dX3_tickOne_22 ?_
        refine sx_iadd dX3_tickOne_23 ?_
        refine sx_istore_n dX3_tickOne_24 (by decide) ?_
        refine sx_iinc dX3_tickOne_25 rfl (by decide) ?_
        refine sx_goto (tgt := 4) dX3_tickOne_28 (by decide) ?_
        refine sx_iload_n dX3_tickOne_4 rfl ?_
        refine sx_iconst dX3_tickOne_5 ?_
        refine sx_icmp_ge (tgt := 31) dX3_tickOne_6 (by decide) ⟨by decide, by decide⟩ ⟨by decide, by decide⟩ (fun _ => ?_) (fun q => absurd q (by decide))
        refine xs_vh (fun hR2 _ => ?_)
        have hq := hB3.1
        have hq2 := (hR2 2).1
        refine sx_aload_n dX3_tickOne_31 rfl ?_
        refine xs_getr (j := 1) dX3_tickOne_32 fl_X3_7 (by decide) rfl ?_
        refine sx_iconst dX3_tickOne_35 ?_
        refine sx_dup2 dX3_tickOne_36 ?_
        refine xs_ild (n := 208) (m := 2) dX3_tickOne_37 rfl (by decide) (by decide) (by decide) rfl (fun r37 => ?_)
        refine sx_iconst dX3_tickOne_38 ?_
        refine sx_iadd dX3_tickOne_39 ?_
        refine xs_ist (n := 208) (m := 2) dX3_tickOne_40 rfl (by decide) (by decide) (by decide) rfl (by exact ⟨by omega, by omega⟩) ?_
        refine sx_iload_n dX3_tickOne_41 rfl ?_
        exact sx_iret dX3_tickOne_42 rfl (by unfold xt1n; (repeat' split) <;> first | contradiction | rfl) rfl
      · -- 15f
        refine sx_iconst dX3_tickOne_18 ?_
        refine sx_goto (tgt := 23) dX3_tickOne_19 (by decide) ?_
        refine sx_iadd dX3_tickOne_23 ?_
        refine sx_istore_n dX3_tickOne_24 (by decide) ?_
        refine sx_iinc dX3_tickOne_25 rfl (by decide) ?_
        refine sx_goto (tgt := 4) dX3_tickOne_28 (by decide) ?_
        refine sx_iload_n dX3_tickOne_4 rfl ?_
        refine sx_iconst dX3_tickOne_5 ?_
        refine sx_icmp_ge (tgt := 31) dX3_tickOne_6 (by decide) ⟨by decide, by decide⟩ ⟨by decide, by decide⟩ (fun _ => ?_) (fun q => absurd q (by decide))
        refine xs_vh (fun hR2 _ => ?_)
        have hq := hB3.1
        have hq2 := (hR2 2).1
        refine sx_aload_n dX3_tickOne_31 rfl ?_
        refine xs_getr (j := 1) dX3_tickOne_32 fl_X3_7 (by decide) rfl ?_
        refine sx_iconst dX3_tickOne_35 ?_
        refine sx_dup2 dX3_tickOne_36 ?_
        refine xs_ild (n := 208) (m := 2) dX3_tickOne_37 rfl (by decide) (by decide) (by decide) rfl (fun r37 => ?_)
        refine sx_iconst dX3_tickOne_38 ?_
        refine sx_iadd dX3_tickOne_39 ?_
        refine xs_ist (n := 208) (m := 2) dX3_tickOne_40 rfl (by decide) (by decide) (by decide) rfl (by exact ⟨by omega, by omega⟩) ?_
        refine sx_iload_n dX3_tickOne_41 rfl ?_
        exact sx_iret dX3_tickOne_42 rfl (by unfold xt1n; (repeat' split) <;> first | contradiction | rfl) rfl
    · -- 15f
      refine sx_iconst dX3_tickOne_18 ?_
      refine sx_goto (tgt := 23) dX3_tickOne_19 (by decide) ?_
      refine sx_iadd dX3_tickOne_23 ?_
      refine sx_istore_n dX3_tickOne_24 (by decide) ?_
      refine sx_iinc dX3_tickOne_25 rfl (by decide) ?_
      refine sx_goto (tgt := 4) dX3_tickOne_28 (by decide) ?_
      refine sx_iload_n dX3_tickOne_4 rfl ?_
      refine sx_iconst dX3_tickOne_5 ?_
      refine sx_icmp_ge (tgt := 31) dX3_tickOne_6 (by decide) ⟨by decide, by decide⟩ ⟨by decide, by decide⟩ (fun q => absurd q (by decide)) (fun _ => ?_)
      refine sx_iload_n dX3_tickOne_9 rfl ?_
      refine sx_aload_n dX3_tickOne_10 rfl ?_
      refine sx_iload_n dX3_tickOne_11 rfl ?_
      refine sx_callVi dX3_tickOne_12 ml_X3_152 mv3_raises (tx_raises 2 (by first | exact hW | exact hW1 | exact hW2) (by decide) (by first | exact hB | exact hB1 | exact hB2) (by omega)) rfl am_obX rfl (Nat.le_of_ble_eq_true rfl) (Nat.le_of_ble_eq_true rfl) ?_
      refine sx_ifB_eq (tgt := 22) dX3_tickOne_15 (by decide) (fun c15 => ?_) (fun c15 => ?_)
      · -- 15t
        refine sx_iconst dX3_tickOne_22 ?_
        refine sx_iadd dX3_tickOne_23 ?_
        refine sx_istore_n dX3_tickOne_24 (by decide) ?_
        refine sx_iinc dX3_tickOne_25 rfl (by decide) ?_
        refine sx_goto (tgt := 4) dX3_tickOne_28 (by decide) ?_
        refine sx_iload_n dX3_tickOne_4 rfl ?_
        refine sx_iconst dX3_tickOne_5 ?_
        refine sx_icmp_ge (tgt := 31) dX3_tickOne_6 (by decide) ⟨by decide, by decide⟩ ⟨by decide, by decide⟩ (fun _ => ?_) (fun q => absurd q (by decide))
        refine xs_vh (fun hR2 _ => ?_)
        have hq := hB3.1
        have hq2 := (hR2 2).1
        refine sx_aload_n dX3_tickOne_31 rfl ?_
        refine xs_getr (j := 1) dX3_tickOne_32 fl_X3_7 (by decide) rfl ?_
        refine sx_iconst dX3_tickOne_35 ?_
        refine sx_dup2 dX3_tickOne_36 ?_
        refine xs_ild (n := 208) (m := 2) dX3_tickOne_37 rfl (by decide) (by decide) (by decide) rfl (fun r37 => ?_)
        refine sx_iconst dX3_tickOne_38 ?_
        refine sx_iadd dX3_tickOne_39 ?_
        refine xs_ist (n := 208) (m := 2) dX3_tickOne_40 rfl (by decide) (by decide) (by decide) rfl (by exact ⟨by omega, by omega⟩) ?_
        refine sx_iload_n dX3_tickOne_41 rfl ?_
        exact sx_iret dX3_tickOne_42 rfl (by unfold xt1n; (repeat' split) <;> first | contradiction | rfl) rfl
      · -- 15f
        refine sx_iconst dX3_tickOne_18 ?_
        refine sx_goto (tgt := 23) dX3_tickOne_19 (by decide) ?_
        refine sx_iadd dX3_tickOne_23 ?_
        refine sx_istore_n dX3_tickOne_24 (by decide) ?_
        refine sx_iinc dX3_tickOne_25 rfl (by decide) ?_
        refine sx_goto (tgt := 4) dX3_tickOne_28 (by decide) ?_
        refine sx_iload_n dX3_tickOne_4 rfl ?_
        refine sx_iconst dX3_tickOne_5 ?_
        refine sx_icmp_ge (tgt := 31) dX3_tickOne_6 (by decide) ⟨by decide, by decide⟩ ⟨by decide, by decide⟩ (fun _ => ?_) (fun q => absurd q (by decide))
        refine xs_vh (fun hR2 _ => ?_)
        have hq := hB3.1
        have hq2 := (hR2 2).1
        refine sx_aload_n dX3_tickOne_31 rfl ?_
        refine xs_getr (j := 1) dX3_tickOne_32 fl_X3_7 (by decide) rfl ?_
        refine sx_iconst dX3_tickOne_35 ?_
        refine sx_dup2 dX3_tickOne_36 ?_
        refine xs_ild (n := 208) (m := 2) dX3_tickOne_37 rfl (by decide) (by decide) (by decide) rfl (fun r37 => ?_)
        refine sx_iconst dX3_tickOne_38 ?_
        refine sx_iadd dX3_tickOne_39 ?_
        refine xs_ist (n := 208) (m := 2) dX3_tickOne_40 rfl (by decide) (by decide) (by decide) rfl (by exact ⟨by omega, by omega⟩) ?_
        refine sx_iload_n dX3_tickOne_41 rfl ?_
        exact sx_iret dX3_tickOne_42 rfl (by unfold xt1n; (repeat' split) <;> first | contradiction | rfl) rfl
set_option maxHeartbeats 4000000 in
set_option maxRecDepth 100000 in
theorem tx_ticks {h0 : am_H} {X : am_M} {S : Nat → Int} (t : Int) (hW : WX S) (ht : am_R t) {n : Int} (hB : BX S n) (hn : n ≤ 800000000)  : Ct 8 Y3_ticks [.inr (7, 0), .inl t] (some (.inl (xticks S t).1)) (xh h0 X S) (xh h0 X (xticks S t).2) := by
  refine Ct_of (by decide +kernel) (Nat.le_of_ble_eq_true rfl) ?_
  show Sx 8 Y3_ticks (xh h0 X (xticks S t).2) (some (.inl (xticks S t).1)) 0 [some (.inr (7, 0)), some (.inl t), none, none] [] (xh h0 X S)
  refine xs_vh (fun hR hRX => ?_)
  obtain ⟨w0, w1, wg, wf, wo⟩ := id hW
  have hB2 := hB.1
  have hR22 := (hR 2).1
  refine sx_iload_n dX3_ticks_0 rfl ?_
  refine sx_iconst dX3_ticks_1 ?_
  refine sx_bipush dX3_ticks_2 rfl ?_
  refine sx_callSi dX3_ticks_4 ml_X3_32 ms3_in (tx_in _ _ _ (by first | omega | assumption | (with_reducible first | exact hR _ | exact xwd_R hR _ _ | exact xch_R hR _ _ | exact am_R_and _ _ | exact am_R_or _ _ | exact am_R_xor _ _ | exact am_R_shl _ _ | exact am_R_shr _ _ | exact bit_R _ _ | exact xpls_R _ _ | exact xkept_R hW _ _ | exact xwait_R hW _ _ ) | (exact ⟨by omega, by omega⟩) | exact wf _ (by omega) (by omega) | exact wg _ (by omega) (by omega)) (by first | omega | assumption | (with_reducible first | exact hR _ | exact xwd_R hR _ _ | exact xch_R hR _ _ | exact am_R_and _ _ | exact am_R_or _ _ | exact am_R_xor _ _ | exact am_R_shl _ _ | exact am_R_shr _ _ | exact bit_R _ _ | exact xpls_R _ _ | exact xkept_R hW _ _ | exact xwait_R hW _ _ ) | (exact ⟨by omega, by omega⟩) | exact wf _ (by omega) (by omega) | exact wg _ (by omega) (by omega)) (by first | omega | assumption | (with_reducible first | exact hR _ | exact xwd_R hR _ _ | exact xch_R hR _ _ | exact am_R_and _ _ | exact am_R_or _ _ | exact am_R_xor _ _ | exact am_R_shl _ _ | exact am_R_shr _ _ | exact bit_R _ _ | exact xpls_R _ _ | exact xkept_R hW _ _ | exact xwait_R hW _ _ ) | (exact ⟨by omega, by omega⟩) | exact wf _ (by omega) (by omega) | exact wg _ (by omega) (by omega))) rfl rfl (Nat.le_of_ble_eq_true rfl) (Nat.le_of_ble_eq_true rfl) ?_
  refine sx_ifB_ne (tgt := 13) dX3_ticks_7 (by decide) (fun c7 => ?_) (fun c7 => ?_)
  · -- 7t
    refine sx_aload_n dX3_ticks_13 rfl ?_
    refine xs_getr (j := 1) dX3_ticks_14 fl_X3_7 (by decide) rfl ?_
    refine sx_iconst dX3_ticks_17 ?_
    refine xs_ild (n := 208) (m := 2) dX3_ticks_18 rfl (by decide) (by decide) (by decide) rfl (fun r18 => ?_)
    refine sx_iload_n dX3_ticks_19 rfl ?_
    refine sx_iadd dX3_ticks_20 ?_
    refine sx_ldc dX3_ticks_21 kc_X3_155 ?_
    refine sx_icmp_le (tgt := 29) dX3_ticks_23 (by decide) (by first | omega | assumption | (with_reducible first | exact hR _ | exact xwd_R hR _ _ | exact xch_R hR _ _ | exact am_R_xor _ _ | exact am_R_or _ _ | exact xkept_R hW _ _ | exact xwait_R hW _ _ | exact xpls_R _ _ | exact xwords_R _ _) | (exact ⟨by omega, by omega⟩)) ⟨by decide, by decide⟩ (fun c23 => ?_) (fun c23 => ?_)
    · -- 23t
      refine sx_iconst dX3_ticks_29 ?_
      refine sx_istore_n dX3_ticks_30 (by decide) ?_
      refine sx_iconst dX3_ticks_31 ?_
      refine sx_istore_n dX3_ticks_32 (by decide) ?_
      have loop33 : ∀ (n : Nat) (k : Nat), (t - k).toNat = n → (k : Int) ≤ t → Sx 8 Y3_ticks (xh h0 X (xticks S t).2) (some (.inl (xticks S t).1)) 33 [some (.inr (7, 0)), some (.inl t), some (.inl (xtn S k)), some (.inl (k : Int))] [] (xh h0 X (xtS S k)) := by
        intro n
        induction n using Nat.strongRecOn with
        | _ n ih33 =>
          intro k hn hle
          refine sx_iload_n dX3_ticks_33 rfl ?_
          refine sx_iload_n dX3_ticks_34 rfl ?_
          refine sx_icmp_ge (tgt := 51) dX3_ticks_35 (by decide) (by first | omega | assumption | (with_reducible first | exact hR _ | exact xwd_R hR _ _ | exact xch_R hR _ _ | exact am_R_xor _ _ | exact am_R_or _ _ | exact xkept_R hW _ _ | exact xwait_R hW _ _ | exact xpls_R _ _ | exact xwords_R _ _) | (exact ⟨by omega, by omega⟩)) (by first | omega | assumption | (with_reducible first | exact hR _ | exact xwd_R hR _ _ | exact xch_R hR _ _ | exact am_R_xor _ _ | exact am_R_or _ _ | exact xkept_R hW _ _ | exact xwait_R hW _ _ | exact xpls_R _ _ | exact xwords_R _ _) | (exact ⟨by omega, by omega⟩)) (fun c35 => ?_) (fun c35 => ?_)
          · -- 35t
            obtain rfl : k = t.toNat := by omega
            refine sx_iload_n dX3_ticks_51 rfl ?_
            exact sx_iret dX3_ticks_52 rfl (by unfold xticks; (repeat' split) <;> first | contradiction | (exfalso; omega) | rfl | (congr 2; omega) | (simp_all; done)) (by unfold xticks; (repeat' split) <;> first | contradiction | (exfalso; omega) | rfl | (congr 2; omega) | (simp_all; done))
          · -- 35f
            refine sx_iload_n dX3_ticks_38 rfl ?_
            refine sx_aload_n dX3_ticks_39 rfl ?_
            refine sx_callVi dX3_ticks_40 ml_X3_156 mv3_tickOne (tx_tickOne (WX_tS hW k) (BX_tS hW hB k) (by omega)) rfl am_obX rfl (Nat.le_of_ble_eq_true rfl) (Nat.le_of_ble_eq_true rfl) ?_
            refine sx_iadd dX3_ticks_43 ?_
            refine sx_istore_n dX3_ticks_44 (by decide) ?_
            refine sx_iinc dX3_ticks_45 rfl (by decide) ?_
            refine sx_goto (tgt := 33) dX3_ticks_48 (by decide) ?_
            exact ih33 _ (by omega) (k + 1) rfl (by omega)
      exact loop33 _ 0 rfl (by omega)
    · -- 23f
      refine sx_ldc dX3_ticks_26 kc_X3_83 ?_
      exact sx_iret dX3_ticks_28 rfl (by unfold xticks; (repeat' split) <;> first | contradiction | (exfalso; omega) | rfl | (congr 2; omega) | (simp_all; done)) (by unfold xticks; (repeat' split) <;> first | contradiction | (exfalso; omega) | rfl | (congr 2; omega) | (simp_all; done))
  · -- 7f
    refine sx_ldc dX3_ticks_10 kc_X3_40 ?_
    exact sx_iret dX3_ticks_12 rfl (by unfold xticks; (repeat' split) <;> first | contradiction | (exfalso; omega) | rfl | (congr 2; omega) | (simp_all; done)) (by unfold xticks; (repeat' split) <;> first | contradiction | (exfalso; omega) | rfl | (congr 2; omega) | (simp_all; done))
