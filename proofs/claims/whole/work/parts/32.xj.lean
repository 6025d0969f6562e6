def xtypeR (X : am_M) (c : Int) : Int := if 32 ≤ c ∧ c ≤ 126 then (if X 0 7 = 60 then -1000003 else X 0 7 + 1) else -1000001
def xtypeX (X : am_M) (c : Int) : am_M := if 32 ≤ c ∧ c ≤ 126 then (if X 0 7 = 60 then X else am_u2 (am_u2 X 6 (X 0 7).toNat c) 0 7 (X 0 7 + 1)) else X
set_option maxHeartbeats 4000000 in
set_option maxRecDepth 100000 in
theorem tx_type {h0 : am_H} {X : am_M} {S : Nat → Int} (c : Int) (hc9 : am_R c) (ht0 : 0 ≤ X 0 7 ∧ X 0 7 ≤ 60)  : Ct 1 Y3_type [.inr (7, 0), .inl c] (some (.inl (xtypeR X c))) (xh h0 X S) (xh h0 (xtypeX X c) S) := by
  refine Ct_of (by decide +kernel) (Nat.le_of_ble_eq_true rfl) ?_
  show Sx 1 Y3_type (xh h0 (xtypeX X c) S) (some (.inl (xtypeR X c))) 0 [some (.inr (7, 0)), some (.inl c)] [] (xh h0 X S)
  refine xs_vh (fun hR hRX => ?_)
  refine sx_iload_n dX3_type_0 rfl ?_
  refine sx_bipush dX3_type_1 rfl ?_
  refine sx_bipush dX3_type_3 rfl ?_
  refine sx_callSi dX3_type_5 ml_X3_32 ms3_in (tx_in _ _ _ (by first | omega | assumption | (with_reducible first | exact hR _ | exact xwd_R hR _ _ | exact xch_R hR _ _ | exact am_R_and _ _ | exact am_R_or _ _ | exact am_R_xor _ _ | exact am_R_shl _ _ | exact am_R_shr _ _ | exact bit_R _ _ | exact xpls_R _ _ | exact xkept_R hW _ _ | exact xwait_R hW _ _ ) | (exact ⟨by omega, by omega⟩) | exact wf _ (by omega) (by omega) | exact wg _ (by omega) (by omega)) (by first | omega | assumption | (with_reducible first | exact hR _ | exact xwd_R hR _ _ | exact xch_R hR _ _ | exact am_R_and _ _ | exact am_R_or _ _ | exact am_R_xor _ _ | exact am_R_shl _ _ | exact am_R_shr _ _ | exact bit_R _ _ | exact xpls_R _ _ | exact xkept_R hW _ _ | exact xwait_R hW _ _ ) | (exact ⟨by omega, by omega⟩) | exact wf _ (by omega) (by omega) | exact wg _ (by omega) (by omega)) (by first | omega | assumption | (with_reducible first | exact hR _ | exact xwd_R hR _ _ | exact xch_R hR _ _ | exact am_R_and _ _ | exact am_R_or _ _ | exact am_R_xor _ _ | exact am_R_shl _ _ | exact am_R_shr _ _ | exact bit_R _ _ | exact xpls_R _ _ | exact xkept_R hW _ _ | exact xwait_R hW _ _ ) | (exact ⟨by omega, by omega⟩) | exact wf _ (by omega) (by omega) | exact wg _ (by omega) (by omega))) rfl rfl (Nat.le_of_ble_eq_true rfl) (Nat.le_of_ble_eq_true rfl) ?_
  refine sx_ifB_ne (tgt := 14) dX3_type_8 (by decide) (fun c8 => ?_) (fun c8 => ?_)
  · -- 8t
    refine sx_aload_n dX3_type_14 rfl ?_
    refine xs_geti dX3_type_15 fl_X3_171 (by decide) (fun r15 => ?_)
    refine sx_bipush dX3_type_18 rfl ?_
    refine sx_icmp_ne (tgt := 26) dX3_type_20 (by decide) (by first | omega | assumption | (exact ⟨by omega, by omega⟩)) ⟨by decide, by decide⟩ (fun c20 => ?_) (fun c20 => ?_)
    · -- 20t
      refine sx_aload_n dX3_type_26 rfl ?_
      refine xs_getr (j := 6) dX3_type_27 fl_X3_25 (by decide) rfl ?_
      refine sx_aload_n dX3_type_30 rfl ?_
      refine xs_geti dX3_type_31 fl_X3_171 (by decide) (fun r31 => ?_)
      refine sx_iload_n dX3_type_34 rfl ?_
      refine sx_i2c dX3_type_35 (by first | omega | assumption | (exact ⟨by omega, by omega⟩)) (by first | omega | assumption | (exact ⟨by omega, by omega⟩)) ?_
      refine xs_cst (n := 60) dX3_type_36 rfl (by decide) (by first | omega | assumption | (exact ⟨by omega, by omega⟩)) (by first | omega | assumption | (exact ⟨by omega, by omega⟩)) rfl (by first | omega | assumption | (exact ⟨by omega, by omega⟩)) (by first | omega | assumption | (exact ⟨by omega, by omega⟩)) ?_
      refine sx_aload_n dX3_type_37 rfl ?_
      refine sx_dup dX3_type_38 ?_
      refine xs_geti dX3_type_39 fl_X3_171 (by decide) (fun r39 => ?_)
      show Sx 1 Y3_type _ _ _ _ [.inl (X 0 7), .inr (7, 0)] _
      refine sx_iconst dX3_type_42 ?_
      refine sx_iadd dX3_type_43 ?_
      refine xs_put dX3_type_44 fl_X3_171 (by decide) (by first | omega | assumption | (exact ⟨by omega, by omega⟩)) ?_
      refine sx_aload_n dX3_type_47 rfl ?_
      refine xs_geti dX3_type_48 fl_X3_171 (by decide) (fun r48 => ?_)
      show Sx 1 Y3_type _ _ _ _ [.inl (X 0 7 + 1)] _
      exact sx_iret dX3_type_51 rfl (by unfold xtypeR; simp only [if_pos c8, if_neg c20]) (by unfold xtypeX; simp only [if_pos c8, if_neg c20])
    · -- 20f
      refine sx_ldc dX3_type_23 kc_X3_83 ?_
      exact sx_iret dX3_type_25 rfl (by unfold xtypeR; simp only [if_pos c8, if_pos c20]) (by unfold xtypeX; simp only [if_pos c8, if_pos c20])
  · -- 8f
    refine sx_ldc dX3_type_11 kc_X3_40 ?_
    exact sx_iret dX3_type_13 rfl (by unfold xtypeR; simp only [if_neg c8]) (by unfold xtypeX; simp only [if_neg c8])
set_option maxHeartbeats 4000000 in
set_option maxRecDepth 100000 in
theorem tx_clearText {h0 : am_H} {X : am_M} {S : Nat → Int}  : Ct 0 Y3_clearText [.inr (7, 0)] (some (.inl (X 0 7))) (xh h0 X S) (xh h0 (am_u2 X 0 7 0) S) := by
  refine Ct_of (by decide +kernel) (Nat.le_of_ble_eq_true rfl) ?_
  show Sx 0 Y3_clearText (xh h0 (am_u2 X 0 7 0) S) (some (.inl (X 0 7))) 0 [some (.inr (7, 0)), none] [] (xh h0 X S)
  refine xs_vh (fun hR hRX => ?_)
  refine sx_aload_n dX3_clearText_0 rfl ?_
  refine xs_geti dX3_clearText_1 fl_X3_171 (by decide) (fun r1 => ?_)
  refine sx_istore_n dX3_clearText_4 (by decide) ?_
  refine sx_aload_n dX3_clearText_5 rfl ?_
  refine sx_iconst dX3_clearText_6 ?_
  refine xs_put dX3_clearText_7 fl_X3_171 (by decide) ⟨by decide, by decide⟩ ?_
  refine sx_iload_n dX3_clearText_10 rfl ?_
  exact sx_iret dX3_clearText_11 rfl rfl rfl
set_option maxHeartbeats 4000000 in
set_option maxRecDepth 100000 in
theorem tx_has {h0 : am_H} {X : am_M} {S : Nat → Int} (c : Int) (hc9 : am_R c) (hT : TX X)  : Ct 0 Y3_has [.inr (7, 0), .inl c] (some (.inl (if xhas X c = true then 1 else 0))) (xh h0 X S) (xh h0 (xhasX X c) S) := by
  refine Ct_of (by decide +kernel) (Nat.le_of_ble_eq_true rfl) ?_
  show Sx 0 Y3_has (xh h0 (xhasX X c) S) (some (.inl (if xhas X c = true then 1 else 0))) 0 [some (.inr (7, 0)), some (.inl c), none] [] (xh h0 X S)
  refine xs_vh (fun hR hRX => ?_)
  refine sx_aload_n dX3_has_0 rfl ?_
  refine xs_geti dX3_has_1 fl_X3_174 (by decide) (fun r1 => ?_)
  refine sx_aload_n dX3_has_4 rfl ?_
  refine xs_geti dX3_has_5 fl_X3_171 (by decide) (fun r5 => ?_)
  refine sx_icmp_ge (tgt := 28) dX3_has_8 (by decide) (by first | omega | assumption | (obtain ⟨q1, q2, q3, q4⟩ := hT; omega) | (obtain ⟨q1, q2, q3, q4⟩ := hT; exact ⟨by omega, by omega⟩)) (by first | omega | assumption | (obtain ⟨q1, q2, q3, q4⟩ := hT; omega) | (obtain ⟨q1, q2, q3, q4⟩ := hT; exact ⟨by omega, by omega⟩)) (fun c8 => ?_) (fun c8 => ?_)
  · -- 8t
    refine sx_iconst dX3_has_28 ?_
    refine sx_istore_n dX3_has_29 (by decide) ?_
    refine sx_aload_n dX3_has_30 rfl ?_
    refine sx_dup dX3_has_31 ?_
    refine xs_geti dX3_has_32 fl_X3_174 (by decide) (fun r32 => ?_)
    refine sx_iload_n dX3_has_35 rfl ?_
    refine sx_if_eq (tgt := 43) dX3_has_36 (by decide) ⟨by decide, by decide⟩ (fun _ => ?_) (fun q => absurd q (by decide))
    refine sx_iconst dX3_has_43 ?_
    refine sx_iadd dX3_has_44 ?_
    refine xs_put dX3_has_45 fl_X3_174 (by decide) (by first | omega | assumption | (obtain ⟨q1, q2, q3, q4⟩ := hT; omega) | (obtain ⟨q1, q2, q3, q4⟩ := hT; exact ⟨by omega, by omega⟩)) ?_
    refine sx_iload_n dX3_has_48 rfl ?_
    exact sx_zret dX3_has_49 rfl (by decide) (by first | rw [if_pos (show xhas X c = true from by unfold xhas; simp; omega)] | rw [if_neg (show ¬ xhas X c = true from by unfold xhas; simp; omega)]) (by unfold xhasX; first | rw [if_pos (show xhas X c = true from by unfold xhas; simp; omega)] | rw [if_neg (show ¬ xhas X c = true from by unfold xhas; simp; omega)])
  · -- 8f
    refine sx_aload_n dX3_has_11 rfl ?_
    refine xs_getr (j := 6) dX3_has_12 fl_X3_25 (by decide) rfl ?_
    refine sx_aload_n dX3_has_15 rfl ?_
    refine xs_geti dX3_has_16 fl_X3_174 (by decide) (fun r16 => ?_)
    refine xs_cld (n := 60) dX3_has_19 rfl (by decide) (by first | omega | assumption | (obtain ⟨q1, q2, q3, q4⟩ := hT; omega) | (obtain ⟨q1, q2, q3, q4⟩ := hT; exact ⟨by omega, by omega⟩)) (by first | omega | assumption | (obtain ⟨q1, q2, q3, q4⟩ := hT; omega) | (obtain ⟨q1, q2, q3, q4⟩ := hT; exact ⟨by omega, by omega⟩)) rfl (fun r19 => ?_)
    refine sx_iload_n dX3_has_20 rfl ?_
    refine sx_icmp_ne (tgt := 28) dX3_has_21 (by decide) (by first | omega | assumption | (obtain ⟨q1, q2, q3, q4⟩ := hT; omega) | (obtain ⟨q1, q2, q3, q4⟩ := hT; exact ⟨by omega, by omega⟩)) (by first | omega | assumption | (obtain ⟨q1, q2, q3, q4⟩ := hT; omega) | (obtain ⟨q1, q2, q3, q4⟩ := hT; exact ⟨by omega, by omega⟩)) (fun c21 => ?_) (fun c21 => ?_)
    · -- 21t
      refine sx_iconst dX3_has_28 ?_
      refine sx_istore_n dX3_has_29 (by decide) ?_
      refine sx_aload_n dX3_has_30 rfl ?_
      refine sx_dup dX3_has_31 ?_
      refine xs_geti dX3_has_32 fl_X3_174 (by decide) (fun r32 => ?_)
      refine sx_iload_n dX3_has_35 rfl ?_
      refine sx_if_eq (tgt := 43) dX3_has_36 (by decide) ⟨by decide, by decide⟩ (fun _ => ?_) (fun q => absurd q (by decide))
      refine sx_iconst dX3_has_43 ?_
      refine sx_iadd dX3_has_44 ?_
      refine xs_put dX3_has_45 fl_X3_174 (by decide) (by first | omega | assumption | (obtain ⟨q1, q2, q3, q4⟩ := hT; omega) | (obtain ⟨q1, q2, q3, q4⟩ := hT; exact ⟨by omega, by omega⟩)) ?_
      refine sx_iload_n dX3_has_48 rfl ?_
      exact sx_zret dX3_has_49 rfl (by decide) (by first | rw [if_pos (show xhas X c = true from by unfold xhas; simp; omega)] | rw [if_neg (show ¬ xhas X c = true from by unfold xhas; simp; omega)]) (by unfold xhasX; first | rw [if_pos (show xhas X c = true from by unfold xhas; simp; omega)] | rw [if_neg (show ¬ xhas X c = true from by unfold xhas; simp; omega)])
    · -- 21f
      refine sx_iconst dX3_has_24 ?_
      refine sx_goto (tgt := 29) dX3_has_25 (by decide) ?_
      refine sx_istore_n dX3_has_29 (by decide) ?_
      refine sx_aload_n dX3_has_30 rfl ?_
      refine sx_dup dX3_has_31 ?_
      refine xs_geti dX3_has_32 fl_X3_174 (by decide) (fun r32 => ?_)
      refine sx_iload_n dX3_has_35 rfl ?_
      refine sx_if_eq (tgt := 43) dX3_has_36 (by decide) ⟨by decide, by decide⟩ (fun q => absurd q (by decide)) (fun _ => ?_)
      refine sx_iconst dX3_has_39 ?_
      refine sx_goto (tgt := 44) dX3_has_40 (by decide) ?_
      refine sx_iadd dX3_has_44 ?_
      refine xs_put dX3_has_45 fl_X3_174 (by decide) (by first | omega | assumption | (obtain ⟨q1, q2, q3, q4⟩ := hT; omega) | (obtain ⟨q1, q2, q3, q4⟩ := hT; exact ⟨by omega, by omega⟩)) ?_
      refine sx_iload_n dX3_has_48 rfl ?_
      exact sx_zret dX3_has_49 rfl (by decide) (by first | rw [if_pos (show xhas X c = true from by unfold xhas; simp; omega)] | rw [if_neg (show ¬ xhas X c = true from by unfold xhas; simp; omega)]) (by unfold xhasX; first | rw [if_pos (show xhas X c = true from by unfold xhas; simp; omega)] | rw [if_neg (show ¬ xhas X c = true from by unfold xhas; simp; omega)])
set_option maxHeartbeats 4000000 in
set_option maxRecDepth 100000 in
theorem tx_number {h0 : am_H} {X : am_M} {S : Nat → Int} (k : Int) (hk01 : k = 0 ∨ k = 1) (hT : TX X)  : Ct 1 Y3_number [.inr (7, 0), .inl k] (some (.inl (if ¬ xnumN X = 0 then 1 else 0))) (xh h0 X S) (xh h0 (xnumX X k) S) := by
  refine Ct_of (by decide +kernel) (Nat.le_of_ble_eq_true rfl) ?_
  show Sx 1 Y3_number (xh h0 (xnumX X k) S) (some (.inl (if ¬ xnumN X = 0 then 1 else 0))) 0 [some (.inr (7, 0)), some (.inl k), none] [] (xh h0 X S)
  refine xs_vh (fun hR hRX => ?_)
  refine sx_aload_n dX3_number_0 rfl ?_
  refine xs_geti dX3_number_1 fl_X3_174 (by decide) (fun r1 => ?_)
  refine sx_istore_n dX3_number_4 (by decide) ?_
  refine sx_aload_n dX3_number_5 rfl ?_
  refine xs_getr (j := 7) dX3_number_6 fl_X3_29 (by decide) rfl ?_
  refine sx_iload_n dX3_number_9 rfl ?_
  refine sx_iconst dX3_number_10 ?_
  refine xs_isto (n := 2) dX3_number_11 (am_inX 7 (by decide)) rfl (by decide) rfl (by decide) (by first | omega | assumption | (obtain ⟨q1, q2, q3, q4⟩ := hT; omega) | (obtain ⟨q1, q2, q3, q4⟩ := hT; exact ⟨by omega, by omega⟩)) (by first | omega | assumption | (obtain ⟨q1, q2, q3, q4⟩ := hT; omega) | (obtain ⟨q1, q2, q3, q4⟩ := hT; exact ⟨by omega, by omega⟩)) rfl ⟨by decide, by decide⟩ ?_
  have loop12 : ∀ (n : Nat) (i : Nat) (Y : am_M), (3 - i) = n → i ≤ 3 → Y = (am_u2 (am_u2 X 7 k.toNat (tval (X 6) (X 0 8) i)) 0 8 (X 0 8 + i)) → (∀ j : Nat, j < i → tdig (X 6) (X 0 7) (X 0 8 + j) = true) → Sx 1 Y3_number (xh h0 (xnumX X k) S) (some (.inl (if ¬ xnumN X = 0 then 1 else 0))) 12 [some (.inr (7, 0)), some (.inl k), some (.inl (X 0 8))] [] (xh h0 Y S) := by
    intro n
    induction n using Nat.strongRecOn with
    | _ n ih12 =>
      intro i Y hn12 hi hY hdg
      have h8 : Y 0 8 = X 0 8 + i := by rw [hY, am_u2_hit]
      have h7 : Y 0 7 = X 0 7 := by rw [hY, am_u2_rd _ _ (Or.inr (by decide)), am_u2_rd _ _ (Or.inl (by decide))]
      have h6 : Y 6 = X 6 := by rw [hY, am_u2_ne _ _ _ (by decide), am_u2_ne _ _ _ (by decide)]
      have hk : Y 7 k.toNat = tval (X 6) (X 0 8) i := by rw [hY, am_u2_rd _ _ (Or.inl (by decide)), am_u2_hit]
      have hvb := tval_b (X 6) (X 0 7) (X 0 8) i hi hdg
      refine sx_aload_n dX3_number_12 rfl ?_
      refine xs_geti dX3_number_13 fl_X3_174 (by decide) (fun r13 => ?_)
      refine sx_aload_n dX3_number_16 rfl ?_
      refine xs_geti dX3_number_17 fl_X3_171 (by decide) (fun r17 => ?_)
      refine sx_icmp_ge (tgt := 93) dX3_number_20 (by decide) (by first | omega | assumption | (obtain ⟨q1, q2, q3, q4⟩ := hT; omega) | (obtain ⟨q1, q2, q3, q4⟩ := hT; exact ⟨by omega, by omega⟩)) (by first | omega | assumption | (obtain ⟨q1, q2, q3, q4⟩ := hT; omega) | (obtain ⟨q1, q2, q3, q4⟩ := hT; exact ⟨by omega, by omega⟩)) (fun c20 => ?_) (fun c20 => ?_)
      · -- 20t
        have hN : xnumN X = i := by
          refine tcnt_eq _ _ _ _ _ hi hdg ?_
          by_cases h3 : i = 3
          · exact Or.inl h3
          · refine Or.inr ?_
            cases hq : tdig (X 6) (X 0 7) (X 0 8 + i) with
            | false => rfl
            | true =>
              exfalso
              unfold tdig at hq
              simp only [Bool.and_eq_true, decide_eq_true_eq] at hq
              first
              | omega
              | (rw [h6, h8] at c49; exact c49 hq.2)
        have hX : xnumX X k = Y := by rw [hY]; unfold xnumX; rw [hN]
        refine sx_aload_n dX3_number_93 rfl ?_
        refine xs_geti dX3_number_94 fl_X3_174 (by decide) (fun r94 => ?_)
        refine sx_iload_n dX3_number_97 rfl ?_
        refine sx_icmp_le (tgt := 105) dX3_number_98 (by decide) (by first | omega | assumption | (obtain ⟨q1, q2, q3, q4⟩ := hT; omega) | (obtain ⟨q1, q2, q3, q4⟩ := hT; exact ⟨by omega, by omega⟩)) (by first | omega | assumption | (obtain ⟨q1, q2, q3, q4⟩ := hT; omega) | (obtain ⟨q1, q2, q3, q4⟩ := hT; exact ⟨by omega, by omega⟩)) (fun c98 => ?_) (fun c98 => ?_)
        · -- 98t
          refine sx_iconst dX3_number_105 ?_
          exact sx_zret dX3_number_106 rfl (by decide) (by first | (exfalso; omega) | rw [if_pos (by omega)] | rw [if_neg (by omega)]) (by rw [hX])
        · -- 98f
          refine sx_iconst dX3_number_101 ?_
          refine sx_goto (tgt := 106) dX3_number_102 (by decide) ?_
          exact sx_zret dX3_number_106 rfl (by decide) (by first | (exfalso; omega) | rw [if_pos (by omega)] | rw [if_neg (by omega)]) (by rw [hX])
      · -- 20f
        refine sx_aload_n dX3_number_23 rfl ?_
        refine xs_geti dX3_number_24 fl_X3_174 (by decide) (fun r24 => ?_)
        refine sx_iload_n dX3_number_27 rfl ?_
        refine sx_iconst dX3_number_28 ?_
        refine sx_iadd dX3_number_29 ?_
        refine sx_icmp_ge (tgt := 93) dX3_number_30 (by decide) (by first | omega | assumption | (obtain ⟨q1, q2, q3, q4⟩ := hT; omega) | (obtain ⟨q1, q2, q3, q4⟩ := hT; exact ⟨by omega, by omega⟩)) (by first | omega | assumption | (obtain ⟨q1, q2, q3, q4⟩ := hT; omega) | (obtain ⟨q1, q2, q3, q4⟩ := hT; exact ⟨by omega, by omega⟩)) (fun c30 => ?_) (fun c30 => ?_)
        · -- 30t
          have hN : xnumN X = i := by
            refine tcnt_eq _ _ _ _ _ hi hdg ?_
            by_cases h3 : i = 3
            · exact Or.inl h3
            · refine Or.inr ?_
              cases hq : tdig (X 6) (X 0 7) (X 0 8 + i) with
              | false => rfl
              | true =>
                exfalso
                unfold tdig at hq
                simp only [Bool.and_eq_true, decide_eq_true_eq] at hq
                first
                | omega
                | (rw [h6, h8] at c49; exact c49 hq.2)
          have hX : xnumX X k = Y := by rw [hY]; unfold xnumX; rw [hN]
          refine sx_aload_n dX3_number_93 rfl ?_
          refine xs_geti dX3_number_94 fl_X3_174 (by decide) (fun r94 => ?_)
          refine sx_iload_n dX3_number_97 rfl ?_
          refine sx_icmp_le (tgt := 105) dX3_number_98 (by decide) (by first | omega | assumption | (obtain ⟨q1, q2, q3, q4⟩ := hT; omega) | (obtain ⟨q1, q2, q3, q4⟩ := hT; exact ⟨by omega, by omega⟩)) (by first | omega | assumption | (obtain ⟨q1, q2, q3, q4⟩ := hT; omega) | (obtain ⟨q1, q2, q3, q4⟩ := hT; exact ⟨by omega, by omega⟩)) (fun c98 => ?_) (fun c98 => ?_)
          · -- 98t
            refine sx_iconst dX3_number_105 ?_
            exact sx_zret dX3_number_106 rfl (by decide) (by first | (exfalso; omega) | rw [if_pos (by omega)] | rw [if_neg (by omega)]) (by rw [hX])
          · -- 98f
            refine sx_iconst dX3_number_101 ?_
            refine sx_goto (tgt := 106) dX3_number_102 (by decide) ?_
            exact sx_zret dX3_number_106 rfl (by decide) (by first | (exfalso; omega) | rw [if_pos (by omega)] | rw [if_neg (by omega)]) (by rw [hX])
        · -- 30f
          refine sx_aload_n dX3_number_33 rfl ?_
          refine xs_getr (j := 6) dX3_number_34 fl_X3_25 (by decide) rfl ?_
          refine sx_aload_n dX3_number_37 rfl ?_
          refine xs_geti dX3_number_38 fl_X3_174 (by decide) (fun r38 => ?_)
          refine xs_cld (n := 60) dX3_number_41 rfl (by decide) (by first | omega | assumption | (obtain ⟨q1, q2, q3, q4⟩ := hT; omega) | (obtain ⟨q1, q2, q3, q4⟩ := hT; exact ⟨by omega, by omega⟩)) (by first | omega | assumption | (obtain ⟨q1, q2, q3, q4⟩ := hT; omega) | (obtain ⟨q1, q2, q3, q4⟩ := hT; exact ⟨by omega, by omega⟩)) rfl (fun r41 => ?_)
          refine sx_bipush dX3_number_42 rfl ?_
          refine sx_bipush dX3_number_44 rfl ?_
          refine sx_callSi dX3_number_46 ml_X3_32 ms3_in (tx_in _ _ _ (by assumption) ⟨by decide, by decide⟩ ⟨by decide, by decide⟩) rfl rfl (Nat.le_of_ble_eq_true rfl) (Nat.le_of_ble_eq_true rfl) ?_
          refine sx_ifB_eq (tgt := 93) dX3_number_49 (by decide) (fun c49 => ?_) (fun c49 => ?_)
          · -- 49t
            have hN : xnumN X = i := by
              refine tcnt_eq _ _ _ _ _ hi hdg ?_
              by_cases h3 : i = 3
              · exact Or.inl h3
              · refine Or.inr ?_
                cases hq : tdig (X 6) (X 0 7) (X 0 8 + i) with
                | false => rfl
                | true =>
                  exfalso
                  unfold tdig at hq
                  simp only [Bool.and_eq_true, decide_eq_true_eq] at hq
                  first
                  | omega
                  | (rw [h6, h8] at c49; exact c49 hq.2)
            have hX : xnumX X k = Y := by rw [hY]; unfold xnumX; rw [hN]
            refine sx_aload_n dX3_number_93 rfl ?_
            refine xs_geti dX3_number_94 fl_X3_174 (by decide) (fun r94 => ?_)
            refine sx_iload_n dX3_number_97 rfl ?_
            refine sx_icmp_le (tgt := 105) dX3_number_98 (by decide) (by first | omega | assumption | (obtain ⟨q1, q2, q3, q4⟩ := hT; omega) | (obtain ⟨q1, q2, q3, q4⟩ := hT; exact ⟨by omega, by omega⟩)) (by first | omega | assumption | (obtain ⟨q1, q2, q3, q4⟩ := hT; omega) | (obtain ⟨q1, q2, q3, q4⟩ := hT; exact ⟨by omega, by omega⟩)) (fun c98 => ?_) (fun c98 => ?_)
            · -- 98t
              refine sx_iconst dX3_number_105 ?_
              exact sx_zret dX3_number_106 rfl (by decide) (by first | (exfalso; omega) | rw [if_pos (by omega)] | rw [if_neg (by omega)]) (by rw [hX])
            · -- 98f
              refine sx_iconst dX3_number_101 ?_
              refine sx_goto (tgt := 106) dX3_number_102 (by decide) ?_
              exact sx_zret dX3_number_106 rfl (by decide) (by first | (exfalso; omega) | rw [if_pos (by omega)] | rw [if_neg (by omega)]) (by rw [hX])
          · -- 49f
            refine sx_aload_n dX3_number_52 rfl ?_
            refine xs_getr (j := 7) dX3_number_53 fl_X3_29 (by decide) rfl ?_
            refine sx_iload_n dX3_number_56 rfl ?_
            refine sx_bipush dX3_number_57 rfl ?_
            refine sx_aload_n dX3_number_59 rfl ?_
            refine xs_getr (j := 7) dX3_number_60 fl_X3_29 (by decide) rfl ?_
            refine sx_iload_n dX3_number_63 rfl ?_
            refine xs_ildo (n := 2) dX3_number_64 (am_inX 7 (by decide)) rfl (by decide) rfl (by decide) (by first | omega | assumption | (obtain ⟨q1, q2, q3, q4⟩ := hT; omega) | (obtain ⟨q1, q2, q3, q4⟩ := hT; exact ⟨by omega, by omega⟩)) (by first | omega | assumption | (obtain ⟨q1, q2, q3, q4⟩ := hT; omega) | (obtain ⟨q1, q2, q3, q4⟩ := hT; exact ⟨by omega, by omega⟩)) rfl (fun r64 => ?_)
            refine sx_imul dX3_number_65 ?_
            refine sx_aload_n dX3_number_66 rfl ?_
            refine xs_getr (j := 6) dX3_number_67 fl_X3_25 (by decide) rfl ?_
            refine sx_aload_n dX3_number_70 rfl ?_
            refine xs_geti dX3_number_71 fl_X3_174 (by decide) (fun r71 => ?_)
            refine xs_cld (n := 60) dX3_number_74 rfl (by decide) (by first | omega | assumption | (obtain ⟨q1, q2, q3, q4⟩ := hT; omega) | (obtain ⟨q1, q2, q3, q4⟩ := hT; exact ⟨by omega, by omega⟩)) (by first | omega | assumption | (obtain ⟨q1, q2, q3, q4⟩ := hT; omega) | (obtain ⟨q1, q2, q3, q4⟩ := hT; exact ⟨by omega, by omega⟩)) rfl (fun r74 => ?_)
            show Sx 1 Y3_number _ _ _ _ [.inl (Y 6 (Y 0 8).toNat), .inl (10 * Y 7 k.toNat), .inl k, .inr (7, 7)] _
            rw [h6, h8] at c49
            refine sx_iadd dX3_number_75 ?_
            refine sx_bipush dX3_number_76 rfl ?_
            refine sx_isub dX3_number_78 ?_
            refine xs_isto (n := 2) dX3_number_79 (am_inX 7 (by decide)) rfl (by decide) rfl (by decide) (by first | omega | assumption | (obtain ⟨q1, q2, q3, q4⟩ := hT; omega) | (obtain ⟨q1, q2, q3, q4⟩ := hT; exact ⟨by omega, by omega⟩)) (by first | omega | assumption | (obtain ⟨q1, q2, q3, q4⟩ := hT; omega) | (obtain ⟨q1, q2, q3, q4⟩ := hT; exact ⟨by omega, by omega⟩)) rfl (by rw [hk, h6, h8]; have i3 : i < 3 := (by omega); have v1 : tval (X 6) (X 0 8) i ≤ 99 := (by have := hvb.2; (repeat' split at this) <;> omega); exact ⟨by omega, by omega⟩) ?_
            refine sx_aload_n dX3_number_80 rfl ?_
            refine sx_dup dX3_number_81 ?_
            refine xs_geti dX3_number_82 fl_X3_174 (by decide) (fun r82 => ?_)
            show Sx 1 Y3_number _ _ _ _ [.inl (Y 0 8), .inr (7, 0)] _
            refine sx_iconst dX3_number_85 ?_
            refine sx_iadd dX3_number_86 ?_
            refine xs_put dX3_number_87 fl_X3_174 (by decide) (by first | omega | assumption | (obtain ⟨q1, q2, q3, q4⟩ := hT; omega) | (obtain ⟨q1, q2, q3, q4⟩ := hT; exact ⟨by omega, by omega⟩)) ?_
            refine sx_goto (tgt := 12) dX3_number_90 (by decide) ?_
            have hdi : tdig (X 6) (X 0 7) (X 0 8 + i) = true := by
              unfold tdig
              rw [h7, h8] at c20
              simp only [Bool.and_eq_true, decide_eq_true_eq]
              exact ⟨c20, c49⟩
            refine sx_heq (xh h0 (am_u2 (am_u2 X 7 k.toNat (tval (X 6) (X 0 8) (i + 1))) 0 8 (X 0 8 + ((i + 1 : Nat) : Int))) S) ?_ (ih12 _ (by omega) (i + 1) _ rfl (by omega) rfl (fun j hj => by
              by_cases hji : j = i
              · rw [hji]; exact hdi
              · exact hdg j (by omega)))
            have e1 : 10 * Y 7 k.toNat + Y 6 (Y 0 8).toNat - 48 = tval (X 6) (X 0 8) (i + 1) := by rw [hk, h6, h8]; rfl
            rw [e1, h8]
            rw [hY, am_u78, show X 0 8 + (i : Int) + 1 = X 0 8 + ((i + 1 : Nat) : Int) by omega]
  refine sx_heq (xh h0 (am_u2 (am_u2 X 7 k.toNat (tval (X 6) (X 0 8) 0)) 0 8 (X 0 8 + ((0 : Nat) : Int))) S) (by rw [show X 0 8 + ((0 : Nat) : Int) = am_u2 X 7 k.toNat (tval (X 6) (X 0 8) 0) 0 8 from by rw [am_u2_rd _ _ (Or.inl (by decide))]; omega, am_u2_id]; rfl) ?_
  exact loop12 _ 0 _ rfl (by omega) rfl (fun j hj => absurd hj (Nat.not_lt_zero j))
set_option maxHeartbeats 4000000 in
set_option maxRecDepth 100000 in
theorem tx_readsForm {h0 : am_H} {X : am_M} {S : Nat → Int} (L : Int) (hL9 : am_R L) (hT : TX X)  : Ct 2 Y3_readsForm [.inr (7, 0), .inl L] (some (.inl (if (xrf X L).1 = true then 1 else 0))) (xh h0 X S) (xh h0 (xrf X L).2 S) := by
  refine Ct_of (by decide +kernel) (Nat.le_of_ble_eq_true rfl) ?_
  show Sx 2 Y3_readsForm (xh h0 (xrf X L).2 S) (some (.inl (if (xrf X L).1 = true then 1 else 0))) 0 [some (.inr (7, 0)), some (.inl L), none, none] [] (xh h0 X S)
  refine xs_vh (fun hR hRX => ?_)
  refine sx_iload_n dX3_readsForm_0 rfl ?_
  refine sx_bipush dX3_readsForm_1 rfl ?_
  refine sx_icmp_eq (tgt := 12) dX3_readsForm_3 (by decide) (by first | omega | assumption | (obtain ⟨q1, q2, q3, q4⟩ := hT; omega) | (obtain ⟨q1, q2, q3, q4⟩ := hT; exact ⟨by omega, by omega⟩)) ⟨by decide, by decide⟩ (fun c3 => ?_) (fun c3 => ?_)
  · -- 3t
    refine sx_iconst dX3_readsForm_12 ?_
    refine sx_goto (tgt := 17) dX3_readsForm_13 (by decide) ?_
    refine sx_istore_n dX3_readsForm_17 (by decide) ?_
    refine sx_iload_n dX3_readsForm_18 rfl ?_
    refine sx_if_ne (tgt := 46) dX3_readsForm_19 (by decide) ⟨by decide, by decide⟩ (fun _ => ?_) (fun q => absurd q (by decide))
    refine sx_aload_n dX3_readsForm_46 rfl ?_
    refine sx_iconst dX3_readsForm_47 ?_
    refine sx_callVi dX3_readsForm_48 ml_X3_177 mv3_number (tx_number _ (Or.inl rfl) hT) rfl am_obX rfl (Nat.le_of_ble_eq_true rfl) (Nat.le_of_ble_eq_true rfl) ?_
    refine sx_ifB_eq (tgt := 58) dX3_readsForm_51 (by decide) (fun c51 => ?_) (fun c51 => ?_)
    · -- 51t
      refine sx_iconst dX3_readsForm_58 ?_
      refine sx_istore_n dX3_readsForm_59 (by decide) ?_
      refine sx_iload_n dX3_readsForm_60 rfl ?_
      refine sx_if_eq (tgt := 98) dX3_readsForm_61 (by decide) ⟨by decide, by decide⟩ (fun _ => ?_) (fun q => absurd q (by decide))
      refine sx_iconst dX3_readsForm_98 ?_
      exact sx_zret dX3_readsForm_99 rfl (by decide) (by (try simp only [Classical.not_not] at *); unfold xrf tok t2; simp [c3, c51]) (by (try simp only [Classical.not_not] at *); unfold xrf tok t2; simp [c3, c51])
    · -- 51f
      refine sx_iconst dX3_readsForm_54 ?_
      refine sx_goto (tgt := 59) dX3_readsForm_55 (by decide) ?_
      refine sx_istore_n dX3_readsForm_59 (by decide) ?_
      refine sx_iload_n dX3_readsForm_60 rfl ?_
      refine sx_if_eq (tgt := 98) dX3_readsForm_61 (by decide) ⟨by decide, by decide⟩ (fun q => absurd q (by decide)) (fun _ => ?_)
      refine sx_iload_n dX3_readsForm_64 rfl ?_
      refine sx_if_eq (tgt := 85) dX3_readsForm_65 (by decide) ⟨by decide, by decide⟩ (fun q => absurd q (by decide)) (fun _ => ?_)
      refine sx_aload_n dX3_readsForm_68 rfl ?_
      refine sx_bipush dX3_readsForm_69 rfl ?_
      refine sx_callVi dX3_readsForm_71 ml_X3_180 mv3_has (tx_has _ (by exact ⟨by decide, by decide⟩) (TX_num hT)) rfl am_obX rfl (Nat.le_of_ble_eq_true rfl) (Nat.le_of_ble_eq_true rfl) ?_
      refine sx_ifB_eq (tgt := 98) dX3_readsForm_74 (by decide) (fun c74 => ?_) (fun c74 => ?_)
      · -- 74t
        refine sx_iconst dX3_readsForm_98 ?_
        exact sx_zret dX3_readsForm_99 rfl (by decide) (by (try simp only [Classical.not_not] at *); unfold xrf tok t2; simp [c3, c51, c74]) (by (try simp only [Classical.not_not] at *); unfold xrf tok t2; simp [c3, c51, c74])
      · -- 74f
        refine sx_aload_n dX3_readsForm_77 rfl ?_
        refine sx_iconst dX3_readsForm_78 ?_
        refine sx_callVi dX3_readsForm_79 ml_X3_177 mv3_number (tx_number _ (Or.inr rfl) (TX_has (TX_num hT))) rfl am_obX rfl (Nat.le_of_ble_eq_true rfl) (Nat.le_of_ble_eq_true rfl) ?_
        refine sx_ifB_eq (tgt := 98) dX3_readsForm_82 (by decide) (fun c82 => ?_) (fun c82 => ?_)
        · -- 82t
          refine sx_iconst dX3_readsForm_98 ?_
          exact sx_zret dX3_readsForm_99 rfl (by decide) (by (try simp only [Classical.not_not] at *); unfold xrf tok t2; simp [c3, c51, c74, c82]) (by (try simp only [Classical.not_not] at *); unfold xrf tok t2; simp [c3, c51, c74, c82])
        · -- 82f
          refine sx_aload_n dX3_readsForm_85 rfl ?_
          refine sx_bipush dX3_readsForm_86 rfl ?_
          refine sx_callVi dX3_readsForm_88 ml_X3_180 mv3_has (tx_has _ (by exact ⟨by decide, by decide⟩) (by first | exact TX_num (TX_has (TX_num hT)) | exact TX_num hT)) rfl am_obX rfl (Nat.le_of_ble_eq_true rfl) (Nat.le_of_ble_eq_true rfl) ?_
          refine sx_ifB_eq (tgt := 98) dX3_readsForm_91 (by decide) (fun c91 => ?_) (fun c91 => ?_)
          · -- 91t
            refine sx_iconst dX3_readsForm_98 ?_
            exact sx_zret dX3_readsForm_99 rfl (by decide) (by (try simp only [Classical.not_not] at *); unfold xrf tok t2; simp [c3, c51, c74, c82, c91]) (by (try simp only [Classical.not_not] at *); unfold xrf tok t2; simp [c3, c51, c74, c82, c91])
          · -- 91f
            refine sx_iconst dX3_readsForm_94 ?_
            refine sx_goto (tgt := 99) dX3_readsForm_95 (by decide) ?_
            exact sx_zret dX3_readsForm_99 rfl (by decide) (by (try simp only [Classical.not_not] at *); unfold xrf tok t2; simp [c3, c51, c74, c82, c91]) (by (try simp only [Classical.not_not] at *); unfold xrf tok t2; simp [c3, c51, c74, c82, c91])
  · -- 3f
    refine sx_iload_n dX3_readsForm_6 rfl ?_
    refine sx_bipush dX3_readsForm_7 rfl ?_
    refine sx_icmp_ne (tgt := 16) dX3_readsForm_9 (by decide) (by first | omega | assumption | (obtain ⟨q1, q2, q3, q4⟩ := hT; omega) | (obtain ⟨q1, q2, q3, q4⟩ := hT; exact ⟨by omega, by omega⟩)) ⟨by decide, by decide⟩ (fun c9 => ?_) (fun c9 => ?_)
    · -- 9t
      refine sx_iconst dX3_readsForm_16 ?_
      refine sx_istore_n dX3_readsForm_17 (by decide) ?_
      refine sx_iload_n dX3_readsForm_18 rfl ?_
      refine sx_if_ne (tgt := 46) dX3_readsForm_19 (by decide) ⟨by decide, by decide⟩ (fun q => absurd q (by decide)) (fun _ => ?_)
      refine sx_iload_n dX3_readsForm_22 rfl ?_
      refine sx_bipush dX3_readsForm_23 rfl ?_
      refine sx_icmp_eq (tgt := 46) dX3_readsForm_25 (by decide) (by first | omega | assumption | (obtain ⟨q1, q2, q3, q4⟩ := hT; omega) | (obtain ⟨q1, q2, q3, q4⟩ := hT; exact ⟨by omega, by omega⟩)) ⟨by decide, by decide⟩ (fun c25 => ?_) (fun c25 => ?_)
      · -- 25t
        refine sx_aload_n dX3_readsForm_46 rfl ?_
        refine sx_iconst dX3_readsForm_47 ?_
        refine sx_callVi dX3_readsForm_48 ml_X3_177 mv3_number (tx_number _ (Or.inl rfl) hT) rfl am_obX rfl (Nat.le_of_ble_eq_true rfl) (Nat.le_of_ble_eq_true rfl) ?_
        refine sx_ifB_eq (tgt := 58) dX3_readsForm_51 (by decide) (fun c51 => ?_) (fun c51 => ?_)
        · -- 51t
          refine sx_iconst dX3_readsForm_58 ?_
          refine sx_istore_n dX3_readsForm_59 (by decide) ?_
          refine sx_iload_n dX3_readsForm_60 rfl ?_
          refine sx_if_eq (tgt := 98) dX3_readsForm_61 (by decide) ⟨by decide, by decide⟩ (fun _ => ?_) (fun q => absurd q (by decide))
          refine sx_iconst dX3_readsForm_98 ?_
          exact sx_zret dX3_readsForm_99 rfl (by decide) (by (try simp only [Classical.not_not] at *); unfold xrf tok t2; simp [c3, c9, c25, c51]) (by (try simp only [Classical.not_not] at *); unfold xrf tok t2; simp [c3, c9, c25, c51])
        · -- 51f
          refine sx_iconst dX3_readsForm_54 ?_
          refine sx_goto (tgt := 59) dX3_readsForm_55 (by decide) ?_
          refine sx_istore_n dX3_readsForm_59 (by decide) ?_
          refine sx_iload_n dX3_readsForm_60 rfl ?_
          refine sx_if_eq (tgt := 98) dX3_readsForm_61 (by decide) ⟨by decide, by decide⟩ (fun q => absurd q (by decide)) (fun _ => ?_)
          refine sx_iload_n dX3_readsForm_64 rfl ?_
          refine sx_if_eq (tgt := 85) dX3_readsForm_65 (by decide) ⟨by decide, by decide⟩ (fun _ => ?_) (fun q => absurd q (by decide))
          refine sx_aload_n dX3_readsForm_85 rfl ?_
          refine sx_bipush dX3_readsForm_86 rfl ?_
          refine sx_callVi dX3_readsForm_88 ml_X3_180 mv3_has (tx_has _ (by exact ⟨by decide, by decide⟩) (by first | exact TX_num (TX_has (TX_num hT)) | exact TX_num hT)) rfl am_obX rfl (Nat.le_of_ble_eq_true rfl) (Nat.le_of_ble_eq_true rfl) ?_
          refine sx_ifB_eq (tgt := 98) dX3_readsForm_91 (by decide) (fun c91 => ?_) (fun c91 => ?_)
          · -- 91t
            refine sx_iconst dX3_readsForm_98 ?_
            exact sx_zret dX3_readsForm_99 rfl (by decide) (by (try simp only [Classical.not_not] at *); unfold xrf tok t2; simp [c3, c9, c25, c51, c91]) (by (try simp only [Classical.not_not] at *); unfold xrf tok t2; simp [c3, c9, c25, c51, c91])
          · -- 91f
            refine sx_iconst dX3_readsForm_94 ?_
            refine sx_goto (tgt := 99) dX3_readsForm_95 (by decide) ?_
            exact sx_zret dX3_readsForm_99 rfl (by decide) (by (try simp only [Classical.not_not] at *); unfold xrf tok t2; simp [c3, c9, c25, c51, c91]) (by (try simp only [Classical.not_not] at *); unfold xrf tok t2; simp [c3, c9, c25, c51, c91])
      · -- 25f
        refine sx_iload_n dX3_readsForm_28 rfl ?_
        refine sx_bipush dX3_readsForm_29 rfl ?_
        refine sx_icmp_eq (tgt := 46) dX3_readsForm_31 (by decide) (by first | omega | assumption | (obtain ⟨q1, q2, q3, q4⟩ := hT; omega) | (obtain ⟨q1, q2, q3, q4⟩ := hT; exact ⟨by omega, by omega⟩)) ⟨by decide, by decide⟩ (fun c31 => ?_) (fun c31 => ?_)
        · -- 31t
          refine sx_aload_n dX3_readsForm_46 rfl ?_
          refine sx_iconst dX3_readsForm_47 ?_
          refine sx_callVi dX3_readsForm_48 ml_X3_177 mv3_number (tx_number _ (Or.inl rfl) hT) rfl am_obX rfl (Nat.le_of_ble_eq_true rfl) (Nat.le_of_ble_eq_true rfl) ?_
          refine sx_ifB_eq (tgt := 58) dX3_readsForm_51 (by decide) (fun c51 => ?_) (fun c51 => ?_)
          · -- 51t
            refine sx_iconst dX3_readsForm_58 ?_
            refine sx_istore_n dX3_readsForm_59 (by decide) ?_
            refine sx_iload_n dX3_readsForm_60 rfl ?_
            refine sx_if_eq (tgt := 98) dX3_readsForm_61 (by decide) ⟨by decide, by decide⟩ (fun _ => ?_) (fun q => absurd q (by decide))
            refine sx_iconst dX3_readsForm_98 ?_
            exact sx_zret dX3_readsForm_99 rfl (by decide) (by (try simp only [Classical.not_not] at *); unfold xrf tok t2; simp [c3, c9, c25, c31, c51]) (by (try simp only [Classical.not_not] at *); unfold xrf tok t2; simp [c3, c9, c25, c31, c51])
          · -- 51f
            refine sx_iconst dX3_readsForm_54 ?_
            refine sx_goto (tgt := 59) dX3_readsForm_55 (by decide) ?_
            refine sx_istore_n dX3_readsForm_59 (by decide) ?_
            refine sx_iload_n dX3_readsForm_60 rfl ?_
            refine sx_if_eq (tgt := 98) dX3_readsForm_61 (by decide) ⟨by decide, by decide⟩ (fun q => absurd q (by decide)) (fun _ => ?_)
            refine sx_iload_n dX3_readsForm_64 rfl ?_
            refine sx_if_eq (tgt := 85) dX3_readsForm_65 (by decide) ⟨by decide, by decide⟩ (fun _ => ?_) (fun q => absurd q (by decide))
            refine sx_aload_n dX3_readsForm_85 rfl ?_
            refine sx_bipush dX3_readsForm_86 rfl ?_
            refine sx_callVi dX3_readsForm_88 ml_X3_180 mv3_has (tx_has _ (by exact ⟨by decide, by decide⟩) (by first | exact TX_num (TX_has (TX_num hT)) | exact TX_num hT)) rfl am_obX rfl (Nat.le_of_ble_eq_true rfl) (Nat.le_of_ble_eq_true rfl) ?_
            refine sx_ifB_eq (tgt := 98) dX3_readsForm_91 (by decide) (fun c91 => ?_) (fun c91 => ?_)
            · -- 91t
              refine sx_iconst dX3_readsForm_98 ?_
              exact sx_zret dX3_readsForm_99 rfl (by decide) (by (try simp only [Classical.not_not] at *); unfold xrf tok t2; simp [c3, c9, c25, c31, c51, c91]) (by (try simp only [Classical.not_not] at *); unfold xrf tok t2; simp [c3, c9, c25, c31, c51, c91])
            · -- 91f
              refine sx_iconst dX3_readsForm_94 ?_
              refine sx_goto (tgt := 99) dX3_readsForm_95 (by decide) ?_
              exact sx_zret dX3_readsForm_99 rfl (by decide) (by (try simp only [Classical.not_not] at *); unfold xrf tok t2; simp [c3, c9, c25, c31, c51, c91]) (by (try simp only [Classical.not_not] at *); unfold xrf tok t2; simp [c3, c9, c25, c31, c51, c91])
        · -- 31f
          refine sx_iload_n dX3_readsForm_34 rfl ?_
          refine sx_bipush dX3_readsForm_35 rfl ?_
          refine sx_icmp_eq (tgt := 46) dX3_readsForm_37 (by decide) (by first | omega | assumption | (obtain ⟨q1, q2, q3, q4⟩ := hT; omega) | (obtain ⟨q1, q2, q3, q4⟩ := hT; exact ⟨by omega, by omega⟩)) ⟨by decide, by decide⟩ (fun c37 => ?_) (fun c37 => ?_)
          · -- 37t
            refine sx_aload_n dX3_readsForm_46 rfl ?_
            refine sx_iconst dX3_readsForm_47 ?_
            refine sx_callVi dX3_readsForm_48 ml_X3_177 mv3_number (tx_number _ (Or.inl rfl) hT) rfl am_obX rfl (Nat.le_of_ble_eq_true rfl) (Nat.le_of_ble_eq_true rfl) ?_
            refine sx_ifB_eq (tgt := 58) dX3_readsForm_51 (by decide) (fun c51 => ?_) (fun c51 => ?_)
            · -- 51t
              refine sx_iconst dX3_readsForm_58 ?_
              refine sx_istore_n dX3_readsForm_59 (by decide) ?_
              refine sx_iload_n dX3_readsForm_60 rfl ?_
              refine sx_if_eq (tgt := 98) dX3_readsForm_61 (by decide) ⟨by decide, by decide⟩ (fun _ => ?_) (fun q => absurd q (by decide))
              refine sx_iconst dX3_readsForm_98 ?_
              exact sx_zret dX3_readsForm_99 rfl (by decide) (by (try simp only [Classical.not_not] at *); unfold xrf tok t2; simp [c3, c9, c25, c31, c37, c51]) (by (try simp only [Classical.not_not] at *); unfold xrf tok t2; simp [c3, c9, c25, c31, c37, c51])
            · -- 51f
              refine sx_iconst dX3_readsForm_54 ?_
              refine sx_goto (tgt := 59) dX3_readsForm_55 (by decide) ?_
              refine sx_istore_n dX3_readsForm_59 (by decide) ?_
              refine sx_iload_n dX3_readsForm_60 rfl ?_
              refine sx_if_eq (tgt := 98) dX3_readsForm_61 (by decide) ⟨by decide, by decide⟩ (fun q => absurd q (by decide)) (fun _ => ?_)
              refine sx_iload_n dX3_readsForm_64 rfl ?_
              refine sx_if_eq (tgt := 85) dX3_readsForm_65 (by decide) ⟨by decide, by decide⟩ (fun _ => ?_) (fun q => absurd q (by decide))
              refine sx_aload_n dX3_readsForm_85 rfl ?_
              refine sx_bipush dX3_readsForm_86 rfl ?_
              refine sx_callVi dX3_readsForm_88 ml_X3_180 mv3_has (tx_has _ (by exact ⟨by decide, by decide⟩) (by first | exact TX_num (TX_has (TX_num hT)) | exact TX_num hT)) rfl am_obX rfl (Nat.le_of_ble_eq_true rfl) (Nat.le_of_ble_eq_true rfl) ?_
              refine sx_ifB_eq (tgt := 98) dX3_readsForm_91 (by decide) (fun c91 => ?_) (fun c91 => ?_)
              · -- 91t
                refine sx_iconst dX3_readsForm_98 ?_
                exact sx_zret dX3_readsForm_99 rfl (by decide) (by (try simp only [Classical.not_not] at *); unfold xrf tok t2; simp [c3, c9, c25, c31, c37, c51, c91]) (by (try simp only [Classical.not_not] at *); unfold xrf tok t2; simp [c3, c9, c25, c31, c37, c51, c91])
              · -- 91f
                refine sx_iconst dX3_readsForm_94 ?_
                refine sx_goto (tgt := 99) dX3_readsForm_95 (by decide) ?_
                exact sx_zret dX3_readsForm_99 rfl (by decide) (by (try simp only [Classical.not_not] at *); unfold xrf tok t2; simp [c3, c9, c25, c31, c37, c51, c91]) (by (try simp only [Classical.not_not] at *); unfold xrf tok t2; simp [c3, c9, c25, c31, c37, c51, c91])
          · -- 37f
            refine sx_iload_n dX3_readsForm_40 rfl ?_
            refine sx_bipush dX3_readsForm_41 rfl ?_
            refine sx_icmp_ne (tgt := 58) dX3_readsForm_43 (by decide) (by first | omega | assumption | (obtain ⟨q1, q2, q3, q4⟩ := hT; omega) | (obtain ⟨q1, q2, q3, q4⟩ := hT; exact ⟨by omega, by omega⟩)) ⟨by decide, by decide⟩ (fun c43 => ?_) (fun c43 => ?_)
            · -- 43t
              refine sx_iconst dX3_readsForm_58 ?_
              refine sx_istore_n dX3_readsForm_59 (by decide) ?_
              refine sx_iload_n dX3_readsForm_60 rfl ?_
              refine sx_if_eq (tgt := 98) dX3_readsForm_61 (by decide) ⟨by decide, by decide⟩ (fun _ => ?_) (fun q => absurd q (by decide))
              refine sx_iconst dX3_readsForm_98 ?_
              exact sx_zret dX3_readsForm_99 rfl (by decide) (by (try simp only [Classical.not_not] at *); unfold xrf tok t2; simp [c3, c9, c25, c31, c37, c43]) (by (try simp only [Classical.not_not] at *); unfold xrf tok t2; simp [c3, c9, c25, c31, c37, c43])
            · -- 43f
              refine sx_aload_n dX3_readsForm_46 rfl ?_
              refine sx_iconst dX3_readsForm_47 ?_
              refine sx_callVi dX3_readsForm_48 ml_X3_177 mv3_number (tx_number _ (Or.inl rfl) hT) rfl am_obX rfl (Nat.le_of_ble_eq_true rfl) (Nat.le_of_ble_eq_true rfl) ?_
              refine sx_ifB_eq (tgt := 58) dX3_readsForm_51 (by decide) (fun c51 => ?_) (fun c51 => ?_)
              · -- 51t
                refine sx_iconst dX3_readsForm_58 ?_
                refine sx_istore_n dX3_readsForm_59 (by decide) ?_
                refine sx_iload_n dX3_readsForm_60 rfl ?_
                refine sx_if_eq (tgt := 98) dX3_readsForm_61 (by decide) ⟨by decide, by decide⟩ (fun _ => ?_) (fun q => absurd q (by decide))
                refine sx_iconst dX3_readsForm_98 ?_
                exact sx_zret dX3_readsForm_99 rfl (by decide) (by (try simp only [Classical.not_not] at *); unfold xrf tok t2; simp [c3, c9, c25, c31, c37, c43, c51]) (by (try simp only [Classical.not_not] at *); unfold xrf tok t2; simp [c3, c9, c25, c31, c37, c43, c51])
              · -- 51f
                refine sx_iconst dX3_readsForm_54 ?_
                refine sx_goto (tgt := 59) dX3_readsForm_55 (by decide) ?_
                refine sx_istore_n dX3_readsForm_59 (by decide) ?_
                refine sx_iload_n dX3_readsForm_60 rfl ?_
                refine sx_if_eq (tgt := 98) dX3_readsForm_61 (by decide) ⟨by decide, by decide⟩ (fun q => absurd q (by decide)) (fun _ => ?_)
                refine sx_iload_n dX3_readsForm_64 rfl ?_
                refine sx_if_eq (tgt := 85) dX3_readsForm_65 (by decide) ⟨by decide, by decide⟩ (fun _ => ?_) (fun q => absurd q (by decide))
                refine sx_aload_n dX3_readsForm_85 rfl ?_
                refine sx_bipush dX3_readsForm_86 rfl ?_
                refine sx_callVi dX3_readsForm_88 ml_X3_180 mv3_has (tx_has _ (by exact ⟨by decide, by decide⟩) (by first | exact TX_num (TX_has (TX_num hT)) | exact TX_num hT)) rfl am_obX rfl (Nat.le_of_ble_eq_true rfl) (Nat.le_of_ble_eq_true rfl) ?_
                refine sx_ifB_eq (tgt := 98) dX3_readsForm_91 (by decide) (fun c91 => ?_) (fun c91 => ?_)
                · -- 91t
                  refine sx_iconst dX3_readsForm_98 ?_
                  exact sx_zret dX3_readsForm_99 rfl (by decide) (by (try simp only [Classical.not_not] at *); unfold xrf tok t2; simp [c3, c9, c25, c31, c37, c43, c51, c91]) (by (try simp only [Classical.not_not] at *); unfold xrf tok t2; simp [c3, c9, c25, c31, c37, c43, c51, c91])
                · -- 91f
                  refine sx_iconst dX3_readsForm_94 ?_
                  refine sx_goto (tgt := 99) dX3_readsForm_95 (by decide) ?_
                  exact sx_zret dX3_readsForm_99 rfl (by decide) (by (try simp only [Classical.not_not] at *); unfold xrf tok t2; simp [c3, c9, c25, c31, c37, c43, c51, c91]) (by (try simp only [Classical.not_not] at *); unfold xrf tok t2; simp [c3, c9, c25, c31, c37, c43, c51, c91])
    · -- 9f
      refine sx_iconst dX3_readsForm_12 ?_
      refine sx_goto (tgt := 17) dX3_readsForm_13 (by decide) ?_
      refine sx_istore_n dX3_readsForm_17 (by decide) ?_
      refine sx_iload_n dX3_readsForm_18 rfl ?_
      refine sx_if_ne (tgt := 46) dX3_readsForm_19 (by decide) ⟨by decide, by decide⟩ (fun _ => ?_) (fun q => absurd q (by decide))
      refine sx_aload_n dX3_readsForm_46 rfl ?_
      refine sx_iconst dX3_readsForm_47 ?_
      refine sx_callVi dX3_readsForm_48 ml_X3_177 mv3_number (tx_number _ (Or.inl rfl) hT) rfl am_obX rfl (Nat.le_of_ble_eq_true rfl) (Nat.le_of_ble_eq_true rfl) ?_
      refine sx_ifB_eq (tgt := 58) dX3_readsForm_51 (by decide) (fun c51 => ?_) (fun c51 => ?_)
      · -- 51t
        refine sx_iconst dX3_readsForm_58 ?_
        refine sx_istore_n dX3_readsForm_59 (by decide) ?_
        refine sx_iload_n dX3_readsForm_60 rfl ?_
        refine sx_if_eq (tgt := 98) dX3_readsForm_61 (by decide) ⟨by decide, by decide⟩ (fun _ => ?_) (fun q => absurd q (by decide))
        refine sx_iconst dX3_readsForm_98 ?_
        exact sx_zret dX3_readsForm_99 rfl (by decide) (by (try simp only [Classical.not_not] at *); unfold xrf tok t2; simp [c3, c9, c51]) (by (try simp only [Classical.not_not] at *); unfold xrf tok t2; simp [c3, c9, c51])
      · -- 51f
        refine sx_iconst dX3_readsForm_54 ?_
        refine sx_goto (tgt := 59) dX3_readsForm_55 (by decide) ?_
        refine sx_istore_n dX3_readsForm_59 (by decide) ?_
        refine sx_iload_n dX3_readsForm_60 rfl ?_
        refine sx_if_eq (tgt := 98) dX3_readsForm_61 (by decide) ⟨by decide, by decide⟩ (fun q => absurd q (by decide)) (fun _ => ?_)
        refine sx_iload_n dX3_readsForm_64 rfl ?_
        refine sx_if_eq (tgt := 85) dX3_readsForm_65 (by decide) ⟨by decide, by decide⟩ (fun q => absurd q (by decide)) (fun _ => ?_)
        refine sx_aload_n dX3_readsForm_68 rfl ?_
        refine sx_bipush dX3_readsForm_69 rfl ?_
        refine sx_callVi dX3_readsForm_71 ml_X3_180 mv3_has (tx_has _ (by exact ⟨by decide, by decide⟩) (TX_num hT)) rfl am_obX rfl (Nat.le_of_ble_eq_true rfl) (Nat.le_of_ble_eq_true rfl) ?_
        refine sx_ifB_eq (tgt := 98) dX3_readsForm_74 (by decide) (fun c74 => ?_) (fun c74 => ?_)
        · -- 74t
          refine sx_iconst dX3_readsForm_98 ?_
          exact sx_zret dX3_readsForm_99 rfl (by decide) (by (try simp only [Classical.not_not] at *); unfold xrf tok t2; simp [c3, c9, c51, c74]) (by (try simp only [Classical.not_not] at *); unfold xrf tok t2; simp [c3, c9, c51, c74])
        · -- 74f
          refine sx_aload_n dX3_readsForm_77 rfl ?_
          refine sx_iconst dX3_readsForm_78 ?_
          refine sx_callVi dX3_readsForm_79 ml_X3_177 mv3_number (tx_number _ (Or.inr rfl) (TX_has (TX_num hT))) rfl am_obX rfl (Nat.le_of_ble_eq_true rfl) (Nat.le_of_ble_eq_true rfl) ?_
          refine sx_ifB_eq (tgt := 98) dX3_readsForm_82 (by decide) (fun c82 => ?_) (fun c82 => ?_)
          · -- 82t
            refine sx_iconst dX3_readsForm_98 ?_
            exact sx_zret dX3_readsForm_99 rfl (by decide) (by (try simp only [Classical.not_not] at *); unfold xrf tok t2; simp [c3, c9, c51, c74, c82]) (by (try simp only [Classical.not_not] at *); unfold xrf tok t2; simp [c3, c9, c51, c74, c82])
          · -- 82f
            refine sx_aload_n dX3_readsForm_85 rfl ?_
            refine sx_bipush dX3_readsForm_86 rfl ?_
            refine sx_callVi dX3_readsForm_88 ml_X3_180 mv3_has (tx_has _ (by exact ⟨by decide, by decide⟩) (by first | exact TX_num (TX_has (TX_num hT)) | exact TX_num hT)) rfl am_obX rfl (Nat.le_of_ble_eq_true rfl) (Nat.le_of_ble_eq_true rfl) ?_
            refine sx_ifB_eq (tgt := 98) dX3_readsForm_91 (by decide) (fun c91 => ?_) (fun c91 => ?_)
            · -- 91t
              refine sx_iconst dX3_readsForm_98 ?_
              exact sx_zret dX3_readsForm_99 rfl (by decide) (by (try simp only [Classical.not_not] at *); unfold xrf tok t2; simp [c3, c9, c51, c74, c82, c91]) (by (try simp only [Classical.not_not] at *); unfold xrf tok t2; simp [c3, c9, c51, c74, c82, c91])
            · -- 91f
              refine sx_iconst dX3_readsForm_94 ?_
              refine sx_goto (tgt := 99) dX3_readsForm_95 (by decide) ?_
              exact sx_zret dX3_readsForm_99 rfl (by decide) (by (try simp only [Classical.not_not] at *); unfold xrf tok t2; simp [c3, c9, c51, c74, c82, c91]) (by (try simp only [Classical.not_not] at *); unfold xrf tok t2; simp [c3, c9, c51, c74, c82, c91])
