set_option maxHeartbeats 4000000 in
set_option maxRecDepth 100000 in
theorem tz_readNumber {h0 : am_H} {O : am_M} (hT : TO O)  : Ct 0 Y1_readNumber [.inr (6, 2)] (some (.inl (onR O))) (am_U h0 6 O) (am_U h0 6 (onX O)) := by
  refine Ct_of (by decide +kernel) (Nat.le_of_ble_eq_true rfl) ?_
  show Sx 0 Y1_readNumber (am_U h0 6 (onX O)) (some (.inl (onR O))) 0 [some (.inr (6, 2)), none, none] [] (am_U h0 6 O)
  refine oo_vh (fun hR => ?_)
  obtain ⟨q1, q2, q3, q4⟩ := id hT
  refine sx_iconst dX1_readNumber_0 ?_
  refine sx_istore_n dX1_readNumber_1 (by decide) ?_
  refine sx_iconst dX1_readNumber_2 ?_
  refine sx_istore_n dX1_readNumber_3 (by decide) ?_
  have loop4 : ∀ (n : Nat) (i : Nat) (N : am_M), (3 - i) = n → i ≤ 3 → N = am_u2 O 2 4 (O 2 4 + i) → (∀ j : Nat, j < i → tdig (O 3) (O 2 1) (O 2 4 + j) = true) → Sx 0 Y1_readNumber (am_U h0 6 (onX O)) (some (.inl (onR O))) 4 [some (.inr (6, 2)), some (.inl (tval (O 3) (O 2 4) i)), some (.inl (i : Int))] [] (am_U h0 6 N) := by
    intro n
    induction n using Nat.strongRecOn with
    | _ n ih4 =>
      intro i N hn hi hY hdg
      have h4 : N 2 4 = O 2 4 + i := by rw [hY, am_u2_hit]
      have h1 : N 2 1 = O 2 1 := by rw [hY, am_u2_rd _ _ (Or.inr (by decide))]
      have h3 : N 3 = O 3 := by rw [hY, am_u2_ne _ _ _ (by decide)]
      have hvb := tval_b (O 3) (O 2 1) (O 2 4) i hi hdg
      have hi2 : 0 < i → O 2 4 + i ≤ O 2 1 := by
        intro hp
        have := hdg (i - 1) (by omega)
        unfold tdig at this
        simp only [Bool.and_eq_true, decide_eq_true_eq] at this
        omega
      refine sx_iload_n dX1_readNumber_4 rfl ?_
      refine sx_iconst dX1_readNumber_5 ?_
      refine sx_icmp_ge (tgt := 82) dX1_readNumber_6 (by decide) (by first | omega | assumption | (with_reducible first | exact hR _ _ | exact rd_R hR _ _ | exact am_R_and _ _ | exact am_R_or _ _ | exact am_R_xor _ _ | exact am_R_shl _ _ | exact am_R_shr _ _ | exact bit_R _ _) | (exact ⟨by omega, by omega⟩) | exact hR _ _) ⟨by decide, by decide⟩ (fun c6 => ?_) (fun c6 => ?_)
      · -- 6t
        have hN : onN O = i := by
          refine tcnt_eq _ _ _ _ _ hi hdg ?_
          by_cases h3i : i = 3
          · exact Or.inl h3i
          · refine Or.inr ?_
            cases hq : tdig (O 3) (O 2 1) (O 2 4 + i) with
            | false => rfl
            | true =>
              exfalso
              unfold tdig at hq
              simp only [Bool.and_eq_true, decide_eq_true_eq] at hq
              rw [← h4, ← h3] at hq
              omega
        have hX : onX O = N := by rw [hY]; unfold onX; rw [hN]
        refine sx_iload_n dX1_readNumber_82 rfl ?_
        refine sx_if_ne (tgt := 90) dX1_readNumber_83 (by decide) (by first | omega | assumption | (with_reducible first | exact hR _ _ | exact rd_R hR _ _ | exact am_R_and _ _ | exact am_R_or _ _ | exact am_R_xor _ _ | exact am_R_shl _ _ | exact am_R_shr _ _ | exact bit_R _ _) | (exact ⟨by omega, by omega⟩) | exact hR _ _) (fun c83 => ?_) (fun c83 => ?_)
        · -- 83t
          refine sx_iload_n dX1_readNumber_90 rfl ?_
          exact sx_iret dX1_readNumber_91 rfl (by unfold onR; rw [hN]; first | rw [if_pos (by omega)] | rw [if_neg (by omega)]) (by rw [hX])
        · -- 83f
          refine sx_iconst dX1_readNumber_86 ?_
          refine sx_goto (tgt := 91) dX1_readNumber_87 (by decide) ?_
          exact sx_iret dX1_readNumber_91 rfl (by unfold onR; rw [hN]; first | rw [if_pos (by omega)] | rw [if_neg (by omega)]) (by rw [hX])
      · -- 6f
        refine sx_aload_n dX1_readNumber_9 rfl ?_
        refine oo_geti dX1_readNumber_10 fl_X1_15 (by decide) (fun r10 => ?_)
        refine sx_aload_n dX1_readNumber_13 rfl ?_
        refine oo_geti dX1_readNumber_14 fl_X1_22 (by decide) (fun r14 => ?_)
        refine sx_icmp_ge (tgt := 82) dX1_readNumber_17 (by decide) (by first | omega | assumption | (with_reducible first | exact hR _ _ | exact rd_R hR _ _ | exact am_R_and _ _ | exact am_R_or _ _ | exact am_R_xor _ _ | exact am_R_shl _ _ | exact am_R_shr _ _ | exact bit_R _ _) | (exact ⟨by omega, by omega⟩) | exact hR _ _) (by first | omega | assumption | (with_reducible first | exact hR _ _ | exact rd_R hR _ _ | exact am_R_and _ _ | exact am_R_or _ _ | exact am_R_xor _ _ | exact am_R_shl _ _ | exact am_R_shr _ _ | exact bit_R _ _) | (exact ⟨by omega, by omega⟩) | exact hR _ _) (fun c17 => ?_) (fun c17 => ?_)
        · -- 17t
          have hN : onN O = i := by
            refine tcnt_eq _ _ _ _ _ hi hdg ?_
            by_cases h3i : i = 3
            · exact Or.inl h3i
            · refine Or.inr ?_
              cases hq : tdig (O 3) (O 2 1) (O 2 4 + i) with
              | false => rfl
              | true =>
                exfalso
                unfold tdig at hq
                simp only [Bool.and_eq_true, decide_eq_true_eq] at hq
                rw [← h4, ← h3] at hq
                omega
          have hX : onX O = N := by rw [hY]; unfold onX; rw [hN]
          refine sx_iload_n dX1_readNumber_82 rfl ?_
          refine sx_if_ne (tgt := 90) dX1_readNumber_83 (by decide) (by first | omega | assumption | (with_reducible first | exact hR _ _ | exact rd_R hR _ _ | exact am_R_and _ _ | exact am_R_or _ _ | exact am_R_xor _ _ | exact am_R_shl _ _ | exact am_R_shr _ _ | exact bit_R _ _) | (exact ⟨by omega, by omega⟩) | exact hR _ _) (fun c83 => ?_) (fun c83 => ?_)
          · -- 83t
            refine sx_iload_n dX1_readNumber_90 rfl ?_
            exact sx_iret dX1_readNumber_91 rfl (by unfold onR; rw [hN]; first | rw [if_pos (by omega)] | rw [if_neg (by omega)]) (by rw [hX])
          · -- 83f
            refine sx_iconst dX1_readNumber_86 ?_
            refine sx_goto (tgt := 91) dX1_readNumber_87 (by decide) ?_
            exact sx_iret dX1_readNumber_91 rfl (by unfold onR; rw [hN]; first | rw [if_pos (by omega)] | rw [if_neg (by omega)]) (by rw [hX])
        · -- 17f
          refine sx_aload_n dX1_readNumber_20 rfl ?_
          refine oo_getr dX1_readNumber_21 fl_X1_9 ?_
          refine sx_aload_n dX1_readNumber_24 rfl ?_
          refine oo_geti dX1_readNumber_25 fl_X1_15 (by decide) (fun r25 => ?_)
          refine oo_cld dX1_readNumber_28 (by first | omega | assumption | (with_reducible first | exact hR _ _ | exact rd_R hR _ _ | exact am_R_and _ _ | exact am_R_or _ _ | exact am_R_xor _ _ | exact am_R_shl _ _ | exact am_R_shr _ _ | exact bit_R _ _) | (exact ⟨by omega, by omega⟩) | exact hR _ _) (by first | omega | assumption | (with_reducible first | exact hR _ _ | exact rd_R hR _ _ | exact am_R_and _ _ | exact am_R_or _ _ | exact am_R_xor _ _ | exact am_R_shl _ _ | exact am_R_shr _ _ | exact bit_R _ _) | (exact ⟨by omega, by omega⟩) | exact hR _ _) rfl (fun r28 => ?_)
          refine sx_bipush dX1_readNumber_29 rfl ?_
          refine sx_icmp_lt (tgt := 82) dX1_readNumber_31 (by decide) (by first | omega | assumption | (with_reducible first | exact hR _ _ | exact rd_R hR _ _ | exact am_R_and _ _ | exact am_R_or _ _ | exact am_R_xor _ _ | exact am_R_shl _ _ | exact am_R_shr _ _ | exact bit_R _ _) | (exact ⟨by omega, by omega⟩) | exact hR _ _) ⟨by decide, by decide⟩ (fun c31 => ?_) (fun c31 => ?_)
          · -- 31t
            have hN : onN O = i := by
              refine tcnt_eq _ _ _ _ _ hi hdg ?_
              by_cases h3i : i = 3
              · exact Or.inl h3i
              · refine Or.inr ?_
                cases hq : tdig (O 3) (O 2 1) (O 2 4 + i) with
                | false => rfl
                | true =>
                  exfalso
                  unfold tdig at hq
                  simp only [Bool.and_eq_true, decide_eq_true_eq] at hq
                  rw [← h4, ← h3] at hq
                  omega
            have hX : onX O = N := by rw [hY]; unfold onX; rw [hN]
            refine sx_iload_n dX1_readNumber_82 rfl ?_
            refine sx_if_ne (tgt := 90) dX1_readNumber_83 (by decide) (by first | omega | assumption | (with_reducible first | exact hR _ _ | exact rd_R hR _ _ | exact am_R_and _ _ | exact am_R_or _ _ | exact am_R_xor _ _ | exact am_R_shl _ _ | exact am_R_shr _ _ | exact bit_R _ _) | (exact ⟨by omega, by omega⟩) | exact hR _ _) (fun c83 => ?_) (fun c83 => ?_)
            · -- 83t
              refine sx_iload_n dX1_readNumber_90 rfl ?_
              exact sx_iret dX1_readNumber_91 rfl (by unfold onR; rw [hN]; first | rw [if_pos (by omega)] | rw [if_neg (by omega)]) (by rw [hX])
            · -- 83f
              refine sx_iconst dX1_readNumber_86 ?_
              refine sx_goto (tgt := 91) dX1_readNumber_87 (by decide) ?_
              exact sx_iret dX1_readNumber_91 rfl (by unfold onR; rw [hN]; first | rw [if_pos (by omega)] | rw [if_neg (by omega)]) (by rw [hX])
          · -- 31f
            refine sx_aload_n dX1_readNumber_34 rfl ?_
            refine oo_getr dX1_readNumber_35 fl_X1_9 ?_
            refine sx_aload_n dX1_readNumber_38 rfl ?_
            refine oo_geti dX1_readNumber_39 fl_X1_15 (by decide) (fun r39 => ?_)
            refine oo_cld dX1_readNumber_42 (by first | omega | assumption | (with_reducible first | exact hR _ _ | exact rd_R hR _ _ | exact am_R_and _ _ | exact am_R_or _ _ | exact am_R_xor _ _ | exact am_R_shl _ _ | exact am_R_shr _ _ | exact bit_R _ _) | (exact ⟨by omega, by omega⟩) | exact hR _ _) (by first | omega | assumption | (with_reducible first | exact hR _ _ | exact rd_R hR _ _ | exact am_R_and _ _ | exact am_R_or _ _ | exact am_R_xor _ _ | exact am_R_shl _ _ | exact am_R_shr _ _ | exact bit_R _ _) | (exact ⟨by omega, by omega⟩) | exact hR _ _) rfl (fun r42 => ?_)
            refine sx_bipush dX1_readNumber_43 rfl ?_
            refine sx_icmp_gt (tgt := 82) dX1_readNumber_45 (by decide) (by first | omega | assumption | (with_reducible first | exact hR _ _ | exact rd_R hR _ _ | exact am_R_and _ _ | exact am_R_or _ _ | exact am_R_xor _ _ | exact am_R_shl _ _ | exact am_R_shr _ _ | exact bit_R _ _) | (exact ⟨by omega, by omega⟩) | exact hR _ _) ⟨by decide, by decide⟩ (fun c45 => ?_) (fun c45 => ?_)
            · -- 45t
              have hN : onN O = i := by
                refine tcnt_eq _ _ _ _ _ hi hdg ?_
                by_cases h3i : i = 3
                · exact Or.inl h3i
                · refine Or.inr ?_
                  cases hq : tdig (O 3) (O 2 1) (O 2 4 + i) with
                  | false => rfl
                  | true =>
                    exfalso
                    unfold tdig at hq
                    simp only [Bool.and_eq_true, decide_eq_true_eq] at hq
                    rw [← h4, ← h3] at hq
                    omega
              have hX : onX O = N := by rw [hY]; unfold onX; rw [hN]
              refine sx_iload_n dX1_readNumber_82 rfl ?_
              refine sx_if_ne (tgt := 90) dX1_readNumber_83 (by decide) (by first | omega | assumption | (with_reducible first | exact hR _ _ | exact rd_R hR _ _ | exact am_R_and _ _ | exact am_R_or _ _ | exact am_R_xor _ _ | exact am_R_shl _ _ | exact am_R_shr _ _ | exact bit_R _ _) | (exact ⟨by omega, by omega⟩) | exact hR _ _) (fun c83 => ?_) (fun c83 => ?_)
              · -- 83t
                refine sx_iload_n dX1_readNumber_90 rfl ?_
                exact sx_iret dX1_readNumber_91 rfl (by unfold onR; rw [hN]; first | rw [if_pos (by omega)] | rw [if_neg (by omega)]) (by rw [hX])
              · -- 83f
                refine sx_iconst dX1_readNumber_86 ?_
                refine sx_goto (tgt := 91) dX1_readNumber_87 (by decide) ?_
                exact sx_iret dX1_readNumber_91 rfl (by unfold onR; rw [hN]; first | rw [if_pos (by omega)] | rw [if_neg (by omega)]) (by rw [hX])
            · -- 45f
              refine sx_bipush dX1_readNumber_48 rfl ?_
              refine sx_iload_n dX1_readNumber_50 rfl ?_
              refine sx_imul dX1_readNumber_51 ?_
              refine sx_aload_n dX1_readNumber_52 rfl ?_
              refine oo_getr dX1_readNumber_53 fl_X1_9 ?_
              refine sx_aload_n dX1_readNumber_56 rfl ?_
              refine oo_geti dX1_readNumber_57 fl_X1_15 (by decide) (fun r57 => ?_)
              refine oo_cld dX1_readNumber_60 (by first | omega | assumption | (with_reducible first | exact hR _ _ | exact rd_R hR _ _ | exact am_R_and _ _ | exact am_R_or _ _ | exact am_R_xor _ _ | exact am_R_shl _ _ | exact am_R_shr _ _ | exact bit_R _ _) | (exact ⟨by omega, by omega⟩) | exact hR _ _) (by first | omega | assumption | (with_reducible first | exact hR _ _ | exact rd_R hR _ _ | exact am_R_and _ _ | exact am_R_or _ _ | exact am_R_xor _ _ | exact am_R_shl _ _ | exact am_R_shr _ _ | exact bit_R _ _) | (exact ⟨by omega, by omega⟩) | exact hR _ _) rfl (fun r60 => ?_)
              refine sx_iadd dX1_readNumber_61 ?_
              refine sx_bipush dX1_readNumber_62 rfl ?_
              refine sx_isub dX1_readNumber_64 ?_
              refine sx_istore_n dX1_readNumber_65 (by decide) ?_
              refine sx_aload_n dX1_readNumber_66 rfl ?_
              refine sx_dup dX1_readNumber_67 ?_
              refine oo_geti dX1_readNumber_68 fl_X1_15 (by decide) (fun r68 => ?_)
              refine sx_iconst dX1_readNumber_71 ?_
              refine sx_iadd dX1_readNumber_72 ?_
              refine oo_put dX1_readNumber_73 fl_X1_15 (by decide) (by first | omega | assumption | (with_reducible first | exact hR _ _ | exact rd_R hR _ _ | exact am_R_and _ _ | exact am_R_or _ _ | exact am_R_xor _ _ | exact am_R_shl _ _ | exact am_R_shr _ _ | exact bit_R _ _) | (exact ⟨by omega, by omega⟩) | exact hR _ _) ?_
              refine sx_iinc dX1_readNumber_76 rfl (by decide) ?_
              refine sx_goto (tgt := 4) dX1_readNumber_79 (by decide) ?_
              have hdi : tdig (O 3) (O 2 1) (O 2 4 + i) = true := by
                unfold tdig
                rw [h4, h1] at c17
                rw [h3, h4] at c31 c45
                simp only [Bool.and_eq_true, decide_eq_true_eq]
                exact ⟨c17, c31, c45⟩
              refine sx_heq (am_U h0 6 (am_u2 O 2 4 (O 2 4 + ((i + 1 : Nat) : Int)))) ?_ ?_
              · rw [h4, hY]
                congr 1
                funext p q
                unfold am_u2 am_u1
                by_cases hp : p = 2
                · subst hp
                  by_cases hq : q = 4 <;> simp [hq]
                  omega
                · simp [hp]
              · have e1 : 10 * tval (O 3) (O 2 4) i + N 3 (N 2 4).toNat - 48 = tval (O 3) (O 2 4) (i + 1) := by rw [h3, h4]; rfl
                rw [e1]
                exact ih4 _ (by omega) (i + 1) _ rfl (by omega) rfl (fun j hj => by
                  by_cases hji : j = i
                  · rw [hji]; exact hdi
                  · exact hdg j (by omega))
  refine sx_heq (am_U h0 6 (am_u2 O 2 4 (O 2 4 + ((0 : Nat) : Int)))) (by rw [show O 2 4 + ((0 : Nat) : Int) = O 2 4 by omega, am_u2_id]) ?_
  exact loop4 _ 0 _ rfl (by omega) rfl (fun j hj => absurd hj (Nat.not_lt_zero j))
set_option maxHeartbeats 4000000 in
set_option maxRecDepth 100000 in
theorem tz_skip {h0 : am_H} {O : am_M} (c : Int) (hT : TO O) (hcR : am_R c)  : Ct 0 Y1_skip [.inr (6, 2), .inl c] (some (.inl (if ohas O c = true then 1 else 0))) (am_U h0 6 O) (am_U h0 6 (ohX O c)) := by
  refine Ct_of (by decide +kernel) (Nat.le_of_ble_eq_true rfl) ?_
  show Sx 0 Y1_skip (am_U h0 6 (ohX O c)) (some (.inl (if ohas O c = true then 1 else 0))) 0 [some (.inr (6, 2)), some (.inl c)] [] (am_U h0 6 O)
  refine oo_vh (fun hR => ?_)
  obtain ⟨q1, q2, q3, q4⟩ := id hT
  refine sx_aload_n dX1_skip_0 rfl ?_
  refine oo_geti dX1_skip_1 fl_X1_15 (by decide) (fun r1 => ?_)
  refine sx_aload_n dX1_skip_4 rfl ?_
  refine oo_geti dX1_skip_5 fl_X1_22 (by decide) (fun r5 => ?_)
  refine sx_icmp_ge (tgt := 36) dX1_skip_8 (by decide) (by first | omega | assumption | (with_reducible first | exact hR _ _ | exact rd_R hR _ _ | exact am_R_and _ _ | exact am_R_or _ _ | exact am_R_xor _ _ | exact am_R_shl _ _ | exact am_R_shr _ _ | exact bit_R _ _) | (exact ⟨by omega, by omega⟩) | exact hR _ _) (by first | omega | assumption | (with_reducible first | exact hR _ _ | exact rd_R hR _ _ | exact am_R_and _ _ | exact am_R_or _ _ | exact am_R_xor _ _ | exact am_R_shl _ _ | exact am_R_shr _ _ | exact bit_R _ _) | (exact ⟨by omega, by omega⟩) | exact hR _ _) (fun c8 => ?_) (fun c8 => ?_)
  · -- 8t
    refine sx_iconst dX1_skip_36 ?_
    exact sx_zret dX1_skip_37 rfl (by decide) (by first | rw [if_pos (show ohas O c = true from by unfold ohas; simp; omega)] | rw [if_neg (show ¬ ohas O c = true from by unfold ohas; simp; omega)]) (by unfold ohX; first | rw [if_pos (show ohas O c = true from by unfold ohas; simp; omega)] | rw [if_neg (show ¬ ohas O c = true from by unfold ohas; simp; omega)])
  · -- 8f
    refine sx_aload_n dX1_skip_11 rfl ?_
    refine oo_getr dX1_skip_12 fl_X1_9 ?_
    refine sx_aload_n dX1_skip_15 rfl ?_
    refine oo_geti dX1_skip_16 fl_X1_15 (by decide) (fun r16 => ?_)
    refine oo_cld dX1_skip_19 (by first | omega | assumption | (with_reducible first | exact hR _ _ | exact rd_R hR _ _ | exact am_R_and _ _ | exact am_R_or _ _ | exact am_R_xor _ _ | exact am_R_shl _ _ | exact am_R_shr _ _ | exact bit_R _ _) | (exact ⟨by omega, by omega⟩) | exact hR _ _) (by first | omega | assumption | (with_reducible first | exact hR _ _ | exact rd_R hR _ _ | exact am_R_and _ _ | exact am_R_or _ _ | exact am_R_xor _ _ | exact am_R_shl _ _ | exact am_R_shr _ _ | exact bit_R _ _) | (exact ⟨by omega, by omega⟩) | exact hR _ _) rfl (fun r19 => ?_)
    refine sx_iload_n dX1_skip_20 rfl ?_
    refine sx_icmp_ne (tgt := 36) dX1_skip_21 (by decide) (by first | omega | assumption | (with_reducible first | exact hR _ _ | exact rd_R hR _ _ | exact am_R_and _ _ | exact am_R_or _ _ | exact am_R_xor _ _ | exact am_R_shl _ _ | exact am_R_shr _ _ | exact bit_R _ _) | (exact ⟨by omega, by omega⟩) | exact hR _ _) (by first | omega | assumption | (with_reducible first | exact hR _ _ | exact rd_R hR _ _ | exact am_R_and _ _ | exact am_R_or _ _ | exact am_R_xor _ _ | exact am_R_shl _ _ | exact am_R_shr _ _ | exact bit_R _ _) | (exact ⟨by omega, by omega⟩) | exact hR _ _) (fun c21 => ?_) (fun c21 => ?_)
    · -- 21t
      refine sx_iconst dX1_skip_36 ?_
      exact sx_zret dX1_skip_37 rfl (by decide) (by first | rw [if_pos (show ohas O c = true from by unfold ohas; simp; omega)] | rw [if_neg (show ¬ ohas O c = true from by unfold ohas; simp; omega)]) (by unfold ohX; first | rw [if_pos (show ohas O c = true from by unfold ohas; simp; omega)] | rw [if_neg (show ¬ ohas O c = true from by unfold ohas; simp; omega)])
    · -- 21f
      refine sx_aload_n dX1_skip_24 rfl ?_
      refine sx_dup dX1_skip_25 ?_
      refine oo_geti dX1_skip_26 fl_X1_15 (by decide) (fun r26 => ?_)
      refine sx_iconst dX1_skip_29 ?_
      refine sx_iadd dX1_skip_30 ?_
      refine oo_put dX1_skip_31 fl_X1_15 (by decide) (by first | omega | assumption | (with_reducible first | exact hR _ _ | exact rd_R hR _ _ | exact am_R_and _ _ | exact am_R_or _ _ | exact am_R_xor _ _ | exact am_R_shl _ _ | exact am_R_shr _ _ | exact bit_R _ _) | (exact ⟨by omega, by omega⟩) | exact hR _ _) ?_
      refine sx_iconst dX1_skip_34 ?_
      exact sx_zret dX1_skip_35 rfl (by decide) (by first | rw [if_pos (show ohas O c = true from by unfold ohas; simp; omega)] | rw [if_neg (show ¬ ohas O c = true from by unfold ohas; simp; omega)]) (by unfold ohX; first | rw [if_pos (show ohas O c = true from by unfold ohas; simp; omega)] | rw [if_neg (show ¬ ohas O c = true from by unfold ohas; simp; omega)])
