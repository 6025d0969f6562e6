set_option maxHeartbeats 4000000 in
set_option maxRecDepth 100000 in
theorem ty_bitCount {h : am_H} (x : Int) : Ct 0 Y6_bitCount [.inl x] (some (.inl (ybc x))) h h := by
  refine Ct_of (by decide +kernel) (Nat.le_of_ble_eq_true rfl) ?_
  show Sx 0 Y6_bitCount h (some (.inl (ybc x))) 0 [some (.inl x)] [] h
  refine sx_iload_n dJ6_bitCount_0f7a4_0 rfl ?_
  refine sx_iload_n dJ6_bitCount_0f7a4_1 rfl ?_
  refine sx_iconst dJ6_bitCount_0f7a4_2 ?_
  refine sx_iushr dJ6_bitCount_0f7a4_3 ?_
  refine sx_ldc_w dJ6_bitCount_0f7a4_4 kc_J6_265 ?_
  refine sx_iand dJ6_bitCount_0f7a4_7 ?_
  refine sx_isub dJ6_bitCount_0f7a4_8 ?_
  refine sx_istore_n dJ6_bitCount_0f7a4_9 (by decide) ?_
  refine sx_iload_n dJ6_bitCount_0f7a4_10 rfl ?_
  refine sx_ldc_w dJ6_bitCount_0f7a4_11 kc_J6_266 ?_
  refine sx_iand dJ6_bitCount_0f7a4_14 ?_
  refine sx_iload_n dJ6_bitCount_0f7a4_15 rfl ?_
  refine sx_iconst dJ6_bitCount_0f7a4_16 ?_
  refine sx_iushr dJ6_bitCount_0f7a4_17 ?_
  refine sx_ldc_w dJ6_bitCount_0f7a4_18 kc_J6_266 ?_
  refine sx_iand dJ6_bitCount_0f7a4_21 ?_
  refine sx_iadd dJ6_bitCount_0f7a4_22 ?_
  refine sx_istore_n dJ6_bitCount_0f7a4_23 (by decide) ?_
  refine sx_iload_n dJ6_bitCount_0f7a4_24 rfl ?_
  refine sx_iload_n dJ6_bitCount_0f7a4_25 rfl ?_
  refine sx_iconst dJ6_bitCount_0f7a4_26 ?_
  refine sx_iushr dJ6_bitCount_0f7a4_27 ?_
  refine sx_iadd dJ6_bitCount_0f7a4_28 ?_
  refine sx_ldc_w dJ6_bitCount_0f7a4_29 kc_J6_267 ?_
  refine sx_iand dJ6_bitCount_0f7a4_32 ?_
  refine sx_istore_n dJ6_bitCount_0f7a4_33 (by decide) ?_
  refine sx_iload_n dJ6_bitCount_0f7a4_34 rfl ?_
  refine sx_iload_n dJ6_bitCount_0f7a4_35 rfl ?_
  refine sx_bipush dJ6_bitCount_0f7a4_36 rfl ?_
  refine sx_iushr dJ6_bitCount_0f7a4_38 ?_
  refine sx_iadd dJ6_bitCount_0f7a4_39 ?_
  refine sx_istore_n dJ6_bitCount_0f7a4_40 (by decide) ?_
  refine sx_iload_n dJ6_bitCount_0f7a4_41 rfl ?_
  refine sx_iload_n dJ6_bitCount_0f7a4_42 rfl ?_
  refine sx_bipush dJ6_bitCount_0f7a4_43 rfl ?_
  refine sx_iushr dJ6_bitCount_0f7a4_45 ?_
  refine sx_iadd dJ6_bitCount_0f7a4_46 ?_
  refine sx_istore_n dJ6_bitCount_0f7a4_47 (by decide) ?_
  refine sx_iload_n dJ6_bitCount_0f7a4_48 rfl ?_
  refine sx_bipush dJ6_bitCount_0f7a4_49 rfl ?_
  refine sx_iand dJ6_bitCount_0f7a4_51 ?_
  exact sx_iret dJ6_bitCount_0f7a4_52 rfl rfl rfl
set_option maxHeartbeats 4000000 in
set_option maxRecDepth 100000 in
theorem ty_isFamily {h : am_H} (f : Int) (h9 : am_R f) : Ct 0 Y2_isFamily [.inl f] (some (.inl (if 0 ≤ f ∧ f ≤ 2 then 1 else 0))) h h := by
  refine Ct_of (by decide +kernel) (Nat.le_of_ble_eq_true rfl) ?_
  show Sx 0 Y2_isFamily h (some (.inl (if 0 ≤ f ∧ f ≤ 2 then 1 else 0))) 0 [some (.inl f)] [] h
  refine sx_iload_n dX2_isFamily_0 rfl ?_
  refine sx_if_lt (tgt := 13) dX2_isFamily_1 (by decide) (by first | omega | assumption | (with_reducible first | exact hR _ _ | exact rd_R hR _ _ | exact am_R_and _ _ | exact am_R_or _ _ | exact am_R_xor _ _ | exact am_R_shl _ _ | exact am_R_shr _ _ | exact bit_R _ _) | (exact ⟨by omega, by omega⟩) | exact hR _ _) (fun c1 => ?_) (fun c1 => ?_)
  · -- 1t
    refine sx_iconst dX2_isFamily_13 ?_
    exact sx_zret dX2_isFamily_14 rfl (by decide) (by first | rw [if_pos (by omega)] | rw [if_neg (by omega)]) rfl
  · -- 1f
    refine sx_iload_n dX2_isFamily_4 rfl ?_
    refine sx_iconst dX2_isFamily_5 ?_
    refine sx_icmp_ge (tgt := 13) dX2_isFamily_6 (by decide) (by first | omega | assumption | (with_reducible first | exact hR _ _ | exact rd_R hR _ _ | exact am_R_and _ _ | exact am_R_or _ _ | exact am_R_xor _ _ | exact am_R_shl _ _ | exact am_R_shr _ _ | exact bit_R _ _) | (exact ⟨by omega, by omega⟩) | exact hR _ _) ⟨by decide, by decide⟩ (fun c6 => ?_) (fun c6 => ?_)
    · -- 6t
      refine sx_iconst dX2_isFamily_13 ?_
      exact sx_zret dX2_isFamily_14 rfl (by decide) (by first | rw [if_pos (by omega)] | rw [if_neg (by omega)]) rfl
    · -- 6f
      refine sx_iconst dX2_isFamily_9 ?_
      refine sx_goto (tgt := 14) dX2_isFamily_10 (by decide) ?_
      exact sx_zret dX2_isFamily_14 rfl (by decide) (by first | rw [if_pos (by omega)] | rw [if_neg (by omega)]) rfl
set_option maxHeartbeats 4000000 in
set_option maxRecDepth 100000 in
theorem ty_isRow {h : am_H} (r : Int) (h9 : am_R r) : Ct 0 Y2_isRow [.inl r] (some (.inl (if 0 ≤ r ∧ r ≤ 5 then 1 else 0))) h h := by
  refine Ct_of (by decide +kernel) (Nat.le_of_ble_eq_true rfl) ?_
  show Sx 0 Y2_isRow h (some (.inl (if 0 ≤ r ∧ r ≤ 5 then 1 else 0))) 0 [some (.inl r)] [] h
  refine sx_iload_n dX2_isRow_0 rfl ?_
  refine sx_if_lt (tgt := 14) dX2_isRow_1 (by decide) (by first | omega | assumption | (with_reducible first | exact hR _ _ | exact rd_R hR _ _ | exact am_R_and _ _ | exact am_R_or _ _ | exact am_R_xor _ _ | exact am_R_shl _ _ | exact am_R_shr _ _ | exact bit_R _ _) | (exact ⟨by omega, by omega⟩) | exact hR _ _) (fun c1 => ?_) (fun c1 => ?_)
  · -- 1t
    refine sx_iconst dX2_isRow_14 ?_
    exact sx_zret dX2_isRow_15 rfl (by decide) (by first | rw [if_pos (by omega)] | rw [if_neg (by omega)]) rfl
  · -- 1f
    refine sx_iload_n dX2_isRow_4 rfl ?_
    refine sx_bipush dX2_isRow_5 rfl ?_
    refine sx_icmp_ge (tgt := 14) dX2_isRow_7 (by decide) (by first | omega | assumption | (with_reducible first | exact hR _ _ | exact rd_R hR _ _ | exact am_R_and _ _ | exact am_R_or _ _ | exact am_R_xor _ _ | exact am_R_shl _ _ | exact am_R_shr _ _ | exact bit_R _ _) | (exact ⟨by omega, by omega⟩) | exact hR _ _) ⟨by decide, by decide⟩ (fun c7 => ?_) (fun c7 => ?_)
    · -- 7t
      refine sx_iconst dX2_isRow_14 ?_
      exact sx_zret dX2_isRow_15 rfl (by decide) (by first | rw [if_pos (by omega)] | rw [if_neg (by omega)]) rfl
    · -- 7f
      refine sx_iconst dX2_isRow_10 ?_
      refine sx_goto (tgt := 15) dX2_isRow_11 (by decide) ?_
      exact sx_zret dX2_isRow_15 rfl (by decide) (by first | rw [if_pos (by omega)] | rw [if_neg (by omega)]) rfl
set_option maxHeartbeats 4000000 in
set_option maxRecDepth 100000 in
theorem ty_isValue {h : am_H} (v : Int) (h9 : am_R v) : Ct 0 Y2_isValue [.inl v] (some (.inl (if 0 ≤ v ∧ v ≤ 255 then 1 else 0))) h h := by
  refine Ct_of (by decide +kernel) (Nat.le_of_ble_eq_true rfl) ?_
  show Sx 0 Y2_isValue h (some (.inl (if 0 ≤ v ∧ v ≤ 255 then 1 else 0))) 0 [some (.inl v)] [] h
  refine sx_iload_n dX2_isValue_0 rfl ?_
  refine sx_if_lt (tgt := 15) dX2_isValue_1 (by decide) (by first | omega | assumption | (with_reducible first | exact hR _ _ | exact rd_R hR _ _ | exact am_R_and _ _ | exact am_R_or _ _ | exact am_R_xor _ _ | exact am_R_shl _ _ | exact am_R_shr _ _ | exact bit_R _ _) | (exact ⟨by omega, by omega⟩) | exact hR _ _) (fun c1 => ?_) (fun c1 => ?_)
  · -- 1t
    refine sx_iconst dX2_isValue_15 ?_
    exact sx_zret dX2_isValue_16 rfl (by decide) (by first | rw [if_pos (by omega)] | rw [if_neg (by omega)]) rfl
  · -- 1f
    refine sx_iload_n dX2_isValue_4 rfl ?_
    refine sx_sipush dX2_isValue_5 rfl ?_
    refine sx_icmp_gt (tgt := 15) dX2_isValue_8 (by decide) (by first | omega | assumption | (with_reducible first | exact hR _ _ | exact rd_R hR _ _ | exact am_R_and _ _ | exact am_R_or _ _ | exact am_R_xor _ _ | exact am_R_shl _ _ | exact am_R_shr _ _ | exact bit_R _ _) | (exact ⟨by omega, by omega⟩) | exact hR _ _) ⟨by decide, by decide⟩ (fun c8 => ?_) (fun c8 => ?_)
    · -- 8t
      refine sx_iconst dX2_isValue_15 ?_
      exact sx_zret dX2_isValue_16 rfl (by decide) (by first | rw [if_pos (by omega)] | rw [if_neg (by omega)]) rfl
    · -- 8f
      refine sx_iconst dX2_isValue_11 ?_
      refine sx_goto (tgt := 16) dX2_isValue_12 (by decide) ?_
      exact sx_zret dX2_isValue_16 rfl (by decide) (by first | rw [if_pos (by omega)] | rw [if_neg (by omega)]) rfl
set_option maxHeartbeats 4000000 in
set_option maxRecDepth 100000 in
theorem ty_hasChip {h0 : am_H} {u : Nat} (hu : u < 6) {M : am_M} (c : Int) (hc : am_R c)  : Ct 0 Y0_hasChip [.inr (u, 0), .inl c] (some (.inl (if 0 ≤ c ∧ c < M 0 0 then 1 else 0))) (am_U h0 u M) (am_U h0 u M) := by
  refine Ct_of (by decide +kernel) (Nat.le_of_ble_eq_true rfl) ?_
  show Sx 0 Y0_hasChip (am_U h0 u M) (some (.inl (if 0 ≤ c ∧ c < M 0 0 then 1 else 0))) 0 [some (.inr (u, 0)), some (.inl c)] [] (am_U h0 u M)
  refine mm_vh (fun hR => ?_)
  refine sx_iload_n dX0_hasChip_0 rfl ?_
  refine sx_if_lt (tgt := 16) dX0_hasChip_1 (by decide) (by first | omega | assumption | (with_reducible first | exact hR _ _ | exact rd_R hR _ _ | exact am_R_and _ _ | exact am_R_or _ _ | exact am_R_xor _ _ | exact am_R_shl _ _ | exact am_R_shr _ _ | exact bit_R _ _) | (exact ⟨by omega, by omega⟩) | exact hR _ _) (fun c1 => ?_) (fun c1 => ?_)
  · -- 1t
    refine sx_iconst dX0_hasChip_16 ?_
    exact sx_zret dX0_hasChip_17 rfl (by decide) (by first | rw [if_pos (by omega)] | rw [if_neg (by omega)]) rfl
  · -- 1f
    refine sx_iload_n dX0_hasChip_4 rfl ?_
    refine sx_aload_n dX0_hasChip_5 rfl ?_
    refine mm_geti hu dX0_hasChip_6 fl_X0_57 (by decide) (fun r6 => ?_)
    refine sx_icmp_ge (tgt := 16) dX0_hasChip_9 (by decide) (by first | omega | assumption | (with_reducible first | exact hR _ _ | exact rd_R hR _ _ | exact am_R_and _ _ | exact am_R_or _ _ | exact am_R_xor _ _ | exact am_R_shl _ _ | exact am_R_shr _ _ | exact bit_R _ _) | (exact ⟨by omega, by omega⟩) | exact hR _ _) (by first | omega | assumption | (with_reducible first | exact hR _ _ | exact rd_R hR _ _ | exact am_R_and _ _ | exact am_R_or _ _ | exact am_R_xor _ _ | exact am_R_shl _ _ | exact am_R_shr _ _ | exact bit_R _ _) | (exact ⟨by omega, by omega⟩) | exact hR _ _) (fun c9 => ?_) (fun c9 => ?_)
    · -- 9t
      refine sx_iconst dX0_hasChip_16 ?_
      exact sx_zret dX0_hasChip_17 rfl (by decide) (by first | rw [if_pos (by omega)] | rw [if_neg (by omega)]) rfl
    · -- 9f
      refine sx_iconst dX0_hasChip_12 ?_
      refine sx_goto (tgt := 17) dX0_hasChip_13 (by decide) ?_
      exact sx_zret dX0_hasChip_17 rfl (by decide) (by first | rw [if_pos (by omega)] | rw [if_neg (by omega)]) rfl
set_option maxHeartbeats 4000000 in
set_option maxRecDepth 100000 in
theorem ty_hasWord {h0 : am_H} {u : Nat} (hu : u < 6) {M : am_M} (w : Int) (hc : am_R w)  : Ct 0 Y0_hasWord [.inr (u, 0), .inl w] (some (.inl (if 0 ≤ w ∧ w < M 0 2 then 1 else 0))) (am_U h0 u M) (am_U h0 u M) := by
  refine Ct_of (by decide +kernel) (Nat.le_of_ble_eq_true rfl) ?_
  show Sx 0 Y0_hasWord (am_U h0 u M) (some (.inl (if 0 ≤ w ∧ w < M 0 2 then 1 else 0))) 0 [some (.inr (u, 0)), some (.inl w)] [] (am_U h0 u M)
  refine mm_vh (fun hR => ?_)
  refine sx_iload_n dX0_hasWord_0 rfl ?_
  refine sx_if_lt (tgt := 16) dX0_hasWord_1 (by decide) (by first | omega | assumption | (with_reducible first | exact hR _ _ | exact rd_R hR _ _ | exact am_R_and _ _ | exact am_R_or _ _ | exact am_R_xor _ _ | exact am_R_shl _ _ | exact am_R_shr _ _ | exact bit_R _ _) | (exact ⟨by omega, by omega⟩) | exact hR _ _) (fun c1 => ?_) (fun c1 => ?_)
  · -- 1t
    refine sx_iconst dX0_hasWord_16 ?_
    exact sx_zret dX0_hasWord_17 rfl (by decide) (by first | rw [if_pos (by omega)] | rw [if_neg (by omega)]) rfl
  · -- 1f
    refine sx_iload_n dX0_hasWord_4 rfl ?_
    refine sx_aload_n dX0_hasWord_5 rfl ?_
    refine mm_geti hu dX0_hasWord_6 fl_X0_64 (by decide) (fun r6 => ?_)
    refine sx_icmp_ge (tgt := 16) dX0_hasWord_9 (by decide) (by first | omega | assumption | (with_reducible first | exact hR _ _ | exact rd_R hR _ _ | exact am_R_and _ _ | exact am_R_or _ _ | exact am_R_xor _ _ | exact am_R_shl _ _ | exact am_R_shr _ _ | exact bit_R _ _) | (exact ⟨by omega, by omega⟩) | exact hR _ _) (by first | omega | assumption | (with_reducible first | exact hR _ _ | exact rd_R hR _ _ | exact am_R_and _ _ | exact am_R_or _ _ | exact am_R_xor _ _ | exact am_R_shl _ _ | exact am_R_shr _ _ | exact bit_R _ _) | (exact ⟨by omega, by omega⟩) | exact hR _ _) (fun c9 => ?_) (fun c9 => ?_)
    · -- 9t
      refine sx_iconst dX0_hasWord_16 ?_
      exact sx_zret dX0_hasWord_17 rfl (by decide) (by first | rw [if_pos (by omega)] | rw [if_neg (by omega)]) rfl
    · -- 9f
      refine sx_iconst dX0_hasWord_12 ?_
      refine sx_goto (tgt := 17) dX0_hasWord_13 (by decide) ?_
      exact sx_zret dX0_hasWord_17 rfl (by decide) (by first | rw [if_pos (by omega)] | rw [if_neg (by omega)]) rfl
set_option maxHeartbeats 4000000 in
set_option maxRecDepth 100000 in
theorem ty_lives {h0 : am_H} {u : Nat} (hu : u < 6) {M : am_M} (c : Int)  : Ct 0 Y0_lives [.inr (u, 0), .inl c] (some (.inl (if bit (M 0 1) c = 1 then 1 else 0))) (am_U h0 u M) (am_U h0 u M) := by
  refine Ct_of (by decide +kernel) (Nat.le_of_ble_eq_true rfl) ?_
  show Sx 0 Y0_lives (am_U h0 u M) (some (.inl (if bit (M 0 1) c = 1 then 1 else 0))) 0 [some (.inr (u, 0)), some (.inl c)] [] (am_U h0 u M)
  refine mm_vh (fun hR => ?_)
  refine sx_aload_n dX0_lives_0 rfl ?_
  refine mm_geti hu dX0_lives_1 fl_X0_61 (by decide) (fun r1 => ?_)
  refine sx_iload_n dX0_lives_4 rfl ?_
  refine sx_ishr dX0_lives_5 ?_
  refine sx_iconst dX0_lives_6 ?_
  refine sx_iand dX0_lives_7 ?_
  refine sx_iconst dX0_lives_8 ?_
  refine sx_icmp_ne (tgt := 16) dX0_lives_9 (by decide) (by first | omega | assumption | (with_reducible first | exact hR _ _ | exact rd_R hR _ _ | exact am_R_and _ _ | exact am_R_or _ _ | exact am_R_xor _ _ | exact am_R_shl _ _ | exact am_R_shr _ _ | exact bit_R _ _) | (exact ⟨by omega, by omega⟩) | exact hR _ _) ⟨by decide, by decide⟩ (fun c9 => ?_) (fun c9 => ?_)
  · -- 9t
    refine sx_iconst dX0_lives_16 ?_
    exact sx_zret dX0_lives_17 rfl (by decide) (by simp [bit, c9]) rfl
  · -- 9f
    refine sx_iconst dX0_lives_12 ?_
    refine sx_goto (tgt := 17) dX0_lives_13 (by decide) ?_
    exact sx_zret dX0_lives_17 rfl (by decide) (by simp [bit, c9]) rfl
set_option maxHeartbeats 4000000 in
set_option maxRecDepth 100000 in
theorem ty_isGodfather {h0 : am_H} {u : Nat} (hu : u < 6) {M : am_M} (c : Int) (hW : WM M) (hc : 0 ≤ c ∧ c < 8)  : Ct 0 Y0_isGodfather [.inr (u, 0), .inl c] (some (.inl (if rd M 5 (rd M 1 c) = c then 1 else 0))) (am_U h0 u M) (am_U h0 u M) := by
  refine Ct_of (by decide +kernel) (Nat.le_of_ble_eq_true rfl) ?_
  show Sx 0 Y0_isGodfather (am_U h0 u M) (some (.inl (if rd M 5 (rd M 1 c) = c then 1 else 0))) 0 [some (.inr (u, 0)), some (.inl c)] [] (am_U h0 u M)
  refine mm_vh (fun hR => ?_)
  obtain ⟨w0, w2, w1, w5, w8, w12, wb⟩ := id hW
  refine sx_aload_n dX0_isGodfather_0 rfl ?_
  refine mm_getr (j := 5) hu dX0_isGodfather_1 fl_X0_24 (by decide) ?_
  refine sx_aload_n dX0_isGodfather_4 rfl ?_
  refine mm_getr (j := 1) hu dX0_isGodfather_5 fl_X0_9 (by decide) ?_
  refine sx_iload_n dX0_isGodfather_8 rfl ?_
  skip
  refine mm_ild (n := 8) hu dX0_isGodfather_9 (by decide) rfl (by decide) (by first | omega | assumption | (with_reducible first | exact hR _ _ | exact rd_R hR _ _ | exact am_R_and _ _ | exact am_R_or _ _ | exact am_R_xor _ _ | exact am_R_shl _ _ | exact am_R_shr _ _ | exact bit_R _ _) | (exact ⟨by omega, by omega⟩) | exact hR _ _) (by first | omega | assumption | (with_reducible first | exact hR _ _ | exact rd_R hR _ _ | exact am_R_and _ _ | exact am_R_or _ _ | exact am_R_xor _ _ | exact am_R_shl _ _ | exact am_R_shr _ _ | exact bit_R _ _) | (exact ⟨by omega, by omega⟩) | exact hR _ _) rfl (fun r9 => ?_)
  have hf9 := w1 c hc.1 hc.2
  unfold rd at hf9
  refine mm_ild (n := 3) hu dX0_isGodfather_10 (by decide) rfl (by decide) (by first | omega | assumption | (with_reducible first | exact hR _ _ | exact rd_R hR _ _ | exact am_R_and _ _ | exact am_R_or _ _ | exact am_R_xor _ _ | exact am_R_shl _ _ | exact am_R_shr _ _ | exact bit_R _ _) | (exact ⟨by omega, by omega⟩) | exact hR _ _) (by first | omega | assumption | (with_reducible first | exact hR _ _ | exact rd_R hR _ _ | exact am_R_and _ _ | exact am_R_or _ _ | exact am_R_xor _ _ | exact am_R_shl _ _ | exact am_R_shr _ _ | exact bit_R _ _) | (exact ⟨by omega, by omega⟩) | exact hR _ _) rfl (fun r10 => ?_)
  refine sx_iload_n dX0_isGodfather_11 rfl ?_
  refine sx_icmp_ne (tgt := 19) dX0_isGodfather_12 (by decide) (by first | omega | assumption | (with_reducible first | exact hR _ _ | exact rd_R hR _ _ | exact am_R_and _ _ | exact am_R_or _ _ | exact am_R_xor _ _ | exact am_R_shl _ _ | exact am_R_shr _ _ | exact bit_R _ _) | (exact ⟨by omega, by omega⟩) | exact hR _ _) (by first | omega | assumption | (with_reducible first | exact hR _ _ | exact rd_R hR _ _ | exact am_R_and _ _ | exact am_R_or _ _ | exact am_R_xor _ _ | exact am_R_shl _ _ | exact am_R_shr _ _ | exact bit_R _ _) | (exact ⟨by omega, by omega⟩) | exact hR _ _) (fun c12 => ?_) (fun c12 => ?_)
  · -- 12t
    refine sx_iconst dX0_isGodfather_19 ?_
    exact sx_zret dX0_isGodfather_20 rfl (by decide) (by simp [rd, c12]) rfl
  · -- 12f
    refine sx_iconst dX0_isGodfather_15 ?_
    refine sx_goto (tgt := 20) dX0_isGodfather_16 (by decide) ?_
    exact sx_zret dX0_isGodfather_20 rfl (by decide) (by simp [rd, c12]) rfl
set_option maxHeartbeats 4000000 in
set_option maxRecDepth 100000 in
theorem ty_isBroken {h0 : am_H} {u : Nat} (hu : u < 6) {M : am_M} (c r : Int) (hc : 0 ≤ c ∧ c < 8)  : Ct 0 Y0_isBroken [.inr (u, 0), .inl c, .inl r] (some (.inl (if bit (rd M 2 c) r = 1 then 1 else 0))) (am_U h0 u M) (am_U h0 u M) := by
  refine Ct_of (by decide +kernel) (Nat.le_of_ble_eq_true rfl) ?_
  show Sx 0 Y0_isBroken (am_U h0 u M) (some (.inl (if bit (rd M 2 c) r = 1 then 1 else 0))) 0 [some (.inr (u, 0)), some (.inl c), some (.inl r)] [] (am_U h0 u M)
  refine mm_vh (fun hR => ?_)
  refine sx_aload_n dX0_isBroken_0 rfl ?_
  refine mm_getr (j := 2) hu dX0_isBroken_1 fl_X0_15 (by decide) ?_
  refine sx_iload_n dX0_isBroken_4 rfl ?_
  refine mm_ild (n := 8) hu dX0_isBroken_5 (by decide) rfl (by decide) (by first | omega | assumption | (with_reducible first | exact hR _ _ | exact rd_R hR _ _ | exact am_R_and _ _ | exact am_R_or _ _ | exact am_R_xor _ _ | exact am_R_shl _ _ | exact am_R_shr _ _ | exact bit_R _ _) | (exact ⟨by omega, by omega⟩) | exact hR _ _) (by first | omega | assumption | (with_reducible first | exact hR _ _ | exact rd_R hR _ _ | exact am_R_and _ _ | exact am_R_or _ _ | exact am_R_xor _ _ | exact am_R_shl _ _ | exact am_R_shr _ _ | exact bit_R _ _) | (exact ⟨by omega, by omega⟩) | exact hR _ _) rfl (fun r5 => ?_)
  refine sx_iload_n dX0_isBroken_6 rfl ?_
  refine sx_ishr dX0_isBroken_7 ?_
  refine sx_iconst dX0_isBroken_8 ?_
  refine sx_iand dX0_isBroken_9 ?_
  refine sx_iconst dX0_isBroken_10 ?_
  refine sx_icmp_ne (tgt := 18) dX0_isBroken_11 (by decide) (by first | omega | assumption | (with_reducible first | exact hR _ _ | exact rd_R hR _ _ | exact am_R_and _ _ | exact am_R_or _ _ | exact am_R_xor _ _ | exact am_R_shl _ _ | exact am_R_shr _ _ | exact bit_R _ _) | (exact ⟨by omega, by omega⟩) | exact hR _ _) ⟨by decide, by decide⟩ (fun c11 => ?_) (fun c11 => ?_)
  · -- 11t
    refine sx_iconst dX0_isBroken_18 ?_
    exact sx_zret dX0_isBroken_19 rfl (by decide) (by simp [bit, rd, c11]) rfl
  · -- 11f
    refine sx_iconst dX0_isBroken_14 ?_
    refine sx_goto (tgt := 19) dX0_isBroken_15 (by decide) ?_
    exact sx_zret dX0_isBroken_19 rfl (by decide) (by simp [bit, rd, c11]) rfl
set_option maxHeartbeats 4000000 in
set_option maxRecDepth 100000 in
theorem ty_fateOf {h0 : am_H} {u : Nat} (hu : u < 6) {M : am_M} (w : Int) (hw : 0 ≤ w ∧ w < 24)  : Ct 0 Y0_fateOf [.inr (u, 0), .inl w] (some (.inl (yfate M w))) (am_U h0 u M) (am_U h0 u M) := by
  refine Ct_of (by decide +kernel) (Nat.le_of_ble_eq_true rfl) ?_
  show Sx 0 Y0_fateOf (am_U h0 u M) (some (.inl (yfate M w))) 0 [some (.inr (u, 0)), some (.inl w)] [] (am_U h0 u M)
  refine mm_vh (fun hR => ?_)
  refine sx_aload_n dX0_fateOf_0 rfl ?_
  refine mm_getr (j := 10) hu dX0_fateOf_1 fl_X0_39 (by decide) ?_
  refine sx_iload_n dX0_fateOf_4 rfl ?_
  refine mm_ild (n := 24) hu dX0_fateOf_5 (by decide) rfl (by decide) (by first | omega | assumption | (with_reducible first | exact hR _ _ | exact rd_R hR _ _ | exact am_R_and _ _ | exact am_R_or _ _ | exact am_R_xor _ _ | exact am_R_shl _ _ | exact am_R_shr _ _ | exact bit_R _ _) | (exact ⟨by omega, by omega⟩) | exact hR _ _) (by first | omega | assumption | (with_reducible first | exact hR _ _ | exact rd_R hR _ _ | exact am_R_and _ _ | exact am_R_or _ _ | exact am_R_xor _ _ | exact am_R_shl _ _ | exact am_R_shr _ _ | exact bit_R _ _) | (exact ⟨by omega, by omega⟩) | exact hR _ _) rfl (fun r5 => ?_)
  refine sx_iconst dX0_fateOf_6 ?_
  refine sx_icmp_eq (tgt := 12) dX0_fateOf_7 (by decide) (by first | omega | assumption | (with_reducible first | exact hR _ _ | exact rd_R hR _ _ | exact am_R_and _ _ | exact am_R_or _ _ | exact am_R_xor _ _ | exact am_R_shl _ _ | exact am_R_shr _ _ | exact bit_R _ _) | (exact ⟨by omega, by omega⟩) | exact hR _ _) ⟨by decide, by decide⟩ (fun c7 => ?_) (fun c7 => ?_)
  · -- 7t
    refine sx_aload_n dX0_fateOf_12 rfl ?_
    refine mm_getr (j := 11) hu dX0_fateOf_13 fl_X0_42 (by decide) ?_
    refine sx_iload_n dX0_fateOf_16 rfl ?_
    refine mm_ild (n := 24) hu dX0_fateOf_17 (by decide) rfl (by decide) (by first | omega | assumption | (with_reducible first | exact hR _ _ | exact rd_R hR _ _ | exact am_R_and _ _ | exact am_R_or _ _ | exact am_R_xor _ _ | exact am_R_shl _ _ | exact am_R_shr _ _ | exact bit_R _ _) | (exact ⟨by omega, by omega⟩) | exact hR _ _) (by first | omega | assumption | (with_reducible first | exact hR _ _ | exact rd_R hR _ _ | exact am_R_and _ _ | exact am_R_or _ _ | exact am_R_xor _ _ | exact am_R_shl _ _ | exact am_R_shr _ _ | exact bit_R _ _) | (exact ⟨by omega, by omega⟩) | exact hR _ _) rfl (fun r17 => ?_)
    refine sx_iconst dX0_fateOf_18 ?_
    refine sx_icmp_eq (tgt := 26) dX0_fateOf_19 (by decide) (by first | omega | assumption | (with_reducible first | exact hR _ _ | exact rd_R hR _ _ | exact am_R_and _ _ | exact am_R_or _ _ | exact am_R_xor _ _ | exact am_R_shl _ _ | exact am_R_shr _ _ | exact bit_R _ _) | (exact ⟨by omega, by omega⟩) | exact hR _ _) ⟨by decide, by decide⟩ (fun c19 => ?_) (fun c19 => ?_)
    · -- 19t
      refine sx_iconst dX0_fateOf_26 ?_
      exact sx_iret dX0_fateOf_27 rfl (by unfold yfate rd; simp only [if_pos c7, if_pos c19]) rfl
    · -- 19f
      refine sx_iconst dX0_fateOf_22 ?_
      refine sx_goto (tgt := 27) dX0_fateOf_23 (by decide) ?_
      exact sx_iret dX0_fateOf_27 rfl (by unfold yfate rd; simp only [if_pos c7, if_neg c19]) rfl
  · -- 7f
    refine sx_iconst dX0_fateOf_10 ?_
    exact sx_iret dX0_fateOf_11 rfl (by unfold yfate rd; simp only [if_neg c7]) rfl
set_option maxHeartbeats 4000000 in
set_option maxRecDepth 100000 in
theorem ty_guardedRows {h0 : am_H} {u : Nat} (hu : u < 6) {M : am_M} (f : Int) (hW : WM M) (hf : 0 ≤ f ∧ f ≤ 2)  : Ct 0 Y0_guardedRows [.inr (u, 0), .inl f] (some (.inl (ygd M f))) (am_U h0 u M) (am_U h0 u M) := by
  refine Ct_of (by decide +kernel) (Nat.le_of_ble_eq_true rfl) ?_
  show Sx 0 Y0_guardedRows (am_U h0 u M) (some (.inl (ygd M f))) 0 [some (.inr (u, 0)), some (.inl f), none] [] (am_U h0 u M)
  refine mm_vh (fun hR => ?_)
  obtain ⟨w0, w2, w1, w5, w8, w12, wb⟩ := id hW
  refine sx_aload_n dX0_guardedRows_0 rfl ?_
  refine mm_getr (j := 5) hu dX0_guardedRows_1 fl_X0_24 (by decide) ?_
  refine sx_iload_n dX0_guardedRows_4 rfl ?_
  refine mm_ild (n := 3) hu dX0_guardedRows_5 (by decide) rfl (by decide) (by first | omega | assumption | (with_reducible first | exact hR _ _ | exact rd_R hR _ _ | exact am_R_and _ _ | exact am_R_or _ _ | exact am_R_xor _ _ | exact am_R_shl _ _ | exact am_R_shr _ _ | exact bit_R _ _) | (exact ⟨by omega, by omega⟩) | exact hR _ _) (by first | omega | assumption | (with_reducible first | exact hR _ _ | exact rd_R hR _ _ | exact am_R_and _ _ | exact am_R_or _ _ | exact am_R_xor _ _ | exact am_R_shl _ _ | exact am_R_shr _ _ | exact bit_R _ _) | (exact ⟨by omega, by omega⟩) | exact hR _ _) rfl (fun r5 => ?_)
  refine sx_istore_n dX0_guardedRows_6 (by decide) ?_
  refine sx_iload_n dX0_guardedRows_7 rfl ?_
  refine sx_iconst dX0_guardedRows_8 ?_
  refine sx_icmp_ne (tgt := 16) dX0_guardedRows_9 (by decide) (by first | omega | assumption | (with_reducible first | exact hR _ _ | exact rd_R hR _ _ | exact am_R_and _ _ | exact am_R_or _ _ | exact am_R_xor _ _ | exact am_R_shl _ _ | exact am_R_shr _ _ | exact bit_R _ _) | (exact ⟨by omega, by omega⟩) | exact hR _ _) ⟨by decide, by decide⟩ (fun c9 => ?_) (fun c9 => ?_)
  · -- 9t
    have hg9 := w5 f hf.1 hf.2
    unfold rd at hg9
    refine sx_bipush dX0_guardedRows_16 rfl ?_
    refine sx_aload_n dX0_guardedRows_18 rfl ?_
    refine mm_getr (j := 2) hu dX0_guardedRows_19 fl_X0_15 (by decide) ?_
    refine sx_iload_n dX0_guardedRows_22 rfl ?_
    refine mm_ild (n := 8) hu dX0_guardedRows_23 (by decide) rfl (by decide) (by first | omega | assumption | (with_reducible first | exact hR _ _ | exact rd_R hR _ _ | exact am_R_and _ _ | exact am_R_or _ _ | exact am_R_xor _ _ | exact am_R_shl _ _ | exact am_R_shr _ _ | exact bit_R _ _) | (exact ⟨by omega, by omega⟩) | exact hR _ _) (by first | omega | assumption | (with_reducible first | exact hR _ _ | exact rd_R hR _ _ | exact am_R_and _ _ | exact am_R_or _ _ | exact am_R_xor _ _ | exact am_R_shl _ _ | exact am_R_shr _ _ | exact bit_R _ _) | (exact ⟨by omega, by omega⟩) | exact hR _ _) rfl (fun r23 => ?_)
    refine sx_iconst dX0_guardedRows_24 ?_
    refine sx_ixor dX0_guardedRows_25 ?_
    refine sx_iand dX0_guardedRows_26 ?_
    exact sx_iret dX0_guardedRows_27 rfl (by unfold ygd rd; simp only [if_neg c9]) rfl
  · -- 9f
    refine sx_iconst dX0_guardedRows_12 ?_
    refine sx_goto (tgt := 27) dX0_guardedRows_13 (by decide) ?_
    exact sx_iret dX0_guardedRows_27 rfl (by unfold ygd rd; simp only [if_pos c9]) rfl
set_option maxHeartbeats 4000000 in
set_option maxRecDepth 100000 in
theorem ty_livingOf {h0 : am_H} {u : Nat} (hu : u < 6) {M : am_M} (f : Int) (hW : WM M) (hf9 : am_R f)  : Ct 1 Y0_livingOf [.inr (u, 0), .inl f] (some (.inl (yliv M f (M 0 0).toNat))) (am_U h0 u M) (am_U h0 u M) := by
  refine Ct_of (by decide +kernel) (Nat.le_of_ble_eq_true rfl) ?_
  show Sx 1 Y0_livingOf (am_U h0 u M) (some (.inl (yliv M f (M 0 0).toNat))) 0 [some (.inr (u, 0)), some (.inl f), none, none] [] (am_U h0 u M)
  refine mm_vh (fun hR => ?_)
  obtain ⟨w0, w2, w1, w5, w8, w12, wb⟩ := id hW
  refine sx_iconst dX0_livingOf_0 ?_
  refine sx_istore_n dX0_livingOf_1 (by decide) ?_
  refine sx_iconst dX0_livingOf_2 ?_
  refine sx_istore_n dX0_livingOf_3 (by decide) ?_
  have loop4 : ∀ (n : Nat) (nn : Int) (c : Nat), (M 0 0 - c).toNat = n → (c : Int) ≤ M 0 0 → nn = yliv M f c → Sx 1 Y0_livingOf (am_U h0 u M) (some (.inl (yliv M f (M 0 0).toNat))) 4 [some (.inr (u, 0)), some (.inl f), some (.inl nn), some (.inl (c : Int))] [] (am_U h0 u M) := by
    intro n
    induction n using Nat.strongRecOn with
    | _ n ih4 =>
      intro nn c hn hle hq
      refine sx_iload_n dX0_livingOf_4 rfl ?_
      refine sx_aload_n dX0_livingOf_5 rfl ?_
      refine mm_geti hu dX0_livingOf_6 fl_X0_57 (by decide) (fun r6 => ?_)
      refine sx_icmp_ge (tgt := 42) dX0_livingOf_9 (by decide) (by first | omega | assumption | (with_reducible first | exact hR _ _ | exact rd_R hR _ _ | exact am_R_and _ _ | exact am_R_or _ _ | exact am_R_xor _ _ | exact am_R_shl _ _ | exact am_R_shr _ _ | exact bit_R _ _) | (exact ⟨by omega, by omega⟩) | exact hR _ _) (by first | omega | assumption | (with_reducible first | exact hR _ _ | exact rd_R hR _ _ | exact am_R_and _ _ | exact am_R_or _ _ | exact am_R_xor _ _ | exact am_R_shl _ _ | exact am_R_shr _ _ | exact bit_R _ _) | (exact ⟨by omega, by omega⟩) | exact hR _ _) (fun c9 => ?_) (fun c9 => ?_)
      · -- 9t
        refine sx_iload_n dX0_livingOf_42 rfl ?_
        exact sx_iret dX0_livingOf_43 rfl (by rw [hq, show c = (M 0 0).toNat by omega]) rfl
      · -- 9f
        refine sx_aload_n dX0_livingOf_12 rfl ?_
        refine mm_getr (j := 1) hu dX0_livingOf_13 fl_X0_9 (by decide) ?_
        refine sx_iload_n dX0_livingOf_16 rfl ?_
        refine mm_ild (n := 8) hu dX0_livingOf_17 (by decide) rfl (by decide) (by first | omega | assumption | (with_reducible first | exact hR _ _ | exact rd_R hR _ _ | exact am_R_and _ _ | exact am_R_or _ _ | exact am_R_xor _ _ | exact am_R_shl _ _ | exact am_R_shr _ _ | exact bit_R _ _) | (exact ⟨by omega, by omega⟩) | exact hR _ _) (by first | omega | assumption | (with_reducible first | exact hR _ _ | exact rd_R hR _ _ | exact am_R_and _ _ | exact am_R_or _ _ | exact am_R_xor _ _ | exact am_R_shl _ _ | exact am_R_shr _ _ | exact bit_R _ _) | (exact ⟨by omega, by omega⟩) | exact hR _ _) rfl (fun r17 => ?_)
        refine sx_iload_n dX0_livingOf_18 rfl ?_
        refine sx_icmp_ne (tgt := 36) dX0_livingOf_19 (by decide) (by first | omega | assumption | (with_reducible first | exact hR _ _ | exact rd_R hR _ _ | exact am_R_and _ _ | exact am_R_or _ _ | exact am_R_xor _ _ | exact am_R_shl _ _ | exact am_R_shr _ _ | exact bit_R _ _) | (exact ⟨by omega, by omega⟩) | exact hR _ _) (by first | omega | assumption | (with_reducible first | exact hR _ _ | exact rd_R hR _ _ | exact am_R_and _ _ | exact am_R_or _ _ | exact am_R_xor _ _ | exact am_R_shl _ _ | exact am_R_shr _ _ | exact bit_R _ _) | (exact ⟨by omega, by omega⟩) | exact hR _ _) (fun c19 => ?_) (fun c19 => ?_)
        · -- 19t
          refine sx_iinc dX0_livingOf_36 rfl (by decide) ?_
          refine sx_goto (tgt := 4) dX0_livingOf_39 (by decide) ?_
          exact ih4 _ (by omega) _ (c + 1) rfl (by omega) (by rw [hq]; show _ = yliv M f (c + 1); simp only [yliv]; first | rw [if_pos (show rd M 1 c = f from c19), if_pos c27] | rw [if_pos (show rd M 1 c = f from c19), if_neg c27] | rw [if_neg (show ¬ rd M 1 c = f from c19)])
        · -- 19f
          refine sx_aload_n dX0_livingOf_22 rfl ?_
          refine sx_iload_n dX0_livingOf_23 rfl ?_
          refine sx_callVi dX0_livingOf_24 ml_X0_79 mv0_lives (ty_lives hu _) rfl (am_obM hu) rfl (Nat.le_of_ble_eq_true rfl) (Nat.le_of_ble_eq_true rfl) ?_
          refine sx_ifB_eq (tgt := 36) dX0_livingOf_27 (by decide) (fun c27 => ?_) (fun c27 => ?_)
          · -- 27t
            refine sx_iinc dX0_livingOf_36 rfl (by decide) ?_
            refine sx_goto (tgt := 4) dX0_livingOf_39 (by decide) ?_
            exact ih4 _ (by omega) _ (c + 1) rfl (by omega) (by rw [hq]; show _ = yliv M f (c + 1); simp only [yliv]; first | rw [if_pos (show rd M 1 c = f from c19), if_pos c27] | rw [if_pos (show rd M 1 c = f from c19), if_neg c27] | rw [if_neg (show ¬ rd M 1 c = f from c19)])
          · -- 27f
            refine sx_iload_n dX0_livingOf_30 rfl ?_
            refine sx_iconst dX0_livingOf_31 ?_
            refine sx_iload_n dX0_livingOf_32 rfl ?_
            refine sx_ishl dX0_livingOf_33 ?_
            refine sx_ior dX0_livingOf_34 ?_
            refine sx_istore_n dX0_livingOf_35 (by decide) ?_
            refine sx_iinc dX0_livingOf_36 rfl (by decide) ?_
            refine sx_goto (tgt := 4) dX0_livingOf_39 (by decide) ?_
            exact ih4 _ (by omega) _ (c + 1) rfl (by omega) (by rw [hq]; show _ = yliv M f (c + 1); simp only [yliv]; first | rw [if_pos (show rd M 1 c = f from c19), if_pos c27] | rw [if_pos (show rd M 1 c = f from c19), if_neg c27] | rw [if_neg (show ¬ rd M 1 c = f from c19)])
  exact loop4 _ _ 0 rfl (by omega) rfl
set_option maxHeartbeats 4000000 in
set_option maxRecDepth 100000 in
theorem ty_placeSet {h0 : am_H} {u : Nat} (hu : u < 6) {M : am_M} (c : Int) (hW : WM M) (hc : 0 ≤ c ∧ c < 8)  : Ct 0 Y0_placeSet [.inr (u, 0), .inl c] (some (.inl (yps M c))) (am_U h0 u M) (am_U h0 u M) := by
  refine Ct_of (by decide +kernel) (Nat.le_of_ble_eq_true rfl) ?_
  show Sx 0 Y0_placeSet (am_U h0 u M) (some (.inl (yps M c))) 0 [some (.inr (u, 0)), some (.inl c), none, none, none] [] (am_U h0 u M)
  refine mm_vh (fun hR => ?_)
  obtain ⟨w0, w2, w1, w5, w8, w12, wb⟩ := id hW
  refine sx_aload_n dX0_placeSet_0 rfl ?_
  refine mm_getr (j := 1) hu dX0_placeSet_1 fl_X0_9 (by decide) ?_
  refine sx_iload_n dX0_placeSet_4 rfl ?_
  refine mm_ild (n := 8) hu dX0_placeSet_5 (by decide) rfl (by decide) (by first | omega | assumption | (with_reducible first | exact hR _ _ | exact rd_R hR _ _ | exact am_R_and _ _ | exact am_R_or _ _ | exact am_R_xor _ _ | exact am_R_shl _ _ | exact am_R_shr _ _ | exact bit_R _ _) | (exact ⟨by omega, by omega⟩) | exact hR _ _) (by first | omega | assumption | (with_reducible first | exact hR _ _ | exact rd_R hR _ _ | exact am_R_and _ _ | exact am_R_or _ _ | exact am_R_xor _ _ | exact am_R_shl _ _ | exact am_R_shr _ _ | exact bit_R _ _) | (exact ⟨by omega, by omega⟩) | exact hR _ _) rfl (fun r5 => ?_)
  show Sx 0 Y0_placeSet _ _ _ _ [.inl (rd M 1 c)] _
  have hf9 := w1 c hc.1 hc.2
  refine sx_istore_n dX0_placeSet_6 (by decide) ?_
  refine sx_aload_n dX0_placeSet_7 rfl ?_
  refine mm_geti hu dX0_placeSet_8 fl_X0_61 (by decide) (fun r8 => ?_)
  refine sx_iload_n dX0_placeSet_11 rfl ?_
  refine sx_ishr dX0_placeSet_12 ?_
  refine sx_iconst dX0_placeSet_13 ?_
  refine sx_iand dX0_placeSet_14 ?_
  refine sx_if_eq (tgt := 28) dX0_placeSet_15 (by decide) (by first | omega | assumption | (with_reducible first | exact hR _ _ | exact rd_R hR _ _ | exact am_R_and _ _ | exact am_R_or _ _ | exact am_R_xor _ _ | exact am_R_shl _ _ | exact am_R_shr _ _ | exact bit_R _ _) | (exact ⟨by omega, by omega⟩) | exact hR _ _) (fun c15 => ?_) (fun c15 => ?_)
  · -- 15t
    refine sx_iconst dX0_placeSet_28 ?_
    exact sx_iret dX0_placeSet_29 rfl (by unfold yps; first | rw [if_pos (show bit (M 0 1) c = 0 from c15)] | rw [if_neg (show ¬ bit (M 0 1) c = 0 from c15), if_pos (show rd M 5 (rd M 1 c) = c from c25)]) rfl
  · -- 15f
    refine sx_aload_n dX0_placeSet_18 rfl ?_
    refine mm_getr (j := 5) hu dX0_placeSet_19 fl_X0_24 (by decide) ?_
    refine sx_iload_n dX0_placeSet_22 rfl ?_
    refine mm_ild (n := 3) hu dX0_placeSet_23 (by decide) rfl (by decide) (by first | omega | assumption | (with_reducible first | exact hR _ _ | exact rd_R hR _ _ | exact am_R_and _ _ | exact am_R_or _ _ | exact am_R_xor _ _ | exact am_R_shl _ _ | exact am_R_shr _ _ | exact bit_R _ _) | (exact ⟨by omega, by omega⟩) | exact hR _ _) (by first | omega | assumption | (with_reducible first | exact hR _ _ | exact rd_R hR _ _ | exact am_R_and _ _ | exact am_R_or _ _ | exact am_R_xor _ _ | exact am_R_shl _ _ | exact am_R_shr _ _ | exact bit_R _ _) | (exact ⟨by omega, by omega⟩) | exact hR _ _) rfl (fun r23 => ?_)
    refine sx_iload_n dX0_placeSet_24 rfl ?_
    refine sx_icmp_ne (tgt := 30) dX0_placeSet_25 (by decide) (by first | omega | assumption | (with_reducible first | exact hR _ _ | exact rd_R hR _ _ | exact am_R_and _ _ | exact am_R_or _ _ | exact am_R_xor _ _ | exact am_R_shl _ _ | exact am_R_shr _ _ | exact bit_R _ _) | (exact ⟨by omega, by omega⟩) | exact hR _ _) (by first | omega | assumption | (with_reducible first | exact hR _ _ | exact rd_R hR _ _ | exact am_R_and _ _ | exact am_R_or _ _ | exact am_R_xor _ _ | exact am_R_shl _ _ | exact am_R_shr _ _ | exact bit_R _ _) | (exact ⟨by omega, by omega⟩) | exact hR _ _) (fun c25 => ?_) (fun c25 => ?_)
    · -- 25t
      refine sx_iconst dX0_placeSet_30 ?_
      refine sx_istore_n dX0_placeSet_31 (by decide) ?_
      refine sx_iconst dX0_placeSet_32 ?_
      refine sx_istore dX0_placeSet_33 (by decide) ?_
      have loop35 : ∀ (n : Nat) (nn : Int) (r : Nat), (6 - r) = n → r ≤ 6 → nn = ypsN M c (rd M 1 c) r → Sx 0 Y0_placeSet (am_U h0 u M) (some (.inl (yps M c))) 35 [some (.inr (u, 0)), some (.inl c), some (.inl (rd M 1 c)), some (.inl nn), some (.inl (r : Int))] [] (am_U h0 u M) := by
        intro n
        induction n using Nat.strongRecOn with
        | _ n ih35 =>
          intro nn r hn hle hq
          refine sx_iload dX0_placeSet_35 rfl ?_
          refine sx_bipush dX0_placeSet_37 rfl ?_
          refine sx_icmp_ge (tgt := 87) dX0_placeSet_39 (by decide) (by first | omega | assumption | (with_reducible first | exact hR _ _ | exact rd_R hR _ _ | exact am_R_and _ _ | exact am_R_or _ _ | exact am_R_xor _ _ | exact am_R_shl _ _ | exact am_R_shr _ _ | exact bit_R _ _) | (exact ⟨by omega, by omega⟩) | exact hR _ _) ⟨by decide, by decide⟩ (fun c39 => ?_) (fun c39 => ?_)
          · -- 39t
            obtain rfl : r = 6 := by omega
            refine sx_iload_n dX0_placeSet_87 rfl ?_
            refine sx_aload_n dX0_placeSet_88 rfl ?_
            refine mm_getr (j := 2) hu dX0_placeSet_89 fl_X0_15 (by decide) ?_
            refine sx_iload_n dX0_placeSet_92 rfl ?_
            refine mm_ild (n := 8) hu dX0_placeSet_93 (by decide) rfl (by decide) (by first | omega | assumption | (with_reducible first | exact hR _ _ | exact rd_R hR _ _ | exact am_R_and _ _ | exact am_R_or _ _ | exact am_R_xor _ _ | exact am_R_shl _ _ | exact am_R_shr _ _ | exact bit_R _ _) | (exact ⟨by omega, by omega⟩) | exact hR _ _) (by first | omega | assumption | (with_reducible first | exact hR _ _ | exact rd_R hR _ _ | exact am_R_and _ _ | exact am_R_or _ _ | exact am_R_xor _ _ | exact am_R_shl _ _ | exact am_R_shr _ _ | exact bit_R _ _) | (exact ⟨by omega, by omega⟩) | exact hR _ _) rfl (fun r93 => ?_)
            refine sx_iconst dX0_placeSet_94 ?_
            refine sx_ixor dX0_placeSet_95 ?_
            refine sx_iand dX0_placeSet_96 ?_
            exact sx_iret dX0_placeSet_97 rfl (by unfold yps; rw [if_neg (show ¬ bit (M 0 1) c = 0 from c15), if_neg (show ¬ rd M 5 (rd M 1 c) = c from c25), ← hq]; rfl) rfl
          · -- 39f
            refine sx_aload_n dX0_placeSet_42 rfl ?_
            refine mm_getr (j := 4) hu dX0_placeSet_43 fl_X0_21 (by decide) ?_
            refine sx_iload_n dX0_placeSet_46 rfl ?_
            refine sx_bipush dX0_placeSet_47 rfl ?_
            refine sx_imul dX0_placeSet_49 ?_
            refine sx_iload dX0_placeSet_50 rfl ?_
            refine sx_iadd dX0_placeSet_52 ?_
            refine mm_ild (n := 48) hu dX0_placeSet_53 (by decide) rfl (by decide) (by first | omega | assumption | (with_reducible first | exact hR _ _ | exact rd_R hR _ _ | exact am_R_and _ _ | exact am_R_or _ _ | exact am_R_xor _ _ | exact am_R_shl _ _ | exact am_R_shr _ _ | exact bit_R _ _) | (exact ⟨by omega, by omega⟩) | exact hR _ _) (by first | omega | assumption | (with_reducible first | exact hR _ _ | exact rd_R hR _ _ | exact am_R_and _ _ | exact am_R_or _ _ | exact am_R_xor _ _ | exact am_R_shl _ _ | exact am_R_shr _ _ | exact bit_R _ _) | (exact ⟨by omega, by omega⟩) | exact hR _ _) rfl (fun r53 => ?_)
            refine sx_iconst dX0_placeSet_54 ?_
            refine sx_icmp_ne (tgt := 81) dX0_placeSet_55 (by decide) (by first | omega | assumption | (with_reducible first | exact hR _ _ | exact rd_R hR _ _ | exact am_R_and _ _ | exact am_R_or _ _ | exact am_R_xor _ _ | exact am_R_shl _ _ | exact am_R_shr _ _ | exact bit_R _ _) | (exact ⟨by omega, by omega⟩) | exact hR _ _) ⟨by decide, by decide⟩ (fun c55 => ?_) (fun c55 => ?_)
            · -- 55t
              refine sx_iinc dX0_placeSet_81 rfl (by decide) ?_
              refine sx_goto (tgt := 35) dX0_placeSet_84 (by decide) ?_
              exact ih35 _ (by omega) _ (r + 1) rfl (by omega) (by rw [hq]; show _ = ypsN M c (rd M 1 c) (r + 1); simp only [ypsN]; first | rw [if_pos (show rd M 4 (c * 6 + r) = -1 from c55), if_pos (show rd M 6 (rd M 1 c * 6 + r) = -1 from c71)] | rw [if_pos (show rd M 4 (c * 6 + r) = -1 from c55), if_neg (show ¬ rd M 6 (rd M 1 c * 6 + r) = -1 from c71)] | rw [if_neg (show ¬ rd M 4 (c * 6 + r) = -1 from c55)])
            · -- 55f
              refine sx_aload_n dX0_placeSet_58 rfl ?_
              refine mm_getr (j := 6) hu dX0_placeSet_59 fl_X0_27 (by decide) ?_
              refine sx_iload_n dX0_placeSet_62 rfl ?_
              refine sx_bipush dX0_placeSet_63 rfl ?_
              refine sx_imul dX0_placeSet_65 ?_
              refine sx_iload dX0_placeSet_66 rfl ?_
              refine sx_iadd dX0_placeSet_68 ?_
              refine mm_ild (n := 18) hu dX0_placeSet_69 (by decide) rfl (by decide) (by first | omega | assumption | (with_reducible first | exact hR _ _ | exact rd_R hR _ _ | exact am_R_and _ _ | exact am_R_or _ _ | exact am_R_xor _ _ | exact am_R_shl _ _ | exact am_R_shr _ _ | exact bit_R _ _) | (exact ⟨by omega, by omega⟩) | exact hR _ _) (by first | omega | assumption | (with_reducible first | exact hR _ _ | exact rd_R hR _ _ | exact am_R_and _ _ | exact am_R_or _ _ | exact am_R_xor _ _ | exact am_R_shl _ _ | exact am_R_shr _ _ | exact bit_R _ _) | (exact ⟨by omega, by omega⟩) | exact hR _ _) rfl (fun r69 => ?_)
              refine sx_iconst dX0_placeSet_70 ?_
              refine sx_icmp_ne (tgt := 81) dX0_placeSet_71 (by decide) (by first | omega | assumption | (with_reducible first | exact hR _ _ | exact rd_R hR _ _ | exact am_R_and _ _ | exact am_R_or _ _ | exact am_R_xor _ _ | exact am_R_shl _ _ | exact am_R_shr _ _ | exact bit_R _ _) | (exact ⟨by omega, by omega⟩) | exact hR _ _) ⟨by decide, by decide⟩ (fun c71 => ?_) (fun c71 => ?_)
              · -- 71t
                refine sx_iinc dX0_placeSet_81 rfl (by decide) ?_
                refine sx_goto (tgt := 35) dX0_placeSet_84 (by decide) ?_
                exact ih35 _ (by omega) _ (r + 1) rfl (by omega) (by rw [hq]; show _ = ypsN M c (rd M 1 c) (r + 1); simp only [ypsN]; first | rw [if_pos (show rd M 4 (c * 6 + r) = -1 from c55), if_pos (show rd M 6 (rd M 1 c * 6 + r) = -1 from c71)] | rw [if_pos (show rd M 4 (c * 6 + r) = -1 from c55), if_neg (show ¬ rd M 6 (rd M 1 c * 6 + r) = -1 from c71)] | rw [if_neg (show ¬ rd M 4 (c * 6 + r) = -1 from c55)])
              · -- 71f
                refine sx_iload_n dX0_placeSet_74 rfl ?_
                refine sx_iconst dX0_placeSet_75 ?_
                refine sx_iload dX0_placeSet_76 rfl ?_
                refine sx_ishl dX0_placeSet_78 ?_
                refine sx_ior dX0_placeSet_79 ?_
                refine sx_istore_n dX0_placeSet_80 (by decide) ?_
                refine sx_iinc dX0_placeSet_81 rfl (by decide) ?_
                refine sx_goto (tgt := 35) dX0_placeSet_84 (by decide) ?_
                exact ih35 _ (by omega) _ (r + 1) rfl (by omega) (by rw [hq]; show _ = ypsN M c (rd M 1 c) (r + 1); simp only [ypsN]; first | rw [if_pos (show rd M 4 (c * 6 + r) = -1 from c55), if_pos (show rd M 6 (rd M 1 c * 6 + r) = -1 from c71)] | rw [if_pos (show rd M 4 (c * 6 + r) = -1 from c55), if_neg (show ¬ rd M 6 (rd M 1 c * 6 + r) = -1 from c71)] | rw [if_neg (show ¬ rd M 4 (c * 6 + r) = -1 from c55)])
      exact loop35 _ _ 0 rfl (by omega) rfl
    · -- 25f
      refine sx_iconst dX0_placeSet_28 ?_
      exact sx_iret dX0_placeSet_29 rfl (by unfold yps; first | rw [if_pos (show bit (M 0 1) c = 0 from c15)] | rw [if_neg (show ¬ bit (M 0 1) c = 0 from c15), if_pos (show rd M 5 (rd M 1 c) = c from c25)]) rfl
set_option maxHeartbeats 4000000 in
set_option maxRecDepth 100000 in
theorem ty_allPlaces {h0 : am_H} {u : Nat} (hu : u < 6) {M : am_M} (hW : WM M)  : Ct 1 Y0_allPlaces [.inr (u, 0)] (some (.inl (yall M (M 0 0).toNat))) (am_U h0 u M) (am_U h0 u M) := by
  refine Ct_of (by decide +kernel) (Nat.le_of_ble_eq_true rfl) ?_
  show Sx 1 Y0_allPlaces (am_U h0 u M) (some (.inl (yall M (M 0 0).toNat))) 0 [some (.inr (u, 0)), none, none] [] (am_U h0 u M)
  refine mm_vh (fun hR => ?_)
  obtain ⟨w0, w2, w1, w5, w8, w12, wb⟩ := id hW
  refine sx_iconst dX0_allPlaces_0 ?_
  refine sx_istore_n dX0_allPlaces_1 (by decide) ?_
  refine sx_iconst dX0_allPlaces_2 ?_
  refine sx_istore_n dX0_allPlaces_3 (by decide) ?_
  have loop4 : ∀ (n : Nat) (c : Nat), (M 0 0 - c).toNat = n → (c : Int) ≤ M 0 0 → Sx 1 Y0_allPlaces (am_U h0 u M) (some (.inl (yall M (M 0 0).toNat))) 4 [some (.inr (u, 0)), some (.inl (yall M c)), some (.inl (c : Int))] [] (am_U h0 u M) := by
    intro n
    induction n using Nat.strongRecOn with
    | _ n ih4 =>
      intro c hn hle
      refine sx_iload_n dX0_allPlaces_4 rfl ?_
      refine sx_aload_n dX0_allPlaces_5 rfl ?_
      refine mm_geti hu dX0_allPlaces_6 fl_X0_57 (by decide) (fun r6 => ?_)
      refine sx_icmp_ge (tgt := 29) dX0_allPlaces_9 (by decide) (by first | omega | assumption | (with_reducible first | exact hR _ _ | exact rd_R hR _ _ | exact am_R_and _ _ | exact am_R_or _ _ | exact am_R_xor _ _ | exact am_R_shl _ _ | exact am_R_shr _ _ | exact bit_R _ _) | (exact ⟨by omega, by omega⟩) | exact hR _ _) (by first | omega | assumption | (with_reducible first | exact hR _ _ | exact rd_R hR _ _ | exact am_R_and _ _ | exact am_R_or _ _ | exact am_R_xor _ _ | exact am_R_shl _ _ | exact am_R_shr _ _ | exact bit_R _ _) | (exact ⟨by omega, by omega⟩) | exact hR _ _) (fun c9 => ?_) (fun c9 => ?_)
      · -- 9t
        refine sx_iload_n dX0_allPlaces_29 rfl ?_
        exact sx_iret dX0_allPlaces_30 rfl (by rw [show c = (M 0 0).toNat by omega]) rfl
      · -- 9f
        refine sx_iload_n dX0_allPlaces_12 rfl ?_
        refine sx_aload_n dX0_allPlaces_13 rfl ?_
        refine sx_iload_n dX0_allPlaces_14 rfl ?_
        refine sx_callVi dX0_allPlaces_15 ml_X0_83 mv0_placeSet (ty_placeSet hu _ hW (by omega)) rfl (am_obM hu) rfl (Nat.le_of_ble_eq_true rfl) (Nat.le_of_ble_eq_true rfl) ?_
        refine sx_callSi dX0_allPlaces_18 ml_X0_87 ms6_bitCount (ty_bitCount _) rfl rfl (Nat.le_of_ble_eq_true rfl) (Nat.le_of_ble_eq_true rfl) ?_
        refine sx_iadd dX0_allPlaces_21 ?_
        refine sx_istore_n dX0_allPlaces_22 (by decide) ?_
        refine sx_iinc dX0_allPlaces_23 rfl (by decide) ?_
        refine sx_goto (tgt := 4) dX0_allPlaces_26 (by decide) ?_
        exact ih4 _ (by omega) (c + 1) rfl (by omega)
  exact loop4 _ 0 rfl (by omega)
set_option maxHeartbeats 4000000 in
set_option maxRecDepth 100000 in
theorem ty_sumOf {h0 : am_H} {u : Nat} (hu : u < 6) {M : am_M} (f r : Int) (hW : WM M) (hf9 : am_R f) (hr9 : am_R r)  : Ct 0 Y0_sumOf [.inr (u, 0), .inl f, .inl r] (some (.inl (ysum M f r (M 0 2).toNat))) (am_U h0 u M) (am_U h0 u M) := by
  refine Ct_of (by decide +kernel) (Nat.le_of_ble_eq_true rfl) ?_
  show Sx 0 Y0_sumOf (am_U h0 u M) (some (.inl (ysum M f r (M 0 2).toNat))) 0 [some (.inr (u, 0)), some (.inl f), some (.inl r), none, none] [] (am_U h0 u M)
  refine mm_vh (fun hR => ?_)
  obtain ⟨w0, w2, w1, w5, w8, w12, wb⟩ := id hW
  refine sx_iconst dX0_sumOf_0 ?_
  refine sx_istore_n dX0_sumOf_1 (by decide) ?_
  refine sx_iconst dX0_sumOf_2 ?_
  refine sx_istore dX0_sumOf_3 (by decide) ?_
  have loop5 : ∀ (n : Nat) (nn : Int) (w : Nat), (M 0 2 - w).toNat = n → (w : Int) ≤ M 0 2 → nn = ysum M f r w → Sx 0 Y0_sumOf (am_U h0 u M) (some (.inl (ysum M f r (M 0 2).toNat))) 5 [some (.inr (u, 0)), some (.inl f), some (.inl r), some (.inl nn), some (.inl (w : Int))] [] (am_U h0 u M) := by
    intro n
    induction n using Nat.strongRecOn with
    | _ n ih5 =>
      intro nn w hn hle hq
      refine sx_iload dX0_sumOf_5 rfl ?_
      refine sx_aload_n dX0_sumOf_7 rfl ?_
      refine mm_geti hu dX0_sumOf_8 fl_X0_64 (by decide) (fun r8 => ?_)
      refine sx_icmp_ge (tgt := 52) dX0_sumOf_11 (by decide) (by first | omega | assumption | (with_reducible first | exact hR _ _ | exact rd_R hR _ _ | exact am_R_and _ _ | exact am_R_or _ _ | exact am_R_xor _ _ | exact am_R_shl _ _ | exact am_R_shr _ _ | exact bit_R _ _) | (exact ⟨by omega, by omega⟩) | exact hR _ _) (by first | omega | assumption | (with_reducible first | exact hR _ _ | exact rd_R hR _ _ | exact am_R_and _ _ | exact am_R_or _ _ | exact am_R_xor _ _ | exact am_R_shl _ _ | exact am_R_shr _ _ | exact bit_R _ _) | (exact ⟨by omega, by omega⟩) | exact hR _ _) (fun c11 => ?_) (fun c11 => ?_)
      · -- 11t
        refine sx_iload_n dX0_sumOf_52 rfl ?_
        exact sx_iret dX0_sumOf_53 rfl (by rw [hq, show w = (M 0 2).toNat by omega]) rfl
      · -- 11f
        refine sx_aload_n dX0_sumOf_14 rfl ?_
        refine mm_getr (j := 12) hu dX0_sumOf_15 fl_X0_45 (by decide) ?_
        refine sx_iload dX0_sumOf_18 rfl ?_
        refine mm_ild (n := 24) hu dX0_sumOf_20 (by decide) rfl (by decide) (by first | omega | assumption | (with_reducible first | exact hR _ _ | exact rd_R hR _ _ | exact am_R_and _ _ | exact am_R_or _ _ | exact am_R_xor _ _ | exact am_R_shl _ _ | exact am_R_shr _ _ | exact bit_R _ _) | (exact ⟨by omega, by omega⟩) | exact hR _ _) (by first | omega | assumption | (with_reducible first | exact hR _ _ | exact rd_R hR _ _ | exact am_R_and _ _ | exact am_R_or _ _ | exact am_R_xor _ _ | exact am_R_shl _ _ | exact am_R_shr _ _ | exact bit_R _ _) | (exact ⟨by omega, by omega⟩) | exact hR _ _) rfl (fun r20 => ?_)
        refine sx_iload_n dX0_sumOf_21 rfl ?_
        refine sx_icmp_ne (tgt := 46) dX0_sumOf_22 (by decide) (by first | omega | assumption | (with_reducible first | exact hR _ _ | exact rd_R hR _ _ | exact am_R_and _ _ | exact am_R_or _ _ | exact am_R_xor _ _ | exact am_R_shl _ _ | exact am_R_shr _ _ | exact bit_R _ _) | (exact ⟨by omega, by omega⟩) | exact hR _ _) (by first | omega | assumption | (with_reducible first | exact hR _ _ | exact rd_R hR _ _ | exact am_R_and _ _ | exact am_R_or _ _ | exact am_R_xor _ _ | exact am_R_shl _ _ | exact am_R_shr _ _ | exact bit_R _ _) | (exact ⟨by omega, by omega⟩) | exact hR _ _) (fun c22 => ?_) (fun c22 => ?_)
        · -- 22t
          refine sx_iinc dX0_sumOf_46 rfl (by decide) ?_
          refine sx_goto (tgt := 5) dX0_sumOf_49 (by decide) ?_
          exact ih5 _ (by omega) _ (w + 1) rfl (by omega) (by rw [hq]; show _ = ysum M f r (w + 1); simp only [ysum]; first | rw [if_pos (show rd M 12 w = f from c22), if_pos (show rd M 11 w = r from c33)]; rfl | rw [if_pos (show rd M 12 w = f from c22), if_neg (show ¬ rd M 11 w = r from c33)] | rw [if_neg (show ¬ rd M 12 w = f from c22)])
        · -- 22f
          refine sx_aload_n dX0_sumOf_25 rfl ?_
          refine mm_getr (j := 11) hu dX0_sumOf_26 fl_X0_42 (by decide) ?_
          refine sx_iload dX0_sumOf_29 rfl ?_
          refine mm_ild (n := 24) hu dX0_sumOf_31 (by decide) rfl (by decide) (by first | omega | assumption | (with_reducible first | exact hR _ _ | exact rd_R hR _ _ | exact am_R_and _ _ | exact am_R_or _ _ | exact am_R_xor _ _ | exact am_R_shl _ _ | exact am_R_shr _ _ | exact bit_R _ _) | (exact ⟨by omega, by omega⟩) | exact hR _ _) (by first | omega | assumption | (with_reducible first | exact hR _ _ | exact rd_R hR _ _ | exact am_R_and _ _ | exact am_R_or _ _ | exact am_R_xor _ _ | exact am_R_shl _ _ | exact am_R_shr _ _ | exact bit_R _ _) | (exact ⟨by omega, by omega⟩) | exact hR _ _) rfl (fun r31 => ?_)
          refine sx_iload_n dX0_sumOf_32 rfl ?_
          refine sx_icmp_ne (tgt := 46) dX0_sumOf_33 (by decide) (by first | omega | assumption | (with_reducible first | exact hR _ _ | exact rd_R hR _ _ | exact am_R_and _ _ | exact am_R_or _ _ | exact am_R_xor _ _ | exact am_R_shl _ _ | exact am_R_shr _ _ | exact bit_R _ _) | (exact ⟨by omega, by omega⟩) | exact hR _ _) (by first | omega | assumption | (with_reducible first | exact hR _ _ | exact rd_R hR _ _ | exact am_R_and _ _ | exact am_R_or _ _ | exact am_R_xor _ _ | exact am_R_shl _ _ | exact am_R_shr _ _ | exact bit_R _ _) | (exact ⟨by omega, by omega⟩) | exact hR _ _) (fun c33 => ?_) (fun c33 => ?_)
          · -- 33t
            refine sx_iinc dX0_sumOf_46 rfl (by decide) ?_
            refine sx_goto (tgt := 5) dX0_sumOf_49 (by decide) ?_
            exact ih5 _ (by omega) _ (w + 1) rfl (by omega) (by rw [hq]; show _ = ysum M f r (w + 1); simp only [ysum]; first | rw [if_pos (show rd M 12 w = f from c22), if_pos (show rd M 11 w = r from c33)]; rfl | rw [if_pos (show rd M 12 w = f from c22), if_neg (show ¬ rd M 11 w = r from c33)] | rw [if_neg (show ¬ rd M 12 w = f from c22)])
          · -- 33f
            refine sx_iload_n dX0_sumOf_36 rfl ?_
            refine sx_aload_n dX0_sumOf_37 rfl ?_
            refine mm_getr (j := 9) hu dX0_sumOf_38 fl_X0_36 (by decide) ?_
            refine sx_iload dX0_sumOf_41 rfl ?_
            refine mm_ild (n := 24) hu dX0_sumOf_43 (by decide) rfl (by decide) (by first | omega | assumption | (with_reducible first | exact hR _ _ | exact rd_R hR _ _ | exact am_R_and _ _ | exact am_R_or _ _ | exact am_R_xor _ _ | exact am_R_shl _ _ | exact am_R_shr _ _ | exact bit_R _ _) | (exact ⟨by omega, by omega⟩) | exact hR _ _) (by first | omega | assumption | (with_reducible first | exact hR _ _ | exact rd_R hR _ _ | exact am_R_and _ _ | exact am_R_or _ _ | exact am_R_xor _ _ | exact am_R_shl _ _ | exact am_R_shr _ _ | exact bit_R _ _) | (exact ⟨by omega, by omega⟩) | exact hR _ _) rfl (fun r43 => ?_)
            refine sx_ixor dX0_sumOf_44 ?_
            refine sx_istore_n dX0_sumOf_45 (by decide) ?_
            refine sx_iinc dX0_sumOf_46 rfl (by decide) ?_
            refine sx_goto (tgt := 5) dX0_sumOf_49 (by decide) ?_
            exact ih5 _ (by omega) _ (w + 1) rfl (by omega) (by rw [hq]; show _ = ysum M f r (w + 1); simp only [ysum]; first | rw [if_pos (show rd M 12 w = f from c22), if_pos (show rd M 11 w = r from c33)]; rfl | rw [if_pos (show rd M 12 w = f from c22), if_neg (show ¬ rd M 11 w = r from c33)] | rw [if_neg (show ¬ rd M 12 w = f from c22)])
  exact loop5 _ _ 0 rfl (by omega) rfl
set_option maxHeartbeats 4000000 in
set_option maxRecDepth 100000 in
theorem ty_keptBy {h0 : am_H} {u : Nat} (hu : u < 6) {M : am_M} (c : Int) (hW : WM M) (hc9 : am_R c)  : Ct 0 Y0_keptBy [.inr (u, 0), .inl c] (some (.inl (ykb M c))) (am_U h0 u M) (am_U h0 u M) := by
  refine Ct_of (by decide +kernel) (Nat.le_of_ble_eq_true rfl) ?_
  show Sx 0 Y0_keptBy (am_U h0 u M) (some (.inl (ykb M c))) 0 [some (.inr (u, 0)), some (.inl c), none, none] [] (am_U h0 u M)
  refine mm_vh (fun hR => ?_)
  obtain ⟨w0, w2, w1, w5, w8, w12, wb⟩ := id hW
  refine sx_iconst dX0_keptBy_0 ?_
  refine sx_istore_n dX0_keptBy_1 (by decide) ?_
  refine sx_iconst dX0_keptBy_2 ?_
  refine sx_istore_n dX0_keptBy_3 (by decide) ?_
  have loop4 : ∀ (n : Nat) (nn : Int) (w : Nat), (M 0 2 - w).toNat = n → (w : Int) ≤ M 0 2 → nn = cntW (fun w => rd M 10 w == c) w → Sx 0 Y0_keptBy (am_U h0 u M) (some (.inl (ykb M c))) 4 [some (.inr (u, 0)), some (.inl c), some (.inl nn), some (.inl (w : Int))] [] (am_U h0 u M) := by
    intro n
    induction n using Nat.strongRecOn with
    | _ n ih4 =>
      intro nn w hn hle hq
      refine sx_iload_n dX0_keptBy_4 rfl ?_
      refine sx_aload_n dX0_keptBy_5 rfl ?_
      refine mm_geti hu dX0_keptBy_6 fl_X0_64 (by decide) (fun r6 => ?_)
      refine sx_icmp_ge (tgt := 31) dX0_keptBy_9 (by decide) (by first | omega | assumption | (with_reducible first | exact hR _ _ | exact rd_R hR _ _ | exact am_R_and _ _ | exact am_R_or _ _ | exact am_R_xor _ _ | exact am_R_shl _ _ | exact am_R_shr _ _ | exact bit_R _ _) | (exact ⟨by omega, by omega⟩) | exact hR _ _) (by first | omega | assumption | (with_reducible first | exact hR _ _ | exact rd_R hR _ _ | exact am_R_and _ _ | exact am_R_or _ _ | exact am_R_xor _ _ | exact am_R_shl _ _ | exact am_R_shr _ _ | exact bit_R _ _) | (exact ⟨by omega, by omega⟩) | exact hR _ _) (fun c9 => ?_) (fun c9 => ?_)
      · -- 9t
        refine sx_iload_n dX0_keptBy_31 rfl ?_
        exact sx_iret dX0_keptBy_32 rfl (by rw [hq, show w = (M 0 2).toNat by omega]; rfl) rfl
      · -- 9f
        refine sx_aload_n dX0_keptBy_12 rfl ?_
        refine mm_getr (j := 10) hu dX0_keptBy_13 fl_X0_39 (by decide) ?_
        refine sx_iload_n dX0_keptBy_16 rfl ?_
        refine mm_ild (n := 24) hu dX0_keptBy_17 (by decide) rfl (by decide) (by first | omega | assumption | (with_reducible first | exact hR _ _ | exact rd_R hR _ _ | exact am_R_and _ _ | exact am_R_or _ _ | exact am_R_xor _ _ | exact am_R_shl _ _ | exact am_R_shr _ _ | exact bit_R _ _) | (exact ⟨by omega, by omega⟩) | exact hR _ _) (by first | omega | assumption | (with_reducible first | exact hR _ _ | exact rd_R hR _ _ | exact am_R_and _ _ | exact am_R_or _ _ | exact am_R_xor _ _ | exact am_R_shl _ _ | exact am_R_shr _ _ | exact bit_R _ _) | (exact ⟨by omega, by omega⟩) | exact hR _ _) rfl (fun r17 => ?_)
        refine sx_iload_n dX0_keptBy_18 rfl ?_
        refine sx_icmp_ne (tgt := 25) dX0_keptBy_19 (by decide) (by first | omega | assumption | (with_reducible first | exact hR _ _ | exact rd_R hR _ _ | exact am_R_and _ _ | exact am_R_or _ _ | exact am_R_xor _ _ | exact am_R_shl _ _ | exact am_R_shr _ _ | exact bit_R _ _) | (exact ⟨by omega, by omega⟩) | exact hR _ _) (by first | omega | assumption | (with_reducible first | exact hR _ _ | exact rd_R hR _ _ | exact am_R_and _ _ | exact am_R_or _ _ | exact am_R_xor _ _ | exact am_R_shl _ _ | exact am_R_shr _ _ | exact bit_R _ _) | (exact ⟨by omega, by omega⟩) | exact hR _ _) (fun c19 => ?_) (fun c19 => ?_)
        · -- 19t
          refine sx_iinc dX0_keptBy_25 rfl (by decide) ?_
          refine sx_goto (tgt := 4) dX0_keptBy_28 (by decide) ?_
          exact ih4 _ (by omega) _ (w + 1) rfl (by omega) (by first | exact cntW_t hq (beq_iff_eq.mpr (show rd M 10 w = c from c19)) | exact cntW_f0 hq (beq_eq_false_iff_ne.mpr (show rd M 10 w ≠ c from c19)))
        · -- 19f
          refine sx_iinc dX0_keptBy_22 rfl (by decide) ?_
          refine sx_iinc dX0_keptBy_25 rfl (by decide) ?_
          refine sx_goto (tgt := 4) dX0_keptBy_28 (by decide) ?_
          exact ih4 _ (by omega) _ (w + 1) rfl (by omega) (by first | exact cntW_t hq (beq_iff_eq.mpr (show rd M 10 w = c from c19)) | exact cntW_f0 hq (beq_eq_false_iff_ne.mpr (show rd M 10 w ≠ c from c19)))
  exact loop4 _ _ 0 rfl (by omega) rfl
set_option maxHeartbeats 4000000 in
set_option maxRecDepth 100000 in
theorem ty_keptIn {h0 : am_H} {u : Nat} (hu : u < 6) {M : am_M} (f rows : Int) (hW : WM M) (hf9 : am_R f)  : Ct 0 Y0_keptIn [.inr (u, 0), .inl f, .inl rows] (some (.inl (ykin M f rows))) (am_U h0 u M) (am_U h0 u M) := by
  refine Ct_of (by decide +kernel) (Nat.le_of_ble_eq_true rfl) ?_
  show Sx 0 Y0_keptIn (am_U h0 u M) (some (.inl (ykin M f rows))) 0 [some (.inr (u, 0)), some (.inl f), some (.inl rows), none, none] [] (am_U h0 u M)
  refine mm_vh (fun hR => ?_)
  obtain ⟨w0, w2, w1, w5, w8, w12, wb⟩ := id hW
  refine sx_iconst dX0_keptIn_0 ?_
  refine sx_istore_n dX0_keptIn_1 (by decide) ?_
  refine sx_iconst dX0_keptIn_2 ?_
  refine sx_istore dX0_keptIn_3 (by decide) ?_
  have loop5 : ∀ (n : Nat) (nn : Int) (w : Nat), (M 0 2 - w).toNat = n → (w : Int) ≤ M 0 2 → nn = cntW (fun w => !(rd M 10 w == -1) && (rd M 12 w == f && bit rows (rd M 11 w) == 1)) w → Sx 0 Y0_keptIn (am_U h0 u M) (some (.inl (ykin M f rows))) 5 [some (.inr (u, 0)), some (.inl f), some (.inl rows), some (.inl nn), some (.inl (w : Int))] [] (am_U h0 u M) := by
    intro n
    induction n using Nat.strongRecOn with
    | _ n ih5 =>
      intro nn w hn hle hq
      refine sx_iload dX0_keptIn_5 rfl ?_
      refine sx_aload_n dX0_keptIn_7 rfl ?_
      refine mm_geti hu dX0_keptIn_8 fl_X0_64 (by decide) (fun r8 => ?_)
      refine sx_icmp_ge (tgt := 60) dX0_keptIn_11 (by decide) (by first | omega | assumption | (with_reducible first | exact hR _ _ | exact rd_R hR _ _ | exact am_R_and _ _ | exact am_R_or _ _ | exact am_R_xor _ _ | exact am_R_shl _ _ | exact am_R_shr _ _ | exact bit_R _ _) | (exact ⟨by omega, by omega⟩) | exact hR _ _) (by first | omega | assumption | (with_reducible first | exact hR _ _ | exact rd_R hR _ _ | exact am_R_and _ _ | exact am_R_or _ _ | exact am_R_xor _ _ | exact am_R_shl _ _ | exact am_R_shr _ _ | exact bit_R _ _) | (exact ⟨by omega, by omega⟩) | exact hR _ _) (fun c11 => ?_) (fun c11 => ?_)
      · -- 11t
        refine sx_iload_n dX0_keptIn_60 rfl ?_
        exact sx_iret dX0_keptIn_61 rfl (by rw [hq, show w = (M 0 2).toNat by omega]; rfl) rfl
      · -- 11f
        refine sx_aload_n dX0_keptIn_14 rfl ?_
        refine mm_getr (j := 10) hu dX0_keptIn_15 fl_X0_39 (by decide) ?_
        refine sx_iload dX0_keptIn_18 rfl ?_
        refine mm_ild (n := 24) hu dX0_keptIn_20 (by decide) rfl (by decide) (by first | omega | assumption | (with_reducible first | exact hR _ _ | exact rd_R hR _ _ | exact am_R_and _ _ | exact am_R_or _ _ | exact am_R_xor _ _ | exact am_R_shl _ _ | exact am_R_shr _ _ | exact bit_R _ _) | (exact ⟨by omega, by omega⟩) | exact hR _ _) (by first | omega | assumption | (with_reducible first | exact hR _ _ | exact rd_R hR _ _ | exact am_R_and _ _ | exact am_R_or _ _ | exact am_R_xor _ _ | exact am_R_shl _ _ | exact am_R_shr _ _ | exact bit_R _ _) | (exact ⟨by omega, by omega⟩) | exact hR _ _) rfl (fun r20 => ?_)
        refine sx_iconst dX0_keptIn_21 ?_
        refine sx_icmp_eq (tgt := 54) dX0_keptIn_22 (by decide) (by first | omega | assumption | (with_reducible first | exact hR _ _ | exact rd_R hR _ _ | exact am_R_and _ _ | exact am_R_or _ _ | exact am_R_xor _ _ | exact am_R_shl _ _ | exact am_R_shr _ _ | exact bit_R _ _) | (exact ⟨by omega, by omega⟩) | exact hR _ _) ⟨by decide, by decide⟩ (fun c22 => ?_) (fun c22 => ?_)
        · -- 22t
          refine sx_iinc dX0_keptIn_54 rfl (by decide) ?_
          refine sx_goto (tgt := 5) dX0_keptIn_57 (by decide) ?_
          exact ih5 _ (by omega) _ (w + 1) rfl (by omega) (cntW_f0 hq (by simp [show rd M 10 w = -1 from c22]))
        · -- 22f
          refine sx_aload_n dX0_keptIn_25 rfl ?_
          refine mm_getr (j := 12) hu dX0_keptIn_26 fl_X0_45 (by decide) ?_
          refine sx_iload dX0_keptIn_29 rfl ?_
          refine mm_ild (n := 24) hu dX0_keptIn_31 (by decide) rfl (by decide) (by first | omega | assumption | (with_reducible first | exact hR _ _ | exact rd_R hR _ _ | exact am_R_and _ _ | exact am_R_or _ _ | exact am_R_xor _ _ | exact am_R_shl _ _ | exact am_R_shr _ _ | exact bit_R _ _) | (exact ⟨by omega, by omega⟩) | exact hR _ _) (by first | omega | assumption | (with_reducible first | exact hR _ _ | exact rd_R hR _ _ | exact am_R_and _ _ | exact am_R_or _ _ | exact am_R_xor _ _ | exact am_R_shl _ _ | exact am_R_shr _ _ | exact bit_R _ _) | (exact ⟨by omega, by omega⟩) | exact hR _ _) rfl (fun r31 => ?_)
          refine sx_iload_n dX0_keptIn_32 rfl ?_
          refine sx_icmp_ne (tgt := 54) dX0_keptIn_33 (by decide) (by first | omega | assumption | (with_reducible first | exact hR _ _ | exact rd_R hR _ _ | exact am_R_and _ _ | exact am_R_or _ _ | exact am_R_xor _ _ | exact am_R_shl _ _ | exact am_R_shr _ _ | exact bit_R _ _) | (exact ⟨by omega, by omega⟩) | exact hR _ _) (by first | omega | assumption | (with_reducible first | exact hR _ _ | exact rd_R hR _ _ | exact am_R_and _ _ | exact am_R_or _ _ | exact am_R_xor _ _ | exact am_R_shl _ _ | exact am_R_shr _ _ | exact bit_R _ _) | (exact ⟨by omega, by omega⟩) | exact hR _ _) (fun c33 => ?_) (fun c33 => ?_)
          · -- 33t
            refine sx_iinc dX0_keptIn_54 rfl (by decide) ?_
            refine sx_goto (tgt := 5) dX0_keptIn_57 (by decide) ?_
            exact ih5 _ (by omega) _ (w + 1) rfl (by omega) (cntW_f0 hq (by simp [show ¬ rd M 10 w = -1 from c22, show ¬ rd M 12 w = f from c33]))
          · -- 33f
            refine sx_iload_n dX0_keptIn_36 rfl ?_
            refine sx_aload_n dX0_keptIn_37 rfl ?_
            refine mm_getr (j := 11) hu dX0_keptIn_38 fl_X0_42 (by decide) ?_
            refine sx_iload dX0_keptIn_41 rfl ?_
            refine mm_ild (n := 24) hu dX0_keptIn_43 (by decide) rfl (by decide) (by first | omega | assumption | (with_reducible first | exact hR _ _ | exact rd_R hR _ _ | exact am_R_and _ _ | exact am_R_or _ _ | exact am_R_xor _ _ | exact am_R_shl _ _ | exact am_R_shr _ _ | exact bit_R _ _) | (exact ⟨by omega, by omega⟩) | exact hR _ _) (by first | omega | assumption | (with_reducible first | exact hR _ _ | exact rd_R hR _ _ | exact am_R_and _ _ | exact am_R_or _ _ | exact am_R_xor _ _ | exact am_R_shl _ _ | exact am_R_shr _ _ | exact bit_R _ _) | (exact ⟨by omega, by omega⟩) | exact hR _ _) rfl (fun r43 => ?_)
            refine sx_ishr dX0_keptIn_44 ?_
            refine sx_iconst dX0_keptIn_45 ?_
            refine sx_iand dX0_keptIn_46 ?_
            refine sx_iconst dX0_keptIn_47 ?_
            refine sx_icmp_ne (tgt := 54) dX0_keptIn_48 (by decide) (by first | omega | assumption | (with_reducible first | exact hR _ _ | exact rd_R hR _ _ | exact am_R_and _ _ | exact am_R_or _ _ | exact am_R_xor _ _ | exact am_R_shl _ _ | exact am_R_shr _ _ | exact bit_R _ _) | (exact ⟨by omega, by omega⟩) | exact hR _ _) ⟨by decide, by decide⟩ (fun c48 => ?_) (fun c48 => ?_)
            · -- 48t
              refine sx_iinc dX0_keptIn_54 rfl (by decide) ?_
              refine sx_goto (tgt := 5) dX0_keptIn_57 (by decide) ?_
              exact ih5 _ (by omega) _ (w + 1) rfl (by omega) (cntW_f0 hq (by simp [show ¬ rd M 10 w = -1 from c22, show rd M 12 w = f from c33, show ¬ bit rows (rd M 11 w) = 1 from c48]))
            · -- 48f
              refine sx_iinc dX0_keptIn_51 rfl (by decide) ?_
              refine sx_iinc dX0_keptIn_54 rfl (by decide) ?_
              refine sx_goto (tgt := 5) dX0_keptIn_57 (by decide) ?_
              exact ih5 _ (by omega) _ (w + 1) rfl (by omega) (cntW_t hq (by simp [show ¬ rd M 10 w = -1 from c22, show rd M 12 w = f from c33, show bit rows (rd M 11 w) = 1 from c48]))
  exact loop5 _ _ 0 rfl (by omega) rfl
set_option maxHeartbeats 4000000 in
set_option maxRecDepth 100000 in
theorem ty_wordsKept {h0 : am_H} {u : Nat} (hu : u < 6) {M : am_M} (hW : WM M)  : Ct 0 Y0_wordsKept [.inr (u, 0)] (some (.inl (ywk M))) (am_U h0 u M) (am_U h0 u M) := by
  refine Ct_of (by decide +kernel) (Nat.le_of_ble_eq_true rfl) ?_
  show Sx 0 Y0_wordsKept (am_U h0 u M) (some (.inl (ywk M))) 0 [some (.inr (u, 0)), none, none] [] (am_U h0 u M)
  refine mm_vh (fun hR => ?_)
  obtain ⟨w0, w2, w1, w5, w8, w12, wb⟩ := id hW
  refine sx_iconst dX0_wordsKept_0 ?_
  refine sx_istore_n dX0_wordsKept_1 (by decide) ?_
  refine sx_iconst dX0_wordsKept_2 ?_
  refine sx_istore_n dX0_wordsKept_3 (by decide) ?_
  have loop4 : ∀ (n : Nat) (nn : Int) (w : Nat), (M 0 2 - w).toNat = n → (w : Int) ≤ M 0 2 → nn = cntW (fun w => !(rd M 10 w == -1)) w → Sx 0 Y0_wordsKept (am_U h0 u M) (some (.inl (ywk M))) 4 [some (.inr (u, 0)), some (.inl nn), some (.inl (w : Int))] [] (am_U h0 u M) := by
    intro n
    induction n using Nat.strongRecOn with
    | _ n ih4 =>
      intro nn w hn hle hq
      refine sx_iload_n dX0_wordsKept_4 rfl ?_
      refine sx_aload_n dX0_wordsKept_5 rfl ?_
      refine mm_geti hu dX0_wordsKept_6 fl_X0_64 (by decide) (fun r6 => ?_)
      refine sx_icmp_ge (tgt := 31) dX0_wordsKept_9 (by decide) (by first | omega | assumption | (with_reducible first | exact hR _ _ | exact rd_R hR _ _ | exact am_R_and _ _ | exact am_R_or _ _ | exact am_R_xor _ _ | exact am_R_shl _ _ | exact am_R_shr _ _ | exact bit_R _ _) | (exact ⟨by omega, by omega⟩) | exact hR _ _) (by first | omega | assumption | (with_reducible first | exact hR _ _ | exact rd_R hR _ _ | exact am_R_and _ _ | exact am_R_or _ _ | exact am_R_xor _ _ | exact am_R_shl _ _ | exact am_R_shr _ _ | exact bit_R _ _) | (exact ⟨by omega, by omega⟩) | exact hR _ _) (fun c9 => ?_) (fun c9 => ?_)
      · -- 9t
        refine sx_iload_n dX0_wordsKept_31 rfl ?_
        exact sx_iret dX0_wordsKept_32 rfl (by rw [hq, show w = (M 0 2).toNat by omega]; rfl) rfl
      · -- 9f
        refine sx_aload_n dX0_wordsKept_12 rfl ?_
        refine mm_getr (j := 10) hu dX0_wordsKept_13 fl_X0_39 (by decide) ?_
        refine sx_iload_n dX0_wordsKept_16 rfl ?_
        refine mm_ild (n := 24) hu dX0_wordsKept_17 (by decide) rfl (by decide) (by first | omega | assumption | (with_reducible first | exact hR _ _ | exact rd_R hR _ _ | exact am_R_and _ _ | exact am_R_or _ _ | exact am_R_xor _ _ | exact am_R_shl _ _ | exact am_R_shr _ _ | exact bit_R _ _) | (exact ⟨by omega, by omega⟩) | exact hR _ _) (by first | omega | assumption | (with_reducible first | exact hR _ _ | exact rd_R hR _ _ | exact am_R_and _ _ | exact am_R_or _ _ | exact am_R_xor _ _ | exact am_R_shl _ _ | exact am_R_shr _ _ | exact bit_R _ _) | (exact ⟨by omega, by omega⟩) | exact hR _ _) rfl (fun r17 => ?_)
        refine sx_iconst dX0_wordsKept_18 ?_
        refine sx_icmp_eq (tgt := 25) dX0_wordsKept_19 (by decide) (by first | omega | assumption | (with_reducible first | exact hR _ _ | exact rd_R hR _ _ | exact am_R_and _ _ | exact am_R_or _ _ | exact am_R_xor _ _ | exact am_R_shl _ _ | exact am_R_shr _ _ | exact bit_R _ _) | (exact ⟨by omega, by omega⟩) | exact hR _ _) ⟨by decide, by decide⟩ (fun c19 => ?_) (fun c19 => ?_)
        · -- 19t
          refine sx_iinc dX0_wordsKept_25 rfl (by decide) ?_
          refine sx_goto (tgt := 4) dX0_wordsKept_28 (by decide) ?_
          exact ih4 _ (by omega) _ (w + 1) rfl (by omega) (by first | exact cntW_t hq (by simp [show ¬ rd M 10 w = -1 from c19]) | exact cntW_f0 hq (by simp [show rd M 10 w = -1 from c19]))
        · -- 19f
          refine sx_iinc dX0_wordsKept_22 rfl (by decide) ?_
          refine sx_iinc dX0_wordsKept_25 rfl (by decide) ?_
          refine sx_goto (tgt := 4) dX0_wordsKept_28 (by decide) ?_
          exact ih4 _ (by omega) _ (w + 1) rfl (by omega) (by first | exact cntW_t hq (by simp [show ¬ rd M 10 w = -1 from c19]) | exact cntW_f0 hq (by simp [show rd M 10 w = -1 from c19]))
  exact loop4 _ _ 0 rfl (by omega) rfl
set_option maxHeartbeats 4000000 in
set_option maxRecDepth 100000 in
theorem ty_wordsWaiting {h0 : am_H} {u : Nat} (hu : u < 6) {M : am_M}  : Ct 0 Y0_wordsWaiting [.inr (u, 0)] (some (.inl (yww M))) (am_U h0 u M) (am_U h0 u M) := by
  refine Ct_of (by decide +kernel) (Nat.le_of_ble_eq_true rfl) ?_
  show Sx 0 Y0_wordsWaiting (am_U h0 u M) (some (.inl (yww M))) 0 [some (.inr (u, 0)), none, none] [] (am_U h0 u M)
  refine mm_vh (fun hR => ?_)
  refine sx_iconst dX0_wordsWaiting_0 ?_
  refine sx_istore_n dX0_wordsWaiting_1 (by decide) ?_
  refine sx_iconst dX0_wordsWaiting_2 ?_
  refine sx_istore_n dX0_wordsWaiting_3 (by decide) ?_
  have loop4 : ∀ (n : Nat) (f : Nat), (3 - f) = n → f ≤ 3 → Sx 0 Y0_wordsWaiting (am_U h0 u M) (some (.inl (yww M))) 4 [some (.inr (u, 0)), some (.inl (sumW (fun f => rd M 8 f) f)), some (.inl (f : Int))] [] (am_U h0 u M) := by
    intro n
    induction n using Nat.strongRecOn with
    | _ n ih4 =>
      intro f hn hle
      refine sx_iload_n dX0_wordsWaiting_4 rfl ?_
      refine sx_iconst dX0_wordsWaiting_5 ?_
      refine sx_icmp_ge (tgt := 24) dX0_wordsWaiting_6 (by decide) (by first | omega | assumption | (with_reducible first | exact hR _ _ | exact rd_R hR _ _ | exact am_R_and _ _ | exact am_R_or _ _ | exact am_R_xor _ _ | exact am_R_shl _ _ | exact am_R_shr _ _ | exact bit_R _ _) | (exact ⟨by omega, by omega⟩) | exact hR _ _) ⟨by decide, by decide⟩ (fun c6 => ?_) (fun c6 => ?_)
      · -- 6t
        refine sx_iload_n dX0_wordsWaiting_24 rfl ?_
        exact sx_iret dX0_wordsWaiting_25 rfl (by rw [show f = 3 by omega]; rfl) rfl
      · -- 6f
        refine sx_iload_n dX0_wordsWaiting_9 rfl ?_
        refine sx_aload_n dX0_wordsWaiting_10 rfl ?_
        refine mm_getr (j := 8) hu dX0_wordsWaiting_11 fl_X0_33 (by decide) ?_
        refine sx_iload_n dX0_wordsWaiting_14 rfl ?_
        refine mm_ild (n := 3) hu dX0_wordsWaiting_15 (by decide) rfl (by decide) (by first | omega | assumption | (with_reducible first | exact hR _ _ | exact rd_R hR _ _ | exact am_R_and _ _ | exact am_R_or _ _ | exact am_R_xor _ _ | exact am_R_shl _ _ | exact am_R_shr _ _ | exact bit_R _ _) | (exact ⟨by omega, by omega⟩) | exact hR _ _) (by first | omega | assumption | (with_reducible first | exact hR _ _ | exact rd_R hR _ _ | exact am_R_and _ _ | exact am_R_or _ _ | exact am_R_xor _ _ | exact am_R_shl _ _ | exact am_R_shr _ _ | exact bit_R _ _) | (exact ⟨by omega, by omega⟩) | exact hR _ _) rfl (fun r15 => ?_)
        refine sx_iadd dX0_wordsWaiting_16 ?_
        refine sx_istore_n dX0_wordsWaiting_17 (by decide) ?_
        refine sx_iinc dX0_wordsWaiting_18 rfl (by decide) ?_
        refine sx_goto (tgt := 4) dX0_wordsWaiting_21 (by decide) ?_
        exact ih4 _ (by omega) (f + 1) rfl (by omega)
  exact loop4 _ 0 rfl (by omega)
set_option maxHeartbeats 4000000 in
set_option maxRecDepth 100000 in
theorem ty_godfathers {h0 : am_H} {u : Nat} (hu : u < 6) {M : am_M}  : Ct 0 Y0_godfathers [.inr (u, 0)] (some (.inl (ygf M))) (am_U h0 u M) (am_U h0 u M) := by
  refine Ct_of (by decide +kernel) (Nat.le_of_ble_eq_true rfl) ?_
  show Sx 0 Y0_godfathers (am_U h0 u M) (some (.inl (ygf M))) 0 [some (.inr (u, 0)), none, none] [] (am_U h0 u M)
  refine mm_vh (fun hR => ?_)
  refine sx_iconst dX0_godfathers_0 ?_
  refine sx_istore_n dX0_godfathers_1 (by decide) ?_
  refine sx_iconst dX0_godfathers_2 ?_
  refine sx_istore_n dX0_godfathers_3 (by decide) ?_
  have loop4 : ∀ (n : Nat) (nn : Int) (f : Nat), (3 - f) = n → f ≤ 3 → nn = cntW (fun f => !(rd M 5 f == -1)) f → Sx 0 Y0_godfathers (am_U h0 u M) (some (.inl (ygf M))) 4 [some (.inr (u, 0)), some (.inl nn), some (.inl (f : Int))] [] (am_U h0 u M) := by
    intro n
    induction n using Nat.strongRecOn with
    | _ n ih4 =>
      intro nn f hn hle hq
      refine sx_iload_n dX0_godfathers_4 rfl ?_
      refine sx_iconst dX0_godfathers_5 ?_
      refine sx_icmp_ge (tgt := 28) dX0_godfathers_6 (by decide) (by first | omega | assumption | (with_reducible first | exact hR _ _ | exact rd_R hR _ _ | exact am_R_and _ _ | exact am_R_or _ _ | exact am_R_xor _ _ | exact am_R_shl _ _ | exact am_R_shr _ _ | exact bit_R _ _) | (exact ⟨by omega, by omega⟩) | exact hR _ _) ⟨by decide, by decide⟩ (fun c6 => ?_) (fun c6 => ?_)
      · -- 6t
        refine sx_iload_n dX0_godfathers_28 rfl ?_
        exact sx_iret dX0_godfathers_29 rfl (by rw [hq, show f = 3 by omega]; rfl) rfl
      · -- 6f
        refine sx_aload_n dX0_godfathers_9 rfl ?_
        refine mm_getr (j := 5) hu dX0_godfathers_10 fl_X0_24 (by decide) ?_
        refine sx_iload_n dX0_godfathers_13 rfl ?_
        refine mm_ild (n := 3) hu dX0_godfathers_14 (by decide) rfl (by decide) (by first | omega | assumption | (with_reducible first | exact hR _ _ | exact rd_R hR _ _ | exact am_R_and _ _ | exact am_R_or _ _ | exact am_R_xor _ _ | exact am_R_shl _ _ | exact am_R_shr _ _ | exact bit_R _ _) | (exact ⟨by omega, by omega⟩) | exact hR _ _) (by first | omega | assumption | (with_reducible first | exact hR _ _ | exact rd_R hR _ _ | exact am_R_and _ _ | exact am_R_or _ _ | exact am_R_xor _ _ | exact am_R_shl _ _ | exact am_R_shr _ _ | exact bit_R _ _) | (exact ⟨by omega, by omega⟩) | exact hR _ _) rfl (fun r14 => ?_)
        refine sx_iconst dX0_godfathers_15 ?_
        refine sx_icmp_eq (tgt := 22) dX0_godfathers_16 (by decide) (by first | omega | assumption | (with_reducible first | exact hR _ _ | exact rd_R hR _ _ | exact am_R_and _ _ | exact am_R_or _ _ | exact am_R_xor _ _ | exact am_R_shl _ _ | exact am_R_shr _ _ | exact bit_R _ _) | (exact ⟨by omega, by omega⟩) | exact hR _ _) ⟨by decide, by decide⟩ (fun c16 => ?_) (fun c16 => ?_)
        · -- 16t
          refine sx_iinc dX0_godfathers_22 rfl (by decide) ?_
          refine sx_goto (tgt := 4) dX0_godfathers_25 (by decide) ?_
          exact ih4 _ (by omega) _ (f + 1) rfl (by omega) (by first | exact cntW_t hq (by simp [show ¬ rd M 5 f = -1 from c16]) | exact cntW_f0 hq (by simp [show rd M 5 f = -1 from c16]))
        · -- 16f
          refine sx_iinc dX0_godfathers_19 rfl (by decide) ?_
          refine sx_iinc dX0_godfathers_22 rfl (by decide) ?_
          refine sx_goto (tgt := 4) dX0_godfathers_25 (by decide) ?_
          exact ih4 _ (by omega) _ (f + 1) rfl (by omega) (by first | exact cntW_t hq (by simp [show ¬ rd M 5 f = -1 from c16]) | exact cntW_f0 hq (by simp [show rd M 5 f = -1 from c16]))
  exact loop4 _ _ 0 rfl (by omega) rfl
