set_option maxHeartbeats 4000000 in
set_option maxRecDepth 100000 in
theorem ty_copyFrom {h0 : am_H} {u v : Nat} (hu : u < 6) (hv : v < 6) (huv : u ≠ v) {M : am_M} : Ct 1 Y0_copyFrom [.inr (u, 0), .inr (v, 0)] none (am_U h0 u M) (am_U h0 u (h0.1 v)) := by
  refine Ct_of (by decide +kernel) (Nat.le_of_ble_eq_true rfl) ?_
  show Sx 1 Y0_copyFrom (am_U h0 u (h0.1 v)) none 0 [some (.inr (u, 0)), some (.inr (v, 0))] [] (am_U h0 u M)
  refine sx_aload_n dX0_copyFrom_0 rfl ?_
  refine sx_aload_n dX0_copyFrom_1 rfl ?_
  refine mo_geti hv huv dX0_copyFrom_2 fl_X0_57 (by decide) (fun r2 => ?_)
  refine mm_put hu dX0_copyFrom_5 fl_X0_57 (by decide) (by first | omega | assumption | (with_reducible first | exact hR _ _ | exact rd_R hR _ _ | exact am_R_and _ _ | exact am_R_or _ _ | exact am_R_xor _ _ | exact am_R_shl _ _ | exact am_R_shr _ _ | exact bit_R _ _) | (exact ⟨by omega, by omega⟩) | exact hR _ _) ?_
  refine sx_aload_n dX0_copyFrom_8 rfl ?_
  refine sx_aload_n dX0_copyFrom_9 rfl ?_
  refine mo_geti hv huv dX0_copyFrom_10 fl_X0_61 (by decide) (fun r10 => ?_)
  refine mm_put hu dX0_copyFrom_13 fl_X0_61 (by decide) (by first | omega | assumption | (with_reducible first | exact hR _ _ | exact rd_R hR _ _ | exact am_R_and _ _ | exact am_R_or _ _ | exact am_R_xor _ _ | exact am_R_shl _ _ | exact am_R_shr _ _ | exact bit_R _ _) | (exact ⟨by omega, by omega⟩) | exact hR _ _) ?_
  refine sx_aload_n dX0_copyFrom_16 rfl ?_
  refine sx_aload_n dX0_copyFrom_17 rfl ?_
  refine mo_geti hv huv dX0_copyFrom_18 fl_X0_64 (by decide) (fun r18 => ?_)
  refine mm_put hu dX0_copyFrom_21 fl_X0_64 (by decide) (by first | omega | assumption | (with_reducible first | exact hR _ _ | exact rd_R hR _ _ | exact am_R_and _ _ | exact am_R_or _ _ | exact am_R_xor _ _ | exact am_R_shl _ _ | exact am_R_shr _ _ | exact bit_R _ _) | (exact ⟨by omega, by omega⟩) | exact hR _ _) ?_
  refine sx_aload_n dX0_copyFrom_24 rfl ?_
  refine sx_aload_n dX0_copyFrom_25 rfl ?_
  refine mo_geti hv huv dX0_copyFrom_26 fl_X0_67 (by decide) (fun r26 => ?_)
  refine mm_put hu dX0_copyFrom_29 fl_X0_67 (by decide) (by first | omega | assumption | (with_reducible first | exact hR _ _ | exact rd_R hR _ _ | exact am_R_and _ _ | exact am_R_or _ _ | exact am_R_xor _ _ | exact am_R_shl _ _ | exact am_R_shr _ _ | exact bit_R _ _) | (exact ⟨by omega, by omega⟩) | exact hR _ _) ?_
  refine sx_aload_n dX0_copyFrom_32 rfl ?_
  refine sx_aload_n dX0_copyFrom_33 rfl ?_
  refine mo_geti hv huv dX0_copyFrom_34 fl_X0_70 (by decide) (fun r34 => ?_)
  refine mm_put hu dX0_copyFrom_37 fl_X0_70 (by decide) (by first | omega | assumption | (with_reducible first | exact hR _ _ | exact rd_R hR _ _ | exact am_R_and _ _ | exact am_R_or _ _ | exact am_R_xor _ _ | exact am_R_shl _ _ | exact am_R_shr _ _ | exact bit_R _ _) | (exact ⟨by omega, by omega⟩) | exact hR _ _) ?_
  refine sx_aload_n dX0_copyFrom_40 rfl ?_
  refine mo_getr (j := 1) hv dX0_copyFrom_41 fl_X0_9 (by decide) ?_
  refine sx_iconst dX0_copyFrom_44 ?_
  refine sx_aload_n dX0_copyFrom_45 rfl ?_
  refine mm_getr (j := 1) hu dX0_copyFrom_46 fl_X0_9 (by decide) ?_
  refine sx_iconst dX0_copyFrom_49 ?_
  refine sx_bipush dX0_copyFrom_50 rfl ?_
  refine sx_copy (j := 1) (n := 8) hu hv huv dX0_copyFrom_52 ml_copy (by decide) rfl (by decide) (Nat.le_of_ble_eq_true rfl) ?_
  refine sx_aload_n dX0_copyFrom_55 rfl ?_
  refine mo_getr (j := 2) hv dX0_copyFrom_56 fl_X0_15 (by decide) ?_
  refine sx_iconst dX0_copyFrom_59 ?_
  refine sx_aload_n dX0_copyFrom_60 rfl ?_
  refine mm_getr (j := 2) hu dX0_copyFrom_61 fl_X0_15 (by decide) ?_
  refine sx_iconst dX0_copyFrom_64 ?_
  refine sx_bipush dX0_copyFrom_65 rfl ?_
  refine sx_copy (j := 2) (n := 8) hu hv huv dX0_copyFrom_67 ml_copy (by decide) rfl (by decide) (Nat.le_of_ble_eq_true rfl) ?_
  refine sx_aload_n dX0_copyFrom_70 rfl ?_
  refine mo_getr (j := 3) hv dX0_copyFrom_71 fl_X0_18 (by decide) ?_
  refine sx_iconst dX0_copyFrom_74 ?_
  refine sx_aload_n dX0_copyFrom_75 rfl ?_
  refine mm_getr (j := 3) hu dX0_copyFrom_76 fl_X0_18 (by decide) ?_
  refine sx_iconst dX0_copyFrom_79 ?_
  refine sx_bipush dX0_copyFrom_80 rfl ?_
  refine sx_copy (j := 3) (n := 8) hu hv huv dX0_copyFrom_82 ml_copy (by decide) rfl (by decide) (Nat.le_of_ble_eq_true rfl) ?_
  refine sx_aload_n dX0_copyFrom_85 rfl ?_
  refine mo_getr (j := 4) hv dX0_copyFrom_86 fl_X0_21 (by decide) ?_
  refine sx_iconst dX0_copyFrom_89 ?_
  refine sx_aload_n dX0_copyFrom_90 rfl ?_
  refine mm_getr (j := 4) hu dX0_copyFrom_91 fl_X0_21 (by decide) ?_
  refine sx_iconst dX0_copyFrom_94 ?_
  refine sx_bipush dX0_copyFrom_95 rfl ?_
  refine sx_copy (j := 4) (n := 48) hu hv huv dX0_copyFrom_97 ml_copy (by decide) rfl (by decide) (Nat.le_of_ble_eq_true rfl) ?_
  refine sx_aload_n dX0_copyFrom_100 rfl ?_
  refine mo_getr (j := 5) hv dX0_copyFrom_101 fl_X0_24 (by decide) ?_
  refine sx_iconst dX0_copyFrom_104 ?_
  refine sx_aload_n dX0_copyFrom_105 rfl ?_
  refine mm_getr (j := 5) hu dX0_copyFrom_106 fl_X0_24 (by decide) ?_
  refine sx_iconst dX0_copyFrom_109 ?_
  refine sx_iconst dX0_copyFrom_110 ?_
  refine sx_copy (j := 5) (n := 3) hu hv huv dX0_copyFrom_111 ml_copy (by decide) rfl (by decide) (Nat.le_of_ble_eq_true rfl) ?_
  refine sx_aload_n dX0_copyFrom_114 rfl ?_
  refine mo_getr (j := 6) hv dX0_copyFrom_115 fl_X0_27 (by decide) ?_
  refine sx_iconst dX0_copyFrom_118 ?_
  refine sx_aload_n dX0_copyFrom_119 rfl ?_
  refine mm_getr (j := 6) hu dX0_copyFrom_120 fl_X0_27 (by decide) ?_
  refine sx_iconst dX0_copyFrom_123 ?_
  refine sx_bipush dX0_copyFrom_124 rfl ?_
  refine sx_copy (j := 6) (n := 18) hu hv huv dX0_copyFrom_126 ml_copy (by decide) rfl (by decide) (Nat.le_of_ble_eq_true rfl) ?_
  refine sx_aload_n dX0_copyFrom_129 rfl ?_
  refine mo_getr (j := 7) hv dX0_copyFrom_130 fl_X0_30 (by decide) ?_
  refine sx_iconst dX0_copyFrom_133 ?_
  refine sx_aload_n dX0_copyFrom_134 rfl ?_
  refine mm_getr (j := 7) hu dX0_copyFrom_135 fl_X0_30 (by decide) ?_
  refine sx_iconst dX0_copyFrom_138 ?_
  refine sx_bipush dX0_copyFrom_139 rfl ?_
  refine sx_copy (j := 7) (n := 18) hu hv huv dX0_copyFrom_141 ml_copy (by decide) rfl (by decide) (Nat.le_of_ble_eq_true rfl) ?_
  refine sx_aload_n dX0_copyFrom_144 rfl ?_
  refine mo_getr (j := 8) hv dX0_copyFrom_145 fl_X0_33 (by decide) ?_
  refine sx_iconst dX0_copyFrom_148 ?_
  refine sx_aload_n dX0_copyFrom_149 rfl ?_
  refine mm_getr (j := 8) hu dX0_copyFrom_150 fl_X0_33 (by decide) ?_
  refine sx_iconst dX0_copyFrom_153 ?_
  refine sx_iconst dX0_copyFrom_154 ?_
  refine sx_copy (j := 8) (n := 3) hu hv huv dX0_copyFrom_155 ml_copy (by decide) rfl (by decide) (Nat.le_of_ble_eq_true rfl) ?_
  refine sx_aload_n dX0_copyFrom_158 rfl ?_
  refine mo_getr (j := 9) hv dX0_copyFrom_159 fl_X0_36 (by decide) ?_
  refine sx_iconst dX0_copyFrom_162 ?_
  refine sx_aload_n dX0_copyFrom_163 rfl ?_
  refine mm_getr (j := 9) hu dX0_copyFrom_164 fl_X0_36 (by decide) ?_
  refine sx_iconst dX0_copyFrom_167 ?_
  refine sx_bipush dX0_copyFrom_168 rfl ?_
  refine sx_copy (j := 9) (n := 24) hu hv huv dX0_copyFrom_170 ml_copy (by decide) rfl (by decide) (Nat.le_of_ble_eq_true rfl) ?_
  refine sx_aload_n dX0_copyFrom_173 rfl ?_
  refine mo_getr (j := 10) hv dX0_copyFrom_174 fl_X0_39 (by decide) ?_
  refine sx_iconst dX0_copyFrom_177 ?_
  refine sx_aload_n dX0_copyFrom_178 rfl ?_
  refine mm_getr (j := 10) hu dX0_copyFrom_179 fl_X0_39 (by decide) ?_
  refine sx_iconst dX0_copyFrom_182 ?_
  refine sx_bipush dX0_copyFrom_183 rfl ?_
  refine sx_copy (j := 10) (n := 24) hu hv huv dX0_copyFrom_185 ml_copy (by decide) rfl (by decide) (Nat.le_of_ble_eq_true rfl) ?_
  refine sx_aload_n dX0_copyFrom_188 rfl ?_
  refine mo_getr (j := 11) hv dX0_copyFrom_189 fl_X0_42 (by decide) ?_
  refine sx_iconst dX0_copyFrom_192 ?_
  refine sx_aload_n dX0_copyFrom_193 rfl ?_
  refine mm_getr (j := 11) hu dX0_copyFrom_194 fl_X0_42 (by decide) ?_
  refine sx_iconst dX0_copyFrom_197 ?_
  refine sx_bipush dX0_copyFrom_198 rfl ?_
  refine sx_copy (j := 11) (n := 24) hu hv huv dX0_copyFrom_200 ml_copy (by decide) rfl (by decide) (Nat.le_of_ble_eq_true rfl) ?_
  refine sx_aload_n dX0_copyFrom_203 rfl ?_
  refine mo_getr (j := 12) hv dX0_copyFrom_204 fl_X0_45 (by decide) ?_
  refine sx_iconst dX0_copyFrom_207 ?_
  refine sx_aload_n dX0_copyFrom_208 rfl ?_
  refine mm_getr (j := 12) hu dX0_copyFrom_209 fl_X0_45 (by decide) ?_
  refine sx_iconst dX0_copyFrom_212 ?_
  refine sx_bipush dX0_copyFrom_213 rfl ?_
  refine sx_copy (j := 12) (n := 24) hu hv huv dX0_copyFrom_215 ml_copy (by decide) rfl (by decide) (Nat.le_of_ble_eq_true rfl) ?_
  refine sx_aload_n dX0_copyFrom_218 rfl ?_
  refine mo_getr (j := 13) hv dX0_copyFrom_219 fl_X0_48 (by decide) ?_
  refine sx_iconst dX0_copyFrom_222 ?_
  refine sx_aload_n dX0_copyFrom_223 rfl ?_
  refine mm_getr (j := 13) hu dX0_copyFrom_224 fl_X0_48 (by decide) ?_
  refine sx_iconst dX0_copyFrom_227 ?_
  refine sx_bipush dX0_copyFrom_228 rfl ?_
  refine sx_copy (j := 13) (n := 24) hu hv huv dX0_copyFrom_230 ml_copy (by decide) rfl (by decide) (Nat.le_of_ble_eq_true rfl) ?_
  refine sx_sim (ycp_ag (v := v) ?_ ?_ hu) (ycp_vh huv) ?_
  · intro j h1 h14
    rcases (show j = 1 ∨ j = 2 ∨ j = 3 ∨ j = 4 ∨ j = 5 ∨ j = 6 ∨ j = 7 ∨ j = 8 ∨ j = 9 ∨ j = 10 ∨ j = 11 ∨ j = 12 ∨ j = 13 by omega) with rfl | rfl | rfl | rfl | rfl | rfl | rfl | rfl | rfl | rfl | rfl | rfl | rfl <;> simp [am_u3]
  · intro k hk
    rcases (show k = 0 ∨ k = 1 ∨ k = 2 ∨ k = 3 ∨ k = 4 by omega) with rfl | rfl | rfl | rfl | rfl <;> simp [am_u3, am_u2, am_u1]
  exact sx_vret dX0_copyFrom_233 rfl rfl rfl
set_option maxHeartbeats 4000000 in
set_option maxRecDepth 100000 in
theorem ty_addChip {h0 : am_H} {u : Nat} (hu : u < 6) {M : am_M} (f sp : Int) (hW : WM M) (hfR : am_R f) (hsR : am_R sp)  : Ct 1 Y0_addChip [.inr (u, 0), .inl f, .inl sp] (some (.inl (yadR M f sp))) (am_U h0 u M) (am_U h0 u (yadM M f sp)) := by
  refine Ct_of (by decide +kernel) (Nat.le_of_ble_eq_true rfl) ?_
  show Sx 1 Y0_addChip (am_U h0 u (yadM M f sp)) (some (.inl (yadR M f sp))) 0 [some (.inr (u, 0)), some (.inl f), some (.inl sp), none] [] (am_U h0 u M)
  refine mm_vh (fun hR => ?_)
  obtain ⟨w0, w2, w1, w5, w8, w12, wb⟩ := id hW
  refine sx_iload_n dX0_addChip_0 rfl ?_
  refine sx_callNi dX0_addChip_1 (List.mem_of_getElem? (i := 0) rfl) ms2_isFamily (ty_isFamily _ hfR) rfl rfl (Nat.le_of_ble_eq_true rfl) (Nat.le_of_ble_eq_true rfl) ?_
  refine sx_ifB_eq (tgt := 16) dX0_addChip_4 (by decide) (fun c4 => ?_) (fun c4 => ?_)
  · -- 4t
    refine sx_ldc dX0_addChip_16 kc_X0_95 ?_
    exact sx_iret dX0_addChip_18 rfl (by unfold yadR; simp only [if_neg c4]) (by unfold yadM; simp only [if_neg c4]; try rfl)
  · -- 4f
    refine sx_iload_n dX0_addChip_7 rfl ?_
    refine sx_if_lt (tgt := 16) dX0_addChip_8 (by decide) (by first | omega | assumption | (with_reducible first | exact hR _ _ | exact rd_R hR _ _ | exact am_R_and _ _ | exact am_R_or _ _ | exact am_R_xor _ _ | exact am_R_shl _ _ | exact am_R_shr _ _ | exact bit_R _ _ | exact ybc_R _ | exact yrk_R _ _ _) | (exact ⟨by omega, by omega⟩) | exact hR _ _) (fun c8 => ?_) (fun c8 => ?_)
    · -- 8t
      refine sx_ldc dX0_addChip_16 kc_X0_95 ?_
      exact sx_iret dX0_addChip_18 rfl (by unfold yadR; simp only [if_pos c4, if_pos c8, if_neg (Int.not_le.mpr c8)]) (by unfold yadM; simp only [if_pos c4, if_pos c8, if_neg (Int.not_le.mpr c8)]; try rfl)
    · -- 8f
      refine sx_iload_n dX0_addChip_11 rfl ?_
      refine sx_iconst dX0_addChip_12 ?_
      refine sx_icmp_le (tgt := 19) dX0_addChip_13 (by decide) (by first | omega | assumption | (with_reducible first | exact hR _ _ | exact rd_R hR _ _ | exact am_R_and _ _ | exact am_R_or _ _ | exact am_R_xor _ _ | exact am_R_shl _ _ | exact am_R_shr _ _ | exact bit_R _ _ | exact ybc_R _ | exact yrk_R _ _ _) | (exact ⟨by omega, by omega⟩) | exact hR _ _) ⟨by decide, by decide⟩ (fun c13 => ?_) (fun c13 => ?_)
      · -- 13t
        refine sx_aload_n dX0_addChip_19 rfl ?_
        refine mm_geti hu dX0_addChip_20 fl_X0_57 (by decide) (fun r20 => ?_)
        refine sx_bipush dX0_addChip_23 rfl ?_
        refine sx_icmp_lt (tgt := 31) dX0_addChip_25 (by decide) (by first | omega | assumption | (with_reducible first | exact hR _ _ | exact rd_R hR _ _ | exact am_R_and _ _ | exact am_R_or _ _ | exact am_R_xor _ _ | exact am_R_shl _ _ | exact am_R_shr _ _ | exact bit_R _ _ | exact ybc_R _ | exact yrk_R _ _ _) | (exact ⟨by omega, by omega⟩) | exact hR _ _) ⟨by decide, by decide⟩ (fun c25 => ?_) (fun c25 => ?_)
        · -- 25t
          refine sx_aload_n dX0_addChip_31 rfl ?_
          refine mm_geti hu dX0_addChip_32 fl_X0_57 (by decide) (fun r32 => ?_)
          refine sx_istore_n dX0_addChip_35 (by decide) ?_
          refine sx_aload_n dX0_addChip_36 rfl ?_
          refine sx_dup dX0_addChip_37 ?_
          refine mm_geti hu dX0_addChip_38 fl_X0_57 (by decide) (fun r38 => ?_)
          skip
          refine sx_iconst dX0_addChip_41 ?_
          refine sx_iadd dX0_addChip_42 ?_
          refine mm_put hu dX0_addChip_43 fl_X0_57 (by decide) (by first | omega | assumption | (with_reducible first | exact hR _ _ | exact rd_R hR _ _ | exact am_R_and _ _ | exact am_R_or _ _ | exact am_R_xor _ _ | exact am_R_shl _ _ | exact am_R_shr _ _ | exact bit_R _ _ | exact ybc_R _ | exact yrk_R _ _ _) | (exact ⟨by omega, by omega⟩) | exact hR _ _) ?_
          refine sx_aload_n dX0_addChip_46 rfl ?_
          refine sx_dup dX0_addChip_47 ?_
          refine mm_geti hu dX0_addChip_48 fl_X0_61 (by decide) (fun r48 => ?_)
          show Sx 1 Y0_addChip _ _ _ _ [.inl (M 0 1), .inr (u, 0)] _
          refine sx_iconst dX0_addChip_51 ?_
          refine sx_iload_n dX0_addChip_52 rfl ?_
          refine sx_ishl dX0_addChip_53 ?_
          refine sx_ior dX0_addChip_54 ?_
          refine mm_put hu dX0_addChip_55 fl_X0_61 (by decide) (by first | omega | assumption | (with_reducible first | exact hR _ _ | exact rd_R hR _ _ | exact am_R_and _ _ | exact am_R_or _ _ | exact am_R_xor _ _ | exact am_R_shl _ _ | exact am_R_shr _ _ | exact bit_R _ _ | exact ybc_R _ | exact yrk_R _ _ _) | (exact ⟨by omega, by omega⟩) | exact hR _ _) ?_
          refine sx_aload_n dX0_addChip_58 rfl ?_
          refine mm_getr (j := 1) hu dX0_addChip_59 fl_X0_9 (by decide) ?_
          refine sx_iload_n dX0_addChip_62 rfl ?_
          refine sx_iload_n dX0_addChip_63 rfl ?_
          refine mm_ist (n := 8) hu dX0_addChip_64 (by decide) rfl (by decide) (by first | omega | assumption | (with_reducible first | exact hR _ _ | exact rd_R hR _ _ | exact am_R_and _ _ | exact am_R_or _ _ | exact am_R_xor _ _ | exact am_R_shl _ _ | exact am_R_shr _ _ | exact bit_R _ _ | exact ybc_R _ | exact yrk_R _ _ _) | (exact ⟨by omega, by omega⟩) | exact hR _ _) (by first | omega | assumption | (with_reducible first | exact hR _ _ | exact rd_R hR _ _ | exact am_R_and _ _ | exact am_R_or _ _ | exact am_R_xor _ _ | exact am_R_shl _ _ | exact am_R_shr _ _ | exact bit_R _ _ | exact ybc_R _ | exact yrk_R _ _ _) | (exact ⟨by omega, by omega⟩) | exact hR _ _) rfl (by first | omega | assumption | (with_reducible first | exact hR _ _ | exact rd_R hR _ _ | exact am_R_and _ _ | exact am_R_or _ _ | exact am_R_xor _ _ | exact am_R_shl _ _ | exact am_R_shr _ _ | exact bit_R _ _ | exact ybc_R _ | exact yrk_R _ _ _) | (exact ⟨by omega, by omega⟩) | exact hR _ _) ?_
          refine sx_aload_n dX0_addChip_65 rfl ?_
          refine mm_getr (j := 3) hu dX0_addChip_66 fl_X0_18 (by decide) ?_
          refine sx_iload_n dX0_addChip_69 rfl ?_
          refine sx_iload_n dX0_addChip_70 rfl ?_
          refine mm_ist (n := 8) hu dX0_addChip_71 (by decide) rfl (by decide) (by first | omega | assumption | (with_reducible first | exact hR _ _ | exact rd_R hR _ _ | exact am_R_and _ _ | exact am_R_or _ _ | exact am_R_xor _ _ | exact am_R_shl _ _ | exact am_R_shr _ _ | exact bit_R _ _ | exact ybc_R _ | exact yrk_R _ _ _) | (exact ⟨by omega, by omega⟩) | exact hR _ _) (by first | omega | assumption | (with_reducible first | exact hR _ _ | exact rd_R hR _ _ | exact am_R_and _ _ | exact am_R_or _ _ | exact am_R_xor _ _ | exact am_R_shl _ _ | exact am_R_shr _ _ | exact bit_R _ _ | exact ybc_R _ | exact yrk_R _ _ _) | (exact ⟨by omega, by omega⟩) | exact hR _ _) rfl (by first | omega | assumption | (with_reducible first | exact hR _ _ | exact rd_R hR _ _ | exact am_R_and _ _ | exact am_R_or _ _ | exact am_R_xor _ _ | exact am_R_shl _ _ | exact am_R_shr _ _ | exact bit_R _ _ | exact ybc_R _ | exact yrk_R _ _ _) | (exact ⟨by omega, by omega⟩) | exact hR _ _) ?_
          refine sx_iload_n dX0_addChip_72 rfl ?_
          exact sx_iret dX0_addChip_73 rfl (by unfold yadR; simp only [if_pos c4, if_pos c8, if_neg (Int.not_lt.mpr c8), if_pos c13, if_neg (Int.not_lt.mpr c13), if_pos c25, if_neg (Int.not_le.mpr c25)]) (by unfold yadM; simp only [if_pos c4, if_pos c8, if_neg (Int.not_lt.mpr c8), if_pos c13, if_neg (Int.not_lt.mpr c13), if_pos c25, if_neg (Int.not_le.mpr c25)]; try rfl)
        · -- 25f
          refine sx_ldc dX0_addChip_28 kc_X0_96 ?_
          exact sx_iret dX0_addChip_30 rfl (by unfold yadR; simp only [if_pos c4, if_pos c8, if_neg (Int.not_lt.mpr c8), if_pos c13, if_neg (Int.not_lt.mpr c13), if_pos c25, if_neg (Int.not_lt.mpr c25)]) (by unfold yadM; simp only [if_pos c4, if_pos c8, if_neg (Int.not_lt.mpr c8), if_pos c13, if_neg (Int.not_lt.mpr c13), if_pos c25, if_neg (Int.not_lt.mpr c25)]; try rfl)
      · -- 13f
        refine sx_ldc dX0_addChip_16 kc_X0_95 ?_
        exact sx_iret dX0_addChip_18 rfl (by unfold yadR; simp only [if_pos c4, if_pos c8, if_neg (Int.not_lt.mpr c8), if_pos c13, if_neg (Int.not_le.mpr c13)]) (by unfold yadM; simp only [if_pos c4, if_pos c8, if_neg (Int.not_lt.mpr c8), if_pos c13, if_neg (Int.not_le.mpr c13)]; try rfl)
set_option maxHeartbeats 4000000 in
set_option maxRecDepth 100000 in
theorem ty_makeGodfather {h0 : am_H} {u : Nat} (hu : u < 6) {M : am_M} (c : Int) (hW : WM M) (hcR : am_R c)  : Ct 1 Y0_makeGodfather [.inr (u, 0), .inl c] (some (.inl (yelect M c).1)) (am_U h0 u M) (am_U h0 u (yelect M c).2) := by
  refine Ct_of (by decide +kernel) (Nat.le_of_ble_eq_true rfl) ?_
  show Sx 1 Y0_makeGodfather (am_U h0 u (yelect M c).2) (some (.inl (yelect M c).1)) 0 [some (.inr (u, 0)), some (.inl c)] [] (am_U h0 u M)
  refine mm_vh (fun hR => ?_)
  obtain ⟨w0, w2, w1, w5, w8, w12, wb⟩ := id hW
  refine sx_aload_n dX0_makeGodfather_0 rfl ?_
  refine sx_iload_n dX0_makeGodfather_1 rfl ?_
  refine sx_callVi dX0_makeGodfather_2 ml_X0_97 mv0_hasChip (ty_hasChip hu _ hcR) rfl (am_obM hu) rfl (Nat.le_of_ble_eq_true rfl) (Nat.le_of_ble_eq_true rfl) ?_
  refine sx_ifB_ne (tgt := 11) dX0_makeGodfather_5 (by decide) (fun c5 => ?_) (fun c5 => ?_)
  · -- 5t
    have hc8 : 0 ≤ c ∧ c < 8 := ⟨c5.1, by omega⟩
    have hf9 := w1 c hc8.1 hc8.2
    refine sx_aload_n dX0_makeGodfather_11 rfl ?_
    refine sx_iload_n dX0_makeGodfather_12 rfl ?_
    refine sx_callVi dX0_makeGodfather_13 ml_X0_79 mv0_lives (ty_lives hu _) rfl (am_obM hu) rfl (Nat.le_of_ble_eq_true rfl) (Nat.le_of_ble_eq_true rfl) ?_
    refine sx_ifB_eq (tgt := 42) dX0_makeGodfather_16 (by decide) (fun c16 => ?_) (fun c16 => ?_)
    · -- 16t
      refine sx_ldc dX0_makeGodfather_42 kc_X0_103 ?_
      exact sx_iret dX0_makeGodfather_44 rfl (by unfold yelect; simp only [if_pos c5, if_neg c16]) (by unfold yelect; simp only [if_pos c5, if_neg c16])
    · -- 16f
      refine sx_aload_n dX0_makeGodfather_19 rfl ?_
      refine mm_getr (j := 5) hu dX0_makeGodfather_20 fl_X0_24 (by decide) ?_
      refine sx_aload_n dX0_makeGodfather_23 rfl ?_
      refine mm_getr (j := 1) hu dX0_makeGodfather_24 fl_X0_9 (by decide) ?_
      refine sx_iload_n dX0_makeGodfather_27 rfl ?_
      refine mm_ild (n := 8) hu dX0_makeGodfather_28 (by decide) rfl (by decide) (by first | omega | assumption | (with_reducible first | exact hR _ _ | exact rd_R hR _ _ | exact am_R_and _ _ | exact am_R_or _ _ | exact am_R_xor _ _ | exact am_R_shl _ _ | exact am_R_shr _ _ | exact bit_R _ _ | exact ybc_R _) | (exact ⟨by have := cntW_R (fun w => rd M 10 w == c) (M 0 2).toNat; unfold ykb; omega, by have := cntW_R (fun w => rd M 10 w == c) (M 0 2).toNat; unfold ykb; omega⟩) | (exact ⟨by omega, by omega⟩) | exact hR _ _) (by first | omega | assumption | (with_reducible first | exact hR _ _ | exact rd_R hR _ _ | exact am_R_and _ _ | exact am_R_or _ _ | exact am_R_xor _ _ | exact am_R_shl _ _ | exact am_R_shr _ _ | exact bit_R _ _ | exact ybc_R _) | (exact ⟨by have := cntW_R (fun w => rd M 10 w == c) (M 0 2).toNat; unfold ykb; omega, by have := cntW_R (fun w => rd M 10 w == c) (M 0 2).toNat; unfold ykb; omega⟩) | (exact ⟨by omega, by omega⟩) | exact hR _ _) rfl (fun r28 => ?_)
      show Sx 1 Y0_makeGodfather _ _ _ _ [.inl (rd M 1 c), .inr (u, 5)] _
      refine mm_ild (n := 3) hu dX0_makeGodfather_29 (by decide) rfl (by decide) (by first | omega | assumption | (with_reducible first | exact hR _ _ | exact rd_R hR _ _ | exact am_R_and _ _ | exact am_R_or _ _ | exact am_R_xor _ _ | exact am_R_shl _ _ | exact am_R_shr _ _ | exact bit_R _ _ | exact ybc_R _) | (exact ⟨by have := cntW_R (fun w => rd M 10 w == c) (M 0 2).toNat; unfold ykb; omega, by have := cntW_R (fun w => rd M 10 w == c) (M 0 2).toNat; unfold ykb; omega⟩) | (exact ⟨by omega, by omega⟩) | exact hR _ _) (by first | omega | assumption | (with_reducible first | exact hR _ _ | exact rd_R hR _ _ | exact am_R_and _ _ | exact am_R_or _ _ | exact am_R_xor _ _ | exact am_R_shl _ _ | exact am_R_shr _ _ | exact bit_R _ _ | exact ybc_R _) | (exact ⟨by have := cntW_R (fun w => rd M 10 w == c) (M 0 2).toNat; unfold ykb; omega, by have := cntW_R (fun w => rd M 10 w == c) (M 0 2).toNat; unfold ykb; omega⟩) | (exact ⟨by omega, by omega⟩) | exact hR _ _) rfl (fun r29 => ?_)
      show Sx 1 Y0_makeGodfather _ _ _ _ [.inl (rd M 5 (rd M 1 c))] _
      refine sx_iconst dX0_makeGodfather_30 ?_
      refine sx_icmp_ne (tgt := 42) dX0_makeGodfather_31 (by decide) (by first | omega | assumption | (with_reducible first | exact hR _ _ | exact rd_R hR _ _ | exact am_R_and _ _ | exact am_R_or _ _ | exact am_R_xor _ _ | exact am_R_shl _ _ | exact am_R_shr _ _ | exact bit_R _ _ | exact ybc_R _) | (exact ⟨by have := cntW_R (fun w => rd M 10 w == c) (M 0 2).toNat; unfold ykb; omega, by have := cntW_R (fun w => rd M 10 w == c) (M 0 2).toNat; unfold ykb; omega⟩) | (exact ⟨by omega, by omega⟩) | exact hR _ _) ⟨by decide, by decide⟩ (fun c31 => ?_) (fun c31 => ?_)
      · -- 31t
        refine sx_ldc dX0_makeGodfather_42 kc_X0_103 ?_
        exact sx_iret dX0_makeGodfather_44 rfl (by unfold yelect; simp only [if_pos c5, if_pos c16, if_neg c31]) (by unfold yelect; simp only [if_pos c5, if_pos c16, if_neg c31])
      · -- 31f
        refine sx_aload_n dX0_makeGodfather_34 rfl ?_
        refine sx_iload_n dX0_makeGodfather_35 rfl ?_
        refine sx_callVi dX0_makeGodfather_36 ml_X0_100 mv0_keptBy (ty_keptBy hu _ hW hcR) rfl (am_obM hu) rfl (Nat.le_of_ble_eq_true rfl) (Nat.le_of_ble_eq_true rfl) ?_
        refine sx_if_le (tgt := 45) dX0_makeGodfather_39 (by decide) (by first | omega | assumption | (with_reducible first | exact hR _ _ | exact rd_R hR _ _ | exact am_R_and _ _ | exact am_R_or _ _ | exact am_R_xor _ _ | exact am_R_shl _ _ | exact am_R_shr _ _ | exact bit_R _ _ | exact ybc_R _) | (exact ⟨by have := cntW_R (fun w => rd M 10 w == c) (M 0 2).toNat; unfold ykb; omega, by have := cntW_R (fun w => rd M 10 w == c) (M 0 2).toNat; unfold ykb; omega⟩) | (exact ⟨by omega, by omega⟩) | exact hR _ _) (fun c39 => ?_) (fun c39 => ?_)
        · -- 39t
          refine sx_aload_n dX0_makeGodfather_45 rfl ?_
          refine mm_getr (j := 5) hu dX0_makeGodfather_46 fl_X0_24 (by decide) ?_
          refine sx_aload_n dX0_makeGodfather_49 rfl ?_
          refine mm_getr (j := 1) hu dX0_makeGodfather_50 fl_X0_9 (by decide) ?_
          refine sx_iload_n dX0_makeGodfather_53 rfl ?_
          refine mm_ild (n := 8) hu dX0_makeGodfather_54 (by decide) rfl (by decide) (by first | omega | assumption | (with_reducible first | exact hR _ _ | exact rd_R hR _ _ | exact am_R_and _ _ | exact am_R_or _ _ | exact am_R_xor _ _ | exact am_R_shl _ _ | exact am_R_shr _ _ | exact bit_R _ _ | exact ybc_R _) | (exact ⟨by have := cntW_R (fun w => rd M 10 w == c) (M 0 2).toNat; unfold ykb; omega, by have := cntW_R (fun w => rd M 10 w == c) (M 0 2).toNat; unfold ykb; omega⟩) | (exact ⟨by omega, by omega⟩) | exact hR _ _) (by first | omega | assumption | (with_reducible first | exact hR _ _ | exact rd_R hR _ _ | exact am_R_and _ _ | exact am_R_or _ _ | exact am_R_xor _ _ | exact am_R_shl _ _ | exact am_R_shr _ _ | exact bit_R _ _ | exact ybc_R _) | (exact ⟨by have := cntW_R (fun w => rd M 10 w == c) (M 0 2).toNat; unfold ykb; omega, by have := cntW_R (fun w => rd M 10 w == c) (M 0 2).toNat; unfold ykb; omega⟩) | (exact ⟨by omega, by omega⟩) | exact hR _ _) rfl (fun r54 => ?_)
          show Sx 1 Y0_makeGodfather _ _ _ _ [.inl (rd M 1 c), .inr (u, 5)] _
          refine sx_iload_n dX0_makeGodfather_55 rfl ?_
          refine mm_ist (n := 3) hu dX0_makeGodfather_56 (by decide) rfl (by decide) (by first | omega | assumption | (with_reducible first | exact hR _ _ | exact rd_R hR _ _ | exact am_R_and _ _ | exact am_R_or _ _ | exact am_R_xor _ _ | exact am_R_shl _ _ | exact am_R_shr _ _ | exact bit_R _ _ | exact ybc_R _) | (exact ⟨by have := cntW_R (fun w => rd M 10 w == c) (M 0 2).toNat; unfold ykb; omega, by have := cntW_R (fun w => rd M 10 w == c) (M 0 2).toNat; unfold ykb; omega⟩) | (exact ⟨by omega, by omega⟩) | exact hR _ _) (by first | omega | assumption | (with_reducible first | exact hR _ _ | exact rd_R hR _ _ | exact am_R_and _ _ | exact am_R_or _ _ | exact am_R_xor _ _ | exact am_R_shl _ _ | exact am_R_shr _ _ | exact bit_R _ _ | exact ybc_R _) | (exact ⟨by have := cntW_R (fun w => rd M 10 w == c) (M 0 2).toNat; unfold ykb; omega, by have := cntW_R (fun w => rd M 10 w == c) (M 0 2).toNat; unfold ykb; omega⟩) | (exact ⟨by omega, by omega⟩) | exact hR _ _) rfl (by first | omega | assumption | (with_reducible first | exact hR _ _ | exact rd_R hR _ _ | exact am_R_and _ _ | exact am_R_or _ _ | exact am_R_xor _ _ | exact am_R_shl _ _ | exact am_R_shr _ _ | exact bit_R _ _ | exact ybc_R _) | (exact ⟨by have := cntW_R (fun w => rd M 10 w == c) (M 0 2).toNat; unfold ykb; omega, by have := cntW_R (fun w => rd M 10 w == c) (M 0 2).toNat; unfold ykb; omega⟩) | (exact ⟨by omega, by omega⟩) | exact hR _ _) ?_
          refine sx_heq (am_U h0 u (yelM M c)) rfl ?_
          refine sx_aload_n dX0_makeGodfather_57 rfl ?_
          refine sx_aload_n dX0_makeGodfather_58 rfl ?_
          refine mm_getr (j := 1) hu dX0_makeGodfather_59 fl_X0_9 (by decide) ?_
          refine sx_iload_n dX0_makeGodfather_62 rfl ?_
          refine mm_ild (n := 8) hu dX0_makeGodfather_63 (by decide) rfl (by decide) (by first | omega | assumption | (with_reducible first | exact hR _ _ | exact rd_R hR _ _ | exact am_R_and _ _ | exact am_R_or _ _ | exact am_R_xor _ _ | exact am_R_shl _ _ | exact am_R_shr _ _ | exact bit_R _ _ | exact ybc_R _) | (exact ⟨by have := cntW_R (fun w => rd M 10 w == c) (M 0 2).toNat; unfold ykb; omega, by have := cntW_R (fun w => rd M 10 w == c) (M 0 2).toNat; unfold ykb; omega⟩) | (exact ⟨by omega, by omega⟩) | exact hR _ _) (by first | omega | assumption | (with_reducible first | exact hR _ _ | exact rd_R hR _ _ | exact am_R_and _ _ | exact am_R_or _ _ | exact am_R_xor _ _ | exact am_R_shl _ _ | exact am_R_shr _ _ | exact bit_R _ _ | exact ybc_R _) | (exact ⟨by have := cntW_R (fun w => rd M 10 w == c) (M 0 2).toNat; unfold ykb; omega, by have := cntW_R (fun w => rd M 10 w == c) (M 0 2).toNat; unfold ykb; omega⟩) | (exact ⟨by omega, by omega⟩) | exact hR _ _) rfl (fun r63 => ?_)
          show Sx 1 Y0_makeGodfather _ _ _ _ [.inl (rd (yelM M c) 1 c), .inr (u, 0)] _
          refine sx_callVi dX0_makeGodfather_64 ml_X0_104 mv0_guardedRows (ty_guardedRows hu _ (WM_5 hW hf9 (by omega)) (by rw [show rd (yelM M c) 1 c = rd M 1 c from rd_wrj _ _ _ _ (by decide)]; exact hf9)) rfl (am_obM hu) rfl (Nat.le_of_ble_eq_true rfl) (Nat.le_of_ble_eq_true rfl) ?_
          refine sx_callSi dX0_makeGodfather_67 ml_X0_87 ms6_bitCount (ty_bitCount _) rfl rfl (Nat.le_of_ble_eq_true rfl) (Nat.le_of_ble_eq_true rfl) ?_
          exact sx_iret dX0_makeGodfather_70 rfl (by unfold yelect; simp only [if_pos c5, if_pos c16, if_pos c31, if_pos c39, if_neg (Int.not_lt.mpr c39)]) (by unfold yelect; simp only [if_pos c5, if_pos c16, if_pos c31, if_pos c39, if_neg (Int.not_lt.mpr c39)])
        · -- 39f
          refine sx_ldc dX0_makeGodfather_42 kc_X0_103 ?_
          exact sx_iret dX0_makeGodfather_44 rfl (by unfold yelect; simp only [if_pos c5, if_pos c16, if_pos c31, if_pos c39, if_neg (Int.not_le.mpr c39)]) (by unfold yelect; simp only [if_pos c5, if_pos c16, if_pos c31, if_pos c39, if_neg (Int.not_le.mpr c39)])
  · -- 5f
    refine sx_ldc dX0_makeGodfather_8 kc_X0_95 ?_
    exact sx_iret dX0_makeGodfather_10 rfl (by unfold yelect; simp only [if_neg c5]) (by unfold yelect; simp only [if_neg c5])
set_option maxHeartbeats 4000000 in
set_option maxRecDepth 100000 in
theorem ty_letDie {h0 : am_H} {u : Nat} (hu : u < 6) {M : am_M} (c : Int) (hW : WM M) (hcR : am_R c) (hy : YD M c)  : Ct 3 Y0_letDie [.inr (u, 0), .inl c] (some (.inl (ydie M c).1)) (am_U h0 u M) (am_U h0 u (ydie M c).2) := by
  refine Ct_of (by decide +kernel) (Nat.le_of_ble_eq_true rfl) ?_
  show Sx 3 Y0_letDie (am_U h0 u (ydie M c).2) (some (.inl (ydie M c).1)) 0 [some (.inr (u, 0)), some (.inl c), none, none, none] [] (am_U h0 u M)
  refine mm_vh (fun hR => ?_)
  obtain ⟨w0, w2, w1, w5, w8, w12, wb⟩ := id hW
  refine sx_aload_n dX0_letDie_0 rfl ?_
  refine sx_iload_n dX0_letDie_1 rfl ?_
  refine sx_callVi dX0_letDie_2 ml_X0_97 mv0_hasChip (ty_hasChip hu _ hcR) rfl (am_obM hu) rfl (Nat.le_of_ble_eq_true rfl) (Nat.le_of_ble_eq_true rfl) ?_
  refine sx_ifB_ne (tgt := 11) dX0_letDie_5 (by decide) (fun c5 => ?_) (fun c5 => ?_)
  · -- 5t
    have hc8 : 0 ≤ c ∧ c < 8 := ⟨c5.1, by omega⟩
    have hf9 := w1 c hc8.1 hc8.2
    refine sx_aload_n dX0_letDie_11 rfl ?_
    refine sx_iload_n dX0_letDie_12 rfl ?_
    refine sx_callVi dX0_letDie_13 ml_X0_79 mv0_lives (ty_lives hu _) rfl (am_obM hu) rfl (Nat.le_of_ble_eq_true rfl) (Nat.le_of_ble_eq_true rfl) ?_
    refine sx_ifB_ne (tgt := 22) dX0_letDie_16 (by decide) (fun c16 => ?_) (fun c16 => ?_)
    · -- 16t
      obtain ⟨hyh, hyl⟩ := hy c5 c16
      refine sx_iconst dX0_letDie_22 ?_
      refine sx_istore_n dX0_letDie_23 (by decide) ?_
      refine sx_aload_n dX0_letDie_24 rfl ?_
      refine sx_iload_n dX0_letDie_25 rfl ?_
      refine sx_callVi dX0_letDie_26 ml_X0_107 mv0_isGodfather (ty_isGodfather hu _ hW hc8) rfl (am_obM hu) rfl (Nat.le_of_ble_eq_true rfl) (Nat.le_of_ble_eq_true rfl) ?_
      refine sx_ifB_eq (tgt := 75) dX0_letDie_29 (by decide) (fun c29 => ?_) (fun c29 => ?_)
      · -- 29t
        refine sx_iconst dX0_letDie_75 ?_
        refine sx_istore_n dX0_letDie_76 (by decide) ?_
        have loop77 : ∀ (n : Nat) (n1 : Nat) (N : am_M) (ls1 : Int), (6 - n1) = n → n1 ≤ 6 → yld M c n1 = (N, ls1) → Sx 3 Y0_letDie (am_U h0 u (ydie M c).2) (some (.inl (ydie M c).1)) 77 [some (.inr (u, 0)), some (.inl c), some (.inl ls1), some (.inl (n1 : Int)), none] [] (am_U h0 u N) := by
          intro n
          induction n using Nat.strongRecOn with
          | _ n ih77 =>
            intro n1 N ls1 hn hle hq
            have hWN := WM_yld hW (hyl c29) n1 hle
            rw [hq] at hWN
            replace hWN : WM N := hWN
            have hN0 : N 0 = M 0 := by have := yld_row (M := M) (c := c) (j := 0) n1 (by decide) (by decide) (by decide) (by decide) (by decide) (by decide); rw [hq] at this; exact this
            refine mm_vh (fun hRN => ?_)
            refine sx_iload_n dX0_letDie_77 rfl ?_
            refine sx_bipush dX0_letDie_78 rfl ?_
            refine sx_icmp_ge (tgt := 117) dX0_letDie_80 (by decide) (by first | omega | assumption | (with_reducible first | exact hR _ _ | exact rd_R hR _ _ | exact am_R_and _ _ | exact am_R_or _ _ | exact am_R_xor _ _ | exact am_R_shl _ _ | exact am_R_shr _ _ | exact bit_R _ _) | (exact ⟨by omega, by omega⟩) | exact hR _ _) ⟨by decide, by decide⟩ (fun c80 => ?_) (fun c80 => ?_)
            · -- 80t
              try obtain rfl : n1 = 6 := by omega
              refine sx_aload_n dX0_letDie_117 rfl ?_
              refine sx_dup dX0_letDie_118 ?_
              refine mm_geti hu dX0_letDie_119 fl_X0_61 (by decide) (fun r119 => ?_)
              show Sx 3 Y0_letDie _ _ _ _ [.inl (N 0 1), .inr (u, 0)] _
              rw [hN0]
              refine sx_iconst dX0_letDie_122 ?_
              refine sx_iload_n dX0_letDie_123 rfl ?_
              refine sx_ishl dX0_letDie_124 ?_
              refine sx_iconst dX0_letDie_125 ?_
              refine sx_ixor dX0_letDie_126 ?_
              refine sx_iand dX0_letDie_127 ?_
              refine mm_put hu dX0_letDie_128 fl_X0_61 (by decide) (by first | omega | assumption | (with_reducible first | exact hR _ _ | exact rd_R hR _ _ | exact am_R_and _ _ | exact am_R_or _ _ | exact am_R_xor _ _ | exact am_R_shl _ _ | exact am_R_shr _ _ | exact bit_R _ _) | (exact ⟨by omega, by omega⟩) | exact hR _ _) ?_
              refine sx_iload_n dX0_letDie_131 rfl ?_
              exact sx_iret dX0_letDie_132 rfl (by unfold ydie; simp only [if_pos c5, if_pos c16]; first | rw [if_pos c29, hq] | rw [if_neg c29, hq]) (by unfold ydie; simp only [if_pos c5, if_pos c16]; first | (rw [if_pos c29, hq]; unfold ylvg; rw [show wr N 5 (rd M 1 c) (-1) 0 = M 0 from (wr_row _ _ _ (by decide)).trans hN0]; rfl) | (rw [if_neg c29, hq]; show am_U h0 u (am_u2 N 0 1 (am_and (N 0 1) (am_xor (am_shl 1 c) (-1)))) = _; rw [hN0]))
            · -- 80f
              refine sx_aload_n dX0_letDie_83 rfl ?_
              refine mm_getr (j := 4) hu dX0_letDie_84 fl_X0_21 (by decide) ?_
              refine sx_iload_n dX0_letDie_87 rfl ?_
              refine sx_bipush dX0_letDie_88 rfl ?_
              refine sx_imul dX0_letDie_90 ?_
              refine sx_iload_n dX0_letDie_91 rfl ?_
              refine sx_iadd dX0_letDie_92 ?_
              refine mm_ild (n := 48) hu dX0_letDie_93 (by decide) rfl (by decide) (by first | omega | assumption | (with_reducible first | exact hR _ _ | exact rd_R hR _ _ | exact am_R_and _ _ | exact am_R_or _ _ | exact am_R_xor _ _ | exact am_R_shl _ _ | exact am_R_shr _ _ | exact bit_R _ _) | (exact ⟨by omega, by omega⟩) | exact hR _ _) (by first | omega | assumption | (with_reducible first | exact hR _ _ | exact rd_R hR _ _ | exact am_R_and _ _ | exact am_R_or _ _ | exact am_R_xor _ _ | exact am_R_shl _ _ | exact am_R_shr _ _ | exact bit_R _ _) | (exact ⟨by omega, by omega⟩) | exact hR _ _) rfl (fun r93 => ?_)
              show Sx 3 Y0_letDie _ _ _ _ [.inl (rd N 4 (c * 6 + n1))] _
              have hys : YSr N (rd N 4 (c * 6 + n1)) := by have := hyl c29 n1 (by omega); rw [hq] at this; exact this
              refine sx_istore dX0_letDie_94 (by decide) ?_
              refine sx_iload_n dX0_letDie_96 rfl ?_
              refine sx_aload_n dX0_letDie_97 rfl ?_
              refine sx_iload dX0_letDie_98 rfl ?_
              refine sx_callVi dX0_letDie_100 ml_X0_114 mv0_loseUnlessSummed (ty_loseUnlessSummed hu _ hWN hys (by exact hRN _ _)) rfl (am_obM hu) rfl (Nat.le_of_ble_eq_true rfl) (Nat.le_of_ble_eq_true rfl) ?_
              refine sx_iadd dX0_letDie_103 ?_
              refine sx_istore_n dX0_letDie_104 (by decide) ?_
              refine sx_aload_n dX0_letDie_105 rfl ?_
              refine sx_iload dX0_letDie_106 rfl ?_
              refine sx_callVv dX0_letDie_108 ml_X0_117 mv0_letWait (ty_letWait hu _ (WM_YSr hWN hys) (YSr_let hys) (by exact hRN _ _)) rfl (am_obM hu) rfl (Nat.le_of_ble_eq_true rfl) (Nat.le_of_ble_eq_true rfl) ?_
              refine sx_iinc dX0_letDie_111 rfl (by decide) ?_
              refine sx_goto (tgt := 77) dX0_letDie_114 (by decide) ?_
              exact sx_forget 4 (ih77 _ (by omega) (n1 + 1) _ _ rfl (by omega) (by simp only [yld, hq]))
        exact loop77 _ 0 M 0 rfl (by omega) rfl
      · -- 29f
        refine sx_iconst dX0_letDie_32 ?_
        refine sx_istore_n dX0_letDie_33 (by decide) ?_
        have loop34 : ∀ (n : Nat) (n1 : Nat) (N : am_M) (ls1 : Int), (6 - n1) = n → n1 ≤ 6 → yhd M (rd M 1 c) n1 = (N, ls1) → Sx 3 Y0_letDie (am_U h0 u (ydie M c).2) (some (.inl (ydie M c).1)) 34 [some (.inr (u, 0)), some (.inl c), some (.inl ls1), some (.inl (n1 : Int)), none] [] (am_U h0 u N) := by
          intro n
          induction n using Nat.strongRecOn with
          | _ n ih34 =>
            intro n1 N ls1 hn hle hq
            have hWN := WM_yhd hW hf9 (hyh c29) n1 hle
            rw [hq] at hWN
            replace hWN : WM N := hWN
            have hN1 : N 1 = M 1 := by have := yhd_row (M := M) (f := rd M 1 c) (j := 1) n1 (by decide) (by decide) (by decide) (by decide); rw [hq] at this; exact this
            have hN0 : N 0 = M 0 := by have := yhd_row (M := M) (f := rd M 1 c) (j := 0) n1 (by decide) (by decide) (by decide) (by decide); rw [hq] at this; exact this
            have hNf : rd N 1 c = rd M 1 c := by unfold rd; rw [hN1]
            refine sx_iload_n dX0_letDie_34 rfl ?_
            refine sx_bipush dX0_letDie_35 rfl ?_
            refine sx_icmp_ge (tgt := 60) dX0_letDie_37 (by decide) (by first | omega | assumption | (with_reducible first | exact hR _ _ | exact rd_R hR _ _ | exact am_R_and _ _ | exact am_R_or _ _ | exact am_R_xor _ _ | exact am_R_shl _ _ | exact am_R_shr _ _ | exact bit_R _ _) | (exact ⟨by omega, by omega⟩) | exact hR _ _) ⟨by decide, by decide⟩ (fun c37 => ?_) (fun c37 => ?_)
            · -- 37t
              obtain rfl : n1 = 6 := by omega
              refine sx_aload_n dX0_letDie_60 rfl ?_
              refine mm_getr (j := 5) hu dX0_letDie_61 fl_X0_24 (by decide) ?_
              refine sx_aload_n dX0_letDie_64 rfl ?_
              refine mm_getr (j := 1) hu dX0_letDie_65 fl_X0_9 (by decide) ?_
              refine sx_iload_n dX0_letDie_68 rfl ?_
              refine mm_ild (n := 8) hu dX0_letDie_69 (by decide) rfl (by decide) (by first | omega | assumption | (with_reducible first | exact hR _ _ | exact rd_R hR _ _ | exact am_R_and _ _ | exact am_R_or _ _ | exact am_R_xor _ _ | exact am_R_shl _ _ | exact am_R_shr _ _ | exact bit_R _ _) | (exact ⟨by omega, by omega⟩) | exact hR _ _) (by first | omega | assumption | (with_reducible first | exact hR _ _ | exact rd_R hR _ _ | exact am_R_and _ _ | exact am_R_or _ _ | exact am_R_xor _ _ | exact am_R_shl _ _ | exact am_R_shr _ _ | exact bit_R _ _) | (exact ⟨by omega, by omega⟩) | exact hR _ _) rfl (fun r69 => ?_)
              show Sx 3 Y0_letDie _ _ _ _ [.inl (rd N 1 c), .inr (u, 5)] _
              rw [hNf]
              refine sx_iconst dX0_letDie_70 ?_
              refine mm_ist (n := 3) hu dX0_letDie_71 (by decide) rfl (by decide) (by first | omega | assumption | (with_reducible first | exact hR _ _ | exact rd_R hR _ _ | exact am_R_and _ _ | exact am_R_or _ _ | exact am_R_xor _ _ | exact am_R_shl _ _ | exact am_R_shr _ _ | exact bit_R _ _) | (exact ⟨by omega, by omega⟩) | exact hR _ _) (by first | omega | assumption | (with_reducible first | exact hR _ _ | exact rd_R hR _ _ | exact am_R_and _ _ | exact am_R_or _ _ | exact am_R_xor _ _ | exact am_R_shl _ _ | exact am_R_shr _ _ | exact bit_R _ _) | (exact ⟨by omega, by omega⟩) | exact hR _ _) rfl ⟨by decide, by decide⟩ ?_
              refine sx_goto (tgt := 117) dX0_letDie_72 (by decide) ?_
              try obtain rfl : n1 = 6 := by omega
              refine sx_aload_n dX0_letDie_117 rfl ?_
              refine sx_dup dX0_letDie_118 ?_
              refine mm_geti hu dX0_letDie_119 fl_X0_61 (by decide) (fun r119 => ?_)
              show Sx 3 Y0_letDie _ _ _ _ [.inl (N 0 1), .inr (u, 0)] _
              rw [hN0]
              refine sx_iconst dX0_letDie_122 ?_
              refine sx_iload_n dX0_letDie_123 rfl ?_
              refine sx_ishl dX0_letDie_124 ?_
              refine sx_iconst dX0_letDie_125 ?_
              refine sx_ixor dX0_letDie_126 ?_
              refine sx_iand dX0_letDie_127 ?_
              refine mm_put hu dX0_letDie_128 fl_X0_61 (by decide) (by first | omega | assumption | (with_reducible first | exact hR _ _ | exact rd_R hR _ _ | exact am_R_and _ _ | exact am_R_or _ _ | exact am_R_xor _ _ | exact am_R_shl _ _ | exact am_R_shr _ _ | exact bit_R _ _) | (exact ⟨by omega, by omega⟩) | exact hR _ _) ?_
              refine sx_iload_n dX0_letDie_131 rfl ?_
              exact sx_iret dX0_letDie_132 rfl (by unfold ydie; simp only [if_pos c5, if_pos c16]; first | rw [if_pos c29, hq] | rw [if_neg c29, hq]) (by unfold ydie; simp only [if_pos c5, if_pos c16]; first | (rw [if_pos c29, hq]; unfold ylvg; rw [show wr N 5 (rd M 1 c) (-1) 0 = M 0 from (wr_row _ _ _ (by decide)).trans hN0]; rfl) | (rw [if_neg c29, hq]; show am_U h0 u (am_u2 N 0 1 (am_and (N 0 1) (am_xor (am_shl 1 c) (-1)))) = _; rw [hN0]))
            · -- 37f
              refine sx_iload_n dX0_letDie_40 rfl ?_
              refine sx_aload_n dX0_letDie_41 rfl ?_
              refine sx_aload_n dX0_letDie_42 rfl ?_
              refine mm_getr (j := 1) hu dX0_letDie_43 fl_X0_9 (by decide) ?_
              refine sx_iload_n dX0_letDie_46 rfl ?_
              refine mm_ild (n := 8) hu dX0_letDie_47 (by decide) rfl (by decide) (by first | omega | assumption | (with_reducible first | exact hR _ _ | exact rd_R hR _ _ | exact am_R_and _ _ | exact am_R_or _ _ | exact am_R_xor _ _ | exact am_R_shl _ _ | exact am_R_shr _ _ | exact bit_R _ _) | (exact ⟨by omega, by omega⟩) | exact hR _ _) (by first | omega | assumption | (with_reducible first | exact hR _ _ | exact rd_R hR _ _ | exact am_R_and _ _ | exact am_R_or _ _ | exact am_R_xor _ _ | exact am_R_shl _ _ | exact am_R_shr _ _ | exact bit_R _ _) | (exact ⟨by omega, by omega⟩) | exact hR _ _) rfl (fun r47 => ?_)
              show Sx 3 Y0_letDie _ _ _ _ [.inl (rd N 1 c), .inr (u, 0), .inl ls1] _
              rw [hNf]
              refine sx_iload_n dX0_letDie_48 rfl ?_
              refine sx_callVi dX0_letDie_49 ml_X0_110 mv0_loseWaiting (ty_loseWaiting hu _ _ hWN hf9 (by omega) (by have := hyh c29 n1 (by omega); rw [hq] at this; exact this)) rfl (am_obM hu) rfl (Nat.le_of_ble_eq_true rfl) (Nat.le_of_ble_eq_true rfl) ?_
              refine sx_iadd dX0_letDie_52 ?_
              refine sx_istore_n dX0_letDie_53 (by decide) ?_
              refine sx_iinc dX0_letDie_54 rfl (by decide) ?_
              refine sx_goto (tgt := 34) dX0_letDie_57 (by decide) ?_
              exact ih34 _ (by omega) (n1 + 1) _ _ rfl (by omega) (by simp only [yhd, hq])
        exact loop34 _ 0 M 0 rfl (by omega) rfl
    · -- 16f
      refine sx_ldc dX0_letDie_19 kc_X0_103 ?_
      exact sx_iret dX0_letDie_21 rfl (by unfold ydie; simp only [if_pos c5, if_neg c16]) (by unfold ydie; simp only [if_pos c5, if_neg c16])
  · -- 5f
    refine sx_ldc dX0_letDie_8 kc_X0_95 ?_
    exact sx_iret dX0_letDie_10 rfl (by unfold ydie; simp only [if_neg c5]) (by unfold ydie; simp only [if_neg c5])
