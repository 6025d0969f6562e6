/-! ===== acts() answers true ===== -/
set_option maxHeartbeats 4000000 in
set_option maxRecDepth 100000 in
theorem act_put {h G : am_H} {S S1 : Nat → Int} {n n1 : Int} (hP : PH h S n) (hn : n ≤ 700000000) {y z c : Int} (hz : 0 ≤ z ∧ z ≤ 134217727) (hc : 0 ≤ c ∧ c < gP h 0 0) (eG : G = gset (am_U h (h.2 1) (yput (gP h) c (z / 8 % 256)).2) (yput (gP h) c (z / 8 % 256)).1) (hPG : PH G S1 n1) (hRa : am_R (yput (gP h) c (z / 8 % 256)).1) (p1 : (yput (gP h) c (z / 8 % 256)).1 < 0 → (gchip (gP h) c 4 = 0 → (yput (gP h) c (z / 8 % 256)).1 = -1000002) ∧ (¬ gchip (gP h) c 4 = 0 → (yput (gP h) c (z / 8 % 256)).1 = -1000003)) (p2 : 0 ≤ (yput (gP h) c (z / 8 % 256)).1 → (yput (gP h) c (z / 8 % 256)).1 = gP h 0 2 ∧ gread (gP G) (yput (gP h) c (z / 8 % 256)).1 = z / 8 % 256 ∧ gchip (gP G) c 4 = gchip (gP h) c 4 - 1) : Sx 6 YL_acts G (some (.inl 1)) 96 [some (.inr (6, 0)), some (.inl y), some (.inl z), some (.inl c), some (.inl (gcnt (gP h) (h.1 6 0 4) (h.1 6 2 1) 5)), none, none, none, none, none, none, none, none, none, none, none, none, none, none, none] [] h := by
  refine sx_vh (fun hV => ?_)
  have hR : ∀ j k, am_R (gP h j k) := fun j k => hV.1 _ j k
  have hM := PH_WM hP
  have hN : ∀ k, am_R (gcnt (gP h) (h.1 6 0 4) (h.1 6 2 1) k) := fun k => gcnt_R hR hM (hV.1 6 0 4) (hV.1 6 2 1) k
  have h24 := hM.2.1
  have h8 := hM.1
  have n2 : (gcnt (gP h) (h.1 6 0 4) (h.1 6 2 1) 2) = gP h 0 2 := rfl
  have n0 : (gcnt (gP h) (h.1 6 0 4) (h.1 6 2 1) 0) = gP h 0 0 := rfl
  have hcR : am_R c := ⟨by omega, by omega⟩
  have hb4 : 0 ≤ gchip (gP h) c 4 ∧ gchip (gP h) c 4 ≤ 63 := by rw [gchip_4 hc]; exact ybc_b _
  refine sx_aload_n dL_acts_96 rfl ?_
  refine sx_iload_n dL_acts_97 rfl ?_
  refine sx_iconst dL_acts_98 ?_
  refine sx_callVi dL_acts_99 ml_L_15 mv2_chipOf (pq_chipOf hP _ _ (by first | exact ⟨by decide, by decide⟩ | exact ⟨by omega, by omega⟩ | assumption | (with_reducible first | exact gfam_R hR hM _ _ | exact gword_R hR hM _ _ | exact gchip_R hR hM _ _)) (by first | exact ⟨by decide, by decide⟩ | exact ⟨by omega, by omega⟩ | assumption | (with_reducible first | exact gfam_R hR hM _ _ | exact gword_R hR hM _ _ | exact gchip_R hR hM _ _))) rfl am_obG rfl (Nat.le_of_ble_eq_true rfl) (Nat.le_of_ble_eq_true rfl) ?_
  refine sx_istore dL_acts_102 (by decide) ?_
  refine sx_aload_n dL_acts_104 rfl ?_
  refine sx_iconst dL_acts_105 ?_
  refine sx_callVi dL_acts_106 ml_L_19 mv2_count (pq_count hP _ (by first | exact ⟨by decide, by decide⟩ | exact ⟨by omega, by omega⟩ | assumption | (with_reducible first | exact gfam_R hR hM _ _ | exact gword_R hR hM _ _ | exact gchip_R hR hM _ _))) rfl am_obG rfl (Nat.le_of_ble_eq_true rfl) (Nat.le_of_ble_eq_true rfl) ?_
  refine sx_istore dL_acts_109 (by decide) ?_
  refine sx_aload_n dL_acts_111 rfl ?_
  refine sx_iload_n dL_acts_112 rfl ?_
  refine sx_iload_n dL_acts_113 rfl ?_
  refine sx_bipush dL_acts_114 rfl ?_
  refine sx_idiv dL_acts_116 (by omega) (by omega) ?_
  refine sx_sipush dL_acts_117 rfl ?_
  refine sx_irem dL_acts_120 (by omega) (by omega) ?_
  refine sx_callVi dL_acts_121 ml_L_32 mv2_put (pc_put hP (by omega) _ _ (by first | exact ⟨by decide, by decide⟩ | exact ⟨by omega, by omega⟩ | assumption | (with_reducible first | exact gfam_R hR hM _ _ | exact gword_R hR hM _ _ | exact gchip_R hR hM _ _)) (by first | exact ⟨by decide, by decide⟩ | exact ⟨by omega, by omega⟩ | assumption | (with_reducible first | exact gfam_R hR hM _ _ | exact gword_R hR hM _ _ | exact gchip_R hR hM _ _))) rfl am_obG rfl (Nat.le_of_ble_eq_true rfl) (Nat.le_of_ble_eq_true rfl) ?_
  refine sx_heq G eG ?_
  refine sx_vh (fun hVG => ?_)
  have hRG : ∀ j k, am_R (gP G j k) := fun j k => hVG.1 _ j k
  have hMG := PH_WM hPG
  have hNG : ∀ k, am_R (gcnt (gP G) (G.1 6 0 4) (G.1 6 2 1) k) := fun k => gcnt_R hRG hMG (hVG.1 6 0 4) (hVG.1 6 2 1) k
  refine sx_istore dL_acts_124 (by decide) ?_
  refine sx_iload dL_acts_126 rfl ?_
  refine sx_if_lt (tgt := 176) dL_acts_128 (by decide) (by first | (with_reducible first | exact gfam_R hR hM _ _ | exact gchip_R hR hM _ _ | exact gword_R hR hM _ _ | exact gread_R hR _ | exact hN _ | exact am_R_and _ _ | exact gfam_R hRG hMG _ _ | exact gchip_R hRG hMG _ _ | exact gword_R hRG hMG _ _ | exact gread_R hRG _ | exact hNG _) | assumption | exact ⟨by decide, by decide⟩ | exact ⟨by omega, by omega⟩) (fun c128 => ?_) (fun c128 => ?_)
  · -- 128t
    refine sx_iload dL_acts_176 rfl ?_
    refine sx_iload dL_acts_178 rfl ?_
    refine sx_if_ne (tgt := 188) dL_acts_180 (by decide) (by first | (with_reducible first | exact gfam_R hR hM _ _ | exact gchip_R hR hM _ _ | exact gword_R hR hM _ _ | exact gread_R hR _ | exact hN _ | exact am_R_and _ _ | exact gfam_R hRG hMG _ _ | exact gchip_R hRG hMG _ _ | exact gword_R hRG hMG _ _ | exact gread_R hRG _ | exact hNG _) | assumption | exact ⟨by decide, by decide⟩ | exact ⟨by omega, by omega⟩) (fun c180 => ?_) (fun c180 => ?_)
    · -- 180t
      refine sx_ldc dL_acts_188 kc_L_36 ?_
      refine sx_icmp_ne (tgt := 197) dL_acts_190 (by decide) (by first | (with_reducible first | exact gfam_R hR hM _ _ | exact gchip_R hR hM _ _ | exact gword_R hR hM _ _ | exact gread_R hR _ | exact hN _ | exact am_R_and _ _ | exact gfam_R hRG hMG _ _ | exact gchip_R hRG hMG _ _ | exact gword_R hRG hMG _ _ | exact gread_R hRG _ | exact hNG _) | assumption | exact ⟨by decide, by decide⟩ | exact ⟨by omega, by omega⟩) ⟨by decide, by decide⟩ (fun c190 => ?_) (fun c190 => ?_)
      · -- 190t
        first | exact absurd ((p1 (by omega)).2 c180) c190 | exact absurd ((p1 (by omega)).1 c180) c190
      · -- 190f
        refine sx_iconst dL_acts_193 ?_
        refine sx_goto (tgt := 198) dL_acts_194 (by decide) ?_
        exact sx_zret dL_acts_198 rfl (by decide) rfl rfl
    · -- 180f
      refine sx_ldc dL_acts_183 kc_L_35 ?_
      refine sx_goto (tgt := 190) dL_acts_185 (by decide) ?_
      refine sx_icmp_ne (tgt := 197) dL_acts_190 (by decide) (by first | (with_reducible first | exact gfam_R hR hM _ _ | exact gchip_R hR hM _ _ | exact gword_R hR hM _ _ | exact gread_R hR _ | exact hN _ | exact am_R_and _ _ | exact gfam_R hRG hMG _ _ | exact gchip_R hRG hMG _ _ | exact gword_R hRG hMG _ _ | exact gread_R hRG _ | exact hNG _) | assumption | exact ⟨by decide, by decide⟩ | exact ⟨by omega, by omega⟩) ⟨by decide, by decide⟩ (fun c190 => ?_) (fun c190 => ?_)
      · -- 190t
        first | exact absurd ((p1 (by omega)).2 c180) c190 | exact absurd ((p1 (by omega)).1 c180) c190
      · -- 190f
        refine sx_iconst dL_acts_193 ?_
        refine sx_goto (tgt := 198) dL_acts_194 (by decide) ?_
        exact sx_zret dL_acts_198 rfl (by decide) rfl rfl
  · -- 128f
    refine sx_iload dL_acts_131 rfl ?_
    refine sx_iload dL_acts_133 rfl ?_
    refine sx_icmp_ne (tgt := 172) dL_acts_135 (by decide) (by first | (with_reducible first | exact gfam_R hR hM _ _ | exact gchip_R hR hM _ _ | exact gword_R hR hM _ _ | exact gread_R hR _ | exact hN _ | exact am_R_and _ _ | exact gfam_R hRG hMG _ _ | exact gchip_R hRG hMG _ _ | exact gword_R hRG hMG _ _ | exact gread_R hRG _ | exact hNG _) | assumption | exact ⟨by decide, by decide⟩ | exact ⟨by omega, by omega⟩) (by first | (with_reducible first | exact gfam_R hR hM _ _ | exact gchip_R hR hM _ _ | exact gword_R hR hM _ _ | exact gread_R hR _ | exact hN _ | exact am_R_and _ _ | exact gfam_R hRG hMG _ _ | exact gchip_R hRG hMG _ _ | exact gword_R hRG hMG _ _ | exact gread_R hRG _ | exact hNG _) | assumption | exact ⟨by decide, by decide⟩ | exact ⟨by omega, by omega⟩) (fun c135 => ?_) (fun c135 => ?_)
    · -- 135t
      exact absurd (p2 (by omega)).1 c135
    · -- 135f
      refine sx_aload_n dL_acts_138 rfl ?_
      refine sx_iload dL_acts_139 rfl ?_
      refine sx_callVi dL_acts_141 ml_L_26 mv2_read (pq_read hPG _ (by first | exact ⟨by decide, by decide⟩ | exact ⟨by omega, by omega⟩ | assumption | (with_reducible first | exact gfam_R hR hM _ _ | exact gword_R hR hM _ _ | exact gchip_R hR hM _ _))) rfl am_obG rfl (Nat.le_of_ble_eq_true rfl) (Nat.le_of_ble_eq_true rfl) ?_
      refine sx_iload_n dL_acts_144 rfl ?_
      refine sx_bipush dL_acts_145 rfl ?_
      refine sx_idiv dL_acts_147 (by omega) (by omega) ?_
      refine sx_sipush dL_acts_148 rfl ?_
      refine sx_irem dL_acts_151 (by omega) (by omega) ?_
      refine sx_icmp_ne (tgt := 172) dL_acts_152 (by decide) (by first | (with_reducible first | exact gfam_R hR hM _ _ | exact gchip_R hR hM _ _ | exact gword_R hR hM _ _ | exact gread_R hR _ | exact hN _ | exact am_R_and _ _ | exact gfam_R hRG hMG _ _ | exact gchip_R hRG hMG _ _ | exact gword_R hRG hMG _ _ | exact gread_R hRG _ | exact hNG _) | assumption | exact ⟨by decide, by decide⟩ | exact ⟨by omega, by omega⟩) (by first | (with_reducible first | exact gfam_R hR hM _ _ | exact gchip_R hR hM _ _ | exact gword_R hR hM _ _ | exact gread_R hR _ | exact hN _ | exact am_R_and _ _ | exact gfam_R hRG hMG _ _ | exact gchip_R hRG hMG _ _ | exact gword_R hRG hMG _ _ | exact gread_R hRG _ | exact hNG _) | assumption | exact ⟨by decide, by decide⟩ | exact ⟨by omega, by omega⟩) (fun c152 => ?_) (fun c152 => ?_)
      · -- 152t
        exact absurd (p2 (by omega)).2.1 c152
      · -- 152f
        refine sx_aload_n dL_acts_155 rfl ?_
        refine sx_iload_n dL_acts_156 rfl ?_
        refine sx_iconst dL_acts_157 ?_
        refine sx_callVi dL_acts_158 ml_L_15 mv2_chipOf (pq_chipOf hPG _ _ (by first | exact ⟨by decide, by decide⟩ | exact ⟨by omega, by omega⟩ | assumption | (with_reducible first | exact gfam_R hR hM _ _ | exact gword_R hR hM _ _ | exact gchip_R hR hM _ _)) (by first | exact ⟨by decide, by decide⟩ | exact ⟨by omega, by omega⟩ | assumption | (with_reducible first | exact gfam_R hR hM _ _ | exact gword_R hR hM _ _ | exact gchip_R hR hM _ _))) rfl am_obG rfl (Nat.le_of_ble_eq_true rfl) (Nat.le_of_ble_eq_true rfl) ?_
        refine sx_iload dL_acts_161 rfl ?_
        refine sx_iconst dL_acts_163 ?_
        refine sx_isub dL_acts_164 ?_
        refine sx_icmp_ne (tgt := 172) dL_acts_165 (by decide) (by first | (with_reducible first | exact gfam_R hR hM _ _ | exact gchip_R hR hM _ _ | exact gword_R hR hM _ _ | exact gread_R hR _ | exact hN _ | exact am_R_and _ _ | exact gfam_R hRG hMG _ _ | exact gchip_R hRG hMG _ _ | exact gword_R hRG hMG _ _ | exact gread_R hRG _ | exact hNG _) | assumption | exact ⟨by decide, by decide⟩ | exact ⟨by omega, by omega⟩) (by first | (with_reducible first | exact gfam_R hR hM _ _ | exact gchip_R hR hM _ _ | exact gword_R hR hM _ _ | exact gread_R hR _ | exact hN _ | exact am_R_and _ _ | exact gfam_R hRG hMG _ _ | exact gchip_R hRG hMG _ _ | exact gword_R hRG hMG _ _ | exact gread_R hRG _ | exact hNG _) | assumption | exact ⟨by decide, by decide⟩ | exact ⟨by omega, by omega⟩) (fun c165 => ?_) (fun c165 => ?_)
        · -- 165t
          exact absurd (p2 (by omega)).2.2 c165
        · -- 165f
          refine sx_iconst dL_acts_168 ?_
          refine sx_goto (tgt := 198) dL_acts_169 (by decide) ?_
          exact sx_zret dL_acts_198 rfl (by decide) rfl rfl
set_option maxHeartbeats 4000000 in
set_option maxRecDepth 100000 in
theorem act_kill1 {h G : am_H} {S S1 : Nat → Int} {n n1 : Int} (hP : PH h S n) (hn : n ≤ 700000000) {y z c : Int} (hz : 0 ≤ z ∧ z ≤ 134217727) (hc : 0 ≤ c ∧ c < gP h 0 0) (eG : G = gset (am_U h (h.2 1) (ydie (gP h) c).2) (ydie (gP h) c).1) (hPG : PH G S1 n1) (hRa : am_R (ydie (gP h) c).1) (hd : gchip (gP h) c 1 = 0) (p1 : (ydie (gP h) c).1 = -1000002) : Sx 6 YL_acts G (some (.inl 1)) 199 [some (.inr (6, 0)), some (.inl y), some (.inl z), some (.inl c), some (.inl (gcnt (gP h) (h.1 6 0 4) (h.1 6 2 1) 5)), none, none, none, none, none, none, none, none, none, none, none, none, none, none, none] [] h := by
  refine sx_vh (fun hV => ?_)
  have hR : ∀ j k, am_R (gP h j k) := fun j k => hV.1 _ j k
  have hM := PH_WM hP
  have hN : ∀ k, am_R (gcnt (gP h) (h.1 6 0 4) (h.1 6 2 1) k) := fun k => gcnt_R hR hM (hV.1 6 0 4) (hV.1 6 2 1) k
  have h24 := hM.2.1
  have h8 := hM.1
  have n2 : (gcnt (gP h) (h.1 6 0 4) (h.1 6 2 1) 2) = gP h 0 2 := rfl
  have n0 : (gcnt (gP h) (h.1 6 0 4) (h.1 6 2 1) 0) = gP h 0 0 := rfl
  have hcR : am_R c := ⟨by omega, by omega⟩
  have hb4 : 0 ≤ gchip (gP h) c 4 ∧ gchip (gP h) c 4 ≤ 63 := by rw [gchip_4 hc]; exact ybc_b _
  refine sx_aload_n dL_acts_199 rfl ?_
  refine sx_iload_n dL_acts_200 rfl ?_
  refine sx_iconst dL_acts_201 ?_
  refine sx_callVi dL_acts_202 ml_L_15 mv2_chipOf (pq_chipOf hP _ _ (by first | exact ⟨by decide, by decide⟩ | exact ⟨by omega, by omega⟩ | assumption | (with_reducible first | exact gfam_R hR hM _ _ | exact gword_R hR hM _ _ | exact gchip_R hR hM _ _)) (by first | exact ⟨by decide, by decide⟩ | exact ⟨by omega, by omega⟩ | assumption | (with_reducible first | exact gfam_R hR hM _ _ | exact gword_R hR hM _ _ | exact gchip_R hR hM _ _))) rfl am_obG rfl (Nat.le_of_ble_eq_true rfl) (Nat.le_of_ble_eq_true rfl) ?_
  refine sx_if_ne (tgt := 224) dL_acts_205 (by decide) (by first | (with_reducible first | exact gfam_R hR hM _ _ | exact gchip_R hR hM _ _ | exact gword_R hR hM _ _ | exact gread_R hR _ | exact hN _ | exact am_R_and _ _ | exact gfam_R hRG hMG _ _ | exact gchip_R hRG hMG _ _ | exact gword_R hRG hMG _ _ | exact gread_R hRG _ | exact hNG _) | assumption | exact ⟨by decide, by decide⟩ | exact ⟨by omega, by omega⟩) (fun c205 => ?_) (fun c205 => ?_)
  · -- 205t
    exact absurd hd c205
  · -- 205f
    refine sx_aload_n dL_acts_208 rfl ?_
    refine sx_iload_n dL_acts_209 rfl ?_
    refine sx_callVi dL_acts_210 ml_L_37 mv2_kill (pc_kill hP (by omega) _ (by first | exact ⟨by decide, by decide⟩ | exact ⟨by omega, by omega⟩ | assumption | (with_reducible first | exact gfam_R hR hM _ _ | exact gword_R hR hM _ _ | exact gchip_R hR hM _ _))) rfl am_obG rfl (Nat.le_of_ble_eq_true rfl) (Nat.le_of_ble_eq_true rfl) ?_
    refine sx_heq G eG ?_
    refine sx_vh (fun hVG => ?_)
    have hRG : ∀ j k, am_R (gP G j k) := fun j k => hVG.1 _ j k
    have hMG := PH_WM hPG
    have hNG : ∀ k, am_R (gcnt (gP G) (G.1 6 0 4) (G.1 6 2 1) k) := fun k => gcnt_R hRG hMG (hVG.1 6 0 4) (hVG.1 6 2 1) k
    refine sx_ldc dL_acts_213 kc_L_35 ?_
    refine sx_icmp_ne (tgt := 222) dL_acts_215 (by decide) (by first | (with_reducible first | exact gfam_R hR hM _ _ | exact gchip_R hR hM _ _ | exact gword_R hR hM _ _ | exact gread_R hR _ | exact hN _ | exact am_R_and _ _ | exact gfam_R hRG hMG _ _ | exact gchip_R hRG hMG _ _ | exact gword_R hRG hMG _ _ | exact gread_R hRG _ | exact hNG _) | assumption | exact ⟨by decide, by decide⟩ | exact ⟨by omega, by omega⟩) ⟨by decide, by decide⟩ (fun c215 => ?_) (fun c215 => ?_)
    · -- 215t
      exact absurd p1 c215
    · -- 215f
      refine sx_iconst dL_acts_218 ?_
      refine sx_goto (tgt := 223) dL_acts_219 (by decide) ?_
      exact sx_zret dL_acts_223 rfl (by decide) rfl rfl
set_option maxHeartbeats 4000000 in
set_option maxRecDepth 100000 in
theorem act_kill2 {h G : am_H} {S S1 : Nat → Int} {n n1 : Int} (hP : PH h S n) (hn : n ≤ 700000000) {y z c : Int} (hz : 0 ≤ z ∧ z ≤ 134217727) (hc : 0 ≤ c ∧ c < gP h 0 0) {G2 : am_H} (e2 : G2 = am_U h (h.2 1) (gsf (gP h) (h.1 (h.2 1)) (gP h 0 0).toNat).2) (hP2 : PH G2 S n) (ha : ¬ gchip (gP h) c 1 = 0) (eG : G = am_U G2 (G2.2 1) (gloM (gP G2) (G2.1 (G2.2 1)) c (-1))) (hPG : PH G S1 n1) (q1 : ¬ z / 8 % 3 ≤ 0) (q2 : bit (gsf (gP h) (h.1 (h.2 1)) (gP h 0 0).toNat).1 c = 0) (hRl : am_R (gloR (gP G2) c (-1))) (p1 : 0 < gloR (gP G2) c (-1)) : Sx 6 YL_acts G (some (.inl 1)) 199 [some (.inr (6, 0)), some (.inl y), some (.inl z), some (.inl c), some (.inl (gcnt (gP h) (h.1 6 0 4) (h.1 6 2 1) 5)), none, none, none, none, none, none, none, none, none, none, none, none, none, none, none] [] h := by
  refine sx_vh (fun hV => ?_)
  have hR : ∀ j k, am_R (gP h j k) := fun j k => hV.1 _ j k
  have hM := PH_WM hP
  have hN : ∀ k, am_R (gcnt (gP h) (h.1 6 0 4) (h.1 6 2 1) k) := fun k => gcnt_R hR hM (hV.1 6 0 4) (hV.1 6 2 1) k
  have h24 := hM.2.1
  have h8 := hM.1
  have n2 : (gcnt (gP h) (h.1 6 0 4) (h.1 6 2 1) 2) = gP h 0 2 := rfl
  have n0 : (gcnt (gP h) (h.1 6 0 4) (h.1 6 2 1) 0) = gP h 0 0 := rfl
  have hcR : am_R c := ⟨by omega, by omega⟩
  have hb4 : 0 ≤ gchip (gP h) c 4 ∧ gchip (gP h) c 4 ≤ 63 := by rw [gchip_4 hc]; exact ybc_b _
  unfold bit at q2
  refine sx_aload_n dL_acts_199 rfl ?_
  refine sx_iload_n dL_acts_200 rfl ?_
  refine sx_iconst dL_acts_201 ?_
  refine sx_callVi dL_acts_202 ml_L_15 mv2_chipOf (pq_chipOf hP _ _ (by first | exact ⟨by decide, by decide⟩ | exact ⟨by omega, by omega⟩ | assumption | (with_reducible first | exact gfam_R hR hM _ _ | exact gword_R hR hM _ _ | exact gchip_R hR hM _ _)) (by first | exact ⟨by decide, by decide⟩ | exact ⟨by omega, by omega⟩ | assumption | (with_reducible first | exact gfam_R hR hM _ _ | exact gword_R hR hM _ _ | exact gchip_R hR hM _ _))) rfl am_obG rfl (Nat.le_of_ble_eq_true rfl) (Nat.le_of_ble_eq_true rfl) ?_
  refine sx_if_ne (tgt := 224) dL_acts_205 (by decide) (by first | (with_reducible first | exact gfam_R hR hM _ _ | exact gchip_R hR hM _ _ | exact gword_R hR hM _ _ | exact gread_R hR _ | exact hN _ | exact am_R_and _ _ | exact gfam_R hRG hMG _ _ | exact gchip_R hRG hMG _ _ | exact gword_R hRG hMG _ _ | exact gread_R hRG _ | exact hNG _) | assumption | exact ⟨by decide, by decide⟩ | exact ⟨by omega, by omega⟩) (fun c205 => ?_) (fun c205 => ?_)
  · -- 205t
    refine sx_aload_n dL_acts_224 rfl ?_
    refine sx_callVi dL_acts_225 ml_L_40 mv2_safe (pt_safe hP (by omega)) rfl am_obG rfl (Nat.le_of_ble_eq_true rfl) (Nat.le_of_ble_eq_true rfl) ?_
    refine sx_heq G2 e2 ?_
    refine sx_iload_n dL_acts_228 rfl ?_
    refine sx_ishr dL_acts_229 ?_
    refine sx_iconst dL_acts_230 ?_
    refine sx_iand dL_acts_231 ?_
    refine sx_istore dL_acts_232 (by decide) ?_
    refine sx_iload_n dL_acts_234 rfl ?_
    refine sx_bipush dL_acts_235 rfl ?_
    refine sx_idiv dL_acts_237 (by omega) (by omega) ?_
    refine sx_iconst dL_acts_238 ?_
    refine sx_irem dL_acts_239 (by omega) (by omega) ?_
    refine sx_if_le (tgt := 263) dL_acts_240 (by decide) (by first | (with_reducible first | exact gfam_R hR hM _ _ | exact gchip_R hR hM _ _ | exact gword_R hR hM _ _ | exact gread_R hR _ | exact hN _ | exact am_R_and _ _ | exact gfam_R hRG hMG _ _ | exact gchip_R hRG hMG _ _ | exact gword_R hRG hMG _ _ | exact gread_R hRG _ | exact hNG _) | assumption | exact ⟨by decide, by decide⟩ | exact ⟨by omega, by omega⟩) (fun c240 => ?_) (fun c240 => ?_)
    · -- 240t
      exact absurd c240 q1
    · -- 240f
      refine sx_iload dL_acts_243 rfl ?_
      refine sx_if_ne (tgt := 263) dL_acts_245 (by decide) (by first | (with_reducible first | exact gfam_R hR hM _ _ | exact gchip_R hR hM _ _ | exact gword_R hR hM _ _ | exact gread_R hR _ | exact hN _ | exact am_R_and _ _ | exact gfam_R hRG hMG _ _ | exact gchip_R hRG hMG _ _ | exact gword_R hRG hMG _ _ | exact gread_R hRG _ | exact hNG _) | assumption | exact ⟨by decide, by decide⟩ | exact ⟨by omega, by omega⟩) (fun c245 => ?_) (fun c245 => ?_)
      · -- 245t
        exact absurd q2 c245
      · -- 245f
        refine sx_aload_n dL_acts_248 rfl ?_
        refine sx_iload_n dL_acts_249 rfl ?_
        refine sx_iconst dL_acts_250 ?_
        refine sx_callVi dL_acts_251 ml_L_44 mv2_loss (pt_loss hP2 (by omega) _ _ (by first | exact ⟨by decide, by decide⟩ | exact ⟨by omega, by omega⟩ | assumption | (with_reducible first | exact gfam_R hR hM _ _ | exact gword_R hR hM _ _ | exact gchip_R hR hM _ _)) (by first | exact ⟨by decide, by decide⟩ | exact ⟨by omega, by omega⟩ | assumption | (with_reducible first | exact gfam_R hR hM _ _ | exact gword_R hR hM _ _ | exact gchip_R hR hM _ _))) rfl am_obG rfl (Nat.le_of_ble_eq_true rfl) (Nat.le_of_ble_eq_true rfl) ?_
        refine sx_heq G eG ?_
        refine sx_vh (fun hVG => ?_)
        have hRG : ∀ j k, am_R (gP G j k) := fun j k => hVG.1 _ j k
        have hMG := PH_WM hPG
        have hNG : ∀ k, am_R (gcnt (gP G) (G.1 6 0 4) (G.1 6 2 1) k) := fun k => gcnt_R hRG hMG (hVG.1 6 0 4) (hVG.1 6 2 1) k
        refine sx_if_le (tgt := 261) dL_acts_254 (by decide) (by first | (with_reducible first | exact gfam_R hR hM _ _ | exact gchip_R hR hM _ _ | exact gword_R hR hM _ _ | exact gread_R hR _ | exact hN _ | exact am_R_and _ _ | exact gfam_R hRG hMG _ _ | exact gchip_R hRG hMG _ _ | exact gword_R hRG hMG _ _ | exact gread_R hRG _ | exact hNG _) | assumption | exact ⟨by decide, by decide⟩ | exact ⟨by omega, by omega⟩) (fun c254 => ?_) (fun c254 => ?_)
        · -- 254t
          exfalso; omega
        · -- 254f
          refine sx_iconst dL_acts_257 ?_
          refine sx_goto (tgt := 262) dL_acts_258 (by decide) ?_
          exact sx_zret dL_acts_262 rfl (by decide) rfl rfl
  · -- 205f
    exact absurd c205 ha
set_option maxHeartbeats 4000000 in
set_option maxRecDepth 100000 in
theorem act_kill3 {h G : am_H} {S S1 : Nat → Int} {n n1 : Int} (hP : PH h S n) (hn : n ≤ 700000000) {y z c : Int} (hz : 0 ≤ z ∧ z ≤ 134217727) (hc : 0 ≤ c ∧ c < gP h 0 0) {G2 : am_H} (e2 : G2 = am_U h (h.2 1) (gsf (gP h) (h.1 (h.2 1)) (gP h 0 0).toNat).2) (hP2 : PH G2 S n) (ha : ¬ gchip (gP h) c 1 = 0) (eG : G = gset (am_U G2 (G2.2 1) (ydie (gP G2) c).2) (ydie (gP G2) c).1) (hPG : PH G S1 n1) (hRa : am_R (ydie (gP G2) c).1) (q : z / 8 % 3 ≤ 0 ∨ ¬ bit (gsf (gP h) (h.1 (h.2 1)) (gP h 0 0).toNat).1 c = 0) (p1 : (gcnt (gP G) (G.1 6 0 4) (G.1 6 2 1) 5) = (gcnt (gP h) (h.1 6 0 4) (h.1 6 2 1) 5) + (ydie (gP G2) c).1) (p3 : bit (gsf (gP h) (h.1 (h.2 1)) (gP h 0 0).toNat).1 c = if (ydie (gP G2) c).1 = 0 then 1 else 0) (p4 : gchip (gP G) c 1 = 0) : Sx 6 YL_acts G (some (.inl 1)) 199 [some (.inr (6, 0)), some (.inl y), some (.inl z), some (.inl c), some (.inl (gcnt (gP h) (h.1 6 0 4) (h.1 6 2 1) 5)), none, none, none, none, none, none, none, none, none, none, none, none, none, none, none] [] h := by
  refine sx_vh (fun hV => ?_)
  have hR : ∀ j k, am_R (gP h j k) := fun j k => hV.1 _ j k
  have hM := PH_WM hP
  have hN : ∀ k, am_R (gcnt (gP h) (h.1 6 0 4) (h.1 6 2 1) k) := fun k => gcnt_R hR hM (hV.1 6 0 4) (hV.1 6 2 1) k
  have h24 := hM.2.1
  have h8 := hM.1
  have n2 : (gcnt (gP h) (h.1 6 0 4) (h.1 6 2 1) 2) = gP h 0 2 := rfl
  have n0 : (gcnt (gP h) (h.1 6 0 4) (h.1 6 2 1) 0) = gP h 0 0 := rfl
  have hcR : am_R c := ⟨by omega, by omega⟩
  have hb4 : 0 ≤ gchip (gP h) c 4 ∧ gchip (gP h) c 4 ≤ 63 := by rw [gchip_4 hc]; exact ybc_b _
  unfold bit at q p3
  refine sx_aload_n dL_acts_199 rfl ?_
  refine sx_iload_n dL_acts_200 rfl ?_
  refine sx_iconst dL_acts_201 ?_
  refine sx_callVi dL_acts_202 ml_L_15 mv2_chipOf (pq_chipOf hP _ _ (by first | exact ⟨by decide, by decide⟩ | exact ⟨by omega, by omega⟩ | assumption | (with_reducible first | exact gfam_R hR hM _ _ | exact gword_R hR hM _ _ | exact gchip_R hR hM _ _)) (by first | exact ⟨by decide, by decide⟩ | exact ⟨by omega, by omega⟩ | assumption | (with_reducible first | exact gfam_R hR hM _ _ | exact gword_R hR hM _ _ | exact gchip_R hR hM _ _))) rfl am_obG rfl (Nat.le_of_ble_eq_true rfl) (Nat.le_of_ble_eq_true rfl) ?_
  refine sx_if_ne (tgt := 224) dL_acts_205 (by decide) (by first | (with_reducible first | exact gfam_R hR hM _ _ | exact gchip_R hR hM _ _ | exact gword_R hR hM _ _ | exact gread_R hR _ | exact hN _ | exact am_R_and _ _ | exact gfam_R hRG hMG _ _ | exact gchip_R hRG hMG _ _ | exact gword_R hRG hMG _ _ | exact gread_R hRG _ | exact hNG _) | assumption | exact ⟨by decide, by decide⟩ | exact ⟨by omega, by omega⟩ | (rw [← p1]; exact hNG _)) (fun c205 => ?_) (fun c205 => ?_)
  · -- 205t
    refine sx_aload_n dL_acts_224 rfl ?_
    refine sx_callVi dL_acts_225 ml_L_40 mv2_safe (pt_safe hP (by omega)) rfl am_obG rfl (Nat.le_of_ble_eq_true rfl) (Nat.le_of_ble_eq_true rfl) ?_
    refine sx_heq G2 e2 ?_
    refine sx_iload_n dL_acts_228 rfl ?_
    refine sx_ishr dL_acts_229 ?_
    refine sx_iconst dL_acts_230 ?_
    refine sx_iand dL_acts_231 ?_
    refine sx_istore dL_acts_232 (by decide) ?_
    refine sx_iload_n dL_acts_234 rfl ?_
    refine sx_bipush dL_acts_235 rfl ?_
    refine sx_idiv dL_acts_237 (by omega) (by omega) ?_
    refine sx_iconst dL_acts_238 ?_
    refine sx_irem dL_acts_239 (by omega) (by omega) ?_
    refine sx_if_le (tgt := 263) dL_acts_240 (by decide) (by first | (with_reducible first | exact gfam_R hR hM _ _ | exact gchip_R hR hM _ _ | exact gword_R hR hM _ _ | exact gread_R hR _ | exact hN _ | exact am_R_and _ _ | exact gfam_R hRG hMG _ _ | exact gchip_R hRG hMG _ _ | exact gword_R hRG hMG _ _ | exact gread_R hRG _ | exact hNG _) | assumption | exact ⟨by decide, by decide⟩ | exact ⟨by omega, by omega⟩ | (rw [← p1]; exact hNG _)) (fun c240 => ?_) (fun c240 => ?_)
    · -- 240t
      refine sx_aload_n dL_acts_263 rfl ?_
      refine sx_iload_n dL_acts_264 rfl ?_
      refine sx_callVi dL_acts_265 ml_L_37 mv2_kill (pc_kill hP2 (by omega) _ (by first | exact ⟨by decide, by decide⟩ | exact ⟨by omega, by omega⟩ | assumption | (with_reducible first | exact gfam_R hR hM _ _ | exact gword_R hR hM _ _ | exact gchip_R hR hM _ _))) rfl am_obG rfl (Nat.le_of_ble_eq_true rfl) (Nat.le_of_ble_eq_true rfl) ?_
      refine sx_heq G eG ?_
      refine sx_vh (fun hVG => ?_)
      have hRG : ∀ j k, am_R (gP G j k) := fun j k => hVG.1 _ j k
      have hMG := PH_WM hPG
      have hNG : ∀ k, am_R (gcnt (gP G) (G.1 6 0 4) (G.1 6 2 1) k) := fun k => gcnt_R hRG hMG (hVG.1 6 0 4) (hVG.1 6 2 1) k
      refine sx_istore dL_acts_268 (by decide) ?_
      refine sx_aload_n dL_acts_270 rfl ?_
      refine sx_iconst dL_acts_271 ?_
      refine sx_callVi dL_acts_272 ml_L_19 mv2_count (pq_count hPG _ (by first | exact ⟨by decide, by decide⟩ | exact ⟨by omega, by omega⟩ | assumption | (with_reducible first | exact gfam_R hR hM _ _ | exact gword_R hR hM _ _ | exact gchip_R hR hM _ _))) rfl am_obG rfl (Nat.le_of_ble_eq_true rfl) (Nat.le_of_ble_eq_true rfl) ?_
      refine sx_iload dL_acts_275 rfl ?_
      refine sx_iload dL_acts_277 rfl ?_
      refine sx_iadd dL_acts_279 ?_
      refine sx_icmp_ne (tgt := 320) dL_acts_280 (by decide) (by first | (with_reducible first | exact gfam_R hR hM _ _ | exact gchip_R hR hM _ _ | exact gword_R hR hM _ _ | exact gread_R hR _ | exact hN _ | exact am_R_and _ _ | exact gfam_R hRG hMG _ _ | exact gchip_R hRG hMG _ _ | exact gword_R hRG hMG _ _ | exact gread_R hRG _ | exact hNG _) | assumption | exact ⟨by decide, by decide⟩ | exact ⟨by omega, by omega⟩ | (rw [← p1]; exact hNG _)) (by first | (with_reducible first | exact gfam_R hR hM _ _ | exact gchip_R hR hM _ _ | exact gword_R hR hM _ _ | exact gread_R hR _ | exact hN _ | exact am_R_and _ _ | exact gfam_R hRG hMG _ _ | exact gchip_R hRG hMG _ _ | exact gword_R hRG hMG _ _ | exact gread_R hRG _ | exact hNG _) | assumption | exact ⟨by decide, by decide⟩ | exact ⟨by omega, by omega⟩ | (rw [← p1]; exact hNG _)) (fun c280 => ?_) (fun c280 => ?_)
      · -- 280t
        exact absurd p1 c280
      · -- 280f
        refine sx_iload dL_acts_283 rfl ?_
        refine sx_iconst dL_acts_285 ?_
        refine sx_icmp_ne (tgt := 293) dL_acts_286 (by decide) (by first | (with_reducible first | exact gfam_R hR hM _ _ | exact gchip_R hR hM _ _ | exact gword_R hR hM _ _ | exact gread_R hR _ | exact hN _ | exact am_R_and _ _ | exact gfam_R hRG hMG _ _ | exact gchip_R hRG hMG _ _ | exact gword_R hRG hMG _ _ | exact gread_R hRG _ | exact hNG _) | assumption | exact ⟨by decide, by decide⟩ | exact ⟨by omega, by omega⟩ | (rw [← p1]; exact hNG _)) ⟨by decide, by decide⟩ (fun c286 => ?_) (fun c286 => ?_)
        · -- 286t
          refine sx_iconst dL_acts_293 ?_
          refine sx_iload dL_acts_294 rfl ?_
          refine sx_if_ne (tgt := 303) dL_acts_296 (by decide) (by first | (with_reducible first | exact gfam_R hR hM _ _ | exact gchip_R hR hM _ _ | exact gword_R hR hM _ _ | exact gread_R hR _ | exact hN _ | exact am_R_and _ _ | exact gfam_R hRG hMG _ _ | exact gchip_R hRG hMG _ _ | exact gword_R hRG hMG _ _ | exact gread_R hRG _ | exact hNG _) | assumption | exact ⟨by decide, by decide⟩ | exact ⟨by omega, by omega⟩ | (rw [← p1]; exact hNG _)) (fun c296 => ?_) (fun c296 => ?_)
          · -- 296t
            refine sx_iconst dL_acts_303 ?_
            refine sx_icmp_ne (tgt := 320) dL_acts_304 (by decide) ⟨by decide, by decide⟩ ⟨by decide, by decide⟩ (fun q => absurd q (by decide)) (fun _ => ?_)
            refine sx_aload_n dL_acts_307 rfl ?_
            refine sx_iload_n dL_acts_308 rfl ?_
            refine sx_iconst dL_acts_309 ?_
            refine sx_callVi dL_acts_310 ml_L_15 mv2_chipOf (pq_chipOf hPG _ _ (by first | exact ⟨by decide, by decide⟩ | exact ⟨by omega, by omega⟩ | assumption | (with_reducible first | exact gfam_R hR hM _ _ | exact gword_R hR hM _ _ | exact gchip_R hR hM _ _)) (by first | exact ⟨by decide, by decide⟩ | exact ⟨by omega, by omega⟩ | assumption | (with_reducible first | exact gfam_R hR hM _ _ | exact gword_R hR hM _ _ | exact gchip_R hR hM _ _))) rfl am_obG rfl (Nat.le_of_ble_eq_true rfl) (Nat.le_of_ble_eq_true rfl) ?_
            refine sx_if_ne (tgt := 320) dL_acts_313 (by decide) (by first | (with_reducible first | exact gfam_R hR hM _ _ | exact gchip_R hR hM _ _ | exact gword_R hR hM _ _ | exact gread_R hR _ | exact hN _ | exact am_R_and _ _ | exact gfam_R hRG hMG _ _ | exact gchip_R hRG hMG _ _ | exact gword_R hRG hMG _ _ | exact gread_R hRG _ | exact hNG _) | assumption | exact ⟨by decide, by decide⟩ | exact ⟨by omega, by omega⟩ | (rw [← p1]; exact hNG _)) (fun c313 => ?_) (fun c313 => ?_)
            · -- 313t
              exact absurd p4 c313
            · -- 313f
              refine sx_iconst dL_acts_316 ?_
              refine sx_goto (tgt := 321) dL_acts_317 (by decide) ?_
              exact sx_zret dL_acts_321 rfl (by decide) rfl rfl
          · -- 296f
            refine sx_iconst dL_acts_299 ?_
            refine sx_goto (tgt := 304) dL_acts_300 (by decide) ?_
            refine sx_icmp_ne (tgt := 320) dL_acts_304 (by decide) ⟨by decide, by decide⟩ ⟨by decide, by decide⟩ (fun _ => ?_) (fun q => absurd q (by decide))
            (exfalso; first | (rw [if_pos c296] at p3; exact c286 p3) | (rw [if_neg c296] at p3; rw [p3] at c286; exact absurd c286 (by decide)))
        · -- 286f
          refine sx_iconst dL_acts_289 ?_
          refine sx_goto (tgt := 294) dL_acts_290 (by decide) ?_
          refine sx_iload dL_acts_294 rfl ?_
          refine sx_if_ne (tgt := 303) dL_acts_296 (by decide) (by first | (with_reducible first | exact gfam_R hR hM _ _ | exact gchip_R hR hM _ _ | exact gword_R hR hM _ _ | exact gread_R hR _ | exact hN _ | exact am_R_and _ _ | exact gfam_R hRG hMG _ _ | exact gchip_R hRG hMG _ _ | exact gword_R hRG hMG _ _ | exact gread_R hRG _ | exact hNG _) | assumption | exact ⟨by decide, by decide⟩ | exact ⟨by omega, by omega⟩ | (rw [← p1]; exact hNG _)) (fun c296 => ?_) (fun c296 => ?_)
          · -- 296t
            refine sx_iconst dL_acts_303 ?_
            refine sx_icmp_ne (tgt := 320) dL_acts_304 (by decide) ⟨by decide, by decide⟩ ⟨by decide, by decide⟩ (fun _ => ?_) (fun q => absurd q (by decide))
            (exfalso; first | (rw [if_pos c296] at p3; exact c286 p3) | (rw [if_neg c296] at p3; rw [p3] at c286; exact absurd c286 (by decide)))
          · -- 296f
            refine sx_iconst dL_acts_299 ?_
            refine sx_goto (tgt := 304) dL_acts_300 (by decide) ?_
            refine sx_icmp_ne (tgt := 320) dL_acts_304 (by decide) ⟨by decide, by decide⟩ ⟨by decide, by decide⟩ (fun q => absurd q (by decide)) (fun _ => ?_)
            refine sx_aload_n dL_acts_307 rfl ?_
            refine sx_iload_n dL_acts_308 rfl ?_
            refine sx_iconst dL_acts_309 ?_
            refine sx_callVi dL_acts_310 ml_L_15 mv2_chipOf (pq_chipOf hPG _ _ (by first | exact ⟨by decide, by decide⟩ | exact ⟨by omega, by omega⟩ | assumption | (with_reducible first | exact gfam_R hR hM _ _ | exact gword_R hR hM _ _ | exact gchip_R hR hM _ _)) (by first | exact ⟨by decide, by decide⟩ | exact ⟨by omega, by omega⟩ | assumption | (with_reducible first | exact gfam_R hR hM _ _ | exact gword_R hR hM _ _ | exact gchip_R hR hM _ _))) rfl am_obG rfl (Nat.le_of_ble_eq_true rfl) (Nat.le_of_ble_eq_true rfl) ?_
            refine sx_if_ne (tgt := 320) dL_acts_313 (by decide) (by first | (with_reducible first | exact gfam_R hR hM _ _ | exact gchip_R hR hM _ _ | exact gword_R hR hM _ _ | exact gread_R hR _ | exact hN _ | exact am_R_and _ _ | exact gfam_R hRG hMG _ _ | exact gchip_R hRG hMG _ _ | exact gword_R hRG hMG _ _ | exact gread_R hRG _ | exact hNG _) | assumption | exact ⟨by decide, by decide⟩ | exact ⟨by omega, by omega⟩ | (rw [← p1]; exact hNG _)) (fun c313 => ?_) (fun c313 => ?_)
            · -- 313t
              exact absurd p4 c313
            · -- 313f
              refine sx_iconst dL_acts_316 ?_
              refine sx_goto (tgt := 321) dL_acts_317 (by decide) ?_
              exact sx_zret dL_acts_321 rfl (by decide) rfl rfl
    · -- 240f
      refine sx_iload dL_acts_243 rfl ?_
      refine sx_if_ne (tgt := 263) dL_acts_245 (by decide) (by first | (with_reducible first | exact gfam_R hR hM _ _ | exact gchip_R hR hM _ _ | exact gword_R hR hM _ _ | exact gread_R hR _ | exact hN _ | exact am_R_and _ _ | exact gfam_R hRG hMG _ _ | exact gchip_R hRG hMG _ _ | exact gword_R hRG hMG _ _ | exact gread_R hRG _ | exact hNG _) | assumption | exact ⟨by decide, by decide⟩ | exact ⟨by omega, by omega⟩ | (rw [← p1]; exact hNG _)) (fun c245 => ?_) (fun c245 => ?_)
      · -- 245t
        refine sx_aload_n dL_acts_263 rfl ?_
        refine sx_iload_n dL_acts_264 rfl ?_
        refine sx_callVi dL_acts_265 ml_L_37 mv2_kill (pc_kill hP2 (by omega) _ (by first | exact ⟨by decide, by decide⟩ | exact ⟨by omega, by omega⟩ | assumption | (with_reducible first | exact gfam_R hR hM _ _ | exact gword_R hR hM _ _ | exact gchip_R hR hM _ _))) rfl am_obG rfl (Nat.le_of_ble_eq_true rfl) (Nat.le_of_ble_eq_true rfl) ?_
        refine sx_heq G eG ?_
        refine sx_vh (fun hVG => ?_)
        have hRG : ∀ j k, am_R (gP G j k) := fun j k => hVG.1 _ j k
        have hMG := PH_WM hPG
        have hNG : ∀ k, am_R (gcnt (gP G) (G.1 6 0 4) (G.1 6 2 1) k) := fun k => gcnt_R hRG hMG (hVG.1 6 0 4) (hVG.1 6 2 1) k
        refine sx_istore dL_acts_268 (by decide) ?_
        refine sx_aload_n dL_acts_270 rfl ?_
        refine sx_iconst dL_acts_271 ?_
        refine sx_callVi dL_acts_272 ml_L_19 mv2_count (pq_count hPG _ (by first | exact ⟨by decide, by decide⟩ | exact ⟨by omega, by omega⟩ | assumption | (with_reducible first | exact gfam_R hR hM _ _ | exact gword_R hR hM _ _ | exact gchip_R hR hM _ _))) rfl am_obG rfl (Nat.le_of_ble_eq_true rfl) (Nat.le_of_ble_eq_true rfl) ?_
        refine sx_iload dL_acts_275 rfl ?_
        refine sx_iload dL_acts_277 rfl ?_
        refine sx_iadd dL_acts_279 ?_
        refine sx_icmp_ne (tgt := 320) dL_acts_280 (by decide) (by first | (with_reducible first | exact gfam_R hR hM _ _ | exact gchip_R hR hM _ _ | exact gword_R hR hM _ _ | exact gread_R hR _ | exact hN _ | exact am_R_and _ _ | exact gfam_R hRG hMG _ _ | exact gchip_R hRG hMG _ _ | exact gword_R hRG hMG _ _ | exact gread_R hRG _ | exact hNG _) | assumption | exact ⟨by decide, by decide⟩ | exact ⟨by omega, by omega⟩ | (rw [← p1]; exact hNG _)) (by first | (with_reducible first | exact gfam_R hR hM _ _ | exact gchip_R hR hM _ _ | exact gword_R hR hM _ _ | exact gread_R hR _ | exact hN _ | exact am_R_and _ _ | exact gfam_R hRG hMG _ _ | exact gchip_R hRG hMG _ _ | exact gword_R hRG hMG _ _ | exact gread_R hRG _ | exact hNG _) | assumption | exact ⟨by decide, by decide⟩ | exact ⟨by omega, by omega⟩ | (rw [← p1]; exact hNG _)) (fun c280 => ?_) (fun c280 => ?_)
        · -- 280t
          exact absurd p1 c280
        · -- 280f
          refine sx_iload dL_acts_283 rfl ?_
          refine sx_iconst dL_acts_285 ?_
          refine sx_icmp_ne (tgt := 293) dL_acts_286 (by decide) (by first | (with_reducible first | exact gfam_R hR hM _ _ | exact gchip_R hR hM _ _ | exact gword_R hR hM _ _ | exact gread_R hR _ | exact hN _ | exact am_R_and _ _ | exact gfam_R hRG hMG _ _ | exact gchip_R hRG hMG _ _ | exact gword_R hRG hMG _ _ | exact gread_R hRG _ | exact hNG _) | assumption | exact ⟨by decide, by decide⟩ | exact ⟨by omega, by omega⟩ | (rw [← p1]; exact hNG _)) ⟨by decide, by decide⟩ (fun c286 => ?_) (fun c286 => ?_)
          · -- 286t
            refine sx_iconst dL_acts_293 ?_
            refine sx_iload dL_acts_294 rfl ?_
            refine sx_if_ne (tgt := 303) dL_acts_296 (by decide) (by first | (with_reducible first | exact gfam_R hR hM _ _ | exact gchip_R hR hM _ _ | exact gword_R hR hM _ _ | exact gread_R hR _ | exact hN _ | exact am_R_and _ _ | exact gfam_R hRG hMG _ _ | exact gchip_R hRG hMG _ _ | exact gword_R hRG hMG _ _ | exact gread_R hRG _ | exact hNG _) | assumption | exact ⟨by decide, by decide⟩ | exact ⟨by omega, by omega⟩ | (rw [← p1]; exact hNG _)) (fun c296 => ?_) (fun c296 => ?_)
            · -- 296t
              refine sx_iconst dL_acts_303 ?_
              refine sx_icmp_ne (tgt := 320) dL_acts_304 (by decide) ⟨by decide, by decide⟩ ⟨by decide, by decide⟩ (fun q => absurd q (by decide)) (fun _ => ?_)
              refine sx_aload_n dL_acts_307 rfl ?_
              refine sx_iload_n dL_acts_308 rfl ?_
              refine sx_iconst dL_acts_309 ?_
              refine sx_callVi dL_acts_310 ml_L_15 mv2_chipOf (pq_chipOf hPG _ _ (by first | exact ⟨by decide, by decide⟩ | exact ⟨by omega, by omega⟩ | assumption | (with_reducible first | exact gfam_R hR hM _ _ | exact gword_R hR hM _ _ | exact gchip_R hR hM _ _)) (by first | exact ⟨by decide, by decide⟩ | exact ⟨by omega, by omega⟩ | assumption | (with_reducible first | exact gfam_R hR hM _ _ | exact gword_R hR hM _ _ | exact gchip_R hR hM _ _))) rfl am_obG rfl (Nat.le_of_ble_eq_true rfl) (Nat.le_of_ble_eq_true rfl) ?_
              refine sx_if_ne (tgt := 320) dL_acts_313 (by decide) (by first | (with_reducible first | exact gfam_R hR hM _ _ | exact gchip_R hR hM _ _ | exact gword_R hR hM _ _ | exact gread_R hR _ | exact hN _ | exact am_R_and _ _ | exact gfam_R hRG hMG _ _ | exact gchip_R hRG hMG _ _ | exact gword_R hRG hMG _ _ | exact gread_R hRG _ | exact hNG _) | assumption | exact ⟨by decide, by decide⟩ | exact ⟨by omega, by omega⟩ | (rw [← p1]; exact hNG _)) (fun c313 => ?_) (fun c313 => ?_)
              · -- 313t
                exact absurd p4 c313
              · -- 313f
                refine sx_iconst dL_acts_316 ?_
                refine sx_goto (tgt := 321) dL_acts_317 (by decide) ?_
                exact sx_zret dL_acts_321 rfl (by decide) rfl rfl
            · -- 296f
              refine sx_iconst dL_acts_299 ?_
              refine sx_goto (tgt := 304) dL_acts_300 (by decide) ?_
              refine sx_icmp_ne (tgt := 320) dL_acts_304 (by decide) ⟨by decide, by decide⟩ ⟨by decide, by decide⟩ (fun _ => ?_) (fun q => absurd q (by decide))
              (exfalso; first | (rw [if_pos c296] at p3; exact c286 p3) | (rw [if_neg c296] at p3; rw [p3] at c286; exact absurd c286 (by decide)))
          · -- 286f
            refine sx_iconst dL_acts_289 ?_
            refine sx_goto (tgt := 294) dL_acts_290 (by decide) ?_
            refine sx_iload dL_acts_294 rfl ?_
            refine sx_if_ne (tgt := 303) dL_acts_296 (by decide) (by first | (with_reducible first | exact gfam_R hR hM _ _ | exact gchip_R hR hM _ _ | exact gword_R hR hM _ _ | exact gread_R hR _ | exact hN _ | exact am_R_and _ _ | exact gfam_R hRG hMG _ _ | exact gchip_R hRG hMG _ _ | exact gword_R hRG hMG _ _ | exact gread_R hRG _ | exact hNG _) | assumption | exact ⟨by decide, by decide⟩ | exact ⟨by omega, by omega⟩ | (rw [← p1]; exact hNG _)) (fun c296 => ?_) (fun c296 => ?_)
            · -- 296t
              refine sx_iconst dL_acts_303 ?_
              refine sx_icmp_ne (tgt := 320) dL_acts_304 (by decide) ⟨by decide, by decide⟩ ⟨by decide, by decide⟩ (fun _ => ?_) (fun q => absurd q (by decide))
              (exfalso; first | (rw [if_pos c296] at p3; exact c286 p3) | (rw [if_neg c296] at p3; rw [p3] at c286; exact absurd c286 (by decide)))
            · -- 296f
              refine sx_iconst dL_acts_299 ?_
              refine sx_goto (tgt := 304) dL_acts_300 (by decide) ?_
              refine sx_icmp_ne (tgt := 320) dL_acts_304 (by decide) ⟨by decide, by decide⟩ ⟨by decide, by decide⟩ (fun q => absurd q (by decide)) (fun _ => ?_)
              refine sx_aload_n dL_acts_307 rfl ?_
              refine sx_iload_n dL_acts_308 rfl ?_
              refine sx_iconst dL_acts_309 ?_
              refine sx_callVi dL_acts_310 ml_L_15 mv2_chipOf (pq_chipOf hPG _ _ (by first | exact ⟨by decide, by decide⟩ | exact ⟨by omega, by omega⟩ | assumption | (with_reducible first | exact gfam_R hR hM _ _ | exact gword_R hR hM _ _ | exact gchip_R hR hM _ _)) (by first | exact ⟨by decide, by decide⟩ | exact ⟨by omega, by omega⟩ | assumption | (with_reducible first | exact gfam_R hR hM _ _ | exact gword_R hR hM _ _ | exact gchip_R hR hM _ _))) rfl am_obG rfl (Nat.le_of_ble_eq_true rfl) (Nat.le_of_ble_eq_true rfl) ?_
              refine sx_if_ne (tgt := 320) dL_acts_313 (by decide) (by first | (with_reducible first | exact gfam_R hR hM _ _ | exact gchip_R hR hM _ _ | exact gword_R hR hM _ _ | exact gread_R hR _ | exact hN _ | exact am_R_and _ _ | exact gfam_R hRG hMG _ _ | exact gchip_R hRG hMG _ _ | exact gword_R hRG hMG _ _ | exact gread_R hRG _ | exact hNG _) | assumption | exact ⟨by decide, by decide⟩ | exact ⟨by omega, by omega⟩ | (rw [← p1]; exact hNG _)) (fun c313 => ?_) (fun c313 => ?_)
              · -- 313t
                exact absurd p4 c313
              · -- 313f
                refine sx_iconst dL_acts_316 ?_
                refine sx_goto (tgt := 321) dL_acts_317 (by decide) ?_
                exact sx_zret dL_acts_321 rfl (by decide) rfl rfl
      · -- 245f
        exact absurd c245 (q.resolve_left (by omega))
  · -- 205f
    exact absurd c205 ha
set_option maxHeartbeats 4000000 in
set_option maxRecDepth 100000 in
theorem act_breaks {h G : am_H} {S S1 : Nat → Int} {n n1 : Int} (hP : PH h S n) (hn : n ≤ 700000000) {y z c : Int} (hz : 0 ≤ z ∧ z ≤ 134217727) (hc : 0 ≤ c ∧ c < gP h 0 0) (eG : G = gset (am_U h (h.2 1) (ybreak (gP h) c (z / 8 % 6)).2) (ybreak (gP h) c (z / 8 % 6)).1) (hPG : PH G S1 n1) (hRa : am_R (ybreak (gP h) c (z / 8 % 6)).1) (p1 : (ybreak (gP h) c (z / 8 % 6)).1 = -1000002 → (gcnt (gP G) (G.1 6 0 4) (G.1 6 2 1) 5) = (gcnt (gP h) (h.1 6 0 4) (h.1 6 2 1) 5)) (p2 : ¬ (ybreak (gP h) c (z / 8 % 6)).1 = -1000002 → (gcnt (gP G) (G.1 6 0 4) (G.1 6 2 1) 5) = (gcnt (gP h) (h.1 6 0 4) (h.1 6 2 1) 5) + (ybreak (gP h) c (z / 8 % 6)).1) : Sx 6 YL_acts G (some (.inl 1)) 322 [some (.inr (6, 0)), some (.inl y), some (.inl z), some (.inl c), some (.inl (gcnt (gP h) (h.1 6 0 4) (h.1 6 2 1) 5)), none, none, none, none, none, none, none, none, none, none, none, none, none, none, none] [] h := by
  refine sx_vh (fun hV => ?_)
  have hR : ∀ j k, am_R (gP h j k) := fun j k => hV.1 _ j k
  have hM := PH_WM hP
  have hN : ∀ k, am_R (gcnt (gP h) (h.1 6 0 4) (h.1 6 2 1) k) := fun k => gcnt_R hR hM (hV.1 6 0 4) (hV.1 6 2 1) k
  have h24 := hM.2.1
  have h8 := hM.1
  have n2 : (gcnt (gP h) (h.1 6 0 4) (h.1 6 2 1) 2) = gP h 0 2 := rfl
  have n0 : (gcnt (gP h) (h.1 6 0 4) (h.1 6 2 1) 0) = gP h 0 0 := rfl
  have hcR : am_R c := ⟨by omega, by omega⟩
  have hb4 : 0 ≤ gchip (gP h) c 4 ∧ gchip (gP h) c 4 ≤ 63 := by rw [gchip_4 hc]; exact ybc_b _
  refine sx_aload_n dL_acts_322 rfl ?_
  refine sx_iload_n dL_acts_323 rfl ?_
  refine sx_iload_n dL_acts_324 rfl ?_
  refine sx_bipush dL_acts_325 rfl ?_
  refine sx_idiv dL_acts_327 (by omega) (by omega) ?_
  refine sx_bipush dL_acts_328 rfl ?_
  refine sx_irem dL_acts_330 (by omega) (by omega) ?_
  refine sx_callVi dL_acts_331 ml_L_47 mv2_breaks (pc_breaks hP (by omega) _ _ (by first | exact ⟨by decide, by decide⟩ | exact ⟨by omega, by omega⟩ | assumption | (with_reducible first | exact gfam_R hR hM _ _ | exact gword_R hR hM _ _ | exact gchip_R hR hM _ _)) (by first | exact ⟨by decide, by decide⟩ | exact ⟨by omega, by omega⟩ | assumption | (with_reducible first | exact gfam_R hR hM _ _ | exact gword_R hR hM _ _ | exact gchip_R hR hM _ _))) rfl am_obG rfl (Nat.le_of_ble_eq_true rfl) (Nat.le_of_ble_eq_true rfl) ?_
  refine sx_heq G eG ?_
  refine sx_vh (fun hVG => ?_)
  have hRG : ∀ j k, am_R (gP G j k) := fun j k => hVG.1 _ j k
  have hMG := PH_WM hPG
  have hNG : ∀ k, am_R (gcnt (gP G) (G.1 6 0 4) (G.1 6 2 1) k) := fun k => gcnt_R hRG hMG (hVG.1 6 0 4) (hVG.1 6 2 1) k
  refine sx_istore dL_acts_334 (by decide) ?_
  refine sx_iload dL_acts_336 rfl ?_
  refine sx_ldc dL_acts_338 kc_L_35 ?_
  refine sx_icmp_ne (tgt := 361) dL_acts_340 (by decide) (by first | (with_reducible first | exact gfam_R hR hM _ _ | exact gchip_R hR hM _ _ | exact gword_R hR hM _ _ | exact gread_R hR _ | exact hN _ | exact am_R_and _ _ | exact gfam_R hRG hMG _ _ | exact gchip_R hRG hMG _ _ | exact gword_R hRG hMG _ _ | exact gread_R hRG _ | exact hNG _) | assumption | exact ⟨by decide, by decide⟩ | exact ⟨by omega, by omega⟩ | (rw [← p2 c340]; exact hNG _)) ⟨by decide, by decide⟩ (fun c340 => ?_) (fun c340 => ?_)
  · -- 340t
    refine sx_aload_n dL_acts_361 rfl ?_
    refine sx_iconst dL_acts_362 ?_
    refine sx_callVi dL_acts_363 ml_L_19 mv2_count (pq_count hPG _ (by first | exact ⟨by decide, by decide⟩ | exact ⟨by omega, by omega⟩ | assumption | (with_reducible first | exact gfam_R hR hM _ _ | exact gword_R hR hM _ _ | exact gchip_R hR hM _ _))) rfl am_obG rfl (Nat.le_of_ble_eq_true rfl) (Nat.le_of_ble_eq_true rfl) ?_
    refine sx_iload dL_acts_366 rfl ?_
    refine sx_iload dL_acts_368 rfl ?_
    refine sx_iadd dL_acts_370 ?_
    refine sx_icmp_ne (tgt := 378) dL_acts_371 (by decide) (by first | (with_reducible first | exact gfam_R hR hM _ _ | exact gchip_R hR hM _ _ | exact gword_R hR hM _ _ | exact gread_R hR _ | exact hN _ | exact am_R_and _ _ | exact gfam_R hRG hMG _ _ | exact gchip_R hRG hMG _ _ | exact gword_R hRG hMG _ _ | exact gread_R hRG _ | exact hNG _) | assumption | exact ⟨by decide, by decide⟩ | exact ⟨by omega, by omega⟩ | (rw [← p2 c340]; exact hNG _)) (by first | (with_reducible first | exact gfam_R hR hM _ _ | exact gchip_R hR hM _ _ | exact gword_R hR hM _ _ | exact gread_R hR _ | exact hN _ | exact am_R_and _ _ | exact gfam_R hRG hMG _ _ | exact gchip_R hRG hMG _ _ | exact gword_R hRG hMG _ _ | exact gread_R hRG _ | exact hNG _) | assumption | exact ⟨by decide, by decide⟩ | exact ⟨by omega, by omega⟩ | (rw [← p2 c340]; exact hNG _)) (fun c371 => ?_) (fun c371 => ?_)
    · -- 371t
      exact absurd (p2 c340) c371
    · -- 371f
      refine sx_iconst dL_acts_374 ?_
      refine sx_goto (tgt := 379) dL_acts_375 (by decide) ?_
      exact sx_zret dL_acts_379 rfl (by decide) rfl rfl
  · -- 340f
    refine sx_aload_n dL_acts_343 rfl ?_
    refine sx_iconst dL_acts_344 ?_
    refine sx_callVi dL_acts_345 ml_L_19 mv2_count (pq_count hPG _ (by first | exact ⟨by decide, by decide⟩ | exact ⟨by omega, by omega⟩ | assumption | (with_reducible first | exact gfam_R hR hM _ _ | exact gword_R hR hM _ _ | exact gchip_R hR hM _ _))) rfl am_obG rfl (Nat.le_of_ble_eq_true rfl) (Nat.le_of_ble_eq_true rfl) ?_
    refine sx_iload dL_acts_348 rfl ?_
    refine sx_icmp_ne (tgt := 357) dL_acts_350 (by decide) (by first | (with_reducible first | exact gfam_R hR hM _ _ | exact gchip_R hR hM _ _ | exact gword_R hR hM _ _ | exact gread_R hR _ | exact hN _ | exact am_R_and _ _ | exact gfam_R hRG hMG _ _ | exact gchip_R hRG hMG _ _ | exact gword_R hRG hMG _ _ | exact gread_R hRG _ | exact hNG _) | assumption | exact ⟨by decide, by decide⟩ | exact ⟨by omega, by omega⟩ | (rw [← p2 c340]; exact hNG _)) (by first | (with_reducible first | exact gfam_R hR hM _ _ | exact gchip_R hR hM _ _ | exact gword_R hR hM _ _ | exact gread_R hR _ | exact hN _ | exact am_R_and _ _ | exact gfam_R hRG hMG _ _ | exact gchip_R hRG hMG _ _ | exact gword_R hRG hMG _ _ | exact gread_R hRG _ | exact hNG _) | assumption | exact ⟨by decide, by decide⟩ | exact ⟨by omega, by omega⟩ | (rw [← p2 c340]; exact hNG _)) (fun c350 => ?_) (fun c350 => ?_)
    · -- 350t
      exact absurd (p1 c340) c350
    · -- 350f
      refine sx_iconst dL_acts_353 ?_
      refine sx_goto (tgt := 379) dL_acts_354 (by decide) ?_
      exact sx_zret dL_acts_379 rfl (by decide) rfl rfl
set_option maxHeartbeats 4000000 in
set_option maxRecDepth 100000 in
theorem act_tick {h G : am_H} {S S1 : Nat → Int} {n n1 : Int} (hP : PH h S n) (hn : n ≤ 700000000) {y z c : Int} (hz : 0 ≤ z ∧ z ≤ 134217727) (hc : 0 ≤ c ∧ c < gP h 0 0) (eG : G = gset (am_U h (h.2 1) (ytick (gP h) (1 + z % 4)).2) (ytick (gP h) (1 + z % 4)).1) (hPG : PH G S1 n1) (p7 : (gcnt (gP G) (G.1 6 0 4) (G.1 6 2 1) 7) = (gcnt (gP h) (h.1 6 0 4) (h.1 6 2 1) 7) + (ytick (gP h) (1 + z % 4)).1) (p6 : (gcnt (gP G) (G.1 6 0 4) (G.1 6 2 1) 6) = (gcnt (gP h) (h.1 6 0 4) (h.1 6 2 1) 6) + 1 + z % 4) (p5 : (gcnt (gP G) (G.1 6 0 4) (G.1 6 2 1) 5) = (gcnt (gP h) (h.1 6 0 4) (h.1 6 2 1) 5)) : Sx 6 YL_acts G (some (.inl 1)) 380 [some (.inr (6, 0)), some (.inl y), some (.inl z), some (.inl c), some (.inl (gcnt (gP h) (h.1 6 0 4) (h.1 6 2 1) 5)), none, none, none, none, none, none, none, none, none, none, none, none, none, none, none] [] h := by
  refine sx_vh (fun hV => ?_)
  have hR : ∀ j k, am_R (gP h j k) := fun j k => hV.1 _ j k
  have hM := PH_WM hP
  have hN : ∀ k, am_R (gcnt (gP h) (h.1 6 0 4) (h.1 6 2 1) k) := fun k => gcnt_R hR hM (hV.1 6 0 4) (hV.1 6 2 1) k
  have h24 := hM.2.1
  have h8 := hM.1
  have n2 : (gcnt (gP h) (h.1 6 0 4) (h.1 6 2 1) 2) = gP h 0 2 := rfl
  have n0 : (gcnt (gP h) (h.1 6 0 4) (h.1 6 2 1) 0) = gP h 0 0 := rfl
  have hcR : am_R c := ⟨by omega, by omega⟩
  have hb4 : 0 ≤ gchip (gP h) c 4 ∧ gchip (gP h) c 4 ≤ 63 := by rw [gchip_4 hc]; exact ybc_b _
  refine sx_aload_n dL_acts_380 rfl ?_
  refine sx_bipush dL_acts_381 rfl ?_
  refine sx_callVi dL_acts_383 ml_L_19 mv2_count (pq_count hP _ (by first | exact ⟨by decide, by decide⟩ | exact ⟨by omega, by omega⟩ | assumption | (with_reducible first | exact gfam_R hR hM _ _ | exact gword_R hR hM _ _ | exact gchip_R hR hM _ _))) rfl am_obG rfl (Nat.le_of_ble_eq_true rfl) (Nat.le_of_ble_eq_true rfl) ?_
  refine sx_istore dL_acts_386 (by decide) ?_
  refine sx_aload_n dL_acts_388 rfl ?_
  refine sx_bipush dL_acts_389 rfl ?_
  refine sx_callVi dL_acts_391 ml_L_19 mv2_count (pq_count hP _ (by first | exact ⟨by decide, by decide⟩ | exact ⟨by omega, by omega⟩ | assumption | (with_reducible first | exact gfam_R hR hM _ _ | exact gword_R hR hM _ _ | exact gchip_R hR hM _ _))) rfl am_obG rfl (Nat.le_of_ble_eq_true rfl) (Nat.le_of_ble_eq_true rfl) ?_
  refine sx_istore dL_acts_394 (by decide) ?_
  refine sx_aload_n dL_acts_396 rfl ?_
  refine sx_iconst dL_acts_397 ?_
  refine sx_iload_n dL_acts_398 rfl ?_
  refine sx_iconst dL_acts_399 ?_
  refine sx_irem dL_acts_400 (by omega) (by omega) ?_
  refine sx_iadd dL_acts_401 ?_
  refine sx_callVi dL_acts_402 ml_L_50 mv2_tick (pc_tick hP (by omega) _ (by first | exact ⟨by decide, by decide⟩ | exact ⟨by omega, by omega⟩ | assumption | (with_reducible first | exact gfam_R hR hM _ _ | exact gword_R hR hM _ _ | exact gchip_R hR hM _ _))) rfl am_obG rfl (Nat.le_of_ble_eq_true rfl) (Nat.le_of_ble_eq_true rfl) ?_
  refine sx_heq G eG ?_
  refine sx_vh (fun hVG => ?_)
  have hRG : ∀ j k, am_R (gP G j k) := fun j k => hVG.1 _ j k
  have hMG := PH_WM hPG
  have hNG : ∀ k, am_R (gcnt (gP G) (G.1 6 0 4) (G.1 6 2 1) k) := fun k => gcnt_R hRG hMG (hVG.1 6 0 4) (hVG.1 6 2 1) k
  refine sx_istore dL_acts_405 (by decide) ?_
  refine sx_aload_n dL_acts_407 rfl ?_
  refine sx_bipush dL_acts_408 rfl ?_
  refine sx_callVi dL_acts_410 ml_L_19 mv2_count (pq_count hPG _ (by first | exact ⟨by decide, by decide⟩ | exact ⟨by omega, by omega⟩ | assumption | (with_reducible first | exact gfam_R hR hM _ _ | exact gword_R hR hM _ _ | exact gchip_R hR hM _ _))) rfl am_obG rfl (Nat.le_of_ble_eq_true rfl) (Nat.le_of_ble_eq_true rfl) ?_
  refine sx_iload dL_acts_413 rfl ?_
  refine sx_iload dL_acts_415 rfl ?_
  refine sx_iadd dL_acts_417 ?_
  refine sx_icmp_ne (tgt := 452) dL_acts_418 (by decide) (by first | (with_reducible first | exact gfam_R hR hM _ _ | exact gchip_R hR hM _ _ | exact gword_R hR hM _ _ | exact gread_R hR _ | exact hN _ | exact am_R_and _ _ | exact gfam_R hRG hMG _ _ | exact gchip_R hRG hMG _ _ | exact gword_R hRG hMG _ _ | exact gread_R hRG _ | exact hNG _) | assumption | exact ⟨by decide, by decide⟩ | exact ⟨by omega, by omega⟩ | (rw [← p7]; exact hNG _) | (rw [← p6]; exact hNG _)) (by first | (with_reducible first | exact gfam_R hR hM _ _ | exact gchip_R hR hM _ _ | exact gword_R hR hM _ _ | exact gread_R hR _ | exact hN _ | exact am_R_and _ _ | exact gfam_R hRG hMG _ _ | exact gchip_R hRG hMG _ _ | exact gword_R hRG hMG _ _ | exact gread_R hRG _ | exact hNG _) | assumption | exact ⟨by decide, by decide⟩ | exact ⟨by omega, by omega⟩ | (rw [← p7]; exact hNG _) | (rw [← p6]; exact hNG _)) (fun c418 => ?_) (fun c418 => ?_)
  · -- 418t
    exact absurd p7 c418
  · -- 418f
    refine sx_aload_n dL_acts_421 rfl ?_
    refine sx_bipush dL_acts_422 rfl ?_
    refine sx_callVi dL_acts_424 ml_L_19 mv2_count (pq_count hPG _ (by first | exact ⟨by decide, by decide⟩ | exact ⟨by omega, by omega⟩ | assumption | (with_reducible first | exact gfam_R hR hM _ _ | exact gword_R hR hM _ _ | exact gchip_R hR hM _ _))) rfl am_obG rfl (Nat.le_of_ble_eq_true rfl) (Nat.le_of_ble_eq_true rfl) ?_
    refine sx_iload dL_acts_427 rfl ?_
    refine sx_iconst dL_acts_429 ?_
    refine sx_iadd dL_acts_430 ?_
    refine sx_iload_n dL_acts_431 rfl ?_
    refine sx_iconst dL_acts_432 ?_
    refine sx_irem dL_acts_433 (by omega) (by omega) ?_
    refine sx_iadd dL_acts_434 ?_
    refine sx_icmp_ne (tgt := 452) dL_acts_435 (by decide) (by first | (with_reducible first | exact gfam_R hR hM _ _ | exact gchip_R hR hM _ _ | exact gword_R hR hM _ _ | exact gread_R hR _ | exact hN _ | exact am_R_and _ _ | exact gfam_R hRG hMG _ _ | exact gchip_R hRG hMG _ _ | exact gword_R hRG hMG _ _ | exact gread_R hRG _ | exact hNG _) | assumption | exact ⟨by decide, by decide⟩ | exact ⟨by omega, by omega⟩ | (rw [← p7]; exact hNG _) | (rw [← p6]; exact hNG _)) (by first | (with_reducible first | exact gfam_R hR hM _ _ | exact gchip_R hR hM _ _ | exact gword_R hR hM _ _ | exact gread_R hR _ | exact hN _ | exact am_R_and _ _ | exact gfam_R hRG hMG _ _ | exact gchip_R hRG hMG _ _ | exact gword_R hRG hMG _ _ | exact gread_R hRG _ | exact hNG _) | assumption | exact ⟨by decide, by decide⟩ | exact ⟨by omega, by omega⟩ | (rw [← p7]; exact hNG _) | (rw [← p6]; exact hNG _)) (fun c435 => ?_) (fun c435 => ?_)
    · -- 435t
      exact absurd p6 c435
    · -- 435f
      refine sx_aload_n dL_acts_438 rfl ?_
      refine sx_iconst dL_acts_439 ?_
      refine sx_callVi dL_acts_440 ml_L_19 mv2_count (pq_count hPG _ (by first | exact ⟨by decide, by decide⟩ | exact ⟨by omega, by omega⟩ | assumption | (with_reducible first | exact gfam_R hR hM _ _ | exact gword_R hR hM _ _ | exact gchip_R hR hM _ _))) rfl am_obG rfl (Nat.le_of_ble_eq_true rfl) (Nat.le_of_ble_eq_true rfl) ?_
      refine sx_iload dL_acts_443 rfl ?_
      refine sx_icmp_ne (tgt := 452) dL_acts_445 (by decide) (by first | (with_reducible first | exact gfam_R hR hM _ _ | exact gchip_R hR hM _ _ | exact gword_R hR hM _ _ | exact gread_R hR _ | exact hN _ | exact am_R_and _ _ | exact gfam_R hRG hMG _ _ | exact gchip_R hRG hMG _ _ | exact gword_R hRG hMG _ _ | exact gread_R hRG _ | exact hNG _) | assumption | exact ⟨by decide, by decide⟩ | exact ⟨by omega, by omega⟩ | (rw [← p7]; exact hNG _) | (rw [← p6]; exact hNG _)) (by first | (with_reducible first | exact gfam_R hR hM _ _ | exact gchip_R hR hM _ _ | exact gword_R hR hM _ _ | exact gread_R hR _ | exact hN _ | exact am_R_and _ _ | exact gfam_R hRG hMG _ _ | exact gchip_R hRG hMG _ _ | exact gword_R hRG hMG _ _ | exact gread_R hRG _ | exact hNG _) | assumption | exact ⟨by decide, by decide⟩ | exact ⟨by omega, by omega⟩ | (rw [← p7]; exact hNG _) | (rw [← p6]; exact hNG _)) (fun c445 => ?_) (fun c445 => ?_)
      · -- 445t
        exact absurd p5 c445
      · -- 445f
        refine sx_iconst dL_acts_448 ?_
        refine sx_goto (tgt := 453) dL_acts_449 (by decide) ?_
        exact sx_zret dL_acts_453 rfl (by decide) rfl rfl
set_option maxHeartbeats 4000000 in
set_option maxRecDepth 100000 in
theorem act_elect {h G : am_H} {S S1 : Nat → Int} {n n1 : Int} (hP : PH h S n) (hn : n ≤ 700000000) {y z c : Int} (hz : 0 ≤ z ∧ z ≤ 134217727) (hc : 0 ≤ c ∧ c < gP h 0 0) (eG : G = gset (am_U h (h.2 1) (yelect (gP h) c).2) (yelect (gP h) c).1) (hPG : PH G S1 n1) (hRa : am_R (yelect (gP h) c).1) (p1 : (yelect (gP h) c).1 = -1000002 → gfam (gP G) (gchip (gP h) c 0) 0 = gfam (gP h) (gchip (gP h) c 0) 0) (p2 : ¬ (yelect (gP h) c).1 = -1000002 → gfam (gP h) (gchip (gP h) c 0) 0 = -1000004 ∧ gfam (gP G) (gchip (gP h) c 0) 0 = c ∧ gchip (gP G) c 2 = 1) : Sx 6 YL_acts G (some (.inl 1)) 454 [some (.inr (6, 0)), some (.inl y), some (.inl z), some (.inl c), some (.inl (gcnt (gP h) (h.1 6 0 4) (h.1 6 2 1) 5)), none, none, none, none, none, none, none, none, none, none, none, none, none, none, none] [] h := by
  refine sx_vh (fun hV => ?_)
  have hR : ∀ j k, am_R (gP h j k) := fun j k => hV.1 _ j k
  have hM := PH_WM hP
  have hN : ∀ k, am_R (gcnt (gP h) (h.1 6 0 4) (h.1 6 2 1) k) := fun k => gcnt_R hR hM (hV.1 6 0 4) (hV.1 6 2 1) k
  have h24 := hM.2.1
  have h8 := hM.1
  have n2 : (gcnt (gP h) (h.1 6 0 4) (h.1 6 2 1) 2) = gP h 0 2 := rfl
  have n0 : (gcnt (gP h) (h.1 6 0 4) (h.1 6 2 1) 0) = gP h 0 0 := rfl
  have hcR : am_R c := ⟨by omega, by omega⟩
  have hb4 : 0 ≤ gchip (gP h) c 4 ∧ gchip (gP h) c 4 ≤ 63 := by rw [gchip_4 hc]; exact ybc_b _
  refine sx_aload_n dL_acts_454 rfl ?_
  refine sx_iload_n dL_acts_455 rfl ?_
  refine sx_iconst dL_acts_456 ?_
  refine sx_callVi dL_acts_457 ml_L_15 mv2_chipOf (pq_chipOf hP _ _ (by first | exact ⟨by decide, by decide⟩ | exact ⟨by omega, by omega⟩ | assumption | (with_reducible first | exact gfam_R hR hM _ _ | exact gword_R hR hM _ _ | exact gchip_R hR hM _ _)) (by first | exact ⟨by decide, by decide⟩ | exact ⟨by omega, by omega⟩ | assumption | (with_reducible first | exact gfam_R hR hM _ _ | exact gword_R hR hM _ _ | exact gchip_R hR hM _ _))) rfl am_obG rfl (Nat.le_of_ble_eq_true rfl) (Nat.le_of_ble_eq_true rfl) ?_
  refine sx_istore dL_acts_460 (by decide) ?_
  refine sx_aload_n dL_acts_462 rfl ?_
  refine sx_iload dL_acts_463 rfl ?_
  refine sx_iconst dL_acts_465 ?_
  refine sx_callVi dL_acts_466 ml_L_9 mv2_familyOf (pq_familyOf hP _ _ (by first | exact ⟨by decide, by decide⟩ | exact ⟨by omega, by omega⟩ | assumption | (with_reducible first | exact gfam_R hR hM _ _ | exact gword_R hR hM _ _ | exact gchip_R hR hM _ _)) (by first | exact ⟨by decide, by decide⟩ | exact ⟨by omega, by omega⟩ | assumption | (with_reducible first | exact gfam_R hR hM _ _ | exact gword_R hR hM _ _ | exact gchip_R hR hM _ _))) rfl am_obG rfl (Nat.le_of_ble_eq_true rfl) (Nat.le_of_ble_eq_true rfl) ?_
  refine sx_istore dL_acts_469 (by decide) ?_
  refine sx_aload_n dL_acts_471 rfl ?_
  refine sx_iload_n dL_acts_472 rfl ?_
  refine sx_callVi dL_acts_473 ml_L_53 mv2_elect (pc_elect hP (by omega) _ (by first | exact ⟨by decide, by decide⟩ | exact ⟨by omega, by omega⟩ | assumption | (with_reducible first | exact gfam_R hR hM _ _ | exact gword_R hR hM _ _ | exact gchip_R hR hM _ _))) rfl am_obG rfl (Nat.le_of_ble_eq_true rfl) (Nat.le_of_ble_eq_true rfl) ?_
  refine sx_heq G eG ?_
  refine sx_vh (fun hVG => ?_)
  have hRG : ∀ j k, am_R (gP G j k) := fun j k => hVG.1 _ j k
  have hMG := PH_WM hPG
  have hNG : ∀ k, am_R (gcnt (gP G) (G.1 6 0 4) (G.1 6 2 1) k) := fun k => gcnt_R hRG hMG (hVG.1 6 0 4) (hVG.1 6 2 1) k
  refine sx_istore dL_acts_476 (by decide) ?_
  refine sx_iload dL_acts_478 rfl ?_
  refine sx_ldc dL_acts_480 kc_L_35 ?_
  refine sx_icmp_ne (tgt := 505) dL_acts_482 (by decide) (by first | (with_reducible first | exact gfam_R hR hM _ _ | exact gchip_R hR hM _ _ | exact gword_R hR hM _ _ | exact gread_R hR _ | exact hN _ | exact am_R_and _ _ | exact gfam_R hRG hMG _ _ | exact gchip_R hRG hMG _ _ | exact gword_R hRG hMG _ _ | exact gread_R hRG _ | exact hNG _) | assumption | exact ⟨by decide, by decide⟩ | exact ⟨by omega, by omega⟩) ⟨by decide, by decide⟩ (fun c482 => ?_) (fun c482 => ?_)
  · -- 482t
    refine sx_iload dL_acts_505 rfl ?_
    refine sx_ldc dL_acts_507 kc_L_18 ?_
    refine sx_icmp_ne (tgt := 537) dL_acts_509 (by decide) (by first | (with_reducible first | exact gfam_R hR hM _ _ | exact gchip_R hR hM _ _ | exact gword_R hR hM _ _ | exact gread_R hR _ | exact hN _ | exact am_R_and _ _ | exact gfam_R hRG hMG _ _ | exact gchip_R hRG hMG _ _ | exact gword_R hRG hMG _ _ | exact gread_R hRG _ | exact hNG _) | assumption | exact ⟨by decide, by decide⟩ | exact ⟨by omega, by omega⟩) ⟨by decide, by decide⟩ (fun c509 => ?_) (fun c509 => ?_)
    · -- 509t
      exact absurd (p2 c482).1 c509
    · -- 509f
      refine sx_aload_n dL_acts_512 rfl ?_
      refine sx_iload dL_acts_513 rfl ?_
      refine sx_iconst dL_acts_515 ?_
      refine sx_callVi dL_acts_516 ml_L_9 mv2_familyOf (pq_familyOf hPG _ _ (by first | exact ⟨by decide, by decide⟩ | exact ⟨by omega, by omega⟩ | assumption | (with_reducible first | exact gfam_R hR hM _ _ | exact gword_R hR hM _ _ | exact gchip_R hR hM _ _)) (by first | exact ⟨by decide, by decide⟩ | exact ⟨by omega, by omega⟩ | assumption | (with_reducible first | exact gfam_R hR hM _ _ | exact gword_R hR hM _ _ | exact gchip_R hR hM _ _))) rfl am_obG rfl (Nat.le_of_ble_eq_true rfl) (Nat.le_of_ble_eq_true rfl) ?_
      refine sx_iload_n dL_acts_519 rfl ?_
      refine sx_icmp_ne (tgt := 537) dL_acts_520 (by decide) (by first | (with_reducible first | exact gfam_R hR hM _ _ | exact gchip_R hR hM _ _ | exact gword_R hR hM _ _ | exact gread_R hR _ | exact hN _ | exact am_R_and _ _ | exact gfam_R hRG hMG _ _ | exact gchip_R hRG hMG _ _ | exact gword_R hRG hMG _ _ | exact gread_R hRG _ | exact hNG _) | assumption | exact ⟨by decide, by decide⟩ | exact ⟨by omega, by omega⟩) (by first | (with_reducible first | exact gfam_R hR hM _ _ | exact gchip_R hR hM _ _ | exact gword_R hR hM _ _ | exact gread_R hR _ | exact hN _ | exact am_R_and _ _ | exact gfam_R hRG hMG _ _ | exact gchip_R hRG hMG _ _ | exact gword_R hRG hMG _ _ | exact gread_R hRG _ | exact hNG _) | assumption | exact ⟨by decide, by decide⟩ | exact ⟨by omega, by omega⟩) (fun c520 => ?_) (fun c520 => ?_)
      · -- 520t
        exact absurd (p2 c482).2.1 c520
      · -- 520f
        refine sx_aload_n dL_acts_523 rfl ?_
        refine sx_iload_n dL_acts_524 rfl ?_
        refine sx_iconst dL_acts_525 ?_
        refine sx_callVi dL_acts_526 ml_L_15 mv2_chipOf (pq_chipOf hPG _ _ (by first | exact ⟨by decide, by decide⟩ | exact ⟨by omega, by omega⟩ | assumption | (with_reducible first | exact gfam_R hR hM _ _ | exact gword_R hR hM _ _ | exact gchip_R hR hM _ _)) (by first | exact ⟨by decide, by decide⟩ | exact ⟨by omega, by omega⟩ | assumption | (with_reducible first | exact gfam_R hR hM _ _ | exact gword_R hR hM _ _ | exact gchip_R hR hM _ _))) rfl am_obG rfl (Nat.le_of_ble_eq_true rfl) (Nat.le_of_ble_eq_true rfl) ?_
        refine sx_iconst dL_acts_529 ?_
        refine sx_icmp_ne (tgt := 537) dL_acts_530 (by decide) (by first | (with_reducible first | exact gfam_R hR hM _ _ | exact gchip_R hR hM _ _ | exact gword_R hR hM _ _ | exact gread_R hR _ | exact hN _ | exact am_R_and _ _ | exact gfam_R hRG hMG _ _ | exact gchip_R hRG hMG _ _ | exact gword_R hRG hMG _ _ | exact gread_R hRG _ | exact hNG _) | assumption | exact ⟨by decide, by decide⟩ | exact ⟨by omega, by omega⟩) ⟨by decide, by decide⟩ (fun c530 => ?_) (fun c530 => ?_)
        · -- 530t
          exact absurd (p2 c482).2.2 c530
        · -- 530f
          refine sx_iconst dL_acts_533 ?_
          refine sx_goto (tgt := 538) dL_acts_534 (by decide) ?_
          exact sx_zret dL_acts_538 rfl (by decide) rfl rfl
  · -- 482f
    refine sx_aload_n dL_acts_485 rfl ?_
    refine sx_iload dL_acts_486 rfl ?_
    refine sx_iconst dL_acts_488 ?_
    refine sx_callVi dL_acts_489 ml_L_9 mv2_familyOf (pq_familyOf hPG _ _ (by first | exact ⟨by decide, by decide⟩ | exact ⟨by omega, by omega⟩ | assumption | (with_reducible first | exact gfam_R hR hM _ _ | exact gword_R hR hM _ _ | exact gchip_R hR hM _ _)) (by first | exact ⟨by decide, by decide⟩ | exact ⟨by omega, by omega⟩ | assumption | (with_reducible first | exact gfam_R hR hM _ _ | exact gword_R hR hM _ _ | exact gchip_R hR hM _ _))) rfl am_obG rfl (Nat.le_of_ble_eq_true rfl) (Nat.le_of_ble_eq_true rfl) ?_
    refine sx_iload dL_acts_492 rfl ?_
    refine sx_icmp_ne (tgt := 501) dL_acts_494 (by decide) (by first | (with_reducible first | exact gfam_R hR hM _ _ | exact gchip_R hR hM _ _ | exact gword_R hR hM _ _ | exact gread_R hR _ | exact hN _ | exact am_R_and _ _ | exact gfam_R hRG hMG _ _ | exact gchip_R hRG hMG _ _ | exact gword_R hRG hMG _ _ | exact gread_R hRG _ | exact hNG _) | assumption | exact ⟨by decide, by decide⟩ | exact ⟨by omega, by omega⟩) (by first | (with_reducible first | exact gfam_R hR hM _ _ | exact gchip_R hR hM _ _ | exact gword_R hR hM _ _ | exact gread_R hR _ | exact hN _ | exact am_R_and _ _ | exact gfam_R hRG hMG _ _ | exact gchip_R hRG hMG _ _ | exact gword_R hRG hMG _ _ | exact gread_R hRG _ | exact hNG _) | assumption | exact ⟨by decide, by decide⟩ | exact ⟨by omega, by omega⟩) (fun c494 => ?_) (fun c494 => ?_)
    · -- 494t
      exact absurd (p1 c482) c494
    · -- 494f
      refine sx_iconst dL_acts_497 ?_
      refine sx_goto (tgt := 538) dL_acts_498 (by decide) ?_
      exact sx_zret dL_acts_538 rfl (by decide) rfl rfl
set_option maxHeartbeats 4000000 in
set_option maxRecDepth 100000 in
theorem act_empty {h G : am_H} {S S1 : Nat → Int} {n n1 : Int} (hP : PH h S n) (hn : n ≤ 700000000) {y z c : Int} (hz : 0 ≤ z ∧ z ≤ 134217727) (hc : 0 ≤ c ∧ c < gP h 0 0) (eG : G = gset (am_U h (h.2 1) (yempty (gP h) c).2) (yempty (gP h) c).1) (hPG : PH G S1 n1) (hRa : am_R (yempty (gP h) c).1) (p1 : ¬ (yempty (gP h) c).1 = -1000001) (p5 : (gcnt (gP G) (G.1 6 0 4) (G.1 6 2 1) 5) = (gcnt (gP h) (h.1 6 0 4) (h.1 6 2 1) 5)) : Sx 6 YL_acts G (some (.inl 1)) 539 [some (.inr (6, 0)), some (.inl y), some (.inl z), some (.inl c), some (.inl (gcnt (gP h) (h.1 6 0 4) (h.1 6 2 1) 5)), none, none, none, none, none, none, none, none, none, none, none, none, none, none, none] [] h := by
  refine sx_vh (fun hV => ?_)
  have hR : ∀ j k, am_R (gP h j k) := fun j k => hV.1 _ j k
  have hM := PH_WM hP
  have hN : ∀ k, am_R (gcnt (gP h) (h.1 6 0 4) (h.1 6 2 1) k) := fun k => gcnt_R hR hM (hV.1 6 0 4) (hV.1 6 2 1) k
  have h24 := hM.2.1
  have h8 := hM.1
  have n2 : (gcnt (gP h) (h.1 6 0 4) (h.1 6 2 1) 2) = gP h 0 2 := rfl
  have n0 : (gcnt (gP h) (h.1 6 0 4) (h.1 6 2 1) 0) = gP h 0 0 := rfl
  have hcR : am_R c := ⟨by omega, by omega⟩
  have hb4 : 0 ≤ gchip (gP h) c 4 ∧ gchip (gP h) c 4 ≤ 63 := by rw [gchip_4 hc]; exact ybc_b _
  refine sx_aload_n dL_acts_539 rfl ?_
  refine sx_iload_n dL_acts_540 rfl ?_
  refine sx_callVi dL_acts_541 ml_L_56 mv2_empty (pc_empty hP (by omega) _ (by first | exact ⟨by decide, by decide⟩ | exact ⟨by omega, by omega⟩ | assumption | (with_reducible first | exact gfam_R hR hM _ _ | exact gword_R hR hM _ _ | exact gchip_R hR hM _ _))) rfl am_obG rfl (Nat.le_of_ble_eq_true rfl) (Nat.le_of_ble_eq_true rfl) ?_
  refine sx_heq G eG ?_
  refine sx_vh (fun hVG => ?_)
  have hRG : ∀ j k, am_R (gP G j k) := fun j k => hVG.1 _ j k
  have hMG := PH_WM hPG
  have hNG : ∀ k, am_R (gcnt (gP G) (G.1 6 0 4) (G.1 6 2 1) k) := fun k => gcnt_R hRG hMG (hVG.1 6 0 4) (hVG.1 6 2 1) k
  refine sx_ldc dL_acts_544 kc_L_59 ?_
  refine sx_icmp_eq (tgt := 563) dL_acts_546 (by decide) (by first | (with_reducible first | exact gfam_R hR hM _ _ | exact gchip_R hR hM _ _ | exact gword_R hR hM _ _ | exact gread_R hR _ | exact hN _ | exact am_R_and _ _ | exact gfam_R hRG hMG _ _ | exact gchip_R hRG hMG _ _ | exact gword_R hRG hMG _ _ | exact gread_R hRG _ | exact hNG _) | assumption | exact ⟨by decide, by decide⟩ | exact ⟨by omega, by omega⟩) ⟨by decide, by decide⟩ (fun c546 => ?_) (fun c546 => ?_)
  · -- 546t
    exact absurd c546 p1
  · -- 546f
    refine sx_aload_n dL_acts_549 rfl ?_
    refine sx_iconst dL_acts_550 ?_
    refine sx_callVi dL_acts_551 ml_L_19 mv2_count (pq_count hPG _ (by first | exact ⟨by decide, by decide⟩ | exact ⟨by omega, by omega⟩ | assumption | (with_reducible first | exact gfam_R hR hM _ _ | exact gword_R hR hM _ _ | exact gchip_R hR hM _ _))) rfl am_obG rfl (Nat.le_of_ble_eq_true rfl) (Nat.le_of_ble_eq_true rfl) ?_
    refine sx_iload dL_acts_554 rfl ?_
    refine sx_icmp_ne (tgt := 563) dL_acts_556 (by decide) (by first | (with_reducible first | exact gfam_R hR hM _ _ | exact gchip_R hR hM _ _ | exact gword_R hR hM _ _ | exact gread_R hR _ | exact hN _ | exact am_R_and _ _ | exact gfam_R hRG hMG _ _ | exact gchip_R hRG hMG _ _ | exact gword_R hRG hMG _ _ | exact gread_R hRG _ | exact hNG _) | assumption | exact ⟨by decide, by decide⟩ | exact ⟨by omega, by omega⟩) (by first | (with_reducible first | exact gfam_R hR hM _ _ | exact gchip_R hR hM _ _ | exact gword_R hR hM _ _ | exact gread_R hR _ | exact hN _ | exact am_R_and _ _ | exact gfam_R hRG hMG _ _ | exact gchip_R hRG hMG _ _ | exact gword_R hRG hMG _ _ | exact gread_R hRG _ | exact hNG _) | assumption | exact ⟨by decide, by decide⟩ | exact ⟨by omega, by omega⟩) (fun c556 => ?_) (fun c556 => ?_)
    · -- 556t
      exact absurd p5 c556
    · -- 556f
      refine sx_iconst dL_acts_559 ?_
      refine sx_goto (tgt := 564) dL_acts_560 (by decide) ?_
      exact sx_zret dL_acts_564 rfl (by decide) rfl rfl
set_option maxHeartbeats 4000000 in
set_option maxRecDepth 100000 in
theorem act_write0 {h G : am_H} {S S1 : Nat → Int} {n n1 : Int} (hP : PH h S n) (hn : n ≤ 700000000) {y z c : Int} (hz : 0 ≤ z ∧ z ≤ 134217727) (hc : 0 ≤ c ∧ c < gP h 0 0) (eG : h = G) (h0 : gP h 0 2 = 0) (p1 : gread (gP h) 0 = -1000001) : Sx 6 YL_acts G (some (.inl 1)) 565 [some (.inr (6, 0)), some (.inl y), some (.inl z), some (.inl c), some (.inl (gcnt (gP h) (h.1 6 0 4) (h.1 6 2 1) 5)), none, none, none, none, none, none, none, none, none, none, none, none, none, none, none] [] h := by
  refine sx_vh (fun hV => ?_)
  have hR : ∀ j k, am_R (gP h j k) := fun j k => hV.1 _ j k
  have hM := PH_WM hP
  have hN : ∀ k, am_R (gcnt (gP h) (h.1 6 0 4) (h.1 6 2 1) k) := fun k => gcnt_R hR hM (hV.1 6 0 4) (hV.1 6 2 1) k
  have h24 := hM.2.1
  have h8 := hM.1
  have n2 : (gcnt (gP h) (h.1 6 0 4) (h.1 6 2 1) 2) = gP h 0 2 := rfl
  have n0 : (gcnt (gP h) (h.1 6 0 4) (h.1 6 2 1) 0) = gP h 0 0 := rfl
  have hcR : am_R c := ⟨by omega, by omega⟩
  have hb4 : 0 ≤ gchip (gP h) c 4 ∧ gchip (gP h) c 4 ≤ 63 := by rw [gchip_4 hc]; exact ybc_b _
  subst eG
  refine sx_aload_n dL_acts_565 rfl ?_
  refine sx_iconst dL_acts_566 ?_
  refine sx_callVi dL_acts_567 ml_L_19 mv2_count (pq_count hP _ (by first | exact ⟨by decide, by decide⟩ | exact ⟨by omega, by omega⟩ | assumption | (with_reducible first | exact gfam_R hR hM _ _ | exact gword_R hR hM _ _ | exact gchip_R hR hM _ _))) rfl am_obG rfl (Nat.le_of_ble_eq_true rfl) (Nat.le_of_ble_eq_true rfl) ?_
  refine sx_if_ne (tgt := 589) dL_acts_570 (by decide) (by first | (with_reducible first | exact gfam_R hR hM _ _ | exact gchip_R hR hM _ _ | exact gword_R hR hM _ _ | exact gread_R hR _ | exact hN _ | exact am_R_and _ _ | exact gfam_R hRG hMG _ _ | exact gchip_R hRG hMG _ _ | exact gword_R hRG hMG _ _ | exact gread_R hRG _ | exact hNG _) | assumption | exact ⟨by decide, by decide⟩ | exact ⟨by omega, by omega⟩) (fun c570 => ?_) (fun c570 => ?_)
  · -- 570t
    exfalso; omega
  · -- 570f
    refine sx_aload_n dL_acts_573 rfl ?_
    refine sx_iconst dL_acts_574 ?_
    refine sx_callVi dL_acts_575 ml_L_26 mv2_read (pq_read hP _ (by first | exact ⟨by decide, by decide⟩ | exact ⟨by omega, by omega⟩ | assumption | (with_reducible first | exact gfam_R hR hM _ _ | exact gword_R hR hM _ _ | exact gchip_R hR hM _ _))) rfl am_obG rfl (Nat.le_of_ble_eq_true rfl) (Nat.le_of_ble_eq_true rfl) ?_
    refine sx_ldc dL_acts_578 kc_L_59 ?_
    refine sx_icmp_ne (tgt := 587) dL_acts_580 (by decide) (by first | (with_reducible first | exact gfam_R hR hM _ _ | exact gchip_R hR hM _ _ | exact gword_R hR hM _ _ | exact gread_R hR _ | exact hN _ | exact am_R_and _ _ | exact gfam_R hRG hMG _ _ | exact gchip_R hRG hMG _ _ | exact gword_R hRG hMG _ _ | exact gread_R hRG _ | exact hNG _) | assumption | exact ⟨by decide, by decide⟩ | exact ⟨by omega, by omega⟩) ⟨by decide, by decide⟩ (fun c580 => ?_) (fun c580 => ?_)
    · -- 580t
      exact absurd p1 c580
    · -- 580f
      refine sx_iconst dL_acts_583 ?_
      refine sx_goto (tgt := 588) dL_acts_584 (by decide) ?_
      exact sx_zret dL_acts_588 rfl (by decide) rfl rfl
set_option maxHeartbeats 4000000 in
set_option maxRecDepth 100000 in
theorem act_write1 {h G : am_H} {S S1 : Nat → Int} {n n1 : Int} (hP : PH h S n) (hn : n ≤ 700000000) {y z c : Int} (hz : 0 ≤ z ∧ z ≤ 134217727) (hc : 0 ≤ c ∧ c < gP h 0 0) {w : Int} (ew : w = z / 8 % (gcnt (gP h) (h.1 6 0 4) (h.1 6 2 1) 2)) (hw : 0 ≤ w ∧ w < gP h 0 2) (eG : G = gset (am_U h (h.2 1) (ywrite (gP h) w (z / 256 % 256)).2) (ywrite (gP h) w (z / 256 % 256)).1) (hPG : PH G S1 n1) (hRa : am_R (ywrite (gP h) w (z / 256 % 256)).1) (p1 : (ywrite (gP h) w (z / 256 % 256)).1 = -1000002 → 0 < gword (gP G) w 0) (p2 : ¬ (ywrite (gP h) w (z / 256 % 256)).1 = -1000002 → (ywrite (gP h) w (z / 256 % 256)).1 = gread (gP h) w ∧ gread (gP G) w = z / 256 % 256) : Sx 6 YL_acts G (some (.inl 1)) 565 [some (.inr (6, 0)), some (.inl y), some (.inl z), some (.inl c), some (.inl (gcnt (gP h) (h.1 6 0 4) (h.1 6 2 1) 5)), none, none, none, none, none, none, none, none, none, none, none, none, none, none, none] [] h := by
  refine sx_vh (fun hV => ?_)
  have hR : ∀ j k, am_R (gP h j k) := fun j k => hV.1 _ j k
  have hM := PH_WM hP
  have hN : ∀ k, am_R (gcnt (gP h) (h.1 6 0 4) (h.1 6 2 1) k) := fun k => gcnt_R hR hM (hV.1 6 0 4) (hV.1 6 2 1) k
  have h24 := hM.2.1
  have h8 := hM.1
  have n2 : (gcnt (gP h) (h.1 6 0 4) (h.1 6 2 1) 2) = gP h 0 2 := rfl
  have n0 : (gcnt (gP h) (h.1 6 0 4) (h.1 6 2 1) 0) = gP h 0 0 := rfl
  have hcR : am_R c := ⟨by omega, by omega⟩
  have hb4 : 0 ≤ gchip (gP h) c 4 ∧ gchip (gP h) c 4 ≤ 63 := by rw [gchip_4 hc]; exact ybc_b _
  refine sx_aload_n dL_acts_565 rfl ?_
  refine sx_iconst dL_acts_566 ?_
  refine sx_callVi dL_acts_567 ml_L_19 mv2_count (pq_count hP _ (by first | exact ⟨by decide, by decide⟩ | exact ⟨by omega, by omega⟩ | assumption | (with_reducible first | exact gfam_R hR hM _ _ | exact gword_R hR hM _ _ | exact gchip_R hR hM _ _))) rfl am_obG rfl (Nat.le_of_ble_eq_true rfl) (Nat.le_of_ble_eq_true rfl) ?_
  refine sx_if_ne (tgt := 589) dL_acts_570 (by decide) (by first | (with_reducible first | exact gfam_R hR hM _ _ | exact gchip_R hR hM _ _ | exact gword_R hR hM _ _ | exact gread_R hR _ | exact hN _ | exact am_R_and _ _ | exact gfam_R hRG hMG _ _ | exact gchip_R hRG hMG _ _ | exact gword_R hRG hMG _ _ | exact gread_R hRG _ | exact hNG _) | assumption | exact ⟨by decide, by decide⟩ | exact ⟨by omega, by omega⟩) (fun c570 => ?_) (fun c570 => ?_)
  · -- 570t
    refine sx_iload_n dL_acts_589 rfl ?_
    refine sx_bipush dL_acts_590 rfl ?_
    refine sx_idiv dL_acts_592 (by omega) (by omega) ?_
    refine sx_aload_n dL_acts_593 rfl ?_
    refine sx_iconst dL_acts_594 ?_
    refine sx_callVi dL_acts_595 ml_L_19 mv2_count (pq_count hP _ (by first | exact ⟨by decide, by decide⟩ | exact ⟨by omega, by omega⟩ | assumption | (with_reducible first | exact gfam_R hR hM _ _ | exact gword_R hR hM _ _ | exact gchip_R hR hM _ _))) rfl am_obG rfl (Nat.le_of_ble_eq_true rfl) (Nat.le_of_ble_eq_true rfl) ?_
    refine sx_irem dL_acts_598 (by omega) (by omega) ?_
    rw [← ew]
    refine sx_istore dL_acts_599 (by decide) ?_
    refine sx_aload_n dL_acts_601 rfl ?_
    refine sx_iload dL_acts_602 rfl ?_
    refine sx_callVi dL_acts_604 ml_L_26 mv2_read (pq_read hP _ (by first | exact ⟨by decide, by decide⟩ | exact ⟨by omega, by omega⟩ | assumption | (with_reducible first | exact gfam_R hR hM _ _ | exact gword_R hR hM _ _ | exact gchip_R hR hM _ _))) rfl am_obG rfl (Nat.le_of_ble_eq_true rfl) (Nat.le_of_ble_eq_true rfl) ?_
    refine sx_istore dL_acts_607 (by decide) ?_
    refine sx_aload_n dL_acts_609 rfl ?_
    refine sx_iload dL_acts_610 rfl ?_
    refine sx_iload_n dL_acts_612 rfl ?_
    refine sx_sipush dL_acts_613 rfl ?_
    refine sx_idiv dL_acts_616 (by omega) (by omega) ?_
    refine sx_sipush dL_acts_617 rfl ?_
    refine sx_irem dL_acts_620 (by omega) (by omega) ?_
    refine sx_callVi dL_acts_621 ml_L_60 mv2_write (pc_write hP (by omega) _ _ (by first | exact ⟨by decide, by decide⟩ | exact ⟨by omega, by omega⟩ | assumption | (with_reducible first | exact gfam_R hR hM _ _ | exact gword_R hR hM _ _ | exact gchip_R hR hM _ _)) (by first | exact ⟨by decide, by decide⟩ | exact ⟨by omega, by omega⟩ | assumption | (with_reducible first | exact gfam_R hR hM _ _ | exact gword_R hR hM _ _ | exact gchip_R hR hM _ _))) rfl am_obG rfl (Nat.le_of_ble_eq_true rfl) (Nat.le_of_ble_eq_true rfl) ?_
    refine sx_heq G eG ?_
    refine sx_vh (fun hVG => ?_)
    have hRG : ∀ j k, am_R (gP G j k) := fun j k => hVG.1 _ j k
    have hMG := PH_WM hPG
    have hNG : ∀ k, am_R (gcnt (gP G) (G.1 6 0 4) (G.1 6 2 1) k) := fun k => gcnt_R hRG hMG (hVG.1 6 0 4) (hVG.1 6 2 1) k
    refine sx_istore dL_acts_624 (by decide) ?_
    refine sx_iload dL_acts_626 rfl ?_
    refine sx_ldc dL_acts_628 kc_L_35 ?_
    refine sx_icmp_ne (tgt := 651) dL_acts_630 (by decide) (by first | (with_reducible first | exact gfam_R hR hM _ _ | exact gchip_R hR hM _ _ | exact gword_R hR hM _ _ | exact gread_R hR _ | exact hN _ | exact am_R_and _ _ | exact gfam_R hRG hMG _ _ | exact gchip_R hRG hMG _ _ | exact gword_R hRG hMG _ _ | exact gread_R hRG _ | exact hNG _) | assumption | exact ⟨by decide, by decide⟩ | exact ⟨by omega, by omega⟩) ⟨by decide, by decide⟩ (fun c630 => ?_) (fun c630 => ?_)
    · -- 630t
      refine sx_iload dL_acts_651 rfl ?_
      refine sx_iload dL_acts_653 rfl ?_
      refine sx_icmp_ne (tgt := 680) dL_acts_655 (by decide) (by first | (with_reducible first | exact gfam_R hR hM _ _ | exact gchip_R hR hM _ _ | exact gword_R hR hM _ _ | exact gread_R hR _ | exact hN _ | exact am_R_and _ _ | exact gfam_R hRG hMG _ _ | exact gchip_R hRG hMG _ _ | exact gword_R hRG hMG _ _ | exact gread_R hRG _ | exact hNG _) | assumption | exact ⟨by decide, by decide⟩ | exact ⟨by omega, by omega⟩) (by first | (with_reducible first | exact gfam_R hR hM _ _ | exact gchip_R hR hM _ _ | exact gword_R hR hM _ _ | exact gread_R hR _ | exact hN _ | exact am_R_and _ _ | exact gfam_R hRG hMG _ _ | exact gchip_R hRG hMG _ _ | exact gword_R hRG hMG _ _ | exact gread_R hRG _ | exact hNG _) | assumption | exact ⟨by decide, by decide⟩ | exact ⟨by omega, by omega⟩) (fun c655 => ?_) (fun c655 => ?_)
      · -- 655t
        exact absurd (p2 c630).1 c655
      · -- 655f
        refine sx_aload_n dL_acts_658 rfl ?_
        refine sx_iload dL_acts_659 rfl ?_
        refine sx_callVi dL_acts_661 ml_L_26 mv2_read (pq_read hPG _ (by first | exact ⟨by decide, by decide⟩ | exact ⟨by omega, by omega⟩ | assumption | (with_reducible first | exact gfam_R hR hM _ _ | exact gword_R hR hM _ _ | exact gchip_R hR hM _ _))) rfl am_obG rfl (Nat.le_of_ble_eq_true rfl) (Nat.le_of_ble_eq_true rfl) ?_
        refine sx_iload_n dL_acts_664 rfl ?_
        refine sx_sipush dL_acts_665 rfl ?_
        refine sx_idiv dL_acts_668 (by omega) (by omega) ?_
        refine sx_sipush dL_acts_669 rfl ?_
        refine sx_irem dL_acts_672 (by omega) (by omega) ?_
        refine sx_icmp_ne (tgt := 680) dL_acts_673 (by decide) (by first | (with_reducible first | exact gfam_R hR hM _ _ | exact gchip_R hR hM _ _ | exact gword_R hR hM _ _ | exact gread_R hR _ | exact hN _ | exact am_R_and _ _ | exact gfam_R hRG hMG _ _ | exact gchip_R hRG hMG _ _ | exact gword_R hRG hMG _ _ | exact gread_R hRG _ | exact hNG _) | assumption | exact ⟨by decide, by decide⟩ | exact ⟨by omega, by omega⟩) (by first | (with_reducible first | exact gfam_R hR hM _ _ | exact gchip_R hR hM _ _ | exact gword_R hR hM _ _ | exact gread_R hR _ | exact hN _ | exact am_R_and _ _ | exact gfam_R hRG hMG _ _ | exact gchip_R hRG hMG _ _ | exact gword_R hRG hMG _ _ | exact gread_R hRG _ | exact hNG _) | assumption | exact ⟨by decide, by decide⟩ | exact ⟨by omega, by omega⟩) (fun c673 => ?_) (fun c673 => ?_)
        · -- 673t
          exact absurd (p2 c630).2 c673
        · -- 673f
          refine sx_iconst dL_acts_676 ?_
          refine sx_goto (tgt := 681) dL_acts_677 (by decide) ?_
          exact sx_zret dL_acts_681 rfl (by decide) rfl rfl
    · -- 630f
      refine sx_aload_n dL_acts_633 rfl ?_
      refine sx_iload dL_acts_634 rfl ?_
      refine sx_iconst dL_acts_636 ?_
      refine sx_callVi dL_acts_637 ml_L_23 mv2_wordOf (pq_wordOf hPG _ _ (by first | exact ⟨by decide, by decide⟩ | exact ⟨by omega, by omega⟩ | assumption | (with_reducible first | exact gfam_R hR hM _ _ | exact gword_R hR hM _ _ | exact gchip_R hR hM _ _)) (by first | exact ⟨by decide, by decide⟩ | exact ⟨by omega, by omega⟩ | assumption | (with_reducible first | exact gfam_R hR hM _ _ | exact gword_R hR hM _ _ | exact gchip_R hR hM _ _))) rfl am_obG rfl (Nat.le_of_ble_eq_true rfl) (Nat.le_of_ble_eq_true rfl) ?_
      refine sx_if_le (tgt := 647) dL_acts_640 (by decide) (by first | (with_reducible first | exact gfam_R hR hM _ _ | exact gchip_R hR hM _ _ | exact gword_R hR hM _ _ | exact gread_R hR _ | exact hN _ | exact am_R_and _ _ | exact gfam_R hRG hMG _ _ | exact gchip_R hRG hMG _ _ | exact gword_R hRG hMG _ _ | exact gread_R hRG _ | exact hNG _) | assumption | exact ⟨by decide, by decide⟩ | exact ⟨by omega, by omega⟩) (fun c640 => ?_) (fun c640 => ?_)
      · -- 640t
        exact absurd (p1 c630) (by omega)
      · -- 640f
        refine sx_iconst dL_acts_643 ?_
        refine sx_goto (tgt := 681) dL_acts_644 (by decide) ?_
        exact sx_zret dL_acts_681 rfl (by decide) rfl rfl
  · -- 570f
    exfalso; omega
set_option maxHeartbeats 4000000 in
set_option maxRecDepth 100000 in
theorem act_carry0 {h G : am_H} {S S1 : Nat → Int} {n n1 : Int} (hP : PH h S n) (hn : n ≤ 700000000) {y z c : Int} (hz : 0 ≤ z ∧ z ≤ 134217727) (hc : 0 ≤ c ∧ c < gP h 0 0) (eG : h = G) (h0 : gP h 0 2 = 0) : Sx 6 YL_acts G (some (.inl 1)) 682 [some (.inr (6, 0)), some (.inl y), some (.inl z), some (.inl c), some (.inl (gcnt (gP h) (h.1 6 0 4) (h.1 6 2 1) 5)), none, none, none, none, none, none, none, none, none, none, none, none, none, none, none] [] h := by
  refine sx_vh (fun hV => ?_)
  have hR : ∀ j k, am_R (gP h j k) := fun j k => hV.1 _ j k
  have hM := PH_WM hP
  have hN : ∀ k, am_R (gcnt (gP h) (h.1 6 0 4) (h.1 6 2 1) k) := fun k => gcnt_R hR hM (hV.1 6 0 4) (hV.1 6 2 1) k
  have h24 := hM.2.1
  have h8 := hM.1
  have n2 : (gcnt (gP h) (h.1 6 0 4) (h.1 6 2 1) 2) = gP h 0 2 := rfl
  have n0 : (gcnt (gP h) (h.1 6 0 4) (h.1 6 2 1) 0) = gP h 0 0 := rfl
  have hcR : am_R c := ⟨by omega, by omega⟩
  have hb4 : 0 ≤ gchip (gP h) c 4 ∧ gchip (gP h) c 4 ≤ 63 := by rw [gchip_4 hc]; exact ybc_b _
  subst eG
  refine sx_aload_n dL_acts_682 rfl ?_
  refine sx_iconst dL_acts_683 ?_
  refine sx_callVi dL_acts_684 ml_L_19 mv2_count (pq_count hP _ (by first | exact ⟨by decide, by decide⟩ | exact ⟨by omega, by omega⟩ | assumption | (with_reducible first | exact gfam_R hR hM _ _ | exact gword_R hR hM _ _ | exact gchip_R hR hM _ _))) rfl am_obG rfl (Nat.le_of_ble_eq_true rfl) (Nat.le_of_ble_eq_true rfl) ?_
  refine sx_if_eq (tgt := 720) dL_acts_687 (by decide) (by first | (with_reducible first | exact gfam_R hR hM _ _ | exact gchip_R hR hM _ _ | exact gword_R hR hM _ _ | exact gread_R hR _ | exact hN _ | exact am_R_and _ _ | exact gfam_R hRG hMG _ _ | exact gchip_R hRG hMG _ _ | exact gword_R hRG hMG _ _ | exact gread_R hRG _ | exact hNG _) | assumption | exact ⟨by decide, by decide⟩ | exact ⟨by omega, by omega⟩) (fun c687 => ?_) (fun c687 => ?_)
  · -- 687t
    refine sx_iconst dL_acts_720 ?_
    refine sx_goto (tgt := 725) dL_acts_721 (by decide) ?_
    exact sx_zret dL_acts_725 rfl (by decide) rfl rfl
  · -- 687f
    exfalso; omega
set_option maxHeartbeats 4000000 in
set_option maxRecDepth 100000 in
theorem act_carry1 {h G : am_H} {S S1 : Nat → Int} {n n1 : Int} (hP : PH h S n) (hn : n ≤ 700000000) {y z c : Int} (hz : 0 ≤ z ∧ z ≤ 134217727) (hc : 0 ≤ c ∧ c < gP h 0 0) {w : Int} (ew : w = z / 8 % (gcnt (gP h) (h.1 6 0 4) (h.1 6 2 1) 2)) (hw : 0 ≤ w ∧ w < gP h 0 2) (eG : G = gset (am_U h (h.2 1) (ycarry (gP h) w c).2) (ycarry (gP h) w c).1) (hPG : PH G S1 n1) (hRa : am_R (ycarry (gP h) w c).1) (p1 : ¬ (ycarry (gP h) w c).1 = -1000001) (p5 : (gcnt (gP G) (G.1 6 0 4) (G.1 6 2 1) 5) = (gcnt (gP h) (h.1 6 0 4) (h.1 6 2 1) 5)) : Sx 6 YL_acts G (some (.inl 1)) 682 [some (.inr (6, 0)), some (.inl y), some (.inl z), some (.inl c), some (.inl (gcnt (gP h) (h.1 6 0 4) (h.1 6 2 1) 5)), none, none, none, none, none, none, none, none, none, none, none, none, none, none, none] [] h := by
  refine sx_vh (fun hV => ?_)
  have hR : ∀ j k, am_R (gP h j k) := fun j k => hV.1 _ j k
  have hM := PH_WM hP
  have hN : ∀ k, am_R (gcnt (gP h) (h.1 6 0 4) (h.1 6 2 1) k) := fun k => gcnt_R hR hM (hV.1 6 0 4) (hV.1 6 2 1) k
  have h24 := hM.2.1
  have h8 := hM.1
  have n2 : (gcnt (gP h) (h.1 6 0 4) (h.1 6 2 1) 2) = gP h 0 2 := rfl
  have n0 : (gcnt (gP h) (h.1 6 0 4) (h.1 6 2 1) 0) = gP h 0 0 := rfl
  have hcR : am_R c := ⟨by omega, by omega⟩
  have hb4 : 0 ≤ gchip (gP h) c 4 ∧ gchip (gP h) c 4 ≤ 63 := by rw [gchip_4 hc]; exact ybc_b _
  refine sx_aload_n dL_acts_682 rfl ?_
  refine sx_iconst dL_acts_683 ?_
  refine sx_callVi dL_acts_684 ml_L_19 mv2_count (pq_count hP _ (by first | exact ⟨by decide, by decide⟩ | exact ⟨by omega, by omega⟩ | assumption | (with_reducible first | exact gfam_R hR hM _ _ | exact gword_R hR hM _ _ | exact gchip_R hR hM _ _))) rfl am_obG rfl (Nat.le_of_ble_eq_true rfl) (Nat.le_of_ble_eq_true rfl) ?_
  refine sx_if_eq (tgt := 720) dL_acts_687 (by decide) (by first | (with_reducible first | exact gfam_R hR hM _ _ | exact gchip_R hR hM _ _ | exact gword_R hR hM _ _ | exact gread_R hR _ | exact hN _ | exact am_R_and _ _ | exact gfam_R hRG hMG _ _ | exact gchip_R hRG hMG _ _ | exact gword_R hRG hMG _ _ | exact gread_R hRG _ | exact hNG _) | assumption | exact ⟨by decide, by decide⟩ | exact ⟨by omega, by omega⟩) (fun c687 => ?_) (fun c687 => ?_)
  · -- 687t
    exfalso; omega
  · -- 687f
    refine sx_aload_n dL_acts_690 rfl ?_
    refine sx_iload_n dL_acts_691 rfl ?_
    refine sx_bipush dL_acts_692 rfl ?_
    refine sx_idiv dL_acts_694 (by omega) (by omega) ?_
    refine sx_aload_n dL_acts_695 rfl ?_
    refine sx_iconst dL_acts_696 ?_
    refine sx_callVi dL_acts_697 ml_L_19 mv2_count (pq_count hP _ (by first | exact ⟨by decide, by decide⟩ | exact ⟨by omega, by omega⟩ | assumption | (with_reducible first | exact gfam_R hR hM _ _ | exact gword_R hR hM _ _ | exact gchip_R hR hM _ _))) rfl am_obG rfl (Nat.le_of_ble_eq_true rfl) (Nat.le_of_ble_eq_true rfl) ?_
    refine sx_irem dL_acts_700 (by omega) (by omega) ?_
    rw [← ew]
    refine sx_iload_n dL_acts_701 rfl ?_
    refine sx_callVi dL_acts_702 ml_L_63 mv2_carry (pc_carry hP (by omega) _ _ (by first | exact ⟨by decide, by decide⟩ | exact ⟨by omega, by omega⟩ | assumption | (with_reducible first | exact gfam_R hR hM _ _ | exact gword_R hR hM _ _ | exact gchip_R hR hM _ _)) (by first | exact ⟨by decide, by decide⟩ | exact ⟨by omega, by omega⟩ | assumption | (with_reducible first | exact gfam_R hR hM _ _ | exact gword_R hR hM _ _ | exact gchip_R hR hM _ _))) rfl am_obG rfl (Nat.le_of_ble_eq_true rfl) (Nat.le_of_ble_eq_true rfl) ?_
    refine sx_heq G eG ?_
    refine sx_vh (fun hVG => ?_)
    have hRG : ∀ j k, am_R (gP G j k) := fun j k => hVG.1 _ j k
    have hMG := PH_WM hPG
    have hNG : ∀ k, am_R (gcnt (gP G) (G.1 6 0 4) (G.1 6 2 1) k) := fun k => gcnt_R hRG hMG (hVG.1 6 0 4) (hVG.1 6 2 1) k
    refine sx_ldc dL_acts_705 kc_L_59 ?_
    refine sx_icmp_eq (tgt := 724) dL_acts_707 (by decide) (by first | (with_reducible first | exact gfam_R hR hM _ _ | exact gchip_R hR hM _ _ | exact gword_R hR hM _ _ | exact gread_R hR _ | exact hN _ | exact am_R_and _ _ | exact gfam_R hRG hMG _ _ | exact gchip_R hRG hMG _ _ | exact gword_R hRG hMG _ _ | exact gread_R hRG _ | exact hNG _) | assumption | exact ⟨by decide, by decide⟩ | exact ⟨by omega, by omega⟩) ⟨by decide, by decide⟩ (fun c707 => ?_) (fun c707 => ?_)
    · -- 707t
      exact absurd c707 p1
    · -- 707f
      refine sx_aload_n dL_acts_710 rfl ?_
      refine sx_iconst dL_acts_711 ?_
      refine sx_callVi dL_acts_712 ml_L_19 mv2_count (pq_count hPG _ (by first | exact ⟨by decide, by decide⟩ | exact ⟨by omega, by omega⟩ | assumption | (with_reducible first | exact gfam_R hR hM _ _ | exact gword_R hR hM _ _ | exact gchip_R hR hM _ _))) rfl am_obG rfl (Nat.le_of_ble_eq_true rfl) (Nat.le_of_ble_eq_true rfl) ?_
      refine sx_iload dL_acts_715 rfl ?_
      refine sx_icmp_ne (tgt := 724) dL_acts_717 (by decide) (by first | (with_reducible first | exact gfam_R hR hM _ _ | exact gchip_R hR hM _ _ | exact gword_R hR hM _ _ | exact gread_R hR _ | exact hN _ | exact am_R_and _ _ | exact gfam_R hRG hMG _ _ | exact gchip_R hRG hMG _ _ | exact gword_R hRG hMG _ _ | exact gread_R hRG _ | exact hNG _) | assumption | exact ⟨by decide, by decide⟩ | exact ⟨by omega, by omega⟩) (by first | (with_reducible first | exact gfam_R hR hM _ _ | exact gchip_R hR hM _ _ | exact gword_R hR hM _ _ | exact gread_R hR _ | exact hN _ | exact am_R_and _ _ | exact gfam_R hRG hMG _ _ | exact gchip_R hRG hMG _ _ | exact gword_R hRG hMG _ _ | exact gread_R hRG _ | exact hNG _) | assumption | exact ⟨by decide, by decide⟩ | exact ⟨by omega, by omega⟩) (fun c717 => ?_) (fun c717 => ?_)
      · -- 717t
        exact absurd p5 c717
      · -- 717f
        refine sx_iconst dL_acts_720 ?_
        refine sx_goto (tgt := 725) dL_acts_721 (by decide) ?_
        exact sx_zret dL_acts_725 rfl (by decide) rfl rfl
set_option maxHeartbeats 4000000 in
set_option maxRecDepth 100000 in
theorem act_start {h G : am_H} {S : Nat → Int} {n : Int} (hP : PH h S n) {y : Int} (hy : 0 ≤ y ∧ y ≤ 2147483647) (k : Sx 6 YL_acts G (some (.inl 1)) 20 [some (.inr (6, 0)), some (.inl y), some (.inl (y / 16)), some (.inl (y / 16 % 5)), some (.inl (gcnt (gP h) (h.1 6 0 4) (h.1 6 2 1) 5)), none, none, none, none, none, none, none, none, none, none, none, none, none, none, none] [.inl (y % 16)] h) : Ct 6 YL_acts [.inr (6, 0), .inl y] (some (.inl 1)) h G := by
  refine Ct_of (by decide +kernel) (Nat.le_of_ble_eq_true rfl) ?_
  show Sx 6 YL_acts G (some (.inl 1)) 0 [some (.inr (6, 0)), some (.inl y), none, none, none, none, none, none, none, none, none, none, none, none, none, none, none, none, none, none] [] h
  refine sx_iload_n dL_acts_0 rfl ?_
  refine sx_bipush dL_acts_1 rfl ?_
  refine sx_idiv dL_acts_3 (by omega) (by omega) ?_
  refine sx_istore_n dL_acts_4 (by decide) ?_
  refine sx_iload_n dL_acts_5 rfl ?_
  refine sx_iconst dL_acts_6 ?_
  refine sx_irem dL_acts_7 (by omega) (by omega) ?_
  refine sx_istore_n dL_acts_8 (by decide) ?_
  refine sx_aload_n dL_acts_9 rfl ?_
  refine sx_iconst dL_acts_10 ?_
  refine sx_callVi dL_acts_11 ml_L_19 mv2_count (pq_count hP _ (by first | exact ⟨by decide, by decide⟩ | exact ⟨by omega, by omega⟩ | assumption | (with_reducible first | exact gfam_R hR hM _ _ | exact gword_R hR hM _ _ | exact gchip_R hR hM _ _))) rfl am_obG rfl (Nat.le_of_ble_eq_true rfl) (Nat.le_of_ble_eq_true rfl) ?_
  refine sx_istore dL_acts_14 (by decide) ?_
  refine sx_iload_n dL_acts_16 rfl ?_
  refine sx_bipush dL_acts_17 rfl ?_
  refine sx_irem dL_acts_19 (by omega) (by omega) ?_
  exact k
