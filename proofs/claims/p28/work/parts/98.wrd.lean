/-! ===== words() answers true ===== -/
set_option maxHeartbeats 4000000 in
set_option maxRecDepth 100000 in
theorem wrd_w {h : am_H} {S : Nat → Int} {n : Int} (hP : PH h S n) (k : Sx 3 YL_words h (some (.inl 1)) 226 [some (.inr (6, 0)), some (.inl (gcnt (gP h) (h.1 6 0 4) (h.1 6 2 1) 7)), some (.inl 1), none, none, none, none] [] h) : Sx 3 YL_words h (some (.inl 1)) 6 [some (.inr (6, 0)), some (.inl 0), some (.inl 1), some (.inl 0), none, none, none] [] h := by
  refine sx_vh (fun hV => ?_)
  have hR : ∀ j k, am_R (gP h j k) := fun j k => hV.1 _ j k
  have hM := PH_WM hP
  have hN : ∀ k, am_R (gcnt (gP h) (h.1 6 0 4) (h.1 6 2 1) k) := fun k => gcnt_R hR hM (hV.1 6 0 4) (hV.1 6 2 1) k
  have h24 := hM.2.1
  have h8 := hM.1
  have n2 : (gcnt (gP h) (h.1 6 0 4) (h.1 6 2 1) 2) = gP h 0 2 := rfl
  have n0 : (gcnt (gP h) (h.1 6 0 4) (h.1 6 2 1) 0) = gP h 0 0 := rfl
  have loop6 : ∀ (n : Nat) (R : Int) (w : Nat), (gP h 0 2 - w).toNat = n → (w : Int) ≤ gP h 0 2 → R = sumW (fun w => gword (gP h) w 5) w → Sx 3 YL_words h (some (.inl 1)) 6 [some (.inr (6, 0)), some (.inl R), some (.inl 1), some (.inl (w : Int)), none, none, none] [] h := by
    intro n
    induction n using Nat.strongRecOn with
    | _ n ih6 =>
      intro R w hn hle hs
      subst hs
      refine sx_iload_n dL_words_6 rfl ?_
      refine sx_aload_n dL_words_7 rfl ?_
      refine sx_iconst dL_words_8 ?_
      refine sx_callVi dL_words_9 ml_L_19 mv2_count (pq_count hP _ (by first | exact ⟨by decide, by decide⟩ | exact ⟨by omega, by omega⟩ | assumption | (with_reducible exact gfam_R hR hM _ _) | (with_reducible exact gword_R hR hM _ _))) rfl am_obG rfl (Nat.le_of_ble_eq_true rfl) (Nat.le_of_ble_eq_true rfl) ?_
      refine sx_icmp_ge (tgt := 226) dL_words_12 (by decide) (by first | (with_reducible first | exact gfam_R hR hM _ _ | exact gchip_R hR hM _ _ | exact gword_R hR hM _ _ | exact gread_R hR _ | exact grow_R hR _ _ | exact hN _ | exact am_R_and _ _ | exact am_R_or _ _ | exact am_R_xor _ _ | exact aSum_R _ _ _ _) | assumption | exact ⟨by decide, by decide⟩ | exact ⟨by omega, by omega⟩) (by first | (with_reducible first | exact gfam_R hR hM _ _ | exact gchip_R hR hM _ _ | exact gword_R hR hM _ _ | exact gread_R hR _ | exact grow_R hR _ _ | exact hN _ | exact am_R_and _ _ | exact am_R_or _ _ | exact am_R_xor _ _ | exact aSum_R _ _ _ _) | assumption | exact ⟨by decide, by decide⟩ | exact ⟨by omega, by omega⟩) (fun c12 => ?_) (fun c12 => ?_)
      · -- 12t
        have ew : w = (gP h 0 2).toNat := by omega
        subst ew
        obtain ⟨e7, -⟩ := WA_n hP.2 (h.1 6 0 4) (h.1 6 2 1)
        rw [← e7]
        exact sx_forget 3 k
      · -- 12f
        refine sx_iload_n dL_words_15 rfl ?_
        refine sx_if_eq (tgt := 226) dL_words_16 (by decide) ⟨by decide, by decide⟩ (fun q => absurd q (by decide)) (fun _ => ?_)
        have hw : 0 ≤ (w : Int) ∧ (w : Int) < gP h 0 2 := by omega
        obtain ⟨b1, b2, b3, b4⟩ := WA_w hP.2 hw
        refine sx_aload_n dL_words_19 rfl ?_
        refine sx_iload_n dL_words_20 rfl ?_
        refine sx_iconst dL_words_21 ?_
        refine sx_callVi dL_words_22 ml_L_23 mv2_wordOf (pq_wordOf hP _ _ (by first | exact ⟨by decide, by decide⟩ | exact ⟨by omega, by omega⟩ | assumption | (with_reducible exact gfam_R hR hM _ _) | (with_reducible exact gword_R hR hM _ _)) (by first | exact ⟨by decide, by decide⟩ | exact ⟨by omega, by omega⟩ | assumption | (with_reducible exact gfam_R hR hM _ _) | (with_reducible exact gword_R hR hM _ _))) rfl am_obG rfl (Nat.le_of_ble_eq_true rfl) (Nat.le_of_ble_eq_true rfl) ?_
        refine sx_istore dL_words_25 (by decide) ?_
        refine sx_iload_n dL_words_27 rfl ?_
        refine sx_aload_n dL_words_28 rfl ?_
        refine sx_iload_n dL_words_29 rfl ?_
        refine sx_iconst dL_words_30 ?_
        refine sx_callVi dL_words_31 ml_L_23 mv2_wordOf (pq_wordOf hP _ _ (by first | exact ⟨by decide, by decide⟩ | exact ⟨by omega, by omega⟩ | assumption | (with_reducible exact gfam_R hR hM _ _) | (with_reducible exact gword_R hR hM _ _)) (by first | exact ⟨by decide, by decide⟩ | exact ⟨by omega, by omega⟩ | assumption | (with_reducible exact gfam_R hR hM _ _) | (with_reducible exact gword_R hR hM _ _))) rfl am_obG rfl (Nat.le_of_ble_eq_true rfl) (Nat.le_of_ble_eq_true rfl) ?_
        refine sx_iadd dL_words_34 ?_
        refine sx_istore_n dL_words_35 (by decide) ?_
        refine sx_aload_n dL_words_36 rfl ?_
        refine sx_iload_n dL_words_37 rfl ?_
        refine sx_iconst dL_words_38 ?_
        refine sx_callVi dL_words_39 ml_L_23 mv2_wordOf (pq_wordOf hP _ _ (by first | exact ⟨by decide, by decide⟩ | exact ⟨by omega, by omega⟩ | assumption | (with_reducible exact gfam_R hR hM _ _) | (with_reducible exact gword_R hR hM _ _)) (by first | exact ⟨by decide, by decide⟩ | exact ⟨by omega, by omega⟩ | assumption | (with_reducible exact gfam_R hR hM _ _) | (with_reducible exact gword_R hR hM _ _))) rfl am_obG rfl (Nat.le_of_ble_eq_true rfl) (Nat.le_of_ble_eq_true rfl) ?_
        refine sx_istore dL_words_42 (by decide) ?_
        refine sx_aload_n dL_words_44 rfl ?_
        refine sx_iload_n dL_words_45 rfl ?_
        refine sx_iconst dL_words_46 ?_
        refine sx_callVi dL_words_47 ml_L_23 mv2_wordOf (pq_wordOf hP _ _ (by first | exact ⟨by decide, by decide⟩ | exact ⟨by omega, by omega⟩ | assumption | (with_reducible exact gfam_R hR hM _ _) | (with_reducible exact gword_R hR hM _ _)) (by first | exact ⟨by decide, by decide⟩ | exact ⟨by omega, by omega⟩ | assumption | (with_reducible exact gfam_R hR hM _ _) | (with_reducible exact gword_R hR hM _ _))) rfl am_obG rfl (Nat.le_of_ble_eq_true rfl) (Nat.le_of_ble_eq_true rfl) ?_
        refine sx_istore dL_words_50 (by decide) ?_
        refine sx_iload dL_words_52 rfl ?_
        refine sx_if_ne (tgt := 123) dL_words_54 (by decide) (by first | (with_reducible first | exact gfam_R hR hM _ _ | exact gchip_R hR hM _ _ | exact gword_R hR hM _ _ | exact gread_R hR _ | exact grow_R hR _ _ | exact hN _ | exact am_R_and _ _ | exact am_R_or _ _ | exact am_R_xor _ _ | exact aSum_R _ _ _ _) | assumption | exact ⟨by decide, by decide⟩ | exact ⟨by omega, by omega⟩) (fun c54 => ?_) (fun c54 => ?_)
        · -- 54t
          refine sx_iload dL_words_123 rfl ?_
          refine sx_ldc dL_words_125 kc_L_18 ?_
          refine sx_icmp_ne (tgt := 177) dL_words_127 (by decide) (by first | (with_reducible first | exact gfam_R hR hM _ _ | exact gchip_R hR hM _ _ | exact gword_R hR hM _ _ | exact gread_R hR _ | exact grow_R hR _ _ | exact hN _ | exact am_R_and _ _ | exact am_R_or _ _ | exact am_R_xor _ _ | exact aSum_R _ _ _ _) | assumption | exact ⟨by decide, by decide⟩ | exact ⟨by omega, by omega⟩) ⟨by decide, by decide⟩ (fun c127 => ?_) (fun c127 => ?_)
          · -- 127t
            exact absurd (b2 c54) c127
          · -- 127f
            refine sx_iload dL_words_130 rfl ?_
            refine sx_iconst dL_words_132 ?_
            refine sx_icmp_ne (tgt := 156) dL_words_133 (by decide) (by first | (with_reducible first | exact gfam_R hR hM _ _ | exact gchip_R hR hM _ _ | exact gword_R hR hM _ _ | exact gread_R hR _ | exact grow_R hR _ _ | exact hN _ | exact am_R_and _ _ | exact am_R_or _ _ | exact am_R_xor _ _ | exact aSum_R _ _ _ _) | assumption | exact ⟨by decide, by decide⟩ | exact ⟨by omega, by omega⟩) ⟨by decide, by decide⟩ (fun c133 => ?_) (fun c133 => ?_)
            · -- 133t
              refine sx_aload_n dL_words_156 rfl ?_
              refine sx_iload_n dL_words_157 rfl ?_
              refine sx_callVi dL_words_158 ml_L_26 mv2_read (pq_read hP _ (by first | exact ⟨by decide, by decide⟩ | exact ⟨by omega, by omega⟩ | assumption | (with_reducible exact gfam_R hR hM _ _) | (with_reducible exact gword_R hR hM _ _))) rfl am_obG rfl (Nat.le_of_ble_eq_true rfl) (Nat.le_of_ble_eq_true rfl) ?_
              refine sx_ldc dL_words_161 kc_L_18 ?_
              refine sx_icmp_ne (tgt := 177) dL_words_163 (by decide) (by first | (with_reducible first | exact gfam_R hR hM _ _ | exact gchip_R hR hM _ _ | exact gword_R hR hM _ _ | exact gread_R hR _ | exact grow_R hR _ _ | exact hN _ | exact am_R_and _ _ | exact am_R_or _ _ | exact am_R_xor _ _ | exact aSum_R _ _ _ _) | assumption | exact ⟨by decide, by decide⟩ | exact ⟨by omega, by omega⟩) ⟨by decide, by decide⟩ (fun c163 => ?_) (fun c163 => ?_)
              · -- 163t
                exact absurd (b4 c54 c133).1 c163
              · -- 163f
                refine sx_iload dL_words_166 rfl ?_
                refine sx_ldc dL_words_168 kc_L_18 ?_
                refine sx_icmp_ne (tgt := 177) dL_words_170 (by decide) (by first | (with_reducible first | exact gfam_R hR hM _ _ | exact gchip_R hR hM _ _ | exact gword_R hR hM _ _ | exact gread_R hR _ | exact grow_R hR _ _ | exact hN _ | exact am_R_and _ _ | exact am_R_or _ _ | exact am_R_xor _ _ | exact aSum_R _ _ _ _) | assumption | exact ⟨by decide, by decide⟩ | exact ⟨by omega, by omega⟩) ⟨by decide, by decide⟩ (fun c170 => ?_) (fun c170 => ?_)
                · -- 170t
                  exact absurd (b4 c54 c133).2 c170
                · -- 170f
                  refine sx_iconst dL_words_173 ?_
                  refine sx_goto (tgt := 178) dL_words_174 (by decide) ?_
                  refine sx_istore_n dL_words_178 (by decide) ?_
                  refine sx_iload_n dL_words_179 rfl ?_
                  refine sx_if_eq (tgt := 218) dL_words_180 (by decide) ⟨by decide, by decide⟩ (fun q => absurd q (by decide)) (fun _ => ?_)
                  refine sx_iload dL_words_183 rfl ?_
                  refine sx_iconst dL_words_185 ?_
                  refine sx_icmp_ne (tgt := 214) dL_words_186 (by decide) (by first | (with_reducible first | exact gfam_R hR hM _ _ | exact gchip_R hR hM _ _ | exact gword_R hR hM _ _ | exact gread_R hR _ | exact grow_R hR _ _ | exact hN _ | exact am_R_and _ _ | exact am_R_or _ _ | exact am_R_xor _ _ | exact aSum_R _ _ _ _) | assumption | exact ⟨by decide, by decide⟩ | exact ⟨by omega, by omega⟩) ⟨by decide, by decide⟩ (fun c186 => ?_) (fun c186 => ?_)
                  · -- 186t
                    refine sx_iconst dL_words_214 ?_
                    refine sx_goto (tgt := 219) dL_words_215 (by decide) ?_
                    refine sx_istore_n dL_words_219 (by decide) ?_
                    refine sx_iinc dL_words_220 rfl (by decide) ?_
                    refine sx_goto (tgt := 6) dL_words_223 (by decide) ?_
                    exact sx_forget 4 (sx_forget 5 (sx_forget 6 (ih6 _ (by omega) _ (w + 1) rfl (by omega) (by simp only [sumW]))))
                  · -- 186f
                    refine sx_aload_n dL_words_189 rfl ?_
                    refine sx_iload_n dL_words_190 rfl ?_
                    refine sx_iconst dL_words_191 ?_
                    refine sx_callVi dL_words_192 ml_L_23 mv2_wordOf (pq_wordOf hP _ _ (by first | exact ⟨by decide, by decide⟩ | exact ⟨by omega, by omega⟩ | assumption | (with_reducible exact gfam_R hR hM _ _) | (with_reducible exact gword_R hR hM _ _)) (by first | exact ⟨by decide, by decide⟩ | exact ⟨by omega, by omega⟩ | assumption | (with_reducible exact gfam_R hR hM _ _) | (with_reducible exact gword_R hR hM _ _))) rfl am_obG rfl (Nat.le_of_ble_eq_true rfl) (Nat.le_of_ble_eq_true rfl) ?_
                    refine sx_if_gt (tgt := 214) dL_words_195 (by decide) (by first | (with_reducible first | exact gfam_R hR hM _ _ | exact gchip_R hR hM _ _ | exact gword_R hR hM _ _ | exact gread_R hR _ | exact grow_R hR _ _ | exact hN _ | exact am_R_and _ _ | exact am_R_or _ _ | exact am_R_xor _ _ | exact aSum_R _ _ _ _) | assumption | exact ⟨by decide, by decide⟩ | exact ⟨by omega, by omega⟩) (fun c195 => ?_) (fun c195 => ?_)
                    · -- 195t
                      refine sx_iconst dL_words_214 ?_
                      refine sx_goto (tgt := 219) dL_words_215 (by decide) ?_
                      refine sx_istore_n dL_words_219 (by decide) ?_
                      refine sx_iinc dL_words_220 rfl (by decide) ?_
                      refine sx_goto (tgt := 6) dL_words_223 (by decide) ?_
                      exact sx_forget 4 (sx_forget 5 (sx_forget 6 (ih6 _ (by omega) _ (w + 1) rfl (by omega) (by simp only [sumW]))))
                    · -- 195f
                      refine sx_aload_n dL_words_198 rfl ?_
                      refine sx_aload_n dL_words_199 rfl ?_
                      refine sx_iload_n dL_words_200 rfl ?_
                      refine sx_iconst dL_words_201 ?_
                      refine sx_callVi dL_words_202 ml_L_23 mv2_wordOf (pq_wordOf hP _ _ (by first | exact ⟨by decide, by decide⟩ | exact ⟨by omega, by omega⟩ | assumption | (with_reducible exact gfam_R hR hM _ _) | (with_reducible exact gword_R hR hM _ _)) (by first | exact ⟨by decide, by decide⟩ | exact ⟨by omega, by omega⟩ | assumption | (with_reducible exact gfam_R hR hM _ _) | (with_reducible exact gword_R hR hM _ _))) rfl am_obG rfl (Nat.le_of_ble_eq_true rfl) (Nat.le_of_ble_eq_true rfl) ?_
                      refine sx_bipush dL_words_205 rfl ?_
                      refine sx_callVi dL_words_207 ml_L_9 mv2_familyOf (pq_familyOf hP _ _ (by first | exact ⟨by decide, by decide⟩ | exact ⟨by omega, by omega⟩ | assumption | (with_reducible exact gfam_R hR hM _ _) | (with_reducible exact gword_R hR hM _ _)) (by first | exact ⟨by decide, by decide⟩ | exact ⟨by omega, by omega⟩ | assumption | (with_reducible exact gfam_R hR hM _ _) | (with_reducible exact gword_R hR hM _ _))) rfl am_obG rfl (Nat.le_of_ble_eq_true rfl) (Nat.le_of_ble_eq_true rfl) ?_
                      refine sx_iload_n dL_words_210 rfl ?_
                      refine sx_icmp_ne (tgt := 218) dL_words_211 (by decide) (by first | (with_reducible first | exact gfam_R hR hM _ _ | exact gchip_R hR hM _ _ | exact gword_R hR hM _ _ | exact gread_R hR _ | exact grow_R hR _ _ | exact hN _ | exact am_R_and _ _ | exact am_R_or _ _ | exact am_R_xor _ _ | exact aSum_R _ _ _ _) | assumption | exact ⟨by decide, by decide⟩ | exact ⟨by omega, by omega⟩) (by first | (with_reducible first | exact gfam_R hR hM _ _ | exact gchip_R hR hM _ _ | exact gword_R hR hM _ _ | exact gread_R hR _ | exact grow_R hR _ _ | exact hN _ | exact am_R_and _ _ | exact am_R_or _ _ | exact am_R_xor _ _ | exact aSum_R _ _ _ _) | assumption | exact ⟨by decide, by decide⟩ | exact ⟨by omega, by omega⟩) (fun c211 => ?_) (fun c211 => ?_)
                      · -- 211t
                        exact absurd ((b3 c186).2.2 (by omega)) c211
                      · -- 211f
                        refine sx_iconst dL_words_214 ?_
                        refine sx_goto (tgt := 219) dL_words_215 (by decide) ?_
                        refine sx_istore_n dL_words_219 (by decide) ?_
                        refine sx_iinc dL_words_220 rfl (by decide) ?_
                        refine sx_goto (tgt := 6) dL_words_223 (by decide) ?_
                        exact sx_forget 4 (sx_forget 5 (sx_forget 6 (ih6 _ (by omega) _ (w + 1) rfl (by omega) (by simp only [sumW]))))
            · -- 133f
              refine sx_aload_n dL_words_136 rfl ?_
              refine sx_iload_n dL_words_137 rfl ?_
              refine sx_iconst dL_words_138 ?_
              refine sx_callVi dL_words_139 ml_L_23 mv2_wordOf (pq_wordOf hP _ _ (by first | exact ⟨by decide, by decide⟩ | exact ⟨by omega, by omega⟩ | assumption | (with_reducible exact gfam_R hR hM _ _) | (with_reducible exact gword_R hR hM _ _)) (by first | exact ⟨by decide, by decide⟩ | exact ⟨by omega, by omega⟩ | assumption | (with_reducible exact gfam_R hR hM _ _) | (with_reducible exact gword_R hR hM _ _))) rfl am_obG rfl (Nat.le_of_ble_eq_true rfl) (Nat.le_of_ble_eq_true rfl) ?_
              refine sx_if_lt (tgt := 177) dL_words_142 (by decide) (by first | (with_reducible first | exact gfam_R hR hM _ _ | exact gchip_R hR hM _ _ | exact gword_R hR hM _ _ | exact gread_R hR _ | exact grow_R hR _ _ | exact hN _ | exact am_R_and _ _ | exact am_R_or _ _ | exact am_R_xor _ _ | exact aSum_R _ _ _ _) | assumption | exact ⟨by decide, by decide⟩ | exact ⟨by omega, by omega⟩) (fun c142 => ?_) (fun c142 => ?_)
              · -- 142t
                exact absurd (b3 c133).1 (by omega)
              · -- 142f
                refine sx_aload_n dL_words_145 rfl ?_
                refine sx_iload_n dL_words_146 rfl ?_
                refine sx_callVi dL_words_147 ml_L_26 mv2_read (pq_read hP _ (by first | exact ⟨by decide, by decide⟩ | exact ⟨by omega, by omega⟩ | assumption | (with_reducible exact gfam_R hR hM _ _) | (with_reducible exact gword_R hR hM _ _))) rfl am_obG rfl (Nat.le_of_ble_eq_true rfl) (Nat.le_of_ble_eq_true rfl) ?_
                refine sx_if_lt (tgt := 177) dL_words_150 (by decide) (by first | (with_reducible first | exact gfam_R hR hM _ _ | exact gchip_R hR hM _ _ | exact gword_R hR hM _ _ | exact gread_R hR _ | exact grow_R hR _ _ | exact hN _ | exact am_R_and _ _ | exact am_R_or _ _ | exact am_R_xor _ _ | exact aSum_R _ _ _ _) | assumption | exact ⟨by decide, by decide⟩ | exact ⟨by omega, by omega⟩) (fun c150 => ?_) (fun c150 => ?_)
                · -- 150t
                  exact absurd (b3 c133).2.1 (by omega)
                · -- 150f
                  refine sx_goto (tgt := 173) dL_words_153 (by decide) ?_
                  refine sx_iconst dL_words_173 ?_
                  refine sx_goto (tgt := 178) dL_words_174 (by decide) ?_
                  refine sx_istore_n dL_words_178 (by decide) ?_
                  refine sx_iload_n dL_words_179 rfl ?_
                  refine sx_if_eq (tgt := 218) dL_words_180 (by decide) ⟨by decide, by decide⟩ (fun q => absurd q (by decide)) (fun _ => ?_)
                  refine sx_iload dL_words_183 rfl ?_
                  refine sx_iconst dL_words_185 ?_
                  refine sx_icmp_ne (tgt := 214) dL_words_186 (by decide) (by first | (with_reducible first | exact gfam_R hR hM _ _ | exact gchip_R hR hM _ _ | exact gword_R hR hM _ _ | exact gread_R hR _ | exact grow_R hR _ _ | exact hN _ | exact am_R_and _ _ | exact am_R_or _ _ | exact am_R_xor _ _ | exact aSum_R _ _ _ _) | assumption | exact ⟨by decide, by decide⟩ | exact ⟨by omega, by omega⟩) ⟨by decide, by decide⟩ (fun c186 => ?_) (fun c186 => ?_)
                  · -- 186t
                    refine sx_iconst dL_words_214 ?_
                    refine sx_goto (tgt := 219) dL_words_215 (by decide) ?_
                    refine sx_istore_n dL_words_219 (by decide) ?_
                    refine sx_iinc dL_words_220 rfl (by decide) ?_
                    refine sx_goto (tgt := 6) dL_words_223 (by decide) ?_
                    exact sx_forget 4 (sx_forget 5 (sx_forget 6 (ih6 _ (by omega) _ (w + 1) rfl (by omega) (by simp only [sumW]))))
                  · -- 186f
                    refine sx_aload_n dL_words_189 rfl ?_
                    refine sx_iload_n dL_words_190 rfl ?_
                    refine sx_iconst dL_words_191 ?_
                    refine sx_callVi dL_words_192 ml_L_23 mv2_wordOf (pq_wordOf hP _ _ (by first | exact ⟨by decide, by decide⟩ | exact ⟨by omega, by omega⟩ | assumption | (with_reducible exact gfam_R hR hM _ _) | (with_reducible exact gword_R hR hM _ _)) (by first | exact ⟨by decide, by decide⟩ | exact ⟨by omega, by omega⟩ | assumption | (with_reducible exact gfam_R hR hM _ _) | (with_reducible exact gword_R hR hM _ _))) rfl am_obG rfl (Nat.le_of_ble_eq_true rfl) (Nat.le_of_ble_eq_true rfl) ?_
                    refine sx_if_gt (tgt := 214) dL_words_195 (by decide) (by first | (with_reducible first | exact gfam_R hR hM _ _ | exact gchip_R hR hM _ _ | exact gword_R hR hM _ _ | exact gread_R hR _ | exact grow_R hR _ _ | exact hN _ | exact am_R_and _ _ | exact am_R_or _ _ | exact am_R_xor _ _ | exact aSum_R _ _ _ _) | assumption | exact ⟨by decide, by decide⟩ | exact ⟨by omega, by omega⟩) (fun c195 => ?_) (fun c195 => ?_)
                    · -- 195t
                      refine sx_iconst dL_words_214 ?_
                      refine sx_goto (tgt := 219) dL_words_215 (by decide) ?_
                      refine sx_istore_n dL_words_219 (by decide) ?_
                      refine sx_iinc dL_words_220 rfl (by decide) ?_
                      refine sx_goto (tgt := 6) dL_words_223 (by decide) ?_
                      exact sx_forget 4 (sx_forget 5 (sx_forget 6 (ih6 _ (by omega) _ (w + 1) rfl (by omega) (by simp only [sumW]))))
                    · -- 195f
                      refine sx_aload_n dL_words_198 rfl ?_
                      refine sx_aload_n dL_words_199 rfl ?_
                      refine sx_iload_n dL_words_200 rfl ?_
                      refine sx_iconst dL_words_201 ?_
                      refine sx_callVi dL_words_202 ml_L_23 mv2_wordOf (pq_wordOf hP _ _ (by first | exact ⟨by decide, by decide⟩ | exact ⟨by omega, by omega⟩ | assumption | (with_reducible exact gfam_R hR hM _ _) | (with_reducible exact gword_R hR hM _ _)) (by first | exact ⟨by decide, by decide⟩ | exact ⟨by omega, by omega⟩ | assumption | (with_reducible exact gfam_R hR hM _ _) | (with_reducible exact gword_R hR hM _ _))) rfl am_obG rfl (Nat.le_of_ble_eq_true rfl) (Nat.le_of_ble_eq_true rfl) ?_
                      refine sx_bipush dL_words_205 rfl ?_
                      refine sx_callVi dL_words_207 ml_L_9 mv2_familyOf (pq_familyOf hP _ _ (by first | exact ⟨by decide, by decide⟩ | exact ⟨by omega, by omega⟩ | assumption | (with_reducible exact gfam_R hR hM _ _) | (with_reducible exact gword_R hR hM _ _)) (by first | exact ⟨by decide, by decide⟩ | exact ⟨by omega, by omega⟩ | assumption | (with_reducible exact gfam_R hR hM _ _) | (with_reducible exact gword_R hR hM _ _))) rfl am_obG rfl (Nat.le_of_ble_eq_true rfl) (Nat.le_of_ble_eq_true rfl) ?_
                      refine sx_iload_n dL_words_210 rfl ?_
                      refine sx_icmp_ne (tgt := 218) dL_words_211 (by decide) (by first | (with_reducible first | exact gfam_R hR hM _ _ | exact gchip_R hR hM _ _ | exact gword_R hR hM _ _ | exact gread_R hR _ | exact grow_R hR _ _ | exact hN _ | exact am_R_and _ _ | exact am_R_or _ _ | exact am_R_xor _ _ | exact aSum_R _ _ _ _) | assumption | exact ⟨by decide, by decide⟩ | exact ⟨by omega, by omega⟩) (by first | (with_reducible first | exact gfam_R hR hM _ _ | exact gchip_R hR hM _ _ | exact gword_R hR hM _ _ | exact gread_R hR _ | exact grow_R hR _ _ | exact hN _ | exact am_R_and _ _ | exact am_R_or _ _ | exact am_R_xor _ _ | exact aSum_R _ _ _ _) | assumption | exact ⟨by decide, by decide⟩ | exact ⟨by omega, by omega⟩) (fun c211 => ?_) (fun c211 => ?_)
                      · -- 211t
                        exact absurd ((b3 c186).2.2 (by omega)) c211
                      · -- 211f
                        refine sx_iconst dL_words_214 ?_
                        refine sx_goto (tgt := 219) dL_words_215 (by decide) ?_
                        refine sx_istore_n dL_words_219 (by decide) ?_
                        refine sx_iinc dL_words_220 rfl (by decide) ?_
                        refine sx_goto (tgt := 6) dL_words_223 (by decide) ?_
                        exact sx_forget 4 (sx_forget 5 (sx_forget 6 (ih6 _ (by omega) _ (w + 1) rfl (by omega) (by simp only [sumW]))))
        · -- 54f
          refine sx_aload_n dL_words_57 rfl ?_
          refine sx_iload dL_words_58 rfl ?_
          refine sx_iconst dL_words_60 ?_
          refine sx_callVi dL_words_61 ml_L_15 mv2_chipOf (pq_chipOf hP _ _ (by first | exact ⟨by decide, by decide⟩ | exact ⟨by omega, by omega⟩ | assumption | (with_reducible exact gfam_R hR hM _ _) | (with_reducible exact gword_R hR hM _ _)) (by first | exact ⟨by decide, by decide⟩ | exact ⟨by omega, by omega⟩ | assumption | (with_reducible exact gfam_R hR hM _ _) | (with_reducible exact gword_R hR hM _ _))) rfl am_obG rfl (Nat.le_of_ble_eq_true rfl) (Nat.le_of_ble_eq_true rfl) ?_
          refine sx_iconst dL_words_64 ?_
          refine sx_icmp_ne (tgt := 118) dL_words_65 (by decide) (by first | (with_reducible first | exact gfam_R hR hM _ _ | exact gchip_R hR hM _ _ | exact gword_R hR hM _ _ | exact gread_R hR _ | exact grow_R hR _ _ | exact hN _ | exact am_R_and _ _ | exact am_R_or _ _ | exact am_R_xor _ _ | exact aSum_R _ _ _ _) | assumption | exact ⟨by decide, by decide⟩ | exact ⟨by omega, by omega⟩) ⟨by decide, by decide⟩ (fun c65 => ?_) (fun c65 => ?_)
          · -- 65t
            exact absurd (b1 c54).1 c65
          · -- 65f
            refine sx_aload_n dL_words_68 rfl ?_
            refine sx_iload dL_words_69 rfl ?_
            refine sx_iconst dL_words_71 ?_
            refine sx_callVi dL_words_72 ml_L_15 mv2_chipOf (pq_chipOf hP _ _ (by first | exact ⟨by decide, by decide⟩ | exact ⟨by omega, by omega⟩ | assumption | (with_reducible exact gfam_R hR hM _ _) | (with_reducible exact gword_R hR hM _ _)) (by first | exact ⟨by decide, by decide⟩ | exact ⟨by omega, by omega⟩ | assumption | (with_reducible exact gfam_R hR hM _ _) | (with_reducible exact gword_R hR hM _ _))) rfl am_obG rfl (Nat.le_of_ble_eq_true rfl) (Nat.le_of_ble_eq_true rfl) ?_
            refine sx_if_ne (tgt := 118) dL_words_75 (by decide) (by first | (with_reducible first | exact gfam_R hR hM _ _ | exact gchip_R hR hM _ _ | exact gword_R hR hM _ _ | exact gread_R hR _ | exact grow_R hR _ _ | exact hN _ | exact am_R_and _ _ | exact am_R_or _ _ | exact am_R_xor _ _ | exact aSum_R _ _ _ _) | assumption | exact ⟨by decide, by decide⟩ | exact ⟨by omega, by omega⟩) (fun c75 => ?_) (fun c75 => ?_)
            · -- 75t
              exact absurd (b1 c54).2.1 c75
            · -- 75f
              refine sx_aload_n dL_words_78 rfl ?_
              refine sx_iload dL_words_79 rfl ?_
              refine sx_iload dL_words_81 rfl ?_
              refine sx_callVi dL_words_83 ml_L_29 mv2_rowOf (pq_rowOf hP _ _ (by first | exact ⟨by decide, by decide⟩ | exact ⟨by omega, by omega⟩ | assumption | (with_reducible exact gfam_R hR hM _ _) | (with_reducible exact gword_R hR hM _ _)) (by first | exact ⟨by decide, by decide⟩ | exact ⟨by omega, by omega⟩ | assumption | (with_reducible exact gfam_R hR hM _ _) | (with_reducible exact gword_R hR hM _ _))) rfl am_obG rfl (Nat.le_of_ble_eq_true rfl) (Nat.le_of_ble_eq_true rfl) ?_
              refine sx_iload_n dL_words_86 rfl ?_
              refine sx_icmp_ne (tgt := 118) dL_words_87 (by decide) (by first | (with_reducible first | exact gfam_R hR hM _ _ | exact gchip_R hR hM _ _ | exact gword_R hR hM _ _ | exact gread_R hR _ | exact grow_R hR _ _ | exact hN _ | exact am_R_and _ _ | exact am_R_or _ _ | exact am_R_xor _ _ | exact aSum_R _ _ _ _) | assumption | exact ⟨by decide, by decide⟩ | exact ⟨by omega, by omega⟩) (by first | (with_reducible first | exact gfam_R hR hM _ _ | exact gchip_R hR hM _ _ | exact gword_R hR hM _ _ | exact gread_R hR _ | exact grow_R hR _ _ | exact hN _ | exact am_R_and _ _ | exact am_R_or _ _ | exact am_R_xor _ _ | exact aSum_R _ _ _ _) | assumption | exact ⟨by decide, by decide⟩ | exact ⟨by omega, by omega⟩) (fun c87 => ?_) (fun c87 => ?_)
              · -- 87t
                exact absurd (b1 c54).2.2.1 c87
              · -- 87f
                refine sx_aload_n dL_words_90 rfl ?_
                refine sx_iload_n dL_words_91 rfl ?_
                refine sx_iconst dL_words_92 ?_
                refine sx_callVi dL_words_93 ml_L_23 mv2_wordOf (pq_wordOf hP _ _ (by first | exact ⟨by decide, by decide⟩ | exact ⟨by omega, by omega⟩ | assumption | (with_reducible exact gfam_R hR hM _ _) | (with_reducible exact gword_R hR hM _ _)) (by first | exact ⟨by decide, by decide⟩ | exact ⟨by omega, by omega⟩ | assumption | (with_reducible exact gfam_R hR hM _ _) | (with_reducible exact gword_R hR hM _ _))) rfl am_obG rfl (Nat.le_of_ble_eq_true rfl) (Nat.le_of_ble_eq_true rfl) ?_
                refine sx_aload_n dL_words_96 rfl ?_
                refine sx_iload dL_words_97 rfl ?_
                refine sx_iconst dL_words_99 ?_
                refine sx_callVi dL_words_100 ml_L_15 mv2_chipOf (pq_chipOf hP _ _ (by first | exact ⟨by decide, by decide⟩ | exact ⟨by omega, by omega⟩ | assumption | (with_reducible exact gfam_R hR hM _ _) | (with_reducible exact gword_R hR hM _ _)) (by first | exact ⟨by decide, by decide⟩ | exact ⟨by omega, by omega⟩ | assumption | (with_reducible exact gfam_R hR hM _ _) | (with_reducible exact gword_R hR hM _ _))) rfl am_obG rfl (Nat.le_of_ble_eq_true rfl) (Nat.le_of_ble_eq_true rfl) ?_
                refine sx_icmp_ne (tgt := 118) dL_words_103 (by decide) (by first | (with_reducible first | exact gfam_R hR hM _ _ | exact gchip_R hR hM _ _ | exact gword_R hR hM _ _ | exact gread_R hR _ | exact grow_R hR _ _ | exact hN _ | exact am_R_and _ _ | exact am_R_or _ _ | exact am_R_xor _ _ | exact aSum_R _ _ _ _) | assumption | exact ⟨by decide, by decide⟩ | exact ⟨by omega, by omega⟩) (by first | (with_reducible first | exact gfam_R hR hM _ _ | exact gchip_R hR hM _ _ | exact gword_R hR hM _ _ | exact gread_R hR _ | exact grow_R hR _ _ | exact hN _ | exact am_R_and _ _ | exact am_R_or _ _ | exact am_R_xor _ _ | exact aSum_R _ _ _ _) | assumption | exact ⟨by decide, by decide⟩ | exact ⟨by omega, by omega⟩) (fun c103 => ?_) (fun c103 => ?_)
                · -- 103t
                  exact absurd (b1 c54).2.2.2.1 c103
                · -- 103f
                  refine sx_aload_n dL_words_106 rfl ?_
                  refine sx_iload_n dL_words_107 rfl ?_
                  refine sx_callVi dL_words_108 ml_L_26 mv2_read (pq_read hP _ (by first | exact ⟨by decide, by decide⟩ | exact ⟨by omega, by omega⟩ | assumption | (with_reducible exact gfam_R hR hM _ _) | (with_reducible exact gword_R hR hM _ _))) rfl am_obG rfl (Nat.le_of_ble_eq_true rfl) (Nat.le_of_ble_eq_true rfl) ?_
                  refine sx_if_lt (tgt := 118) dL_words_111 (by decide) (by first | (with_reducible first | exact gfam_R hR hM _ _ | exact gchip_R hR hM _ _ | exact gword_R hR hM _ _ | exact gread_R hR _ | exact grow_R hR _ _ | exact hN _ | exact am_R_and _ _ | exact am_R_or _ _ | exact am_R_xor _ _ | exact aSum_R _ _ _ _) | assumption | exact ⟨by decide, by decide⟩ | exact ⟨by omega, by omega⟩) (fun c111 => ?_) (fun c111 => ?_)
                  · -- 111t
                    exact absurd (b1 c54).2.2.2.2 (by omega)
                  · -- 111f
                    refine sx_iconst dL_words_114 ?_
                    refine sx_goto (tgt := 119) dL_words_115 (by decide) ?_
                    refine sx_istore_n dL_words_119 (by decide) ?_
                    refine sx_goto (tgt := 179) dL_words_120 (by decide) ?_
                    refine sx_iload_n dL_words_179 rfl ?_
                    refine sx_if_eq (tgt := 218) dL_words_180 (by decide) ⟨by decide, by decide⟩ (fun q => absurd q (by decide)) (fun _ => ?_)
                    refine sx_iload dL_words_183 rfl ?_
                    refine sx_iconst dL_words_185 ?_
                    refine sx_icmp_ne (tgt := 214) dL_words_186 (by decide) (by first | (with_reducible first | exact gfam_R hR hM _ _ | exact gchip_R hR hM _ _ | exact gword_R hR hM _ _ | exact gread_R hR _ | exact grow_R hR _ _ | exact hN _ | exact am_R_and _ _ | exact am_R_or _ _ | exact am_R_xor _ _ | exact aSum_R _ _ _ _) | assumption | exact ⟨by decide, by decide⟩ | exact ⟨by omega, by omega⟩) ⟨by decide, by decide⟩ (fun c186 => ?_) (fun c186 => ?_)
                    · -- 186t
                      refine sx_iconst dL_words_214 ?_
                      refine sx_goto (tgt := 219) dL_words_215 (by decide) ?_
                      refine sx_istore_n dL_words_219 (by decide) ?_
                      refine sx_iinc dL_words_220 rfl (by decide) ?_
                      refine sx_goto (tgt := 6) dL_words_223 (by decide) ?_
                      exact sx_forget 4 (sx_forget 5 (sx_forget 6 (ih6 _ (by omega) _ (w + 1) rfl (by omega) (by simp only [sumW]))))
                    · -- 186f
                      refine sx_aload_n dL_words_189 rfl ?_
                      refine sx_iload_n dL_words_190 rfl ?_
                      refine sx_iconst dL_words_191 ?_
                      refine sx_callVi dL_words_192 ml_L_23 mv2_wordOf (pq_wordOf hP _ _ (by first | exact ⟨by decide, by decide⟩ | exact ⟨by omega, by omega⟩ | assumption | (with_reducible exact gfam_R hR hM _ _) | (with_reducible exact gword_R hR hM _ _)) (by first | exact ⟨by decide, by decide⟩ | exact ⟨by omega, by omega⟩ | assumption | (with_reducible exact gfam_R hR hM _ _) | (with_reducible exact gword_R hR hM _ _))) rfl am_obG rfl (Nat.le_of_ble_eq_true rfl) (Nat.le_of_ble_eq_true rfl) ?_
                      refine sx_if_gt (tgt := 214) dL_words_195 (by decide) (by first | (with_reducible first | exact gfam_R hR hM _ _ | exact gchip_R hR hM _ _ | exact gword_R hR hM _ _ | exact gread_R hR _ | exact grow_R hR _ _ | exact hN _ | exact am_R_and _ _ | exact am_R_or _ _ | exact am_R_xor _ _ | exact aSum_R _ _ _ _) | assumption | exact ⟨by decide, by decide⟩ | exact ⟨by omega, by omega⟩) (fun c195 => ?_) (fun c195 => ?_)
                      · -- 195t
                        refine sx_iconst dL_words_214 ?_
                        refine sx_goto (tgt := 219) dL_words_215 (by decide) ?_
                        refine sx_istore_n dL_words_219 (by decide) ?_
                        refine sx_iinc dL_words_220 rfl (by decide) ?_
                        refine sx_goto (tgt := 6) dL_words_223 (by decide) ?_
                        exact sx_forget 4 (sx_forget 5 (sx_forget 6 (ih6 _ (by omega) _ (w + 1) rfl (by omega) (by simp only [sumW]))))
                      · -- 195f
                        refine sx_aload_n dL_words_198 rfl ?_
                        refine sx_aload_n dL_words_199 rfl ?_
                        refine sx_iload_n dL_words_200 rfl ?_
                        refine sx_iconst dL_words_201 ?_
                        refine sx_callVi dL_words_202 ml_L_23 mv2_wordOf (pq_wordOf hP _ _ (by first | exact ⟨by decide, by decide⟩ | exact ⟨by omega, by omega⟩ | assumption | (with_reducible exact gfam_R hR hM _ _) | (with_reducible exact gword_R hR hM _ _)) (by first | exact ⟨by decide, by decide⟩ | exact ⟨by omega, by omega⟩ | assumption | (with_reducible exact gfam_R hR hM _ _) | (with_reducible exact gword_R hR hM _ _))) rfl am_obG rfl (Nat.le_of_ble_eq_true rfl) (Nat.le_of_ble_eq_true rfl) ?_
                        refine sx_bipush dL_words_205 rfl ?_
                        refine sx_callVi dL_words_207 ml_L_9 mv2_familyOf (pq_familyOf hP _ _ (by first | exact ⟨by decide, by decide⟩ | exact ⟨by omega, by omega⟩ | assumption | (with_reducible exact gfam_R hR hM _ _) | (with_reducible exact gword_R hR hM _ _)) (by first | exact ⟨by decide, by decide⟩ | exact ⟨by omega, by omega⟩ | assumption | (with_reducible exact gfam_R hR hM _ _) | (with_reducible exact gword_R hR hM _ _))) rfl am_obG rfl (Nat.le_of_ble_eq_true rfl) (Nat.le_of_ble_eq_true rfl) ?_
                        refine sx_iload_n dL_words_210 rfl ?_
                        refine sx_icmp_ne (tgt := 218) dL_words_211 (by decide) (by first | (with_reducible first | exact gfam_R hR hM _ _ | exact gchip_R hR hM _ _ | exact gword_R hR hM _ _ | exact gread_R hR _ | exact grow_R hR _ _ | exact hN _ | exact am_R_and _ _ | exact am_R_or _ _ | exact am_R_xor _ _ | exact aSum_R _ _ _ _) | assumption | exact ⟨by decide, by decide⟩ | exact ⟨by omega, by omega⟩) (by first | (with_reducible first | exact gfam_R hR hM _ _ | exact gchip_R hR hM _ _ | exact gword_R hR hM _ _ | exact gread_R hR _ | exact grow_R hR _ _ | exact hN _ | exact am_R_and _ _ | exact am_R_or _ _ | exact am_R_xor _ _ | exact aSum_R _ _ _ _) | assumption | exact ⟨by decide, by decide⟩ | exact ⟨by omega, by omega⟩) (fun c211 => ?_) (fun c211 => ?_)
                        · -- 211t
                          exact absurd ((b3 c186).2.2 (by omega)) c211
                        · -- 211f
                          refine sx_iconst dL_words_214 ?_
                          refine sx_goto (tgt := 219) dL_words_215 (by decide) ?_
                          refine sx_istore_n dL_words_219 (by decide) ?_
                          refine sx_iinc dL_words_220 rfl (by decide) ?_
                          refine sx_goto (tgt := 6) dL_words_223 (by decide) ?_
                          exact sx_forget 4 (sx_forget 5 (sx_forget 6 (ih6 _ (by omega) _ (w + 1) rfl (by omega) (by simp only [sumW]))))
  exact loop6 _ _ 0 rfl (by omega) rfl
set_option maxHeartbeats 4000000 in
set_option maxRecDepth 100000 in
theorem wrd_r {h : am_H} {S : Nat → Int} {n : Int} (hP : PH h S n) {R F c : Int} (hcR : am_R c) (k : Sx 3 YL_words h (some (.inl 1)) 295 [some (.inr (6, 0)), some (.inl R), some (.inl 1), some (.inl F), some (.inl c), some (.inl (aRow (gP h) c 6)), none] [] h) : Sx 3 YL_words h (some (.inl 1)) 251 [some (.inr (6, 0)), some (.inl R), some (.inl 1), some (.inl F), some (.inl c), some (.inl 0), some (.inl 0)] [] h := by
  refine sx_vh (fun hV => ?_)
  have hR : ∀ j k, am_R (gP h j k) := fun j k => hV.1 _ j k
  have hM := PH_WM hP
  have hN : ∀ k, am_R (gcnt (gP h) (h.1 6 0 4) (h.1 6 2 1) k) := fun k => gcnt_R hR hM (hV.1 6 0 4) (hV.1 6 2 1) k
  have h24 := hM.2.1
  have h8 := hM.1
  have n2 : (gcnt (gP h) (h.1 6 0 4) (h.1 6 2 1) 2) = gP h 0 2 := rfl
  have n0 : (gcnt (gP h) (h.1 6 0 4) (h.1 6 2 1) 0) = gP h 0 0 := rfl
  have loop251 : ∀ (n : Nat) (m : Int) (r : Nat), 6 - r = n → r ≤ 6 → m = aRow (gP h) c r → Sx 3 YL_words h (some (.inl 1)) 251 [some (.inr (6, 0)), some (.inl R), some (.inl 1), some (.inl F), some (.inl c), some (.inl m), some (.inl (r : Int))] [] h := by
    intro n
    induction n using Nat.strongRecOn with
    | _ n ih251 =>
      intro m r hn hle hs
      subst hs
      refine sx_iload dL_words_251 rfl ?_
      refine sx_bipush dL_words_253 rfl ?_
      refine sx_icmp_ge (tgt := 295) dL_words_255 (by decide) (by first | (with_reducible first | exact gfam_R hR hM _ _ | exact gchip_R hR hM _ _ | exact gword_R hR hM _ _ | exact gread_R hR _ | exact grow_R hR _ _ | exact hN _ | exact am_R_and _ _ | exact am_R_or _ _ | exact am_R_xor _ _ | exact aSum_R _ _ _ _) | assumption | exact ⟨by decide, by decide⟩ | exact ⟨by omega, by omega⟩) ⟨by decide, by decide⟩ (fun c255 => ?_) (fun c255 => ?_)
      · -- 255t
        have er : r = 6 := by omega
        subst er
        exact sx_forget 6 k
      · -- 255f
        refine sx_iload dL_words_258 rfl ?_
        refine sx_aload_n dL_words_260 rfl ?_
        refine sx_iload dL_words_261 rfl ?_
        refine sx_iconst dL_words_263 ?_
        refine sx_callVi dL_words_264 ml_L_15 mv2_chipOf (pq_chipOf hP _ _ (by first | exact ⟨by decide, by decide⟩ | exact ⟨by omega, by omega⟩ | assumption | (with_reducible exact gfam_R hR hM _ _) | (with_reducible exact gword_R hR hM _ _)) (by first | exact ⟨by decide, by decide⟩ | exact ⟨by omega, by omega⟩ | assumption | (with_reducible exact gfam_R hR hM _ _) | (with_reducible exact gword_R hR hM _ _))) rfl am_obG rfl (Nat.le_of_ble_eq_true rfl) (Nat.le_of_ble_eq_true rfl) ?_
        refine sx_if_ne (tgt := 285) dL_words_267 (by decide) (by first | (with_reducible first | exact gfam_R hR hM _ _ | exact gchip_R hR hM _ _ | exact gword_R hR hM _ _ | exact gread_R hR _ | exact grow_R hR _ _ | exact hN _ | exact am_R_and _ _ | exact am_R_or _ _ | exact am_R_xor _ _ | exact aSum_R _ _ _ _) | assumption | exact ⟨by decide, by decide⟩ | exact ⟨by omega, by omega⟩) (fun c267 => ?_) (fun c267 => ?_)
        · -- 267t
          refine sx_iconst dL_words_285 ?_
          refine sx_iadd dL_words_286 ?_
          refine sx_istore dL_words_287 (by decide) ?_
          refine sx_iinc dL_words_289 rfl (by decide) ?_
          refine sx_goto (tgt := 251) dL_words_292 (by decide) ?_
          exact ih251 _ (by omega) _ (r + 1) rfl (by omega) (by simp only [aRow, if_pos c255, if_neg (Int.not_le.mpr c255), if_neg c267])
        · -- 267f
          refine sx_aload_n dL_words_270 rfl ?_
          refine sx_iload dL_words_271 rfl ?_
          refine sx_iload dL_words_273 rfl ?_
          refine sx_callVi dL_words_275 ml_L_29 mv2_rowOf (pq_rowOf hP _ _ (by first | exact ⟨by decide, by decide⟩ | exact ⟨by omega, by omega⟩ | assumption | (with_reducible exact gfam_R hR hM _ _) | (with_reducible exact gword_R hR hM _ _)) (by first | exact ⟨by decide, by decide⟩ | exact ⟨by omega, by omega⟩ | assumption | (with_reducible exact gfam_R hR hM _ _) | (with_reducible exact gword_R hR hM _ _))) rfl am_obG rfl (Nat.le_of_ble_eq_true rfl) (Nat.le_of_ble_eq_true rfl) ?_
          refine sx_if_lt (tgt := 285) dL_words_278 (by decide) (by first | (with_reducible first | exact gfam_R hR hM _ _ | exact gchip_R hR hM _ _ | exact gword_R hR hM _ _ | exact gread_R hR _ | exact grow_R hR _ _ | exact hN _ | exact am_R_and _ _ | exact am_R_or _ _ | exact am_R_xor _ _ | exact aSum_R _ _ _ _) | assumption | exact ⟨by decide, by decide⟩ | exact ⟨by omega, by omega⟩) (fun c278 => ?_) (fun c278 => ?_)
          · -- 278t
            refine sx_iconst dL_words_285 ?_
            refine sx_iadd dL_words_286 ?_
            refine sx_istore dL_words_287 (by decide) ?_
            refine sx_iinc dL_words_289 rfl (by decide) ?_
            refine sx_goto (tgt := 251) dL_words_292 (by decide) ?_
            exact ih251 _ (by omega) _ (r + 1) rfl (by omega) (by simp only [aRow, if_pos c255, if_neg (Int.not_le.mpr c255), if_pos c267, if_pos c278, if_neg (Int.not_le.mpr c278)])
          · -- 278f
            refine sx_iconst dL_words_281 ?_
            refine sx_goto (tgt := 286) dL_words_282 (by decide) ?_
            refine sx_iadd dL_words_286 ?_
            refine sx_istore dL_words_287 (by decide) ?_
            refine sx_iinc dL_words_289 rfl (by decide) ?_
            refine sx_goto (tgt := 251) dL_words_292 (by decide) ?_
            exact ih251 _ (by omega) _ (r + 1) rfl (by omega) (by simp only [aRow, if_pos c255, if_neg (Int.not_le.mpr c255), if_pos c267, if_pos c278, if_neg (Int.not_lt.mpr c278)])
  exact loop251 _ _ 0 rfl (by omega) rfl
set_option maxHeartbeats 4000000 in
set_option maxRecDepth 100000 in
theorem wrd_c {h : am_H} {S : Nat → Int} {n : Int} (hP : PH h S n) {R : Int} (k : Sx 3 YL_words h (some (.inl 1)) 368 [some (.inr (6, 0)), some (.inl R), some (.inl 1), some (.inl (gcnt (gP h) (h.1 6 0 4) (h.1 6 2 1) 9)), none, none, none] [] h) : Sx 3 YL_words h (some (.inl 1)) 231 [some (.inr (6, 0)), some (.inl R), some (.inl 1), some (.inl 0), some (.inl 0), none, none] [] h := by
  refine sx_vh (fun hV => ?_)
  have hR : ∀ j k, am_R (gP h j k) := fun j k => hV.1 _ j k
  have hM := PH_WM hP
  have hN : ∀ k, am_R (gcnt (gP h) (h.1 6 0 4) (h.1 6 2 1) k) := fun k => gcnt_R hR hM (hV.1 6 0 4) (hV.1 6 2 1) k
  have h24 := hM.2.1
  have h8 := hM.1
  have n2 : (gcnt (gP h) (h.1 6 0 4) (h.1 6 2 1) 2) = gP h 0 2 := rfl
  have n0 : (gcnt (gP h) (h.1 6 0 4) (h.1 6 2 1) 0) = gP h 0 0 := rfl
  have loop231 : ∀ (n : Nat) (F : Int) (c : Nat), (gP h 0 0 - c).toNat = n → (c : Int) ≤ gP h 0 0 → F = sumW (fun c => gchip (gP h) c 4) c → Sx 3 YL_words h (some (.inl 1)) 231 [some (.inr (6, 0)), some (.inl R), some (.inl 1), some (.inl F), some (.inl (c : Int)), none, none] [] h := by
    intro n
    induction n using Nat.strongRecOn with
    | _ n ih231 =>
      intro F c hn hle hs
      subst hs
      refine sx_iload dL_words_231 rfl ?_
      refine sx_aload_n dL_words_233 rfl ?_
      refine sx_iconst dL_words_234 ?_
      refine sx_callVi dL_words_235 ml_L_19 mv2_count (pq_count hP _ (by first | exact ⟨by decide, by decide⟩ | exact ⟨by omega, by omega⟩ | assumption | (with_reducible exact gfam_R hR hM _ _) | (with_reducible exact gword_R hR hM _ _))) rfl am_obG rfl (Nat.le_of_ble_eq_true rfl) (Nat.le_of_ble_eq_true rfl) ?_
      refine sx_icmp_ge (tgt := 368) dL_words_238 (by decide) (by first | (with_reducible first | exact gfam_R hR hM _ _ | exact gchip_R hR hM _ _ | exact gword_R hR hM _ _ | exact gread_R hR _ | exact grow_R hR _ _ | exact hN _ | exact am_R_and _ _ | exact am_R_or _ _ | exact am_R_xor _ _ | exact aSum_R _ _ _ _) | assumption | exact ⟨by decide, by decide⟩ | exact ⟨by omega, by omega⟩) (by first | (with_reducible first | exact gfam_R hR hM _ _ | exact gchip_R hR hM _ _ | exact gword_R hR hM _ _ | exact gread_R hR _ | exact grow_R hR _ _ | exact hN _ | exact am_R_and _ _ | exact am_R_or _ _ | exact am_R_xor _ _ | exact aSum_R _ _ _ _) | assumption | exact ⟨by decide, by decide⟩ | exact ⟨by omega, by omega⟩) (fun c238 => ?_) (fun c238 => ?_)
      · -- 238t
        have ec : c = (gP h 0 0).toNat := by omega
        subst ec
        obtain ⟨-, e9⟩ := WA_n hP.2 (h.1 6 0 4) (h.1 6 2 1)
        rw [← e9]
        exact sx_forget 4 k
      · -- 238f
        have hc : 0 ≤ (c : Int) ∧ (c : Int) < gP h 0 0 := by omega
        obtain ⟨b1, b2, b3⟩ := WA_c hP.2 hc
        have hb := aRow_b (gP h) c 6
        have h4 : 0 ≤ gchip (gP h) c 4 := by rw [gchip_4 hc]; exact (ybc_b _).1
        refine sx_iload_n dL_words_241 rfl ?_
        refine sx_if_eq (tgt := 368) dL_words_242 (by decide) ⟨by decide, by decide⟩ (fun q => absurd q (by decide)) (fun _ => ?_)
        refine sx_iconst dL_words_245 ?_
        refine sx_istore dL_words_246 (by decide) ?_
        refine sx_iconst dL_words_248 ?_
        refine sx_istore dL_words_249 (by decide) ?_
        refine wrd_r hP ⟨by omega, by omega⟩ ?_
        refine sx_iload_n dL_words_295 rfl ?_
        refine sx_aload_n dL_words_296 rfl ?_
        refine sx_iload dL_words_297 rfl ?_
        refine sx_iconst dL_words_299 ?_
        refine sx_callVi dL_words_300 ml_L_15 mv2_chipOf (pq_chipOf hP _ _ (by first | exact ⟨by decide, by decide⟩ | exact ⟨by omega, by omega⟩ | assumption | (with_reducible exact gfam_R hR hM _ _) | (with_reducible exact gword_R hR hM _ _)) (by first | exact ⟨by decide, by decide⟩ | exact ⟨by omega, by omega⟩ | assumption | (with_reducible exact gfam_R hR hM _ _) | (with_reducible exact gword_R hR hM _ _))) rfl am_obG rfl (Nat.le_of_ble_eq_true rfl) (Nat.le_of_ble_eq_true rfl) ?_
        refine sx_iadd dL_words_303 ?_
        refine sx_istore_n dL_words_304 (by decide) ?_
        refine sx_aload_n dL_words_305 rfl ?_
        refine sx_iload dL_words_306 rfl ?_
        refine sx_iconst dL_words_308 ?_
        refine sx_callVi dL_words_309 ml_L_15 mv2_chipOf (pq_chipOf hP _ _ (by first | exact ⟨by decide, by decide⟩ | exact ⟨by omega, by omega⟩ | assumption | (with_reducible exact gfam_R hR hM _ _) | (with_reducible exact gword_R hR hM _ _)) (by first | exact ⟨by decide, by decide⟩ | exact ⟨by omega, by omega⟩ | assumption | (with_reducible exact gfam_R hR hM _ _) | (with_reducible exact gword_R hR hM _ _))) rfl am_obG rfl (Nat.le_of_ble_eq_true rfl) (Nat.le_of_ble_eq_true rfl) ?_
        refine sx_iload dL_words_312 rfl ?_
        refine sx_icmp_ne (tgt := 360) dL_words_314 (by decide) (by first | (with_reducible first | exact gfam_R hR hM _ _ | exact gchip_R hR hM _ _ | exact gword_R hR hM _ _ | exact gread_R hR _ | exact grow_R hR _ _ | exact hN _ | exact am_R_and _ _ | exact am_R_or _ _ | exact am_R_xor _ _ | exact aSum_R _ _ _ _) | assumption | exact ⟨by decide, by decide⟩ | exact ⟨by omega, by omega⟩) (by first | (with_reducible first | exact gfam_R hR hM _ _ | exact gchip_R hR hM _ _ | exact gword_R hR hM _ _ | exact gread_R hR _ | exact grow_R hR _ _ | exact hN _ | exact am_R_and _ _ | exact am_R_or _ _ | exact am_R_xor _ _ | exact aSum_R _ _ _ _) | assumption | exact ⟨by decide, by decide⟩ | exact ⟨by omega, by omega⟩) (fun c314 => ?_) (fun c314 => ?_)
        · -- 314t
          exact absurd b1 c314
        · -- 314f
          refine sx_iload dL_words_317 rfl ?_
          refine sx_aload_n dL_words_319 rfl ?_
          refine sx_iload dL_words_320 rfl ?_
          refine sx_iconst dL_words_322 ?_
          refine sx_callVi dL_words_323 ml_L_15 mv2_chipOf (pq_chipOf hP _ _ (by first | exact ⟨by decide, by decide⟩ | exact ⟨by omega, by omega⟩ | assumption | (with_reducible exact gfam_R hR hM _ _) | (with_reducible exact gword_R hR hM _ _)) (by first | exact ⟨by decide, by decide⟩ | exact ⟨by omega, by omega⟩ | assumption | (with_reducible exact gfam_R hR hM _ _) | (with_reducible exact gword_R hR hM _ _))) rfl am_obG rfl (Nat.le_of_ble_eq_true rfl) (Nat.le_of_ble_eq_true rfl) ?_
          refine sx_iadd dL_words_326 ?_
          refine sx_bipush dL_words_327 rfl ?_
          refine sx_icmp_gt (tgt := 360) dL_words_329 (by decide) (by first | (with_reducible first | exact gfam_R hR hM _ _ | exact gchip_R hR hM _ _ | exact gword_R hR hM _ _ | exact gread_R hR _ | exact grow_R hR _ _ | exact hN _ | exact am_R_and _ _ | exact am_R_or _ _ | exact am_R_xor _ _ | exact aSum_R _ _ _ _) | assumption | exact ⟨by decide, by decide⟩ | exact ⟨by omega, by omega⟩) ⟨by decide, by decide⟩ (fun c329 => ?_) (fun c329 => ?_)
          · -- 329t
            exfalso; omega
          · -- 329f
            refine sx_aload_n dL_words_332 rfl ?_
            refine sx_iload dL_words_333 rfl ?_
            refine sx_iconst dL_words_335 ?_
            refine sx_callVi dL_words_336 ml_L_15 mv2_chipOf (pq_chipOf hP _ _ (by first | exact ⟨by decide, by decide⟩ | exact ⟨by omega, by omega⟩ | assumption | (with_reducible exact gfam_R hR hM _ _) | (with_reducible exact gword_R hR hM _ _)) (by first | exact ⟨by decide, by decide⟩ | exact ⟨by omega, by omega⟩ | assumption | (with_reducible exact gfam_R hR hM _ _) | (with_reducible exact gword_R hR hM _ _))) rfl am_obG rfl (Nat.le_of_ble_eq_true rfl) (Nat.le_of_ble_eq_true rfl) ?_
            refine sx_iconst dL_words_339 ?_
            refine sx_icmp_eq (tgt := 356) dL_words_340 (by decide) (by first | (with_reducible first | exact gfam_R hR hM _ _ | exact gchip_R hR hM _ _ | exact gword_R hR hM _ _ | exact gread_R hR _ | exact grow_R hR _ _ | exact hN _ | exact am_R_and _ _ | exact am_R_or _ _ | exact am_R_xor _ _ | exact aSum_R _ _ _ _) | assumption | exact ⟨by decide, by decide⟩ | exact ⟨by omega, by omega⟩) ⟨by decide, by decide⟩ (fun c340 => ?_) (fun c340 => ?_)
            · -- 340t
              refine sx_iconst dL_words_356 ?_
              refine sx_goto (tgt := 361) dL_words_357 (by decide) ?_
              refine sx_istore_n dL_words_361 (by decide) ?_
              refine sx_iinc dL_words_362 rfl (by decide) ?_
              refine sx_goto (tgt := 231) dL_words_365 (by decide) ?_
              exact sx_forget 5 (sx_forget 6 (ih231 _ (by omega) _ (c + 1) rfl (by omega) (by simp only [sumW])))
            · -- 340f
              refine sx_iload dL_words_343 rfl ?_
              refine sx_aload_n dL_words_345 rfl ?_
              refine sx_iload dL_words_346 rfl ?_
              refine sx_iconst dL_words_348 ?_
              refine sx_callVi dL_words_349 ml_L_15 mv2_chipOf (pq_chipOf hP _ _ (by first | exact ⟨by decide, by decide⟩ | exact ⟨by omega, by omega⟩ | assumption | (with_reducible exact gfam_R hR hM _ _) | (with_reducible exact gword_R hR hM _ _)) (by first | exact ⟨by decide, by decide⟩ | exact ⟨by omega, by omega⟩ | assumption | (with_reducible exact gfam_R hR hM _ _) | (with_reducible exact gword_R hR hM _ _))) rfl am_obG rfl (Nat.le_of_ble_eq_true rfl) (Nat.le_of_ble_eq_true rfl) ?_
              refine sx_iadd dL_words_352 ?_
              refine sx_if_ne (tgt := 360) dL_words_353 (by decide) (by first | (with_reducible first | exact gfam_R hR hM _ _ | exact gchip_R hR hM _ _ | exact gword_R hR hM _ _ | exact gread_R hR _ | exact grow_R hR _ _ | exact hN _ | exact am_R_and _ _ | exact am_R_or _ _ | exact am_R_xor _ _ | exact aSum_R _ _ _ _) | assumption | exact ⟨by decide, by decide⟩ | exact ⟨by omega, by omega⟩) (fun c353 => ?_) (fun c353 => ?_)
              · -- 353t
                exact absurd (b3.resolve_left c340) c353
              · -- 353f
                refine sx_iconst dL_words_356 ?_
                refine sx_goto (tgt := 361) dL_words_357 (by decide) ?_
                refine sx_istore_n dL_words_361 (by decide) ?_
                refine sx_iinc dL_words_362 rfl (by decide) ?_
                refine sx_goto (tgt := 231) dL_words_365 (by decide) ?_
                exact sx_forget 5 (sx_forget 6 (ih231 _ (by omega) _ (c + 1) rfl (by omega) (by simp only [sumW])))
  exact loop231 _ _ 0 rfl (by omega) rfl
set_option maxHeartbeats 4000000 in
set_option maxRecDepth 100000 in
theorem pl_words {h : am_H} {S : Nat → Int} {n : Int} (hP : PH h S n)  : Ct 3 YL_words [.inr (6, 0)] (some (.inl 1)) h h := by
  refine Ct_of (by decide +kernel) (Nat.le_of_ble_eq_true rfl) ?_
  show Sx 3 YL_words h (some (.inl 1)) 0 [some (.inr (6, 0)), none, none, none, none, none, none] [] h
  refine sx_vh (fun hV => ?_)
  have hR : ∀ j k, am_R (gP h j k) := fun j k => hV.1 _ j k
  have hM := PH_WM hP
  have hN : ∀ k, am_R (gcnt (gP h) (h.1 6 0 4) (h.1 6 2 1) k) := fun k => gcnt_R hR hM (hV.1 6 0 4) (hV.1 6 2 1) k
  have h24 := hM.2.1
  have h8 := hM.1
  have n2 : (gcnt (gP h) (h.1 6 0 4) (h.1 6 2 1) 2) = gP h 0 2 := rfl
  have n0 : (gcnt (gP h) (h.1 6 0 4) (h.1 6 2 1) 0) = gP h 0 0 := rfl
  refine sx_iconst dL_words_0 ?_
  refine sx_istore_n dL_words_1 (by decide) ?_
  refine sx_iconst dL_words_2 ?_
  refine sx_istore_n dL_words_3 (by decide) ?_
  refine sx_iconst dL_words_4 ?_
  refine sx_istore_n dL_words_5 (by decide) ?_
  refine wrd_w hP ?_
  refine sx_iconst dL_words_226 ?_
  refine sx_istore_n dL_words_227 (by decide) ?_
  refine sx_iconst dL_words_228 ?_
  refine sx_istore dL_words_229 (by decide) ?_
  refine wrd_c hP ?_
  refine sx_iload_n dL_words_368 rfl ?_
  refine sx_if_eq (tgt := 396) dL_words_369 (by decide) ⟨by decide, by decide⟩ (fun q => absurd q (by decide)) (fun _ => ?_)
  refine sx_aload_n dL_words_372 rfl ?_
  refine sx_bipush dL_words_373 rfl ?_
  refine sx_callVi dL_words_375 ml_L_19 mv2_count (pq_count hP _ (by first | exact ⟨by decide, by decide⟩ | exact ⟨by omega, by omega⟩ | assumption | (with_reducible exact gfam_R hR hM _ _) | (with_reducible exact gword_R hR hM _ _))) rfl am_obG rfl (Nat.le_of_ble_eq_true rfl) (Nat.le_of_ble_eq_true rfl) ?_
  refine sx_iload_n dL_words_378 rfl ?_
  refine sx_icmp_ne (tgt := 396) dL_words_379 (by decide) (by first | (with_reducible first | exact gfam_R hR hM _ _ | exact gchip_R hR hM _ _ | exact gword_R hR hM _ _ | exact gread_R hR _ | exact grow_R hR _ _ | exact hN _ | exact am_R_and _ _ | exact am_R_or _ _ | exact am_R_xor _ _ | exact aSum_R _ _ _ _) | assumption | exact ⟨by decide, by decide⟩ | exact ⟨by omega, by omega⟩) (by first | (with_reducible first | exact gfam_R hR hM _ _ | exact gchip_R hR hM _ _ | exact gword_R hR hM _ _ | exact gread_R hR _ | exact grow_R hR _ _ | exact hN _ | exact am_R_and _ _ | exact am_R_or _ _ | exact am_R_xor _ _ | exact aSum_R _ _ _ _) | assumption | exact ⟨by decide, by decide⟩ | exact ⟨by omega, by omega⟩) (fun c379 => ?_) (fun c379 => ?_)
  · -- 379t
    exact absurd rfl c379
  · -- 379f
    refine sx_aload_n dL_words_382 rfl ?_
    refine sx_bipush dL_words_383 rfl ?_
    refine sx_callVi dL_words_385 ml_L_19 mv2_count (pq_count hP _ (by first | exact ⟨by decide, by decide⟩ | exact ⟨by omega, by omega⟩ | assumption | (with_reducible exact gfam_R hR hM _ _) | (with_reducible exact gword_R hR hM _ _))) rfl am_obG rfl (Nat.le_of_ble_eq_true rfl) (Nat.le_of_ble_eq_true rfl) ?_
    refine sx_iload_n dL_words_388 rfl ?_
    refine sx_icmp_ne (tgt := 396) dL_words_389 (by decide) (by first | (with_reducible first | exact gfam_R hR hM _ _ | exact gchip_R hR hM _ _ | exact gword_R hR hM _ _ | exact gread_R hR _ | exact grow_R hR _ _ | exact hN _ | exact am_R_and _ _ | exact am_R_or _ _ | exact am_R_xor _ _ | exact aSum_R _ _ _ _) | assumption | exact ⟨by decide, by decide⟩ | exact ⟨by omega, by omega⟩) (by first | (with_reducible first | exact gfam_R hR hM _ _ | exact gchip_R hR hM _ _ | exact gword_R hR hM _ _ | exact gread_R hR _ | exact grow_R hR _ _ | exact hN _ | exact am_R_and _ _ | exact am_R_or _ _ | exact am_R_xor _ _ | exact aSum_R _ _ _ _) | assumption | exact ⟨by decide, by decide⟩ | exact ⟨by omega, by omega⟩) (fun c389 => ?_) (fun c389 => ?_)
    · -- 389t
      exact absurd rfl c389
    · -- 389f
      refine sx_iconst dL_words_392 ?_
      refine sx_goto (tgt := 397) dL_words_393 (by decide) ?_
      exact sx_zret dL_words_397 rfl (by decide) rfl rfl
