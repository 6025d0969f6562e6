theorem xemS_false {S T : Nat → Int} {c nn : Int} {row : Nat} (he : xemS S c row = (T, nn, false)) (h : row ≤ 6) : xemS S c 6 = (T, nn, false) := by
  have key : ∀ n, xemS S c (row + n) = (T, nn, false) := by
    intro n
    induction n with
    | zero => exact he
    | succ n ih =>
      show xemS S c ((row + n) + 1) = _
      simp only [xemS, ih]
      simp
  have := key (6 - row)
  rwa [show row + (6 - row) = 6 by omega] at this
set_option maxHeartbeats 4000000 in
set_option maxRecDepth 100000 in
theorem tx_empties {h0 : am_H} {X : am_M} {S : Nat → Int} (c : Int) (hW : WX S) (hc : am_R c)  : Ct 6 Y3_empties [.inr (7, 0), .inl c] (some (.inl (xempt S c).1)) (xh h0 X S) (xh h0 (xemX X S c) (xempt S c).2) := by
  refine Ct_of (by decide +kernel) (Nat.le_of_ble_eq_true rfl) ?_
  show Sx 6 Y3_empties (xh h0 (xemX X S c) (xempt S c).2) (some (.inl (xempt S c).1)) 0 [some (.inr (7, 0)), some (.inl c), none, none, none, none, none] [] (xh h0 X S)
  refine xs_vh (fun hR hRX => ?_)
  obtain ⟨w0, w1, wg, wf, wo⟩ := id hW
  refine sx_aload_n dX3_empties_0 rfl ?_
  refine sx_iload_n dX3_empties_1 rfl ?_
  refine sx_callVi dX3_empties_2 ml_X3_90 mv3_isChip (tx_isChip _ hW (by first | omega | assumption | (with_reducible first | exact hR _ | exact xwd_R hR _ _ | exact xch_R hR _ _ | exact am_R_and _ _ | exact am_R_or _ _ | exact am_R_xor _ _ | exact am_R_shl _ _ | exact am_R_shr _ _ | exact bit_R _ _ | exact xpls_R _ _ | exact xkept_R hW _ _ | exact xwait_R hW _ _ | exact xwords_R _ _) | (exact ⟨by omega, by omega⟩) | exact wf _ (by omega) (by omega) | exact wg _ (by omega) (by omega))) rfl am_obX rfl (Nat.le_of_ble_eq_true rfl) (Nat.le_of_ble_eq_true rfl) ?_
  refine sx_ifB_ne (tgt := 11) dX3_empties_5 (by decide) (fun c5 => ?_) (fun c5 => ?_)
  · -- 5t
    have hc8 : 0 ≤ c ∧ c < 8 := ⟨c5.1, by omega⟩
    refine sx_aload_n dX3_empties_11 rfl ?_
    refine sx_iload_n dX3_empties_12 rfl ?_
    refine sx_callVi dX3_empties_13 ml_X3_52 mv3_lives (tx_lives _ hc8) rfl am_obX rfl (Nat.le_of_ble_eq_true rfl) (Nat.le_of_ble_eq_true rfl) ?_
    refine sx_ifB_eq (tgt := 27) dX3_empties_16 (by decide) (fun c16 => ?_) (fun c16 => ?_)
    · -- 16t
      refine sx_ldc dX3_empties_27 kc_X3_96 ?_
      exact sx_iret dX3_empties_29 rfl (by unfold xempt; (repeat' split) <;> first | contradiction | (exfalso; omega) | rfl | (simp_all; done)) (by unfold xempt xemX; (repeat' split) <;> first | contradiction | (exfalso; omega) | rfl | (simp_all; done))
    · -- 16f
      refine sx_aload_n dX3_empties_19 rfl ?_
      refine sx_iload_n dX3_empties_20 rfl ?_
      refine sx_callVi dX3_empties_21 ml_X3_56 mv3_isGodfather (tx_isGodfather _ hW hc8 hc) rfl am_obX rfl (Nat.le_of_ble_eq_true rfl) (Nat.le_of_ble_eq_true rfl) ?_
      refine sx_ifB_eq (tgt := 30) dX3_empties_24 (by decide) (fun c24 => ?_) (fun c24 => ?_)
      · -- 24t
        refine sx_iconst dX3_empties_30 ?_
        refine sx_istore_n dX3_empties_31 (by decide) ?_
        have loop32 : ∀ (n : Nat) (k : Nat), (208 - k) = n → k ≤ 208 → Sx 6 Y3_empties (xh h0 (xemX X S c) (xempt S c).2) (some (.inl (xempt S c).1)) 32 [some (.inr (7, 0)), some (.inl c), some (.inl (k : Int)), none, none, none, none] [] (xh h0 (am_u3 X 5 (am_mix S (X 5) k)) S) := by
          intro n
          induction n using Nat.strongRecOn with
          | _ n ih32 =>
            intro k hn32 hle32
            refine sx_iload_n dX3_empties_32 rfl ?_
            refine sx_sipush dX3_empties_33 rfl ?_
            refine sx_icmp_ge (tgt := 57) dX3_empties_36 (by decide) (by first | omega | assumption | (with_reducible first | exact hRT _ | exact xwd_R hRT _ _ | exact xch_R hRT _ _ | exact am_R_xor _ _ | exact am_R_or _ _ | exact xkept_R hWT _ _ | exact xwait_R hWT _ _ | exact xpls_R _ _ | exact xwords_R _ _) | (exact ⟨by omega, by omega⟩)) ⟨by decide, by decide⟩ (fun c36 => ?_) (fun c36 => ?_)
            · -- 36t
              obtain rfl : k = 208 := by omega
              refine xs_simo (G := S) (fun i hi => (if_pos hi).symm) (by decide) (fun h _ => h) (by decide) ?_
              refine sx_iconst dX3_empties_57 ?_
              refine sx_istore_n dX3_empties_58 (by decide) ?_
              refine sx_iconst dX3_empties_59 ?_
              refine sx_istore_n dX3_empties_60 (by decide) ?_
              refine sx_iconst dX3_empties_61 ?_
              refine sx_istore dX3_empties_62 (by decide) ?_
              have loop64 : ∀ (n : Nat) (row : Nat) (T : Nat → Int) (nn : Int) (b : Bool), (6 - row) = n → row ≤ 6 → xemS S c row = (T, nn, b) → Sx 6 Y3_empties (xh h0 (xemX X S c) (xempt S c).2) (some (.inl (xempt S c).1)) 64 [some (.inr (7, 0)), some (.inl c), some (.inl nn), some (.inl (if b = true then 1 else 0)), some (.inl (row : Int)), none, none] [] (xh h0 (am_u3 X 5 S) T) := by
                intro n
                induction n using Nat.strongRecOn with
                | _ n ih64 =>
                  intro row T nn b hn hle he
                  obtain ⟨hWT, hT0, hT1⟩ := WX_emS (c := c) hW row
                  rw [he] at hWT hT0 hT1
                  replace hWT : WX T := hWT
                  replace hT0 : T 0 = S 0 := hT0
                  refine xs_vh (fun hRT _ => ?_)
                  obtain ⟨-, -, -, wfT, -⟩ := id hWT
                  have hkb := xkept_b hWT c row
                  have htb := xtarget_b hWT (xch T c 0) c
                  obtain ⟨hft0, hft2⟩ := wfT c hc8.1 hc8.2
                  refine sx_iload dX3_empties_64 rfl ?_
                  refine sx_bipush dX3_empties_66 rfl ?_
                  refine sx_icmp_ge (tgt := 150) dX3_empties_68 (by decide) (by first | omega | assumption | (with_reducible first | exact hRT _ | exact xwd_R hRT _ _ | exact xch_R hRT _ _ | exact am_R_xor _ _ | exact am_R_or _ _ | exact xkept_R hWT _ _ | exact xwait_R hWT _ _ | exact xpls_R _ _ | exact xwords_R _ _) | (exact ⟨by omega, by omega⟩)) ⟨by decide, by decide⟩ (fun c68 => ?_) (fun c68 => ?_)
                  · -- 68t
                    refine sx_iconst dX3_empties_150 ?_
                    refine sx_istore dX3_empties_151 (by decide) ?_
                    have loop153 : ∀ (n : Nat) (k : Nat), (208 - k) = n → k ≤ 208 → (b = true → k = 0) → Sx 6 Y3_empties (xh h0 (xemX X S c) (xempt S c).2) (some (.inl (xempt S c).1)) 153 [some (.inr (7, 0)), some (.inl c), some (.inl nn), some (.inl (if b = true then 1 else 0)), some (.inl (k : Int)), none, none] [] (xh h0 (am_u3 X 5 S) (xemR b S T k)) := by
                      intro n
                      induction n using Nat.strongRecOn with
                      | _ n ih153 =>
                        intro k hn9 hle9 hb9
                        refine sx_iload dX3_empties_153 rfl ?_
                        refine sx_sipush dX3_empties_155 rfl ?_
                        refine sx_icmp_ge (tgt := 185) dX3_empties_158 (by decide) (by first | omega | assumption | (with_reducible first | exact hRT _ | exact xwd_R hRT _ _ | exact xch_R hRT _ _ | exact am_R_xor _ _ | exact am_R_or _ _ | exact xkept_R hWT _ _ | exact xwait_R hWT _ _ | exact xpls_R _ _ | exact xwords_R _ _) | (exact ⟨by omega, by omega⟩)) ⟨by decide, by decide⟩ (fun c158 => ?_) (fun c158 => ?_)
                        · -- 158t
                          have h6 : xemS S c 6 = (T, nn, b) := by
                            first
                            | (have hr6 : row = 6 := (by omega); rw [← hr6]; exact he)
                            | (have hbf : b = false := (by simpa using c72); subst hbf; exact xemS_false he (by omega))
                          refine sx_heq (xh h0 (am_u3 X 5 S) (xemR b S T k)) rfl ?_
                          refine sx_iload_n dX3_empties_185 rfl ?_
                          refine sx_ifB_eq (tgt := 193) dX3_empties_186 (by decide) (fun c186 => ?_) (fun c186 => ?_)
                          · -- 186t
                            have hbf : b = false := by simpa using c186
                            have hk9 : k = 208 := by first | omega | (exfalso; contradiction)
                            subst hk9 hbf
                            refine xs_sims (G := S) (fun i hi => (if_pos hi).symm) (fun _ _ => hR) ?_
                            refine sx_heq (xh h0 (xemX X S c) (xempt S c).2) (by unfold xempt xemX; simp only [h6]; (repeat' split) <;> first | contradiction | (exfalso; omega) | rfl | (simp_all; done)) ?_
                            refine sx_ldc dX3_empties_193 kc_X3_96 ?_
                            exact sx_iret dX3_empties_195 rfl (by unfold xempt; simp only [h6]; (repeat' split) <;> first | contradiction | (exfalso; omega) | rfl | (simp_all; done)) rfl
                          · -- 186f
                            have hk0 : k = 0 := hb9 (by assumption)
                            subst hk0
                            refine sx_heq (xh h0 (xemX X S c) (xempt S c).2) (by unfold xempt xemX xemR; simp only [h6]; (repeat' split) <;> first | contradiction | (exfalso; omega) | rfl | (simp_all; done)) ?_
                            refine sx_iload_n dX3_empties_189 rfl ?_
                            refine sx_goto (tgt := 195) dX3_empties_190 (by decide) ?_
                            exact sx_iret dX3_empties_195 rfl (by unfold xempt; simp only [h6]; (repeat' split) <;> first | contradiction | (exfalso; omega) | rfl | (simp_all; done)) rfl
                        · -- 158f
                          refine sx_iload_n dX3_empties_161 rfl ?_
                          refine sx_ifB_ne (tgt := 185) dX3_empties_162 (by decide) (fun c162 => ?_) (fun c162 => ?_)
                          · -- 162t
                            have h6 : xemS S c 6 = (T, nn, b) := by
                              first
                              | (have hr6 : row = 6 := (by omega); rw [← hr6]; exact he)
                              | (have hbf : b = false := (by simpa using c72); subst hbf; exact xemS_false he (by omega))
                            refine sx_heq (xh h0 (am_u3 X 5 S) (xemR b S T k)) rfl ?_
                            refine sx_iload_n dX3_empties_185 rfl ?_
                            refine sx_ifB_eq (tgt := 193) dX3_empties_186 (by decide) (fun c186 => ?_) (fun c186 => ?_)
                            · -- 186t
                              have hbf : b = false := by simpa using c186
                              have hk9 : k = 208 := by first | omega | (exfalso; contradiction)
                              subst hk9 hbf
                              refine xs_sims (G := S) (fun i hi => (if_pos hi).symm) (fun _ _ => hR) ?_
                              refine sx_heq (xh h0 (xemX X S c) (xempt S c).2) (by unfold xempt xemX; simp only [h6]; (repeat' split) <;> first | contradiction | (exfalso; omega) | rfl | (simp_all; done)) ?_
                              refine sx_ldc dX3_empties_193 kc_X3_96 ?_
                              exact sx_iret dX3_empties_195 rfl (by unfold xempt; simp only [h6]; (repeat' split) <;> first | contradiction | (exfalso; omega) | rfl | (simp_all; done)) rfl
                            · -- 186f
                              have hk0 : k = 0 := hb9 (by assumption)
                              subst hk0
                              refine sx_heq (xh h0 (xemX X S c) (xempt S c).2) (by unfold xempt xemX xemR; simp only [h6]; (repeat' split) <;> first | contradiction | (exfalso; omega) | rfl | (simp_all; done)) ?_
                              refine sx_iload_n dX3_empties_189 rfl ?_
                              refine sx_goto (tgt := 195) dX3_empties_190 (by decide) ?_
                              exact sx_iret dX3_empties_195 rfl (by unfold xempt; simp only [h6]; (repeat' split) <;> first | contradiction | (exfalso; omega) | rfl | (simp_all; done)) rfl
                          · -- 162f
                            refine sx_aload_n dX3_empties_165 rfl ?_
                            refine xs_getr (j := 1) dX3_empties_166 fl_X3_7 (by decide) rfl ?_
                            refine sx_iload dX3_empties_169 rfl ?_
                            refine sx_aload_n dX3_empties_171 rfl ?_
                            refine xs_getr (j := 5) dX3_empties_172 fl_X3_22 (by decide) rfl ?_
                            refine sx_iload dX3_empties_175 rfl ?_
                            refine xs_ildo (n := 208) dX3_empties_177 (am_inX 5 (by decide)) rfl (by decide) rfl (by decide) (by omega) (by omega) rfl (fun r177 => ?_)
                            refine xs_ist (n := 208) dX3_empties_178 rfl (by decide) (by omega) (by omega) rfl (by exact hR _) ?_
                            refine sx_iinc dX3_empties_179 rfl (by decide) ?_
                            refine sx_goto (tgt := 153) dX3_empties_182 (by decide) ?_
                            exact sx_heq (xh h0 (am_u3 X 5 S) (xemR b S T (k + 1))) (by have hbf : b = false := (by simpa using c162); subst hbf; show xh h0 _ (am_mix S T (k + 1)) = _; rw [← am_mix_s]; rfl) (ih153 _ (by omega) (k + 1) rfl (by omega) (fun q => absurd q c162))
                    exact sx_forget 5 (sx_forget 6 (sx_heq (xh h0 (am_u3 X 5 S) (xemR b S T 0)) (by unfold xemR; split <;> first | rfl | rw [am_mix_0]) (loop153 _ 0 rfl (by omega) (fun _ => rfl))))
                  · -- 68f
                    refine sx_iload_n dX3_empties_71 rfl ?_
                    refine sx_ifB_eq (tgt := 150) dX3_empties_72 (by decide) (fun c72 => ?_) (fun c72 => ?_)
                    · -- 72t
                      refine sx_iconst dX3_empties_150 ?_
                      refine sx_istore dX3_empties_151 (by decide) ?_
                      have loop153 : ∀ (n : Nat) (k : Nat), (208 - k) = n → k ≤ 208 → (b = true → k = 0) → Sx 6 Y3_empties (xh h0 (xemX X S c) (xempt S c).2) (some (.inl (xempt S c).1)) 153 [some (.inr (7, 0)), some (.inl c), some (.inl nn), some (.inl (if b = true then 1 else 0)), some (.inl (k : Int)), none, none] [] (xh h0 (am_u3 X 5 S) (xemR b S T k)) := by
                        intro n
                        induction n using Nat.strongRecOn with
                        | _ n ih153 =>
                          intro k hn9 hle9 hb9
                          refine sx_iload dX3_empties_153 rfl ?_
                          refine sx_sipush dX3_empties_155 rfl ?_
                          refine sx_icmp_ge (tgt := 185) dX3_empties_158 (by decide) (by first | omega | assumption | (with_reducible first | exact hRT _ | exact xwd_R hRT _ _ | exact xch_R hRT _ _ | exact am_R_xor _ _ | exact am_R_or _ _ | exact xkept_R hWT _ _ | exact xwait_R hWT _ _ | exact xpls_R _ _ | exact xwords_R _ _) | (exact ⟨by omega, by omega⟩)) ⟨by decide, by decide⟩ (fun c158 => ?_) (fun c158 => ?_)
                          · -- 158t
                            have h6 : xemS S c 6 = (T, nn, b) := by
                              first
                              | (have hr6 : row = 6 := (by omega); rw [← hr6]; exact he)
                              | (have hbf : b = false := (by simpa using c72); subst hbf; exact xemS_false he (by omega))
                            refine sx_heq (xh h0 (am_u3 X 5 S) (xemR b S T k)) rfl ?_
                            refine sx_iload_n dX3_empties_185 rfl ?_
                            refine sx_ifB_eq (tgt := 193) dX3_empties_186 (by decide) (fun c186 => ?_) (fun c186 => ?_)
                            · -- 186t
                              have hbf : b = false := by simpa using c186
                              have hk9 : k = 208 := by first | omega | (exfalso; contradiction)
                              subst hk9 hbf
                              refine xs_sims (G := S) (fun i hi => (if_pos hi).symm) (fun _ _ => hR) ?_
                              refine sx_heq (xh h0 (xemX X S c) (xempt S c).2) (by unfold xempt xemX; simp only [h6]; (repeat' split) <;> first | contradiction | (exfalso; omega) | rfl | (simp_all; done)) ?_
                              refine sx_ldc dX3_empties_193 kc_X3_96 ?_
                              exact sx_iret dX3_empties_195 rfl (by unfold xempt; simp only [h6]; (repeat' split) <;> first | contradiction | (exfalso; omega) | rfl | (simp_all; done)) rfl
                            · -- 186f
                              have hk0 : k = 0 := hb9 (by assumption)
                              subst hk0
                              refine sx_heq (xh h0 (xemX X S c) (xempt S c).2) (by unfold xempt xemX xemR; simp only [h6]; (repeat' split) <;> first | contradiction | (exfalso; omega) | rfl | (simp_all; done)) ?_
                              refine sx_iload_n dX3_empties_189 rfl ?_
                              refine sx_goto (tgt := 195) dX3_empties_190 (by decide) ?_
                              exact sx_iret dX3_empties_195 rfl (by unfold xempt; simp only [h6]; (repeat' split) <;> first | contradiction | (exfalso; omega) | rfl | (simp_all; done)) rfl
                          · -- 158f
                            refine sx_iload_n dX3_empties_161 rfl ?_
                            refine sx_ifB_ne (tgt := 185) dX3_empties_162 (by decide) (fun c162 => ?_) (fun c162 => ?_)
                            · -- 162t
                              have h6 : xemS S c 6 = (T, nn, b) := by
                                first
                                | (have hr6 : row = 6 := (by omega); rw [← hr6]; exact he)
                                | (have hbf : b = false := (by simpa using c72); subst hbf; exact xemS_false he (by omega))
                              refine sx_heq (xh h0 (am_u3 X 5 S) (xemR b S T k)) rfl ?_
                              refine sx_iload_n dX3_empties_185 rfl ?_
                              refine sx_ifB_eq (tgt := 193) dX3_empties_186 (by decide) (fun c186 => ?_) (fun c186 => ?_)
                              · -- 186t
                                have hbf : b = false := by simpa using c186
                                have hk9 : k = 208 := by first | omega | (exfalso; contradiction)
                                subst hk9 hbf
                                refine xs_sims (G := S) (fun i hi => (if_pos hi).symm) (fun _ _ => hR) ?_
                                refine sx_heq (xh h0 (xemX X S c) (xempt S c).2) (by unfold xempt xemX; simp only [h6]; (repeat' split) <;> first | contradiction | (exfalso; omega) | rfl | (simp_all; done)) ?_
                                refine sx_ldc dX3_empties_193 kc_X3_96 ?_
                                exact sx_iret dX3_empties_195 rfl (by unfold xempt; simp only [h6]; (repeat' split) <;> first | contradiction | (exfalso; omega) | rfl | (simp_all; done)) rfl
                              · -- 186f
                                have hk0 : k = 0 := hb9 (by assumption)
                                subst hk0
                                refine sx_heq (xh h0 (xemX X S c) (xempt S c).2) (by unfold xempt xemX xemR; simp only [h6]; (repeat' split) <;> first | contradiction | (exfalso; omega) | rfl | (simp_all; done)) ?_
                                refine sx_iload_n dX3_empties_189 rfl ?_
                                refine sx_goto (tgt := 195) dX3_empties_190 (by decide) ?_
                                exact sx_iret dX3_empties_195 rfl (by unfold xempt; simp only [h6]; (repeat' split) <;> first | contradiction | (exfalso; omega) | rfl | (simp_all; done)) rfl
                            · -- 162f
                              refine sx_aload_n dX3_empties_165 rfl ?_
                              refine xs_getr (j := 1) dX3_empties_166 fl_X3_7 (by decide) rfl ?_
                              refine sx_iload dX3_empties_169 rfl ?_
                              refine sx_aload_n dX3_empties_171 rfl ?_
                              refine xs_getr (j := 5) dX3_empties_172 fl_X3_22 (by decide) rfl ?_
                              refine sx_iload dX3_empties_175 rfl ?_
                              refine xs_ildo (n := 208) dX3_empties_177 (am_inX 5 (by decide)) rfl (by decide) rfl (by decide) (by omega) (by omega) rfl (fun r177 => ?_)
                              refine xs_ist (n := 208) dX3_empties_178 rfl (by decide) (by omega) (by omega) rfl (by exact hR _) ?_
                              refine sx_iinc dX3_empties_179 rfl (by decide) ?_
                              refine sx_goto (tgt := 153) dX3_empties_182 (by decide) ?_
                              exact sx_heq (xh h0 (am_u3 X 5 S) (xemR b S T (k + 1))) (by have hbf : b = false := (by simpa using c162); subst hbf; show xh h0 _ (am_mix S T (k + 1)) = _; rw [← am_mix_s]; rfl) (ih153 _ (by omega) (k + 1) rfl (by omega) (fun q => absurd q c162))
                      exact sx_forget 5 (sx_forget 6 (sx_heq (xh h0 (am_u3 X 5 S) (xemR b S T 0)) (by unfold xemR; split <;> first | rfl | rw [am_mix_0]) (loop153 _ 0 rfl (by omega) (fun _ => rfl))))
                    · -- 72f
                      refine sx_aload_n dX3_empties_75 rfl ?_
                      refine sx_iload_n dX3_empties_76 rfl ?_
                      refine sx_iload dX3_empties_77 rfl ?_
                      refine sx_callVi dX3_empties_79 ml_X3_59 mv3_kept (tx_kept _ _ hWT hc (by exact ⟨by omega, by omega⟩)) rfl am_obX rfl (Nat.le_of_ble_eq_true rfl) (Nat.le_of_ble_eq_true rfl) ?_
                      refine sx_istore dX3_empties_82 (by decide) ?_
                      refine sx_iload dX3_empties_84 rfl ?_
                      refine sx_if_ge (tgt := 93) dX3_empties_86 (by decide) (by first | omega | assumption | (with_reducible first | exact hRT _ | exact xwd_R hRT _ _ | exact xch_R hRT _ _ | exact am_R_xor _ _ | exact am_R_or _ _ | exact xkept_R hWT _ _ | exact xwait_R hWT _ _ | exact xpls_R _ _ | exact xwords_R _ _) | (exact ⟨by omega, by omega⟩)) (fun c86 => ?_) (fun c86 => ?_)
                      · -- 86t
                        refine sx_aload_n dX3_empties_93 rfl ?_
                        refine sx_aload_n dX3_empties_94 rfl ?_
                        refine sx_iload_n dX3_empties_95 rfl ?_
                        refine sx_iconst dX3_empties_96 ?_
                        refine sx_callVi dX3_empties_97 ml_X3_36 mv3_ch (tx_ch _ _ hc8 (by decide)) rfl am_obX rfl (Nat.le_of_ble_eq_true rfl) (Nat.le_of_ble_eq_true rfl) ?_
                        refine sx_iload_n dX3_empties_100 rfl ?_
                        refine sx_callVi dX3_empties_101 ml_X3_136 mv3_target (tx_target _ _ hWT (by exact ⟨by omega, by omega⟩) hc) rfl am_obX rfl (Nat.le_of_ble_eq_true rfl) (Nat.le_of_ble_eq_true rfl) ?_
                        refine sx_istore dX3_empties_104 (by decide) ?_
                        refine sx_iload dX3_empties_106 rfl ?_
                        refine sx_if_lt (tgt := 116) dX3_empties_108 (by decide) (by first | omega | assumption | (with_reducible first | exact hRT _ | exact xwd_R hRT _ _ | exact xch_R hRT _ _ | exact am_R_xor _ _ | exact am_R_or _ _ | exact xkept_R hWT _ _ | exact xwait_R hWT _ _ | exact xpls_R _ _ | exact xwords_R _ _) | (exact ⟨by omega, by omega⟩)) (fun c108 => ?_) (fun c108 => ?_)
                        · -- 108t
                          refine sx_iconst dX3_empties_116 ?_
                          refine sx_goto (tgt := 121) dX3_empties_117 (by decide) ?_
                          refine sx_istore_n dX3_empties_121 (by decide) ?_
                          refine sx_iload dX3_empties_122 rfl ?_
                          refine sx_if_lt (tgt := 144) dX3_empties_124 (by decide) (by first | omega | assumption | (with_reducible first | exact hRT _ | exact xwd_R hRT _ _ | exact xch_R hRT _ _ | exact am_R_xor _ _ | exact am_R_or _ _ | exact xkept_R hWT _ _ | exact xwait_R hWT _ _ | exact xpls_R _ _ | exact xwords_R _ _) | (exact ⟨by omega, by omega⟩)) (fun c124 => ?_) (fun c124 => ?_)
                          · -- 124t
                            refine sx_iinc dX3_empties_144 rfl (by decide) ?_
                            refine sx_goto (tgt := 64) dX3_empties_147 (by decide) ?_
                            exact sx_forget 5 (sx_forget 6 (ih64 _ (by omega) (row + 1) _ _ true rfl (by omega) (by simp only [xemS, he]; first | (simp [c5, c16, c24, c36, c68, c72, c86, c108, c124]; done) | (rw [if_pos (by assumption)]; (repeat' split) <;> first | contradiction | (exfalso; omega) | rfl | (congr 2; omega) | (simp_all; done)))))
                          · -- 124f
                            have hp := xtarget_pl (S := T) (f := xch T c 0) (wt := c) (by omega)
                            have hl := xlow_lt hp.1
                            have hl0 := xlow_0 T (xtarget T (xch T c 0) c)
                            refine sx_aload_n dX3_empties_127 rfl ?_
                            refine sx_iload dX3_empties_128 rfl ?_
                            refine sx_iload dX3_empties_130 rfl ?_
                            refine sx_aload_n dX3_empties_132 rfl ?_
                            refine sx_iload dX3_empties_133 rfl ?_
                            refine sx_callVi dX3_empties_135 ml_X3_124 mv3_lowest (tx_lowest _ hWT (by omega) hl) rfl am_obX rfl (Nat.le_of_ble_eq_true rfl) (Nat.le_of_ble_eq_true rfl) ?_
                            refine sx_callVv dX3_empties_138 ml_X3_127 mv3_sits (tx_sits _ _ _ (by omega) (by omega) (by exact ⟨by omega, by omega⟩)) rfl am_obX rfl (Nat.le_of_ble_eq_true rfl) (Nat.le_of_ble_eq_true rfl) ?_
                            refine sx_iinc dX3_empties_141 rfl (by decide) ?_
                            refine sx_iinc dX3_empties_144 rfl (by decide) ?_
                            refine sx_goto (tgt := 64) dX3_empties_147 (by decide) ?_
                            exact sx_forget 5 (sx_forget 6 (ih64 _ (by omega) (row + 1) _ _ true rfl (by omega) (by simp only [xemS, he]; first | (simp [c5, c16, c24, c36, c68, c72, c86, c108, c124]; done) | (rw [if_pos (by assumption)]; (repeat' split) <;> first | contradiction | (exfalso; omega) | rfl | (congr 2; omega) | (simp_all; done)))))
                        · -- 108f
                          refine sx_iload dX3_empties_111 rfl ?_
                          refine sx_if_lt (tgt := 120) dX3_empties_113 (by decide) (by first | omega | assumption | (with_reducible first | exact hRT _ | exact xwd_R hRT _ _ | exact xch_R hRT _ _ | exact am_R_xor _ _ | exact am_R_or _ _ | exact xkept_R hWT _ _ | exact xwait_R hWT _ _ | exact xpls_R _ _ | exact xwords_R _ _) | (exact ⟨by omega, by omega⟩)) (fun c113 => ?_) (fun c113 => ?_)
                          · -- 113t
                            refine sx_iconst dX3_empties_120 ?_
                            refine sx_istore_n dX3_empties_121 (by decide) ?_
                            refine sx_iload dX3_empties_122 rfl ?_
                            refine sx_if_lt (tgt := 144) dX3_empties_124 (by decide) (by first | omega | assumption | (with_reducible first | exact hRT _ | exact xwd_R hRT _ _ | exact xch_R hRT _ _ | exact am_R_xor _ _ | exact am_R_or _ _ | exact xkept_R hWT _ _ | exact xwait_R hWT _ _ | exact xpls_R _ _ | exact xwords_R _ _) | (exact ⟨by omega, by omega⟩)) (fun c124 => ?_) (fun c124 => ?_)
                            · -- 124t
                              refine sx_iinc dX3_empties_144 rfl (by decide) ?_
                              refine sx_goto (tgt := 64) dX3_empties_147 (by decide) ?_
                              exact sx_forget 5 (sx_forget 6 (ih64 _ (by omega) (row + 1) _ _ false rfl (by omega) (by simp only [xemS, he]; first | (simp [c5, c16, c24, c36, c68, c72, c86, c108, c113, c124]; done) | (rw [if_pos (by assumption)]; (repeat' split) <;> first | contradiction | (exfalso; omega) | rfl | (congr 2; omega) | (simp_all; done)))))
                            · -- 124f
                              have hp := xtarget_pl (S := T) (f := xch T c 0) (wt := c) (by omega)
                              have hl := xlow_lt hp.1
                              have hl0 := xlow_0 T (xtarget T (xch T c 0) c)
                              refine sx_aload_n dX3_empties_127 rfl ?_
                              refine sx_iload dX3_empties_128 rfl ?_
                              refine sx_iload dX3_empties_130 rfl ?_
                              refine sx_aload_n dX3_empties_132 rfl ?_
                              refine sx_iload dX3_empties_133 rfl ?_
                              refine sx_callVi dX3_empties_135 ml_X3_124 mv3_lowest (tx_lowest _ hWT (by omega) hl) rfl am_obX rfl (Nat.le_of_ble_eq_true rfl) (Nat.le_of_ble_eq_true rfl) ?_
                              refine sx_callVv dX3_empties_138 ml_X3_127 mv3_sits (tx_sits _ _ _ (by omega) (by omega) (by exact ⟨by omega, by omega⟩)) rfl am_obX rfl (Nat.le_of_ble_eq_true rfl) (Nat.le_of_ble_eq_true rfl) ?_
                              refine sx_iinc dX3_empties_141 rfl (by decide) ?_
                              refine sx_iinc dX3_empties_144 rfl (by decide) ?_
                              refine sx_goto (tgt := 64) dX3_empties_147 (by decide) ?_
                              exact sx_forget 5 (sx_forget 6 (ih64 _ (by omega) (row + 1) _ _ false rfl (by omega) (by simp only [xemS, he]; first | (simp [c5, c16, c24, c36, c68, c72, c86, c108, c113, c124]; done) | (rw [if_pos (by assumption)]; (repeat' split) <;> first | contradiction | (exfalso; omega) | rfl | (congr 2; omega) | (simp_all; done)))))
                          · -- 113f
                            refine sx_iconst dX3_empties_116 ?_
                            refine sx_goto (tgt := 121) dX3_empties_117 (by decide) ?_
                            refine sx_istore_n dX3_empties_121 (by decide) ?_
                            refine sx_iload dX3_empties_122 rfl ?_
                            refine sx_if_lt (tgt := 144) dX3_empties_124 (by decide) (by first | omega | assumption | (with_reducible first | exact hRT _ | exact xwd_R hRT _ _ | exact xch_R hRT _ _ | exact am_R_xor _ _ | exact am_R_or _ _ | exact xkept_R hWT _ _ | exact xwait_R hWT _ _ | exact xpls_R _ _ | exact xwords_R _ _) | (exact ⟨by omega, by omega⟩)) (fun c124 => ?_) (fun c124 => ?_)
                            · -- 124t
                              refine sx_iinc dX3_empties_144 rfl (by decide) ?_
                              refine sx_goto (tgt := 64) dX3_empties_147 (by decide) ?_
                              exact sx_forget 5 (sx_forget 6 (ih64 _ (by omega) (row + 1) _ _ true rfl (by omega) (by simp only [xemS, he]; first | (simp [c5, c16, c24, c36, c68, c72, c86, c108, c113, c124]; done) | (rw [if_pos (by assumption)]; (repeat' split) <;> first | contradiction | (exfalso; omega) | rfl | (congr 2; omega) | (simp_all; done)))))
                            · -- 124f
                              have hp := xtarget_pl (S := T) (f := xch T c 0) (wt := c) (by omega)
                              have hl := xlow_lt hp.1
                              have hl0 := xlow_0 T (xtarget T (xch T c 0) c)
                              refine sx_aload_n dX3_empties_127 rfl ?_
                              refine sx_iload dX3_empties_128 rfl ?_
                              refine sx_iload dX3_empties_130 rfl ?_
                              refine sx_aload_n dX3_empties_132 rfl ?_
                              refine sx_iload dX3_empties_133 rfl ?_
                              refine sx_callVi dX3_empties_135 ml_X3_124 mv3_lowest (tx_lowest _ hWT (by omega) hl) rfl am_obX rfl (Nat.le_of_ble_eq_true rfl) (Nat.le_of_ble_eq_true rfl) ?_
                              refine sx_callVv dX3_empties_138 ml_X3_127 mv3_sits (tx_sits _ _ _ (by omega) (by omega) (by exact ⟨by omega, by omega⟩)) rfl am_obX rfl (Nat.le_of_ble_eq_true rfl) (Nat.le_of_ble_eq_true rfl) ?_
                              refine sx_iinc dX3_empties_141 rfl (by decide) ?_
                              refine sx_iinc dX3_empties_144 rfl (by decide) ?_
                              refine sx_goto (tgt := 64) dX3_empties_147 (by decide) ?_
                              exact sx_forget 5 (sx_forget 6 (ih64 _ (by omega) (row + 1) _ _ true rfl (by omega) (by simp only [xemS, he]; first | (simp [c5, c16, c24, c36, c68, c72, c86, c108, c113, c124]; done) | (rw [if_pos (by assumption)]; (repeat' split) <;> first | contradiction | (exfalso; omega) | rfl | (congr 2; omega) | (simp_all; done)))))
                      · -- 86f
                        refine sx_iconst dX3_empties_89 ?_
                        refine sx_goto (tgt := 104) dX3_empties_90 (by decide) ?_
                        refine sx_istore dX3_empties_104 (by decide) ?_
                        refine sx_iload dX3_empties_106 rfl ?_
                        refine sx_if_lt (tgt := 116) dX3_empties_108 (by decide) (by first | omega | assumption | (with_reducible first | exact hRT _ | exact xwd_R hRT _ _ | exact xch_R hRT _ _ | exact am_R_xor _ _ | exact am_R_or _ _ | exact xkept_R hWT _ _ | exact xwait_R hWT _ _ | exact xpls_R _ _ | exact xwords_R _ _) | (exact ⟨by omega, by omega⟩)) (fun c108 => ?_) (fun c108 => ?_)
                        · -- 108t
                          refine sx_iconst dX3_empties_116 ?_
                          refine sx_goto (tgt := 121) dX3_empties_117 (by decide) ?_
                          refine sx_istore_n dX3_empties_121 (by decide) ?_
                          refine sx_iload dX3_empties_122 rfl ?_
                          refine sx_if_lt (tgt := 144) dX3_empties_124 (by decide) ⟨by decide, by decide⟩ (fun _ => ?_) (fun q => absurd q (by decide))
                          refine sx_iinc dX3_empties_144 rfl (by decide) ?_
                          refine sx_goto (tgt := 64) dX3_empties_147 (by decide) ?_
                          exact sx_forget 5 (sx_forget 6 (ih64 _ (by omega) (row + 1) _ _ true rfl (by omega) (by simp only [xemS, he]; first | (simp [c5, c16, c24, c36, c68, c72, c86, c108]; done) | (rw [if_pos (by assumption)]; (repeat' split) <;> first | contradiction | (exfalso; omega) | rfl | (congr 2; omega) | (simp_all; done)))))
                        · -- 108f
                          refine sx_iload dX3_empties_111 rfl ?_
                          refine sx_if_lt (tgt := 120) dX3_empties_113 (by decide) ⟨by decide, by decide⟩ (fun _ => ?_) (fun q => absurd q (by decide))
                          refine sx_iconst dX3_empties_120 ?_
                          refine sx_istore_n dX3_empties_121 (by decide) ?_
                          refine sx_iload dX3_empties_122 rfl ?_
                          refine sx_if_lt (tgt := 144) dX3_empties_124 (by decide) ⟨by decide, by decide⟩ (fun _ => ?_) (fun q => absurd q (by decide))
                          refine sx_iinc dX3_empties_144 rfl (by decide) ?_
                          refine sx_goto (tgt := 64) dX3_empties_147 (by decide) ?_
                          exact sx_forget 5 (sx_forget 6 (ih64 _ (by omega) (row + 1) _ _ false rfl (by omega) (by simp only [xemS, he]; first | (simp [c5, c16, c24, c36, c68, c72, c86, c108]; done) | (rw [if_pos (by assumption)]; (repeat' split) <;> first | contradiction | (exfalso; omega) | rfl | (congr 2; omega) | (simp_all; done)))))
              exact sx_forget 5 (sx_forget 6 (loop64 _ 0 S 0 true rfl (by omega) rfl))
            · -- 36f
              refine sx_aload_n dX3_empties_39 rfl ?_
              refine xs_getr (j := 5) dX3_empties_40 fl_X3_22 (by decide) rfl ?_
              refine sx_iload_n dX3_empties_43 rfl ?_
              refine sx_aload_n dX3_empties_44 rfl ?_
              refine xs_getr (j := 1) dX3_empties_45 fl_X3_7 (by decide) rfl ?_
              refine sx_iload_n dX3_empties_48 rfl ?_
              refine xs_ild (n := 208) dX3_empties_49 rfl (by decide) (by omega) (by omega) rfl (fun r49 => ?_)
              refine xs_isto3 (n := 208) dX3_empties_50 (am_inX 5 (by decide)) rfl (by decide) rfl (by decide) (by omega) (by omega) rfl (by exact hR _) ?_
              refine sx_heq (xh h0 (am_u3 X 5 (am_mix S (X 5) (k + 1))) S) (by rw [← am_mix_s]; rfl) ?_
              refine sx_iinc dX3_empties_51 rfl (by decide) ?_
              refine sx_goto (tgt := 32) dX3_empties_54 (by decide) ?_
              exact ih32 _ (by omega) (k + 1) rfl (by omega)
        exact sx_heq (xh h0 (am_u3 X 5 (am_mix S (X 5) 0)) S) (by rw [am_mix_0, am_u3_id]) (loop32 _ 0 rfl (by omega))
      · -- 24f
        refine sx_ldc dX3_empties_27 kc_X3_96 ?_
        exact sx_iret dX3_empties_29 rfl (by unfold xempt; (repeat' split) <;> first | contradiction | (exfalso; omega) | rfl | (simp_all; done)) (by unfold xempt xemX; (repeat' split) <;> first | contradiction | (exfalso; omega) | rfl | (simp_all; done))
  · -- 5f
    refine sx_ldc dX3_empties_8 kc_X3_40 ?_
    exact sx_iret dX3_empties_10 rfl (by unfold xempt; (repeat' split) <;> first | contradiction | (exfalso; omega) | rfl | (simp_all; done)) (by unfold xempt xemX; (repeat' split) <;> first | contradiction | (exfalso; omega) | rfl | (simp_all; done))
