set_option maxHeartbeats 4000000 in
set_option maxRecDepth 100000 in
theorem tx_keeps {h0 : am_H} {X : am_M} {S : Nat → Int}  : Ct 0 Y3_keeps [.inr (7, 0)] none (xh h0 X S) (xh h0 (am_u3 X 3 S) S) := by
  refine Ct_of (by decide +kernel) (Nat.le_of_ble_eq_true rfl) ?_
  show Sx 0 Y3_keeps (xh h0 (am_u3 X 3 S) S) none 0 [some (.inr (7, 0)), none] [] (xh h0 X S)
  refine xs_vh (fun hR hRX => ?_)
  refine sx_iconst dX3_keeps_0 ?_
  refine sx_istore_n dX3_keeps_1 (by decide) ?_
  have loop2 : ∀ (n : Nat) (k : Nat), (208 - k) = n → k ≤ 208 → Sx 0 Y3_keeps (xh h0 (am_u3 X 3 S) S) none 2 [some (.inr (7, 0)), some (.inl (k : Int))] [] (xh h0 (am_u3 X 3 (am_mix S (X 3) k)) S) := by
    intro n
    induction n using Nat.strongRecOn with
    | _ n ih2 =>
      intro k hn hle
      refine sx_iload_n dX3_keeps_2 rfl ?_
      refine sx_sipush dX3_keeps_3 rfl ?_
      refine sx_icmp_ge (tgt := 27) dX3_keeps_6 (by decide) (by first | omega | assumption | (with_reducible first | exact hR _ | exact xwd_R hR _ _ | exact xch_R hR _ _ | exact am_R_xor _ _ | exact am_R_or _ _ | exact xkept_R hW _ _ | exact xwait_R hW _ _ | exact xpls_R _ _ | exact xwords_R _ _) | (exact ⟨by omega, by omega⟩)) ⟨by decide, by decide⟩ (fun c6 => ?_) (fun c6 => ?_)
      · -- 6t
        obtain rfl : k = 208 := by omega
        refine xs_simo (G := S) (fun i hi => (if_pos hi).symm) (by decide) (fun h _ => h) (by decide) ?_
        exact sx_vret dX3_keeps_27 rfl rfl rfl
      · -- 6f
        refine sx_aload_n dX3_keeps_9 rfl ?_
        refine xs_getr (j := 3) dX3_keeps_10 fl_X3_16 (by decide) rfl ?_
        refine sx_iload_n dX3_keeps_13 rfl ?_
        refine sx_aload_n dX3_keeps_14 rfl ?_
        refine xs_getr (j := 1) dX3_keeps_15 fl_X3_7 (by decide) rfl ?_
        refine sx_iload_n dX3_keeps_18 rfl ?_
        refine xs_ild (n := 208) dX3_keeps_19 rfl (by decide) (by first | omega | assumption | (with_reducible first | exact hR _ | exact xwd_R hR _ _ | exact xch_R hR _ _ | exact am_R_xor _ _ | exact am_R_or _ _ | exact xkept_R hW _ _ | exact xwait_R hW _ _ | exact xpls_R _ _ | exact xwords_R _ _) | (exact ⟨by omega, by omega⟩)) (by first | omega | assumption | (with_reducible first | exact hR _ | exact xwd_R hR _ _ | exact xch_R hR _ _ | exact am_R_xor _ _ | exact am_R_or _ _ | exact xkept_R hW _ _ | exact xwait_R hW _ _ | exact xpls_R _ _ | exact xwords_R _ _) | (exact ⟨by omega, by omega⟩)) rfl (fun r19 => ?_)
        refine xs_isto3 (n := 208) dX3_keeps_20 (am_inX 3 (by decide)) rfl (by decide) rfl (by decide) (by first | omega | assumption | (with_reducible first | exact hR _ | exact xwd_R hR _ _ | exact xch_R hR _ _ | exact am_R_xor _ _ | exact am_R_or _ _ | exact xkept_R hW _ _ | exact xwait_R hW _ _ | exact xpls_R _ _ | exact xwords_R _ _) | (exact ⟨by omega, by omega⟩)) (by first | omega | assumption | (with_reducible first | exact hR _ | exact xwd_R hR _ _ | exact xch_R hR _ _ | exact am_R_xor _ _ | exact am_R_or _ _ | exact xkept_R hW _ _ | exact xwait_R hW _ _ | exact xpls_R _ _ | exact xwords_R _ _) | (exact ⟨by omega, by omega⟩)) rfl (by first | omega | assumption | (with_reducible first | exact hR _ | exact xwd_R hR _ _ | exact xch_R hR _ _ | exact am_R_xor _ _ | exact am_R_or _ _ | exact xkept_R hW _ _ | exact xwait_R hW _ _ | exact xpls_R _ _ | exact xwords_R _ _) | (exact ⟨by omega, by omega⟩)) ?_
        refine sx_heq (xh h0 (am_u3 X 3 (am_mix S (X 3) (k + 1))) S) (by rw [← am_mix_s]; rfl) ?_
        refine sx_iinc dX3_keeps_21 rfl (by decide) ?_
        refine sx_goto (tgt := 2) dX3_keeps_24 (by decide) ?_
        exact ih2 _ (by omega) (k + 1) rfl (by omega)
  exact sx_heq (xh h0 (am_u3 X 3 (am_mix S (X 3) 0)) S) (by rw [am_mix_0, am_u3_id]) (loop2 _ 0 rfl (by omega))
set_option maxHeartbeats 4000000 in
set_option maxRecDepth 100000 in
theorem tx_puts {h0 : am_H} {X : am_M} {S : Nat → Int}  : Ct 0 Y3_puts [.inr (7, 0)] none (xh h0 X S) (xh h0 (am_u3 X 4 S) S) := by
  refine Ct_of (by decide +kernel) (Nat.le_of_ble_eq_true rfl) ?_
  show Sx 0 Y3_puts (xh h0 (am_u3 X 4 S) S) none 0 [some (.inr (7, 0)), none] [] (xh h0 X S)
  refine xs_vh (fun hR hRX => ?_)
  refine sx_iconst dX3_puts_0 ?_
  refine sx_istore_n dX3_puts_1 (by decide) ?_
  have loop2 : ∀ (n : Nat) (k : Nat), (208 - k) = n → k ≤ 208 → Sx 0 Y3_puts (xh h0 (am_u3 X 4 S) S) none 2 [some (.inr (7, 0)), some (.inl (k : Int))] [] (xh h0 (am_u3 X 4 (am_mix S (X 4) k)) S) := by
    intro n
    induction n using Nat.strongRecOn with
    | _ n ih2 =>
      intro k hn hle
      refine sx_iload_n dX3_puts_2 rfl ?_
      refine sx_sipush dX3_puts_3 rfl ?_
      refine sx_icmp_ge (tgt := 27) dX3_puts_6 (by decide) (by first | omega | assumption | (with_reducible first | exact hR _ | exact xwd_R hR _ _ | exact xch_R hR _ _ | exact am_R_xor _ _ | exact am_R_or _ _ | exact xkept_R hW _ _ | exact xwait_R hW _ _ | exact xpls_R _ _ | exact xwords_R _ _) | (exact ⟨by omega, by omega⟩)) ⟨by decide, by decide⟩ (fun c6 => ?_) (fun c6 => ?_)
      · -- 6t
        obtain rfl : k = 208 := by omega
        refine xs_simo (G := S) (fun i hi => (if_pos hi).symm) (by decide) (fun h _ => h) (by decide) ?_
        exact sx_vret dX3_puts_27 rfl rfl rfl
      · -- 6f
        refine sx_aload_n dX3_puts_9 rfl ?_
        refine xs_getr (j := 4) dX3_puts_10 fl_X3_19 (by decide) rfl ?_
        refine sx_iload_n dX3_puts_13 rfl ?_
        refine sx_aload_n dX3_puts_14 rfl ?_
        refine xs_getr (j := 1) dX3_puts_15 fl_X3_7 (by decide) rfl ?_
        refine sx_iload_n dX3_puts_18 rfl ?_
        refine xs_ild (n := 208) dX3_puts_19 rfl (by decide) (by first | omega | assumption | (with_reducible first | exact hR _ | exact xwd_R hR _ _ | exact xch_R hR _ _ | exact am_R_xor _ _ | exact am_R_or _ _ | exact xkept_R hW _ _ | exact xwait_R hW _ _ | exact xpls_R _ _ | exact xwords_R _ _) | (exact ⟨by omega, by omega⟩)) (by first | omega | assumption | (with_reducible first | exact hR _ | exact xwd_R hR _ _ | exact xch_R hR _ _ | exact am_R_xor _ _ | exact am_R_or _ _ | exact xkept_R hW _ _ | exact xwait_R hW _ _ | exact xpls_R _ _ | exact xwords_R _ _) | (exact ⟨by omega, by omega⟩)) rfl (fun r19 => ?_)
        refine xs_isto3 (n := 208) dX3_puts_20 (am_inX 4 (by decide)) rfl (by decide) rfl (by decide) (by first | omega | assumption | (with_reducible first | exact hR _ | exact xwd_R hR _ _ | exact xch_R hR _ _ | exact am_R_xor _ _ | exact am_R_or _ _ | exact xkept_R hW _ _ | exact xwait_R hW _ _ | exact xpls_R _ _ | exact xwords_R _ _) | (exact ⟨by omega, by omega⟩)) (by first | omega | assumption | (with_reducible first | exact hR _ | exact xwd_R hR _ _ | exact xch_R hR _ _ | exact am_R_xor _ _ | exact am_R_or _ _ | exact xkept_R hW _ _ | exact xwait_R hW _ _ | exact xpls_R _ _ | exact xwords_R _ _) | (exact ⟨by omega, by omega⟩)) rfl (by first | omega | assumption | (with_reducible first | exact hR _ | exact xwd_R hR _ _ | exact xch_R hR _ _ | exact am_R_xor _ _ | exact am_R_or _ _ | exact xkept_R hW _ _ | exact xwait_R hW _ _ | exact xpls_R _ _ | exact xwords_R _ _) | (exact ⟨by omega, by omega⟩)) ?_
        refine sx_heq (xh h0 (am_u3 X 4 (am_mix S (X 4) (k + 1))) S) (by rw [← am_mix_s]; rfl) ?_
        refine sx_iinc dX3_puts_21 rfl (by decide) ?_
        refine sx_goto (tgt := 2) dX3_puts_24 (by decide) ?_
        exact ih2 _ (by omega) (k + 1) rfl (by omega)
  exact sx_heq (xh h0 (am_u3 X 4 (am_mix S (X 4) 0)) S) (by rw [am_mix_0, am_u3_id]) (loop2 _ 0 rfl (by omega))
set_option maxHeartbeats 4000000 in
set_option maxRecDepth 100000 in
theorem tx_restores {h0 : am_H} {X : am_M} {S : Nat → Int}  : Ct 0 Y3_restores [.inr (7, 0)] none (xh h0 X S) (xh h0 X (X 4)) := by
  refine Ct_of (by decide +kernel) (Nat.le_of_ble_eq_true rfl) ?_
  show Sx 0 Y3_restores (xh h0 X (X 4)) none 0 [some (.inr (7, 0)), none] [] (xh h0 X S)
  refine xs_vh (fun hR hRX => ?_)
  refine sx_iconst dX3_restores_0 ?_
  refine sx_istore_n dX3_restores_1 (by decide) ?_
  have loop2 : ∀ (n : Nat) (k : Nat), (208 - k) = n → k ≤ 208 → Sx 0 Y3_restores (xh h0 X (X 4)) none 2 [some (.inr (7, 0)), some (.inl (k : Int))] [] (xh h0 X (am_mix (X 4) S k)) := by
    intro n
    induction n using Nat.strongRecOn with
    | _ n ih2 =>
      intro k hn hle
      refine sx_iload_n dX3_restores_2 rfl ?_
      refine sx_sipush dX3_restores_3 rfl ?_
      refine sx_icmp_ge (tgt := 27) dX3_restores_6 (by decide) (by first | omega | assumption | (first | exact hRX _ _ (by decide) | exact hR _ | exact xwd_R hR _ _ | exact xch_R hR _ _ | exact am_R_xor _ _ | exact am_R_or _ _ | exact xkept_R hW _ _ | exact xwait_R hW _ _ | exact xpls_R _ _ | exact xwords_R _ _ | exact hRX _ _ (by decide)) | (exact ⟨by omega, by omega⟩)) ⟨by decide, by decide⟩ (fun c6 => ?_) (fun c6 => ?_)
      · -- 6t
        obtain rfl : k = 208 := by omega
        refine xs_sims (G := X 4) (fun i hi => (if_pos hi).symm) (fun h _ m => h 4 m (by decide)) ?_
        exact sx_vret dX3_restores_27 rfl rfl rfl
      · -- 6f
        refine sx_aload_n dX3_restores_9 rfl ?_
        refine xs_getr (j := 1) dX3_restores_10 fl_X3_7 (by decide) rfl ?_
        refine sx_iload_n dX3_restores_13 rfl ?_
        refine sx_aload_n dX3_restores_14 rfl ?_
        refine xs_getr (j := 4) dX3_restores_15 fl_X3_19 (by decide) rfl ?_
        refine sx_iload_n dX3_restores_18 rfl ?_
        refine xs_ildo (n := 208) dX3_restores_19 (am_inX 4 (by decide)) rfl (by decide) rfl (by decide) (by first | omega | assumption | (first | exact hRX _ _ (by decide) | exact hR _ | exact xwd_R hR _ _ | exact xch_R hR _ _ | exact am_R_xor _ _ | exact am_R_or _ _ | exact xkept_R hW _ _ | exact xwait_R hW _ _ | exact xpls_R _ _ | exact xwords_R _ _ | exact hRX _ _ (by decide)) | (exact ⟨by omega, by omega⟩)) (by first | omega | assumption | (first | exact hRX _ _ (by decide) | exact hR _ | exact xwd_R hR _ _ | exact xch_R hR _ _ | exact am_R_xor _ _ | exact am_R_or _ _ | exact xkept_R hW _ _ | exact xwait_R hW _ _ | exact xpls_R _ _ | exact xwords_R _ _ | exact hRX _ _ (by decide)) | (exact ⟨by omega, by omega⟩)) rfl (fun r19 => ?_)
        refine xs_ist (n := 208) dX3_restores_20 rfl (by decide) (by first | omega | assumption | (first | exact hRX _ _ (by decide) | exact hR _ | exact xwd_R hR _ _ | exact xch_R hR _ _ | exact am_R_xor _ _ | exact am_R_or _ _ | exact xkept_R hW _ _ | exact xwait_R hW _ _ | exact xpls_R _ _ | exact xwords_R _ _ | exact hRX _ _ (by decide)) | (exact ⟨by omega, by omega⟩)) (by first | omega | assumption | (first | exact hRX _ _ (by decide) | exact hR _ | exact xwd_R hR _ _ | exact xch_R hR _ _ | exact am_R_xor _ _ | exact am_R_or _ _ | exact xkept_R hW _ _ | exact xwait_R hW _ _ | exact xpls_R _ _ | exact xwords_R _ _ | exact hRX _ _ (by decide)) | (exact ⟨by omega, by omega⟩)) rfl (by first | omega | assumption | (first | exact hRX _ _ (by decide) | exact hR _ | exact xwd_R hR _ _ | exact xch_R hR _ _ | exact am_R_xor _ _ | exact am_R_or _ _ | exact xkept_R hW _ _ | exact xwait_R hW _ _ | exact xpls_R _ _ | exact xwords_R _ _ | exact hRX _ _ (by decide)) | (exact ⟨by omega, by omega⟩)) ?_
        refine sx_heq (xh h0 X (am_mix (X 4) S (k + 1))) (by rw [← am_mix_s]; rfl) ?_
        refine sx_iinc dX3_restores_21 rfl (by decide) ?_
        refine sx_goto (tgt := 2) dX3_restores_24 (by decide) ?_
        exact ih2 _ (by omega) (k + 1) rfl (by omega)
  exact sx_heq (xh h0 X (am_mix (X 4) S 0)) (by rw [am_mix_0]) (loop2 _ 0 rfl (by omega))
set_option maxHeartbeats 4000000 in
set_option maxRecDepth 100000 in
theorem tx_acted {h0 : am_H} {X : am_M} {S : Nat → Int} (r : Int) (hr9 : am_R r) (hst : 0 ≤ X 0 5 ∧ X 0 5 ≤ 4)  : Ct 0 Y3_acted [.inr (7, 0), .inl r] (some (.inl r)) (xh h0 X S) (xh h0 (xact X r) S) := by
  refine Ct_of (by decide +kernel) (Nat.le_of_ble_eq_true rfl) ?_
  show Sx 0 Y3_acted (xh h0 (xact X r) S) (some (.inl r)) 0 [some (.inr (7, 0)), some (.inl r), none] [] (xh h0 X S)
  refine xs_vh (fun hR hRX => ?_)
  refine sx_iload_n dX3_acted_0 rfl ?_
  refine sx_ldc dX3_acted_1 kc_X3_40 ?_
  refine sx_icmp_le (tgt := 101) dX3_acted_3 (by decide) (by first | omega | assumption | (exact ⟨by omega, by omega⟩)) ⟨by decide, by decide⟩ (fun c3 => ?_) (fun c3 => ?_)
  · -- 3t
    refine sx_iload_n dX3_acted_101 rfl ?_
    exact sx_iret dX3_acted_102 rfl rfl (by unfold xact; first | rw [if_pos c3] | rw [if_neg (by omega)]; try rfl)
  · -- 3f
    refine sx_aload_n dX3_acted_6 rfl ?_
    refine xs_geti dX3_acted_7 fl_X3_41 (by decide) (fun r7 => ?_)
    refine sx_iconst dX3_acted_10 ?_
    refine sx_icmp_ne (tgt := 55) dX3_acted_11 (by decide) (by first | omega | assumption | (exact ⟨by omega, by omega⟩)) ⟨by decide, by decide⟩ (fun c11 => ?_) (fun c11 => ?_)
    · -- 11t
      refine sx_heq (xh h0 (xac1 X) S) (by first | (unfold xac1; rw [if_neg c11]; done) | (have hk6 : k = 624 := (by omega); subst hk6; unfold xac1; rw [if_pos c11, c11]; rfl)) ?_
      have hn5 : 0 ≤ xac1 X 0 5 ∧ xac1 X 0 5 ≤ 3 := by
        unfold xac1
        split
        · rw [am_u2_at, am_u1_at]; omega
        · omega
      have h13 : xac1 X 3 = X 3 := by
        unfold xac1
        split
        · rw [am_u2_ne _ _ _ (by decide), am_u3_ne _ _ (by decide)]
        · rfl
      refine xs_vh (fun hR2 hRX2 => ?_)
      refine sx_iconst dX3_acted_55 ?_
      refine sx_istore_n dX3_acted_56 (by decide) ?_
      have loop57 : ∀ (n : Nat) (k : Nat), (208 - k) = n → k ≤ 208 → Sx 0 Y3_acted (xh h0 (xact X r) S) (some (.inl r)) 57 [some (.inr (7, 0)), some (.inl r), some (.inl (k : Int))] [] (xh h0 (am_u3 (xac1 X) 2 (xcpk (xac1 X 2) (xac1 X 3) (xac1 X 0 5).toNat k)) S) := by
        intro n
        induction n using Nat.strongRecOn with
        | _ n ih57 =>
          intro k hn hle
          refine sx_iload_n dX3_acted_57 rfl ?_
          refine sx_sipush dX3_acted_58 rfl ?_
          refine sx_icmp_ge (tgt := 91) dX3_acted_61 (by decide) (by first | omega | assumption | (exact ⟨by omega, by omega⟩)) ⟨by decide, by decide⟩ (fun c61 => ?_) (fun c61 => ?_)
          · -- 61t
            obtain rfl : k = 208 := by omega
            refine sx_aload_n dX3_acted_91 rfl ?_
            refine sx_dup dX3_acted_92 ?_
            refine xs_geti dX3_acted_93 fl_X3_41 (by decide) (fun r93 => ?_)
            show Sx 0 Y3_acted _ _ _ _ [.inl (xac1 X 0 5), .inr (7, 0)] _
            refine sx_iconst dX3_acted_96 ?_
            refine sx_iadd dX3_acted_97 ?_
            refine xs_put dX3_acted_98 fl_X3_41 (by decide) (by first | omega | assumption | (exact ⟨by omega, by omega⟩)) ?_
            refine sx_iload_n dX3_acted_101 rfl ?_
            exact sx_iret dX3_acted_102 rfl rfl (by unfold xact; first | rw [if_pos c3] | rw [if_neg (by omega)]; try rfl)
          · -- 61f
            refine sx_aload_n dX3_acted_64 rfl ?_
            refine xs_getr (j := 2) dX3_acted_65 fl_X3_13 (by decide) rfl ?_
            refine sx_sipush dX3_acted_68 rfl ?_
            refine sx_aload_n dX3_acted_71 rfl ?_
            refine xs_geti dX3_acted_72 fl_X3_41 (by decide) (fun r72 => ?_)
            show Sx 0 Y3_acted _ _ _ _ [.inl (xac1 X 0 5), .inl 208, .inr (7, 2)] _
            refine sx_imul dX3_acted_75 ?_
            refine sx_iload_n dX3_acted_76 rfl ?_
            refine sx_iadd dX3_acted_77 ?_
            refine sx_aload_n dX3_acted_78 rfl ?_
            refine xs_getr (j := 3) dX3_acted_79 fl_X3_16 (by decide) rfl ?_
            refine sx_iload_n dX3_acted_82 rfl ?_
            refine xs_ildo (n := 208) dX3_acted_83 (am_inX 3 (by decide)) rfl (by decide) rfl (by decide) (by first | omega | assumption | (exact ⟨by omega, by omega⟩)) (by first | omega | assumption | (exact ⟨by omega, by omega⟩)) rfl (fun r83 => ?_)
            refine xs_isto3 (n := 832) dX3_acted_84 (am_inX 2 (by decide)) rfl (by decide) rfl (by decide) (by first | omega | assumption | (exact ⟨by omega, by omega⟩)) (by first | omega | assumption | (exact ⟨by omega, by omega⟩)) rfl (by first | omega | assumption | (exact ⟨by omega, by omega⟩)) ?_
            refine sx_heq (xh h0 (am_u3 (xac1 X) 2 (xcpk (xac1 X 2) (xac1 X 3) (xac1 X 0 5).toNat (k + 1))) S) (by rw [← xcpk_s]; congr 2; congr 1; first | rfl | (show _ = (208 * xac1 X 0 5 + k).toNat; omega)) ?_
            refine sx_iinc dX3_acted_85 rfl (by decide) ?_
            refine sx_goto (tgt := 57) dX3_acted_88 (by decide) ?_
            exact ih57 _ (by omega) (k + 1) rfl (by omega)
      exact sx_heq (xh h0 (am_u3 (xac1 X) 2 (xcpk (xac1 X 2) (xac1 X 3) (xac1 X 0 5).toNat 0)) S) (by rw [show xcpk (xac1 X 2) (xac1 X 3) (xac1 X 0 5).toNat 0 = xac1 X 2 from by funext i; unfold xcpk; rw [if_neg (by omega)], am_u3_id]) (loop57 _ 0 rfl (by omega))
    · -- 11f
      refine sx_iconst dX3_acted_14 ?_
      refine sx_istore_n dX3_acted_15 (by decide) ?_
      have loop16 : ∀ (n : Nat) (k : Nat), (624 - k) = n → k ≤ 624 → Sx 0 Y3_acted (xh h0 (xact X r) S) (some (.inl r)) 16 [some (.inr (7, 0)), some (.inl r), some (.inl (k : Int))] [] (xh h0 (am_u3 X 2 (xshk (X 2) k)) S) := by
        intro n
        induction n using Nat.strongRecOn with
        | _ n ih16 =>
          intro k hn hle
          refine sx_iload_n dX3_acted_16 rfl ?_
          refine sx_sipush dX3_acted_17 rfl ?_
          refine sx_icmp_ge (tgt := 45) dX3_acted_20 (by decide) (by first | omega | assumption | (exact ⟨by omega, by omega⟩)) ⟨by decide, by decide⟩ (fun c20 => ?_) (fun c20 => ?_)
          · -- 20t
            refine sx_aload_n dX3_acted_45 rfl ?_
            refine sx_dup dX3_acted_46 ?_
            refine xs_geti dX3_acted_47 fl_X3_41 (by decide) (fun r47 => ?_)
            show Sx 0 Y3_acted _ _ _ _ [.inl (X 0 5), .inr (7, 0)] _
            refine sx_iconst dX3_acted_50 ?_
            refine sx_isub dX3_acted_51 ?_
            refine xs_put dX3_acted_52 fl_X3_41 (by decide) (by first | omega | assumption | (exact ⟨by omega, by omega⟩)) ?_
            refine sx_heq (xh h0 (xac1 X) S) (by first | (unfold xac1; rw [if_neg c11]; done) | (have hk6 : k = 624 := (by omega); subst hk6; unfold xac1; rw [if_pos c11, c11]; rfl)) ?_
            have hn5 : 0 ≤ xac1 X 0 5 ∧ xac1 X 0 5 ≤ 3 := by
              unfold xac1
              split
              · rw [am_u2_at, am_u1_at]; omega
              · omega
            have h13 : xac1 X 3 = X 3 := by
              unfold xac1
              split
              · rw [am_u2_ne _ _ _ (by decide), am_u3_ne _ _ (by decide)]
              · rfl
            refine xs_vh (fun hR2 hRX2 => ?_)
            refine sx_iconst dX3_acted_55 ?_
            refine sx_istore_n dX3_acted_56 (by decide) ?_
            have loop57 : ∀ (n : Nat) (k : Nat), (208 - k) = n → k ≤ 208 → Sx 0 Y3_acted (xh h0 (xact X r) S) (some (.inl r)) 57 [some (.inr (7, 0)), some (.inl r), some (.inl (k : Int))] [] (xh h0 (am_u3 (xac1 X) 2 (xcpk (xac1 X 2) (xac1 X 3) (xac1 X 0 5).toNat k)) S) := by
              intro n
              induction n using Nat.strongRecOn with
              | _ n ih57 =>
                intro k hn hle
                refine sx_iload_n dX3_acted_57 rfl ?_
                refine sx_sipush dX3_acted_58 rfl ?_
                refine sx_icmp_ge (tgt := 91) dX3_acted_61 (by decide) (by first | omega | assumption | (exact ⟨by omega, by omega⟩)) ⟨by decide, by decide⟩ (fun c61 => ?_) (fun c61 => ?_)
                · -- 61t
                  obtain rfl : k = 208 := by omega
                  refine sx_aload_n dX3_acted_91 rfl ?_
                  refine sx_dup dX3_acted_92 ?_
                  refine xs_geti dX3_acted_93 fl_X3_41 (by decide) (fun r93 => ?_)
                  show Sx 0 Y3_acted _ _ _ _ [.inl (xac1 X 0 5), .inr (7, 0)] _
                  refine sx_iconst dX3_acted_96 ?_
                  refine sx_iadd dX3_acted_97 ?_
                  refine xs_put dX3_acted_98 fl_X3_41 (by decide) (by first | omega | assumption | (exact ⟨by omega, by omega⟩)) ?_
                  refine sx_iload_n dX3_acted_101 rfl ?_
                  exact sx_iret dX3_acted_102 rfl rfl (by unfold xact; first | rw [if_pos c3] | rw [if_neg (by omega)]; try rfl)
                · -- 61f
                  refine sx_aload_n dX3_acted_64 rfl ?_
                  refine xs_getr (j := 2) dX3_acted_65 fl_X3_13 (by decide) rfl ?_
                  refine sx_sipush dX3_acted_68 rfl ?_
                  refine sx_aload_n dX3_acted_71 rfl ?_
                  refine xs_geti dX3_acted_72 fl_X3_41 (by decide) (fun r72 => ?_)
                  show Sx 0 Y3_acted _ _ _ _ [.inl (xac1 X 0 5), .inl 208, .inr (7, 2)] _
                  refine sx_imul dX3_acted_75 ?_
                  refine sx_iload_n dX3_acted_76 rfl ?_
                  refine sx_iadd dX3_acted_77 ?_
                  refine sx_aload_n dX3_acted_78 rfl ?_
                  refine xs_getr (j := 3) dX3_acted_79 fl_X3_16 (by decide) rfl ?_
                  refine sx_iload_n dX3_acted_82 rfl ?_
                  refine xs_ildo (n := 208) dX3_acted_83 (am_inX 3 (by decide)) rfl (by decide) rfl (by decide) (by first | omega | assumption | (exact ⟨by omega, by omega⟩)) (by first | omega | assumption | (exact ⟨by omega, by omega⟩)) rfl (fun r83 => ?_)
                  refine xs_isto3 (n := 832) dX3_acted_84 (am_inX 2 (by decide)) rfl (by decide) rfl (by decide) (by first | omega | assumption | (exact ⟨by omega, by omega⟩)) (by first | omega | assumption | (exact ⟨by omega, by omega⟩)) rfl (by first | omega | assumption | (exact ⟨by omega, by omega⟩)) ?_
                  refine sx_heq (xh h0 (am_u3 (xac1 X) 2 (xcpk (xac1 X 2) (xac1 X 3) (xac1 X 0 5).toNat (k + 1))) S) (by rw [← xcpk_s]; congr 2; congr 1; first | rfl | (show _ = (208 * xac1 X 0 5 + k).toNat; omega)) ?_
                  refine sx_iinc dX3_acted_85 rfl (by decide) ?_
                  refine sx_goto (tgt := 57) dX3_acted_88 (by decide) ?_
                  exact ih57 _ (by omega) (k + 1) rfl (by omega)
            exact sx_heq (xh h0 (am_u3 (xac1 X) 2 (xcpk (xac1 X 2) (xac1 X 3) (xac1 X 0 5).toNat 0)) S) (by rw [show xcpk (xac1 X 2) (xac1 X 3) (xac1 X 0 5).toNat 0 = xac1 X 2 from by funext i; unfold xcpk; rw [if_neg (by omega)], am_u3_id]) (loop57 _ 0 rfl (by omega))
          · -- 20f
            refine sx_aload_n dX3_acted_23 rfl ?_
            refine xs_getr (j := 2) dX3_acted_24 fl_X3_13 (by decide) rfl ?_
            refine sx_iload_n dX3_acted_27 rfl ?_
            refine sx_aload_n dX3_acted_28 rfl ?_
            refine xs_getr (j := 2) dX3_acted_29 fl_X3_13 (by decide) rfl ?_
            refine sx_iload_n dX3_acted_32 rfl ?_
            refine sx_sipush dX3_acted_33 rfl ?_
            refine sx_iadd dX3_acted_36 ?_
            refine xs_ildo (n := 832) dX3_acted_37 (am_inX 2 (by decide)) rfl (by decide) rfl (by decide) (by omega) (by omega) rfl (fun r37 => ?_)
            refine xs_isto3 (n := 832) dX3_acted_38 (am_inX 2 (by decide)) rfl (by decide) rfl (by decide) (by first | omega | assumption | (exact ⟨by omega, by omega⟩)) (by first | omega | assumption | (exact ⟨by omega, by omega⟩)) rfl (by first | omega | assumption | (exact ⟨by omega, by omega⟩)) ?_
            refine sx_heq (xh h0 (am_u3 X 2 (xshk (X 2) (k + 1))) S) (by rw [← xshk_s]; rfl) ?_
            refine sx_iinc dX3_acted_39 rfl (by decide) ?_
            refine sx_goto (tgt := 16) dX3_acted_42 (by decide) ?_
            exact ih16 _ (by omega) (k + 1) rfl (by omega)
      exact sx_heq (xh h0 (am_u3 X 2 (xshk (X 2) 0)) S) (by rw [show xshk (X 2) 0 = X 2 from by funext i; simp [xshk], am_u3_id]) (loop16 _ 0 rfl (by omega))
