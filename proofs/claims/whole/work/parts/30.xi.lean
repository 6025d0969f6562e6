set_option maxHeartbeats 4000000 in
set_option maxRecDepth 100000 in
theorem tx_worstTwo {h0 : am_H} {X : am_M} {S : Nat → Int} (k : Int) (hW : WX S) (hk9 : am_R k) (h4 : S 4 ≤ 900000000)  : Ct 6 Y3_worstTwo [.inr (7, 0), .inl k] (some (.inl (xworst S X k))) (xh h0 X S) (xh h0 (xworstX S X k) S) := by
  refine Ct_of (by decide +kernel) (Nat.le_of_ble_eq_true rfl) ?_
  show Sx 6 Y3_worstTwo (xh h0 (xworstX S X k) S) (some (.inl (xworst S X k))) 0 [some (.inr (7, 0)), some (.inl k), none, none, none, none, none] [] (xh h0 X S)
  refine xs_vh (fun hR hRX => ?_)
  obtain ⟨w0, w1, wg, wf, wo⟩ := id hW
  refine sx_iload_n dX3_worstTwo_0 rfl ?_
  refine sx_iconst dX3_worstTwo_1 ?_
  refine sx_iconst dX3_worstTwo_2 ?_
  refine sx_callSi dX3_worstTwo_3 ml_X3_32 ms3_in (tx_in _ _ _ (by first | omega | assumption | (with_reducible first | exact hR _ | exact xwd_R hR _ _ | exact xch_R hR _ _ | exact am_R_and _ _ | exact am_R_or _ _ | exact am_R_xor _ _ | exact am_R_shl _ _ | exact am_R_shr _ _ | exact bit_R _ _ | exact xpls_R _ _ | exact xkept_R hW _ _ | exact xwait_R hW _ _ ) | (exact ⟨by omega, by omega⟩) | exact wf _ (by omega) (by omega) | exact wg _ (by omega) (by omega)) (by first | omega | assumption | (with_reducible first | exact hR _ | exact xwd_R hR _ _ | exact xch_R hR _ _ | exact am_R_and _ _ | exact am_R_or _ _ | exact am_R_xor _ _ | exact am_R_shl _ _ | exact am_R_shr _ _ | exact bit_R _ _ | exact xpls_R _ _ | exact xkept_R hW _ _ | exact xwait_R hW _ _ ) | (exact ⟨by omega, by omega⟩) | exact wf _ (by omega) (by omega) | exact wg _ (by omega) (by omega)) (by first | omega | assumption | (with_reducible first | exact hR _ | exact xwd_R hR _ _ | exact xch_R hR _ _ | exact am_R_and _ _ | exact am_R_or _ _ | exact am_R_xor _ _ | exact am_R_shl _ _ | exact am_R_shr _ _ | exact bit_R _ _ | exact xpls_R _ _ | exact xkept_R hW _ _ | exact xwait_R hW _ _ ) | (exact ⟨by omega, by omega⟩) | exact wf _ (by omega) (by omega) | exact wg _ (by omega) (by omega))) rfl rfl (Nat.le_of_ble_eq_true rfl) (Nat.le_of_ble_eq_true rfl) ?_
  refine sx_ifB_ne (tgt := 12) dX3_worstTwo_6 (by decide) (fun c6 => ?_) (fun c6 => ?_)
  · -- 6t
    refine sx_ldc dX3_worstTwo_12 kc_X3_123 ?_
    refine sx_istore_n dX3_worstTwo_14 (by decide) ?_
    refine sx_iconst dX3_worstTwo_15 ?_
    refine sx_istore_n dX3_worstTwo_16 (by decide) ?_
    refine sx_iconst dX3_worstTwo_17 ?_
    refine sx_istore dX3_worstTwo_18 (by decide) ?_
    have loop20 : ∀ (n : Nat) (one : Nat) (fd mo : Int) (Y : am_M), (S 0 - one).toNat = n → (one : Int) ≤ S 0 → xwo S X one = (fd, mo, Y) → Sx 6 Y3_worstTwo (xh h0 (xworstX S X k) S) (some (.inl (xworst S X k))) 20 [some (.inr (7, 0)), some (.inl k), some (.inl fd), some (.inl mo), some (.inl (one : Int)), none, none] [] (xh h0 Y S) := by
      intro n
      induction n using Nat.strongRecOn with
      | _ n ih20 =>
        intro one fd mo Y hn20 hle20 he20
        have hwo := xwo_b (X := X) hW one
        rw [he20] at hwo
        refine sx_iload dX3_worstTwo_20 rfl ?_
        refine sx_aload_n dX3_worstTwo_22 rfl ?_
        refine xs_getr (j := 1) dX3_worstTwo_23 fl_X3_7 (by decide) rfl ?_
        refine sx_iconst dX3_worstTwo_26 ?_
        refine xs_ild (n := 208) (m := 0) dX3_worstTwo_27 rfl (by decide) (by decide) (by decide) rfl (fun r27 => ?_)
        refine sx_icmp_ge (tgt := 128) dX3_worstTwo_28 (by decide) (by first | omega | assumption | (with_reducible first | exact hR _ | exact xwd_R hR _ _ | exact xch_R hR _ _ | exact am_R_xor _ _ | exact am_R_or _ _ | exact xkept_R hW _ _ | exact xwait_R hW _ _ | exact xpls_R _ _ | exact xwords_R _ _) | (exact ⟨by omega, by omega⟩)) (by first | omega | assumption | (with_reducible first | exact hR _ | exact xwd_R hR _ _ | exact xch_R hR _ _ | exact am_R_xor _ _ | exact am_R_or _ _ | exact xkept_R hW _ _ | exact xwait_R hW _ _ | exact xpls_R _ _ | exact xwords_R _ _) | (exact ⟨by omega, by omega⟩)) (fun c28 => ?_) (fun c28 => ?_)
        · -- 28t
          obtain rfl : one = (S 0).toNat := by omega
          replace hwo : -1 ≤ mo ∧ mo ≤ 48 := hwo
          refine sx_iload_n dX3_worstTwo_128 rfl ?_
          refine sx_if_eq (tgt := 136) dX3_worstTwo_129 (by decide) (by first | omega | assumption | (with_reducible first | exact hR _ | exact xwd_R hR _ _ | exact xch_R hR _ _ | exact am_R_xor _ _ | exact am_R_or _ _ | exact xkept_R hW _ _ | exact xwait_R hW _ _ | exact xpls_R _ _ | exact xwords_R _ _) | (exact ⟨by omega, by omega⟩)) (fun c129 => ?_) (fun c129 => ?_)
          · -- 129t
            refine sx_iload_n dX3_worstTwo_136 rfl ?_
            refine sx_goto (tgt := 141) dX3_worstTwo_137 (by decide) ?_
            exact sx_iret dX3_worstTwo_141 rfl (by unfold xworst; simp only [he20, if_pos c6, if_pos c28, if_neg (Int.not_lt.mpr c28), if_pos c129]) (by unfold xworstX; simp only [he20, if_pos c6, if_pos c28, if_neg (Int.not_lt.mpr c28), if_pos c129])
          · -- 129f
            refine sx_iload_n dX3_worstTwo_132 rfl ?_
            refine sx_if_ge (tgt := 140) dX3_worstTwo_133 (by decide) (by first | omega | assumption | (with_reducible first | exact hR _ | exact xwd_R hR _ _ | exact xch_R hR _ _ | exact am_R_xor _ _ | exact am_R_or _ _ | exact xkept_R hW _ _ | exact xwait_R hW _ _ | exact xpls_R _ _ | exact xwords_R _ _) | (exact ⟨by omega, by omega⟩)) (fun c133 => ?_) (fun c133 => ?_)
            · -- 133t
              refine sx_iload_n dX3_worstTwo_140 rfl ?_
              exact sx_iret dX3_worstTwo_141 rfl (by unfold xworst; simp only [he20, if_pos c6, if_pos c28, if_neg (Int.not_lt.mpr c28), if_neg c129, if_pos c133, if_neg (Int.not_lt.mpr c133)]) (by unfold xworstX; simp only [he20, if_pos c6, if_pos c28, if_neg (Int.not_lt.mpr c28), if_neg c129, if_pos c133, if_neg (Int.not_lt.mpr c133)])
            · -- 133f
              refine sx_iload_n dX3_worstTwo_136 rfl ?_
              refine sx_goto (tgt := 141) dX3_worstTwo_137 (by decide) ?_
              exact sx_iret dX3_worstTwo_141 rfl (by unfold xworst; simp only [he20, if_pos c6, if_pos c28, if_neg (Int.not_lt.mpr c28), if_neg c129, if_pos c133, if_neg (Int.not_le.mpr c133)]) (by unfold xworstX; simp only [he20, if_pos c6, if_pos c28, if_neg (Int.not_lt.mpr c28), if_neg c129, if_pos c133, if_neg (Int.not_le.mpr c133)])
        · -- 28f
          refine sx_iconst dX3_worstTwo_31 ?_
          refine sx_istore dX3_worstTwo_32 (by decide) ?_
          have loop34 : ∀ (n : Nat) (two : Nat) (fd2 mo2 : Int) (Y2 : am_M), (S 0 - two).toNat = n → (two : Int) ≤ S 0 → xwi S one (fd, mo, Y) two = (fd2, mo2, Y2) → Sx 6 Y3_worstTwo (xh h0 (xworstX S X k) S) (some (.inl (xworst S X k))) 34 [some (.inr (7, 0)), some (.inl k), some (.inl fd2), some (.inl mo2), some (.inl (one : Int)), some (.inl (two : Int)), none] [] (xh h0 Y2 S) := by
            intro n
            induction n using Nat.strongRecOn with
            | _ n ih34 =>
              intro two fd2 mo2 Y2 hn34 hle34 he34
              have hwi := xwi_b (one := one) (st := (fd, mo, Y)) hW hwo two
              rw [he34] at hwi
              replace hwi : -1 ≤ mo2 ∧ mo2 ≤ 48 := hwi
              have hlb := xlossOf_b (a := one) (b := two) hW
              refine sx_iload dX3_worstTwo_34 rfl ?_
              refine sx_aload_n dX3_worstTwo_36 rfl ?_
              refine xs_getr (j := 1) dX3_worstTwo_37 fl_X3_7 (by decide) rfl ?_
              refine sx_iconst dX3_worstTwo_40 ?_
              refine xs_ild (n := 208) (m := 0) dX3_worstTwo_41 rfl (by decide) (by decide) (by decide) rfl (fun r41 => ?_)
              refine sx_icmp_ge (tgt := 122) dX3_worstTwo_42 (by decide) (by first | omega | assumption | (with_reducible first | exact hR _ | exact xwd_R hR _ _ | exact xch_R hR _ _ | exact am_R_xor _ _ | exact am_R_or _ _ | exact xkept_R hW _ _ | exact xwait_R hW _ _ | exact xpls_R _ _ | exact xwords_R _ _) | (exact ⟨by omega, by omega⟩)) (by first | omega | assumption | (with_reducible first | exact hR _ | exact xwd_R hR _ _ | exact xch_R hR _ _ | exact am_R_xor _ _ | exact am_R_or _ _ | exact xkept_R hW _ _ | exact xwait_R hW _ _ | exact xpls_R _ _ | exact xwords_R _ _) | (exact ⟨by omega, by omega⟩)) (fun c42 => ?_) (fun c42 => ?_)
              · -- 42t
                obtain rfl : two = (S 0).toNat := by omega
                refine sx_iinc dX3_worstTwo_122 rfl (by decide) ?_
                refine sx_goto (tgt := 20) dX3_worstTwo_125 (by decide) ?_
                exact sx_forget 5 (sx_forget 6 (ih20 _ (by omega) (one + 1) _ _ _ rfl (by omega) (by simp only [xwo, he20]; exact he34)))
              · -- 42f
                refine sx_iload dX3_worstTwo_45 rfl ?_
                refine sx_iload dX3_worstTwo_47 rfl ?_
                refine sx_icmp_eq (tgt := 81) dX3_worstTwo_49 (by decide) (by first | omega | assumption | (with_reducible first | exact hR _ | exact xwd_R hR _ _ | exact xch_R hR _ _ | exact am_R_xor _ _ | exact am_R_or _ _ | exact xkept_R hW _ _ | exact xwait_R hW _ _ | exact xpls_R _ _ | exact xwords_R _ _) | (exact ⟨by omega, by omega⟩)) (by first | omega | assumption | (with_reducible first | exact hR _ | exact xwd_R hR _ _ | exact xch_R hR _ _ | exact am_R_xor _ _ | exact am_R_or _ _ | exact xkept_R hW _ _ | exact xwait_R hW _ _ | exact xpls_R _ _ | exact xwords_R _ _) | (exact ⟨by omega, by omega⟩)) (fun c49 => ?_) (fun c49 => ?_)
                · -- 49t
                  refine sx_iconst dX3_worstTwo_81 ?_
                  refine sx_istore dX3_worstTwo_82 (by decide) ?_
                  refine sx_iload dX3_worstTwo_84 rfl ?_
                  refine sx_iload_n dX3_worstTwo_86 rfl ?_
                  refine sx_icmp_le (tgt := 101) dX3_worstTwo_87 (by decide) ⟨by decide, by decide⟩ (by first | omega | assumption | (with_reducible first | exact hR _ | exact xwd_R hR _ _ | exact xch_R hR _ _ | exact am_R_xor _ _ | exact am_R_or _ _ | exact xkept_R hW _ _ | exact xwait_R hW _ _ | exact xpls_R _ _ | exact xwords_R _ _) | (exact ⟨by omega, by omega⟩)) (fun c87 => ?_) (fun c87 => ?_)
                  · -- 87t
                    refine sx_iload_n dX3_worstTwo_101 rfl ?_
                    refine sx_istore_n dX3_worstTwo_102 (by decide) ?_
                    refine sx_iload dX3_worstTwo_103 rfl ?_
                    refine sx_iload_n dX3_worstTwo_105 rfl ?_
                    refine sx_icmp_le (tgt := 114) dX3_worstTwo_106 (by decide) ⟨by decide, by decide⟩ (by first | omega | assumption | (with_reducible first | exact hR _ | exact xwd_R hR _ _ | exact xch_R hR _ _ | exact am_R_xor _ _ | exact am_R_or _ _ | exact xkept_R hW _ _ | exact xwait_R hW _ _ | exact xpls_R _ _ | exact xwords_R _ _) | (exact ⟨by omega, by omega⟩)) (fun c106 => ?_) (fun c106 => ?_)
                    · -- 106t
                      refine sx_iload_n dX3_worstTwo_114 rfl ?_
                      refine sx_istore_n dX3_worstTwo_115 (by decide) ?_
                      refine sx_iinc dX3_worstTwo_116 rfl (by decide) ?_
                      refine sx_goto (tgt := 34) dX3_worstTwo_119 (by decide) ?_
                      exact sx_forget 6 (ih34 _ (by omega) (two + 1) _ _ _ rfl (by omega) (by first | (exfalso; omega) | simp only [xwi, xwc, he34, if_pos c6, if_pos c28, if_neg (Int.not_le.mpr c28), if_pos c42, if_neg (Int.not_le.mpr c42), if_pos c49, if_pos c87, if_neg (Int.not_lt.mpr c87), if_pos c106, if_neg (Int.not_lt.mpr c106)]))
                    · -- 106f
                      refine sx_iload dX3_worstTwo_109 rfl ?_
                      refine sx_goto (tgt := 115) dX3_worstTwo_111 (by decide) ?_
                      refine sx_istore_n dX3_worstTwo_115 (by decide) ?_
                      refine sx_iinc dX3_worstTwo_116 rfl (by decide) ?_
                      refine sx_goto (tgt := 34) dX3_worstTwo_119 (by decide) ?_
                      exact sx_forget 6 (ih34 _ (by omega) (two + 1) _ _ _ rfl (by omega) (by first | (exfalso; omega) | simp only [xwi, xwc, he34, if_pos c6, if_pos c28, if_neg (Int.not_le.mpr c28), if_pos c42, if_neg (Int.not_le.mpr c42), if_pos c49, if_pos c87, if_neg (Int.not_lt.mpr c87), if_pos c106, if_neg (Int.not_le.mpr c106)]))
                  · -- 87f
                    refine sx_bipush dX3_worstTwo_90 rfl ?_
                    refine sx_iload dX3_worstTwo_92 rfl ?_
                    refine sx_imul dX3_worstTwo_94 ?_
                    refine sx_iload dX3_worstTwo_95 rfl ?_
                    refine sx_iadd dX3_worstTwo_97 ?_
                    refine sx_goto (tgt := 102) dX3_worstTwo_98 (by decide) ?_
                    refine sx_istore_n dX3_worstTwo_102 (by decide) ?_
                    refine sx_iload dX3_worstTwo_103 rfl ?_
                    refine sx_iload_n dX3_worstTwo_105 rfl ?_
                    refine sx_icmp_le (tgt := 114) dX3_worstTwo_106 (by decide) ⟨by decide, by decide⟩ (by first | omega | assumption | (with_reducible first | exact hR _ | exact xwd_R hR _ _ | exact xch_R hR _ _ | exact am_R_xor _ _ | exact am_R_or _ _ | exact xkept_R hW _ _ | exact xwait_R hW _ _ | exact xpls_R _ _ | exact xwords_R _ _) | (exact ⟨by omega, by omega⟩)) (fun c106 => ?_) (fun c106 => ?_)
                    · -- 106t
                      refine sx_iload_n dX3_worstTwo_114 rfl ?_
                      refine sx_istore_n dX3_worstTwo_115 (by decide) ?_
                      refine sx_iinc dX3_worstTwo_116 rfl (by decide) ?_
                      refine sx_goto (tgt := 34) dX3_worstTwo_119 (by decide) ?_
                      exact sx_forget 6 (ih34 _ (by omega) (two + 1) _ _ _ rfl (by omega) (by first | (exfalso; omega) | simp only [xwi, xwc, he34, if_pos c6, if_pos c28, if_neg (Int.not_le.mpr c28), if_pos c42, if_neg (Int.not_le.mpr c42), if_pos c49, if_pos c87, if_neg (Int.not_le.mpr c87), if_pos c106, if_neg (Int.not_lt.mpr c106)]))
                    · -- 106f
                      refine sx_iload dX3_worstTwo_109 rfl ?_
                      refine sx_goto (tgt := 115) dX3_worstTwo_111 (by decide) ?_
                      refine sx_istore_n dX3_worstTwo_115 (by decide) ?_
                      refine sx_iinc dX3_worstTwo_116 rfl (by decide) ?_
                      refine sx_goto (tgt := 34) dX3_worstTwo_119 (by decide) ?_
                      exact sx_forget 6 (ih34 _ (by omega) (two + 1) _ _ _ rfl (by omega) (by first | (exfalso; omega) | simp only [xwi, xwc, he34, if_pos c6, if_pos c28, if_neg (Int.not_le.mpr c28), if_pos c42, if_neg (Int.not_le.mpr c42), if_pos c49, if_pos c87, if_neg (Int.not_le.mpr c87), if_pos c106, if_neg (Int.not_le.mpr c106)]))
                · -- 49f
                  refine sx_aload_n dX3_worstTwo_52 rfl ?_
                  refine sx_iload dX3_worstTwo_53 rfl ?_
                  refine sx_callVi dX3_worstTwo_55 ml_X3_52 mv3_lives (tx_lives _ (by first | omega | assumption | (with_reducible first | exact hR _ | exact xwd_R hR _ _ | exact xch_R hR _ _ | exact am_R_xor _ _ | exact am_R_or _ _ | exact xkept_R hW _ _ | exact xwait_R hW _ _ | exact xpls_R _ _ | exact xwords_R _ _) | (exact ⟨by omega, by omega⟩))) rfl am_obX rfl (Nat.le_of_ble_eq_true rfl) (Nat.le_of_ble_eq_true rfl) ?_
                  refine sx_ifB_eq (tgt := 81) dX3_worstTwo_58 (by decide) (fun c58 => ?_) (fun c58 => ?_)
                  · -- 58t
                    refine sx_iconst dX3_worstTwo_81 ?_
                    refine sx_istore dX3_worstTwo_82 (by decide) ?_
                    refine sx_iload dX3_worstTwo_84 rfl ?_
                    refine sx_iload_n dX3_worstTwo_86 rfl ?_
                    refine sx_icmp_le (tgt := 101) dX3_worstTwo_87 (by decide) ⟨by decide, by decide⟩ (by first | omega | assumption | (with_reducible first | exact hR _ | exact xwd_R hR _ _ | exact xch_R hR _ _ | exact am_R_xor _ _ | exact am_R_or _ _ | exact xkept_R hW _ _ | exact xwait_R hW _ _ | exact xpls_R _ _ | exact xwords_R _ _) | (exact ⟨by omega, by omega⟩)) (fun c87 => ?_) (fun c87 => ?_)
                    · -- 87t
                      refine sx_iload_n dX3_worstTwo_101 rfl ?_
                      refine sx_istore_n dX3_worstTwo_102 (by decide) ?_
                      refine sx_iload dX3_worstTwo_103 rfl ?_
                      refine sx_iload_n dX3_worstTwo_105 rfl ?_
                      refine sx_icmp_le (tgt := 114) dX3_worstTwo_106 (by decide) ⟨by decide, by decide⟩ (by first | omega | assumption | (with_reducible first | exact hR _ | exact xwd_R hR _ _ | exact xch_R hR _ _ | exact am_R_xor _ _ | exact am_R_or _ _ | exact xkept_R hW _ _ | exact xwait_R hW _ _ | exact xpls_R _ _ | exact xwords_R _ _) | (exact ⟨by omega, by omega⟩)) (fun c106 => ?_) (fun c106 => ?_)
                      · -- 106t
                        refine sx_iload_n dX3_worstTwo_114 rfl ?_
                        refine sx_istore_n dX3_worstTwo_115 (by decide) ?_
                        refine sx_iinc dX3_worstTwo_116 rfl (by decide) ?_
                        refine sx_goto (tgt := 34) dX3_worstTwo_119 (by decide) ?_
                        exact sx_forget 6 (ih34 _ (by omega) (two + 1) _ _ _ rfl (by omega) (by first | (exfalso; omega) | simp only [xwi, xwc, he34, if_pos c6, if_pos c28, if_neg (Int.not_le.mpr c28), if_pos c42, if_neg (Int.not_le.mpr c42), if_neg c49, if_neg c58, if_pos c87, if_neg (Int.not_lt.mpr c87), if_pos c106, if_neg (Int.not_lt.mpr c106)]))
                      · -- 106f
                        refine sx_iload dX3_worstTwo_109 rfl ?_
                        refine sx_goto (tgt := 115) dX3_worstTwo_111 (by decide) ?_
                        refine sx_istore_n dX3_worstTwo_115 (by decide) ?_
                        refine sx_iinc dX3_worstTwo_116 rfl (by decide) ?_
                        refine sx_goto (tgt := 34) dX3_worstTwo_119 (by decide) ?_
                        exact sx_forget 6 (ih34 _ (by omega) (two + 1) _ _ _ rfl (by omega) (by first | (exfalso; omega) | simp only [xwi, xwc, he34, if_pos c6, if_pos c28, if_neg (Int.not_le.mpr c28), if_pos c42, if_neg (Int.not_le.mpr c42), if_neg c49, if_neg c58, if_pos c87, if_neg (Int.not_lt.mpr c87), if_pos c106, if_neg (Int.not_le.mpr c106)]))
                    · -- 87f
                      refine sx_bipush dX3_worstTwo_90 rfl ?_
                      refine sx_iload dX3_worstTwo_92 rfl ?_
                      refine sx_imul dX3_worstTwo_94 ?_
                      refine sx_iload dX3_worstTwo_95 rfl ?_
                      refine sx_iadd dX3_worstTwo_97 ?_
                      refine sx_goto (tgt := 102) dX3_worstTwo_98 (by decide) ?_
                      refine sx_istore_n dX3_worstTwo_102 (by decide) ?_
                      refine sx_iload dX3_worstTwo_103 rfl ?_
                      refine sx_iload_n dX3_worstTwo_105 rfl ?_
                      refine sx_icmp_le (tgt := 114) dX3_worstTwo_106 (by decide) ⟨by decide, by decide⟩ (by first | omega | assumption | (with_reducible first | exact hR _ | exact xwd_R hR _ _ | exact xch_R hR _ _ | exact am_R_xor _ _ | exact am_R_or _ _ | exact xkept_R hW _ _ | exact xwait_R hW _ _ | exact xpls_R _ _ | exact xwords_R _ _) | (exact ⟨by omega, by omega⟩)) (fun c106 => ?_) (fun c106 => ?_)
                      · -- 106t
                        refine sx_iload_n dX3_worstTwo_114 rfl ?_
                        refine sx_istore_n dX3_worstTwo_115 (by decide) ?_
                        refine sx_iinc dX3_worstTwo_116 rfl (by decide) ?_
                        refine sx_goto (tgt := 34) dX3_worstTwo_119 (by decide) ?_
                        exact sx_forget 6 (ih34 _ (by omega) (two + 1) _ _ _ rfl (by omega) (by first | (exfalso; omega) | simp only [xwi, xwc, he34, if_pos c6, if_pos c28, if_neg (Int.not_le.mpr c28), if_pos c42, if_neg (Int.not_le.mpr c42), if_neg c49, if_neg c58, if_pos c87, if_neg (Int.not_le.mpr c87), if_pos c106, if_neg (Int.not_lt.mpr c106)]))
                      · -- 106f
                        refine sx_iload dX3_worstTwo_109 rfl ?_
                        refine sx_goto (tgt := 115) dX3_worstTwo_111 (by decide) ?_
                        refine sx_istore_n dX3_worstTwo_115 (by decide) ?_
                        refine sx_iinc dX3_worstTwo_116 rfl (by decide) ?_
                        refine sx_goto (tgt := 34) dX3_worstTwo_119 (by decide) ?_
                        exact sx_forget 6 (ih34 _ (by omega) (two + 1) _ _ _ rfl (by omega) (by first | (exfalso; omega) | simp only [xwi, xwc, he34, if_pos c6, if_pos c28, if_neg (Int.not_le.mpr c28), if_pos c42, if_neg (Int.not_le.mpr c42), if_neg c49, if_neg c58, if_pos c87, if_neg (Int.not_le.mpr c87), if_pos c106, if_neg (Int.not_le.mpr c106)]))
                  · -- 58f
                    refine sx_aload_n dX3_worstTwo_61 rfl ?_
                    refine sx_iload dX3_worstTwo_62 rfl ?_
                    refine sx_callVi dX3_worstTwo_64 ml_X3_52 mv3_lives (tx_lives _ (by first | omega | assumption | (with_reducible first | exact hR _ | exact xwd_R hR _ _ | exact xch_R hR _ _ | exact am_R_xor _ _ | exact am_R_or _ _ | exact xkept_R hW _ _ | exact xwait_R hW _ _ | exact xpls_R _ _ | exact xwords_R _ _) | (exact ⟨by omega, by omega⟩))) rfl am_obX rfl (Nat.le_of_ble_eq_true rfl) (Nat.le_of_ble_eq_true rfl) ?_
                    refine sx_ifB_eq (tgt := 81) dX3_worstTwo_67 (by decide) (fun c67 => ?_) (fun c67 => ?_)
                    · -- 67t
                      refine sx_iconst dX3_worstTwo_81 ?_
                      refine sx_istore dX3_worstTwo_82 (by decide) ?_
                      refine sx_iload dX3_worstTwo_84 rfl ?_
                      refine sx_iload_n dX3_worstTwo_86 rfl ?_
                      refine sx_icmp_le (tgt := 101) dX3_worstTwo_87 (by decide) ⟨by decide, by decide⟩ (by first | omega | assumption | (with_reducible first | exact hR _ | exact xwd_R hR _ _ | exact xch_R hR _ _ | exact am_R_xor _ _ | exact am_R_or _ _ | exact xkept_R hW _ _ | exact xwait_R hW _ _ | exact xpls_R _ _ | exact xwords_R _ _) | (exact ⟨by omega, by omega⟩)) (fun c87 => ?_) (fun c87 => ?_)
                      · -- 87t
                        refine sx_iload_n dX3_worstTwo_101 rfl ?_
                        refine sx_istore_n dX3_worstTwo_102 (by decide) ?_
                        refine sx_iload dX3_worstTwo_103 rfl ?_
                        refine sx_iload_n dX3_worstTwo_105 rfl ?_
                        refine sx_icmp_le (tgt := 114) dX3_worstTwo_106 (by decide) ⟨by decide, by decide⟩ (by first | omega | assumption | (with_reducible first | exact hR _ | exact xwd_R hR _ _ | exact xch_R hR _ _ | exact am_R_xor _ _ | exact am_R_or _ _ | exact xkept_R hW _ _ | exact xwait_R hW _ _ | exact xpls_R _ _ | exact xwords_R _ _) | (exact ⟨by omega, by omega⟩)) (fun c106 => ?_) (fun c106 => ?_)
                        · -- 106t
                          refine sx_iload_n dX3_worstTwo_114 rfl ?_
                          refine sx_istore_n dX3_worstTwo_115 (by decide) ?_
                          refine sx_iinc dX3_worstTwo_116 rfl (by decide) ?_
                          refine sx_goto (tgt := 34) dX3_worstTwo_119 (by decide) ?_
                          exact sx_forget 6 (ih34 _ (by omega) (two + 1) _ _ _ rfl (by omega) (by first | (exfalso; omega) | simp only [xwi, xwc, he34, if_pos c6, if_pos c28, if_neg (Int.not_le.mpr c28), if_pos c42, if_neg (Int.not_le.mpr c42), if_neg c49, if_pos c58, if_neg c67, if_pos c87, if_neg (Int.not_lt.mpr c87), if_pos c106, if_neg (Int.not_lt.mpr c106)]))
                        · -- 106f
                          refine sx_iload dX3_worstTwo_109 rfl ?_
                          refine sx_goto (tgt := 115) dX3_worstTwo_111 (by decide) ?_
                          refine sx_istore_n dX3_worstTwo_115 (by decide) ?_
                          refine sx_iinc dX3_worstTwo_116 rfl (by decide) ?_
                          refine sx_goto (tgt := 34) dX3_worstTwo_119 (by decide) ?_
                          exact sx_forget 6 (ih34 _ (by omega) (two + 1) _ _ _ rfl (by omega) (by first | (exfalso; omega) | simp only [xwi, xwc, he34, if_pos c6, if_pos c28, if_neg (Int.not_le.mpr c28), if_pos c42, if_neg (Int.not_le.mpr c42), if_neg c49, if_pos c58, if_neg c67, if_pos c87, if_neg (Int.not_lt.mpr c87), if_pos c106, if_neg (Int.not_le.mpr c106)]))
                      · -- 87f
                        refine sx_bipush dX3_worstTwo_90 rfl ?_
                        refine sx_iload dX3_worstTwo_92 rfl ?_
                        refine sx_imul dX3_worstTwo_94 ?_
                        refine sx_iload dX3_worstTwo_95 rfl ?_
                        refine sx_iadd dX3_worstTwo_97 ?_
                        refine sx_goto (tgt := 102) dX3_worstTwo_98 (by decide) ?_
                        refine sx_istore_n dX3_worstTwo_102 (by decide) ?_
                        refine sx_iload dX3_worstTwo_103 rfl ?_
                        refine sx_iload_n dX3_worstTwo_105 rfl ?_
                        refine sx_icmp_le (tgt := 114) dX3_worstTwo_106 (by decide) ⟨by decide, by decide⟩ (by first | omega | assumption | (with_reducible first | exact hR _ | exact xwd_R hR _ _ | exact xch_R hR _ _ | exact am_R_xor _ _ | exact am_R_or _ _ | exact xkept_R hW _ _ | exact xwait_R hW _ _ | exact xpls_R _ _ | exact xwords_R _ _) | (exact ⟨by omega, by omega⟩)) (fun c106 => ?_) (fun c106 => ?_)
                        · -- 106t
                          refine sx_iload_n dX3_worstTwo_114 rfl ?_
                          refine sx_istore_n dX3_worstTwo_115 (by decide) ?_
                          refine sx_iinc dX3_worstTwo_116 rfl (by decide) ?_
                          refine sx_goto (tgt := 34) dX3_worstTwo_119 (by decide) ?_
                          exact sx_forget 6 (ih34 _ (by omega) (two + 1) _ _ _ rfl (by omega) (by first | (exfalso; omega) | simp only [xwi, xwc, he34, if_pos c6, if_pos c28, if_neg (Int.not_le.mpr c28), if_pos c42, if_neg (Int.not_le.mpr c42), if_neg c49, if_pos c58, if_neg c67, if_pos c87, if_neg (Int.not_le.mpr c87), if_pos c106, if_neg (Int.not_lt.mpr c106)]))
                        · -- 106f
                          refine sx_iload dX3_worstTwo_109 rfl ?_
                          refine sx_goto (tgt := 115) dX3_worstTwo_111 (by decide) ?_
                          refine sx_istore_n dX3_worstTwo_115 (by decide) ?_
                          refine sx_iinc dX3_worstTwo_116 rfl (by decide) ?_
                          refine sx_goto (tgt := 34) dX3_worstTwo_119 (by decide) ?_
                          exact sx_forget 6 (ih34 _ (by omega) (two + 1) _ _ _ rfl (by omega) (by first | (exfalso; omega) | simp only [xwi, xwc, he34, if_pos c6, if_pos c28, if_neg (Int.not_le.mpr c28), if_pos c42, if_neg (Int.not_le.mpr c42), if_neg c49, if_pos c58, if_neg c67, if_pos c87, if_neg (Int.not_le.mpr c87), if_pos c106, if_neg (Int.not_le.mpr c106)]))
                    · -- 67f
                      refine sx_aload_n dX3_worstTwo_70 rfl ?_
                      refine sx_iload dX3_worstTwo_71 rfl ?_
                      refine sx_iload dX3_worstTwo_73 rfl ?_
                      refine sx_callVi dX3_worstTwo_75 ml_X3_168 mv3_lossOf (tx_lossOf _ _ hW (by exact ⟨by omega, by omega⟩) (by exact ⟨by omega, by omega⟩) h4) rfl am_obX rfl (Nat.le_of_ble_eq_true rfl) (Nat.le_of_ble_eq_true rfl) ?_
                      refine sx_goto (tgt := 82) dX3_worstTwo_78 (by decide) ?_
                      refine sx_istore dX3_worstTwo_82 (by decide) ?_
                      refine sx_iload dX3_worstTwo_84 rfl ?_
                      refine sx_iload_n dX3_worstTwo_86 rfl ?_
                      refine sx_icmp_le (tgt := 101) dX3_worstTwo_87 (by decide) (by first | omega | assumption | (with_reducible first | exact hR _ | exact xwd_R hR _ _ | exact xch_R hR _ _ | exact am_R_xor _ _ | exact am_R_or _ _ | exact xkept_R hW _ _ | exact xwait_R hW _ _ | exact xpls_R _ _ | exact xwords_R _ _) | (exact ⟨by omega, by omega⟩)) (by first | omega | assumption | (with_reducible first | exact hR _ | exact xwd_R hR _ _ | exact xch_R hR _ _ | exact am_R_xor _ _ | exact am_R_or _ _ | exact xkept_R hW _ _ | exact xwait_R hW _ _ | exact xpls_R _ _ | exact xwords_R _ _) | (exact ⟨by omega, by omega⟩)) (fun c87 => ?_) (fun c87 => ?_)
                      · -- 87t
                        refine sx_iload_n dX3_worstTwo_101 rfl ?_
                        refine sx_istore_n dX3_worstTwo_102 (by decide) ?_
                        refine sx_iload dX3_worstTwo_103 rfl ?_
                        refine sx_iload_n dX3_worstTwo_105 rfl ?_
                        refine sx_icmp_le (tgt := 114) dX3_worstTwo_106 (by decide) (by first | omega | assumption | (with_reducible first | exact hR _ | exact xwd_R hR _ _ | exact xch_R hR _ _ | exact am_R_xor _ _ | exact am_R_or _ _ | exact xkept_R hW _ _ | exact xwait_R hW _ _ | exact xpls_R _ _ | exact xwords_R _ _) | (exact ⟨by omega, by omega⟩)) (by first | omega | assumption | (with_reducible first | exact hR _ | exact xwd_R hR _ _ | exact xch_R hR _ _ | exact am_R_xor _ _ | exact am_R_or _ _ | exact xkept_R hW _ _ | exact xwait_R hW _ _ | exact xpls_R _ _ | exact xwords_R _ _) | (exact ⟨by omega, by omega⟩)) (fun c106 => ?_) (fun c106 => ?_)
                        · -- 106t
                          refine sx_iload_n dX3_worstTwo_114 rfl ?_
                          refine sx_istore_n dX3_worstTwo_115 (by decide) ?_
                          refine sx_iinc dX3_worstTwo_116 rfl (by decide) ?_
                          refine sx_goto (tgt := 34) dX3_worstTwo_119 (by decide) ?_
                          exact sx_forget 6 (ih34 _ (by omega) (two + 1) _ _ _ rfl (by omega) (by first | (exfalso; omega) | simp only [xwi, xwc, he34, if_pos c6, if_pos c28, if_neg (Int.not_le.mpr c28), if_pos c42, if_neg (Int.not_le.mpr c42), if_neg c49, if_pos c58, if_pos c67, if_pos c87, if_neg (Int.not_lt.mpr c87), if_pos c106, if_neg (Int.not_lt.mpr c106)]))
                        · -- 106f
                          refine sx_iload dX3_worstTwo_109 rfl ?_
                          refine sx_goto (tgt := 115) dX3_worstTwo_111 (by decide) ?_
                          refine sx_istore_n dX3_worstTwo_115 (by decide) ?_
                          refine sx_iinc dX3_worstTwo_116 rfl (by decide) ?_
                          refine sx_goto (tgt := 34) dX3_worstTwo_119 (by decide) ?_
                          exact sx_forget 6 (ih34 _ (by omega) (two + 1) _ _ _ rfl (by omega) (by first | (exfalso; omega) | simp only [xwi, xwc, he34, if_pos c6, if_pos c28, if_neg (Int.not_le.mpr c28), if_pos c42, if_neg (Int.not_le.mpr c42), if_neg c49, if_pos c58, if_pos c67, if_pos c87, if_neg (Int.not_lt.mpr c87), if_pos c106, if_neg (Int.not_le.mpr c106)]))
                      · -- 87f
                        refine sx_bipush dX3_worstTwo_90 rfl ?_
                        refine sx_iload dX3_worstTwo_92 rfl ?_
                        refine sx_imul dX3_worstTwo_94 ?_
                        refine sx_iload dX3_worstTwo_95 rfl ?_
                        refine sx_iadd dX3_worstTwo_97 ?_
                        refine sx_goto (tgt := 102) dX3_worstTwo_98 (by decide) ?_
                        refine sx_istore_n dX3_worstTwo_102 (by decide) ?_
                        refine sx_iload dX3_worstTwo_103 rfl ?_
                        refine sx_iload_n dX3_worstTwo_105 rfl ?_
                        refine sx_icmp_le (tgt := 114) dX3_worstTwo_106 (by decide) (by first | omega | assumption | (with_reducible first | exact hR _ | exact xwd_R hR _ _ | exact xch_R hR _ _ | exact am_R_xor _ _ | exact am_R_or _ _ | exact xkept_R hW _ _ | exact xwait_R hW _ _ | exact xpls_R _ _ | exact xwords_R _ _) | (exact ⟨by omega, by omega⟩)) (by first | omega | assumption | (with_reducible first | exact hR _ | exact xwd_R hR _ _ | exact xch_R hR _ _ | exact am_R_xor _ _ | exact am_R_or _ _ | exact xkept_R hW _ _ | exact xwait_R hW _ _ | exact xpls_R _ _ | exact xwords_R _ _) | (exact ⟨by omega, by omega⟩)) (fun c106 => ?_) (fun c106 => ?_)
                        · -- 106t
                          refine sx_iload_n dX3_worstTwo_114 rfl ?_
                          refine sx_istore_n dX3_worstTwo_115 (by decide) ?_
                          refine sx_iinc dX3_worstTwo_116 rfl (by decide) ?_
                          refine sx_goto (tgt := 34) dX3_worstTwo_119 (by decide) ?_
                          exact sx_forget 6 (ih34 _ (by omega) (two + 1) _ _ _ rfl (by omega) (by first | (exfalso; omega) | simp only [xwi, xwc, he34, if_pos c6, if_pos c28, if_neg (Int.not_le.mpr c28), if_pos c42, if_neg (Int.not_le.mpr c42), if_neg c49, if_pos c58, if_pos c67, if_pos c87, if_neg (Int.not_le.mpr c87), if_pos c106, if_neg (Int.not_lt.mpr c106)]))
                        · -- 106f
                          refine sx_iload dX3_worstTwo_109 rfl ?_
                          refine sx_goto (tgt := 115) dX3_worstTwo_111 (by decide) ?_
                          refine sx_istore_n dX3_worstTwo_115 (by decide) ?_
                          refine sx_iinc dX3_worstTwo_116 rfl (by decide) ?_
                          refine sx_goto (tgt := 34) dX3_worstTwo_119 (by decide) ?_
                          exact sx_forget 6 (ih34 _ (by omega) (two + 1) _ _ _ rfl (by omega) (by first | (exfalso; omega) | simp only [xwi, xwc, he34, if_pos c6, if_pos c28, if_neg (Int.not_le.mpr c28), if_pos c42, if_neg (Int.not_le.mpr c42), if_neg c49, if_pos c58, if_pos c67, if_pos c87, if_neg (Int.not_le.mpr c87), if_pos c106, if_neg (Int.not_le.mpr c106)]))
          exact sx_forget 6 (loop34 _ 0 _ _ _ rfl (by omega) rfl)
    exact loop20 _ 0 _ _ _ rfl (by omega) rfl
  · -- 6f
    refine sx_ldc dX3_worstTwo_9 kc_X3_40 ?_
    exact sx_iret dX3_worstTwo_11 rfl (by unfold xworst; simp only [if_neg c6]) (by unfold xworstX; simp only [if_neg c6])
set_option maxHeartbeats 4000000 in
set_option maxRecDepth 100000 in
theorem tx_calm {h0 : am_H} {X : am_M} {S : Nat → Int} (hW : WX S) {n : Int} (hB : BX S n) (hn : n ≤ 500000000)  : Ct 8 Y3_calm [.inr (7, 0)] (some (.inl (xcalm S))) (xh h0 X S) (xh h0 (am_u3 X 4 S) S) := by
  refine Ct_of (by decide +kernel) (Nat.le_of_ble_eq_true rfl) ?_
  show Sx 8 Y3_calm (xh h0 (am_u3 X 4 S) S) (some (.inl (xcalm S))) 0 [some (.inr (7, 0)), none, none] [] (xh h0 X S)
  refine xs_vh (fun hR hRX => ?_)
  obtain ⟨w0, w1, wg, wf, wo⟩ := id hW
  refine sx_aload_n dX3_calm_0 rfl ?_
  refine sx_callVv dX3_calm_1 ml_X3_162 mv3_puts tx_puts rfl am_obX rfl (Nat.le_of_ble_eq_true rfl) (Nat.le_of_ble_eq_true rfl) ?_
  refine sx_iconst dX3_calm_4 ?_
  refine sx_istore_n dX3_calm_5 (by decide) ?_
  refine sx_iconst dX3_calm_6 ?_
  refine sx_istore_n dX3_calm_7 (by decide) ?_
  have loop8 : ∀ (n : Nat) (j : Nat) (b : Int), (25 - j) = n → j ≤ 25 → (b = 0 ∨ b = 1) → (b = 1 → xcalm S = xcalmN S (25 - j) j) → (b = 0 → xcalm S = -1000004) → (xwt (xtS S j) (S 1).toNat ≤ 24 - j ∨ b = 0) → Sx 8 Y3_calm (xh h0 (am_u3 X 4 S) S) (some (.inl (xcalm S))) 8 [some (.inr (7, 0)), some (.inl (j : Int)), some (.inl b)] [] (xh h0 (am_u3 X 4 S) (xtS S j)) := by
    intro n
    induction n using Nat.strongRecOn with
    | _ n ih8 =>
      intro j b hn8 hj hb01 hb1 hb0 hwt
      have hWj := WX_tS hW j
      have hBj := BX_tS hW hB j
      have h1j := (xtS_1 hW j).1
      have hx1 := xt1_wt hWj
      rw [h1j] at hx1
      have hwj := cntW_R (fun w => xwd (xtS S j) w 1 == 1) (S 1).toNat
      have hmw : xmany (xtS S j) (-1) 1 false = xwt (xtS S j) (S 1).toNat := by rw [xmany_wt, h1j]
      have hxt := xt1n_b (xtS S j)
      have hwj2 : 0 ≤ xwt (xtS S j) (S 1).toNat := hwj.1
      have hxc : ∀ j9, j = j9 → j9 ≤ 24 → xcalmN S (25 - j9) j9 = if xmany (xtS S j9) (-1) 1 false ≤ 0 then (j9 : Int) else if xt1n (xtS S j9) ≤ 0 then -1000004 else xcalmN S (25 - (j9 + 1)) (j9 + 1) := fun j9 _ h9 => by rw [show 25 - j9 = (25 - (j9 + 1)) + 1 by omega]; rfl
      refine sx_iload_n dX3_calm_8 rfl ?_
      refine sx_if_eq (tgt := 41) dX3_calm_9 (by decide) (by first | omega | assumption | (with_reducible first | exact hR _ | exact xwd_R hR _ _ | exact xch_R hR _ _ | exact am_R_xor _ _ | exact am_R_or _ _ | exact xkept_R hW _ _ | exact xwait_R hW _ _ | exact xpls_R _ _ | exact xwords_R _ _) | (exact ⟨by omega, by omega⟩)) (fun c9 => ?_) (fun c9 => ?_)
      · -- 9t
        refine sx_aload_n dX3_calm_41 rfl ?_
        skip
        refine sx_callVv dX3_calm_42 ml_X3_165 mv3_restores tx_restores rfl am_obX rfl (Nat.le_of_ble_eq_true rfl) (Nat.le_of_ble_eq_true rfl) ?_
        refine sx_iload_n dX3_calm_45 rfl ?_
        refine sx_if_eq (tgt := 53) dX3_calm_46 (by decide) (by first | omega | assumption | (with_reducible first | exact hR _ | exact xwd_R hR _ _ | exact xch_R hR _ _ | exact am_R_xor _ _ | exact am_R_or _ _ | exact xkept_R hW _ _ | exact xwait_R hW _ _ | exact xpls_R _ _ | exact xwords_R _ _) | (exact ⟨by omega, by omega⟩)) (fun c46 => ?_) (fun c46 => ?_)
        · -- 46t
          refine sx_ldc dX3_calm_53 kc_X3_123 ?_
          exact sx_iret dX3_calm_55 rfl (by first | (exfalso; omega) | (rw [hb0 (by omega)]; done) | (have hj24 : j ≤ 24 := (by first | omega | (have : j = 25 := (by omega); subst this; omega)); have hcc := hb1 (by omega); rw [hxc j rfl hj24, if_pos (by omega)] at hcc; rw [hcc]) | (exfalso; omega)) rfl
        · -- 46f
          refine sx_iload_n dX3_calm_49 rfl ?_
          refine sx_goto (tgt := 55) dX3_calm_50 (by decide) ?_
          exact sx_iret dX3_calm_55 rfl (by first | (exfalso; omega) | (rw [hb0 (by omega)]; done) | (have hj24 : j ≤ 24 := (by first | omega | (have : j = 25 := (by omega); subst this; omega)); have hcc := hb1 (by omega); rw [hxc j rfl hj24, if_pos (by omega)] at hcc; rw [hcc]) | (exfalso; omega)) rfl
      · -- 9f
        refine sx_aload_n dX3_calm_12 rfl ?_
        refine sx_iconst dX3_calm_13 ?_
        refine sx_iconst dX3_calm_14 ?_
        refine sx_iconst dX3_calm_15 ?_
        refine sx_callVi dX3_calm_16 ml_X3_145 mv3_many (tx_many _ _ _ hWj (by exact ⟨by decide, by decide⟩) (by exact ⟨by decide, by decide⟩) (by exact ⟨by decide, by decide⟩)) rfl am_obX rfl (Nat.le_of_ble_eq_true rfl) (Nat.le_of_ble_eq_true rfl) ?_
        show Sx 8 Y3_calm _ _ _ _ [.inl (xmany (xtS S j) (-1) 1 false)] _
        refine sx_if_le (tgt := 41) dX3_calm_19 (by decide) (by first | omega | assumption | (with_reducible first | exact hR _ | exact xwd_R hR _ _ | exact xch_R hR _ _ | exact am_R_xor _ _ | exact am_R_or _ _ | exact xkept_R hW _ _ | exact xwait_R hW _ _ | exact xpls_R _ _ | exact xwords_R _ _) | (exact ⟨by omega, by omega⟩)) (fun c19 => ?_) (fun c19 => ?_)
        · -- 19t
          refine sx_aload_n dX3_calm_41 rfl ?_
          skip
          refine sx_callVv dX3_calm_42 ml_X3_165 mv3_restores tx_restores rfl am_obX rfl (Nat.le_of_ble_eq_true rfl) (Nat.le_of_ble_eq_true rfl) ?_
          refine sx_iload_n dX3_calm_45 rfl ?_
          refine sx_if_eq (tgt := 53) dX3_calm_46 (by decide) (by first | omega | assumption | (with_reducible first | exact hR _ | exact xwd_R hR _ _ | exact xch_R hR _ _ | exact am_R_xor _ _ | exact am_R_or _ _ | exact xkept_R hW _ _ | exact xwait_R hW _ _ | exact xpls_R _ _ | exact xwords_R _ _) | (exact ⟨by omega, by omega⟩)) (fun c46 => ?_) (fun c46 => ?_)
          · -- 46t
            refine sx_ldc dX3_calm_53 kc_X3_123 ?_
            exact sx_iret dX3_calm_55 rfl (by first | (exfalso; omega) | (rw [hb0 (by omega)]; done) | (have hj24 : j ≤ 24 := (by first | omega | (have : j = 25 := (by omega); subst this; omega)); have hcc := hb1 (by omega); rw [hxc j rfl hj24, if_pos (by omega)] at hcc; rw [hcc]) | (exfalso; omega)) rfl
          · -- 46f
            refine sx_iload_n dX3_calm_49 rfl ?_
            refine sx_goto (tgt := 55) dX3_calm_50 (by decide) ?_
            exact sx_iret dX3_calm_55 rfl (by first | (exfalso; omega) | (rw [hb0 (by omega)]; done) | (have hj24 : j ≤ 24 := (by first | omega | (have : j = 25 := (by omega); subst this; omega)); have hcc := hb1 (by omega); rw [hxc j rfl hj24, if_pos (by omega)] at hcc; rw [hcc]) | (exfalso; omega)) rfl
        · -- 19f
          refine sx_aload_n dX3_calm_22 rfl ?_
          refine sx_callVi dX3_calm_23 ml_X3_156 mv3_tickOne (tx_tickOne hWj hBj (by omega)) rfl am_obX rfl (Nat.le_of_ble_eq_true rfl) (Nat.le_of_ble_eq_true rfl) ?_
          refine sx_if_le (tgt := 33) dX3_calm_26 (by decide) (by first | omega | assumption | (with_reducible first | exact hR _ | exact xwd_R hR _ _ | exact xch_R hR _ _ | exact am_R_xor _ _ | exact am_R_or _ _ | exact xkept_R hW _ _ | exact xwait_R hW _ _ | exact xpls_R _ _ | exact xwords_R _ _) | (exact ⟨by omega, by omega⟩)) (fun c26 => ?_) (fun c26 => ?_)
          · -- 26t
            refine sx_iconst dX3_calm_33 ?_
            refine sx_istore_n dX3_calm_34 (by decide) ?_
            refine sx_iinc dX3_calm_35 rfl (by decide) ?_
            refine sx_goto (tgt := 8) dX3_calm_38 (by decide) ?_
            have hj24 : j ≤ 24 := by omega
            have hbb : b = 1 := by omega
            have hcc := hb1 hbb
            rw [hxc j rfl hj24, if_neg (by omega)] at hcc
            exact ih8 _ (by omega) (j + 1) 0 rfl (by omega) (by decide) (fun q => by first | exact absurd q (by decide) | (rw [if_neg (by omega)] at hcc; exact hcc)) (fun q => by first | exact absurd q (by decide) | (rw [if_pos (by omega)] at hcc; exact hcc)) (by first | exact Or.inr rfl | (refine Or.inl ?_; show xwt (xt1 (xtS S j)) (S 1).toNat ≤ _; omega))
          · -- 26f
            refine sx_iconst dX3_calm_29 ?_
            refine sx_goto (tgt := 34) dX3_calm_30 (by decide) ?_
            refine sx_istore_n dX3_calm_34 (by decide) ?_
            refine sx_iinc dX3_calm_35 rfl (by decide) ?_
            refine sx_goto (tgt := 8) dX3_calm_38 (by decide) ?_
            have hj24 : j ≤ 24 := by omega
            have hbb : b = 1 := by omega
            have hcc := hb1 hbb
            rw [hxc j rfl hj24, if_neg (by omega)] at hcc
            exact ih8 _ (by omega) (j + 1) 1 rfl (by omega) (by decide) (fun q => by first | exact absurd q (by decide) | (rw [if_neg (by omega)] at hcc; exact hcc)) (fun q => by first | exact absurd q (by decide) | (rw [if_pos (by omega)] at hcc; exact hcc)) (by first | exact Or.inr rfl | (refine Or.inl ?_; show xwt (xt1 (xtS S j)) (S 1).toNat ≤ _; omega))
  exact loop8 _ 0 1 rfl (by omega) (Or.inr rfl) (fun _ => rfl) (fun q => absurd q (by decide)) (Or.inl (by have q := (cntW_R (fun w => xwd S w 1 == 1) (S 1).toNat).2; have q2 : xwt S (S 1).toNat ≤ (S 1).toNat := q; have q3 : xwt (xtS S 0) (S 1).toNat = xwt S (S 1).toNat := rfl; omega))
set_option maxHeartbeats 4000000 in
set_option maxRecDepth 100000 in
theorem tx_heir {h0 : am_H} {X : am_M} {S : Nat → Int} (f : Int) (hW : WX S) (hf9 : am_R f)  : Ct 7 Y3_heir [.inr (7, 0), .inl f] (some (.inl (xheir S f X))) (xh h0 X S) (xh h0 (xheirX S f X) S) := by
  refine Ct_of (by decide +kernel) (Nat.le_of_ble_eq_true rfl) ?_
  show Sx 7 Y3_heir (xh h0 (xheirX S f X) S) (some (.inl (xheir S f X))) 0 [some (.inr (7, 0)), some (.inl f), none, none, none] [] (xh h0 X S)
  refine xs_vh (fun hR hRX => ?_)
  obtain ⟨w0, w1, wg, wf, wo⟩ := id hW
  refine sx_iload_n dX3_heir_0 rfl ?_
  refine sx_iconst dX3_heir_1 ?_
  refine sx_iconst dX3_heir_2 ?_
  refine sx_callSi dX3_heir_3 ml_X3_32 ms3_in (tx_in _ _ _ (by first | omega | assumption | (with_reducible first | exact hR _ | exact xwd_R hR _ _ | exact xch_R hR _ _ | exact am_R_and _ _ | exact am_R_or _ _ | exact am_R_xor _ _ | exact am_R_shl _ _ | exact am_R_shr _ _ | exact bit_R _ _ | exact xpls_R _ _ | exact xkept_R hW _ _ | exact xwait_R hW _ _ ) | (exact ⟨by omega, by omega⟩) | exact wf _ (by omega) (by omega) | exact wg _ (by omega) (by omega)) (by first | omega | assumption | (with_reducible first | exact hR _ | exact xwd_R hR _ _ | exact xch_R hR _ _ | exact am_R_and _ _ | exact am_R_or _ _ | exact am_R_xor _ _ | exact am_R_shl _ _ | exact am_R_shr _ _ | exact bit_R _ _ | exact xpls_R _ _ | exact xkept_R hW _ _ | exact xwait_R hW _ _ ) | (exact ⟨by omega, by omega⟩) | exact wf _ (by omega) (by omega) | exact wg _ (by omega) (by omega)) (by first | omega | assumption | (with_reducible first | exact hR _ | exact xwd_R hR _ _ | exact xch_R hR _ _ | exact am_R_and _ _ | exact am_R_or _ _ | exact am_R_xor _ _ | exact am_R_shl _ _ | exact am_R_shr _ _ | exact bit_R _ _ | exact xpls_R _ _ | exact xkept_R hW _ _ | exact xwait_R hW _ _ ) | (exact ⟨by omega, by omega⟩) | exact wf _ (by omega) (by omega) | exact wg _ (by omega) (by omega))) rfl rfl (Nat.le_of_ble_eq_true rfl) (Nat.le_of_ble_eq_true rfl) ?_
  refine sx_ifB_ne (tgt := 12) dX3_heir_6 (by decide) (fun c6 => ?_) (fun c6 => ?_)
  · -- 6t
    refine sx_aload_n dX3_heir_12 rfl ?_
    refine xs_getr (j := 1) dX3_heir_13 fl_X3_7 (by decide) rfl ?_
    refine sx_iconst dX3_heir_16 ?_
    refine sx_iload_n dX3_heir_17 rfl ?_
    refine sx_iadd dX3_heir_18 ?_
    refine xs_ild (n := 208) dX3_heir_19 rfl (by decide) (by first | omega | assumption | (with_reducible first | exact hR _ | exact xwd_R hR _ _ | exact xch_R hR _ _ | exact am_R_xor _ _ | exact am_R_or _ _ | exact xkept_R hW _ _ | exact xwait_R hW _ _ | exact xpls_R _ _ | exact xwords_R _ _) | (exact ⟨by omega, by omega⟩)) (by first | omega | assumption | (with_reducible first | exact hR _ | exact xwd_R hR _ _ | exact xch_R hR _ _ | exact am_R_xor _ _ | exact am_R_or _ _ | exact xkept_R hW _ _ | exact xwait_R hW _ _ | exact xpls_R _ _ | exact xwords_R _ _) | (exact ⟨by omega, by omega⟩)) rfl (fun r19 => ?_)
    refine sx_if_lt (tgt := 26) dX3_heir_20 (by decide) (by first | omega | assumption | (with_reducible first | exact hR _ | exact xwd_R hR _ _ | exact xch_R hR _ _ | exact am_R_xor _ _ | exact am_R_or _ _ | exact xkept_R hW _ _ | exact xwait_R hW _ _ | exact xpls_R _ _ | exact xwords_R _ _) | (exact ⟨by omega, by omega⟩)) (fun c20 => ?_) (fun c20 => ?_)
    · -- 20t
      refine sx_ldc dX3_heir_26 kc_X3_123 ?_
      refine sx_istore_n dX3_heir_28 (by decide) ?_
      refine sx_iconst dX3_heir_29 ?_
      refine sx_istore_n dX3_heir_30 (by decide) ?_
      have loop31 : ∀ (n : Nat) (c : Nat) (fd : Int) (Y : am_M), (S 0 - c).toNat = n → (c : Int) ≤ S 0 → xheX S f X c = (fd, Y) → Sx 7 Y3_heir (xh h0 (xheirX S f X) S) (some (.inl (xheir S f X))) 31 [some (.inr (7, 0)), some (.inl f), some (.inl fd), some (.inl (c : Int)), none] [] (xh h0 Y S) := by
        intro n
        induction n using Nat.strongRecOn with
        | _ n ih31 =>
          intro c fd Y hn31 hle31 he31
          have hhb := xheX_b S f X c
          rw [he31] at hhb
          replace hhb : -1000004 ≤ fd ∧ fd < c ∧ Y 1 = X 1 := hhb
          have heb := xempt_b S c
          refine sx_iload_n dX3_heir_31 rfl ?_
          refine sx_aload_n dX3_heir_32 rfl ?_
          refine xs_getr (j := 1) dX3_heir_33 fl_X3_7 (by decide) rfl ?_
          refine sx_iconst dX3_heir_36 ?_
          refine xs_ild (n := 208) (m := 0) dX3_heir_37 rfl (by decide) (by decide) (by decide) rfl (fun r37 => ?_)
          refine sx_icmp_ge (tgt := 116) dX3_heir_38 (by decide) (by first | omega | assumption | (with_reducible first | exact hR _ | exact xwd_R hR _ _ | exact xch_R hR _ _ | exact am_R_xor _ _ | exact am_R_or _ _ | exact xkept_R hW _ _ | exact xwait_R hW _ _ | exact xpls_R _ _ | exact xwords_R _ _) | (exact ⟨by omega, by omega⟩)) (by first | omega | assumption | (with_reducible first | exact hR _ | exact xwd_R hR _ _ | exact xch_R hR _ _ | exact am_R_xor _ _ | exact am_R_or _ _ | exact xkept_R hW _ _ | exact xwait_R hW _ _ | exact xpls_R _ _ | exact xwords_R _ _) | (exact ⟨by omega, by omega⟩)) (fun c38 => ?_) (fun c38 => ?_)
          · -- 38t
            obtain rfl : c = (S 0).toNat := by omega
            refine sx_iload_n dX3_heir_116 rfl ?_
            exact sx_iret dX3_heir_117 rfl (by unfold xheir xgod; simp only [he31, if_pos c6, if_pos c20, if_neg (Int.not_le.mpr c20), if_pos c38, if_neg (Int.not_lt.mpr c38)]) (by unfold xheirX xgod; simp only [he31, if_pos c6, if_pos c20, if_neg (Int.not_le.mpr c20), if_pos c38, if_neg (Int.not_lt.mpr c38)])
          · -- 38f
            refine sx_aload_n dX3_heir_41 rfl ?_
            refine sx_iload_n dX3_heir_42 rfl ?_
            refine sx_callVi dX3_heir_43 ml_X3_52 mv3_lives (tx_lives _ (by first | omega | assumption | (with_reducible first | exact hR _ | exact xwd_R hR _ _ | exact xch_R hR _ _ | exact am_R_xor _ _ | exact am_R_or _ _ | exact xkept_R hW _ _ | exact xwait_R hW _ _ | exact xpls_R _ _ | exact xwords_R _ _) | (exact ⟨by omega, by omega⟩))) rfl am_obX rfl (Nat.le_of_ble_eq_true rfl) (Nat.le_of_ble_eq_true rfl) ?_
            refine sx_ifB_eq (tgt := 110) dX3_heir_46 (by decide) (fun c46 => ?_) (fun c46 => ?_)
            · -- 46t
              refine sx_iinc dX3_heir_110 rfl (by decide) ?_
              refine sx_goto (tgt := 31) dX3_heir_113 (by decide) ?_
              exact sx_forget 4 (ih31 _ (by omega) (c + 1) _ _ rfl (by omega) (by simp only [xheX, he31, if_pos c6, if_pos c20, if_neg (Int.not_le.mpr c20), if_pos c38, if_neg (Int.not_le.mpr c38), if_neg c46]))
            · -- 46f
              refine sx_aload_n dX3_heir_49 rfl ?_
              refine sx_iload_n dX3_heir_50 rfl ?_
              refine sx_iconst dX3_heir_51 ?_
              refine sx_callVi dX3_heir_52 ml_X3_36 mv3_ch (tx_ch _ _ (by first | omega | assumption | (with_reducible first | exact hR _ | exact xwd_R hR _ _ | exact xch_R hR _ _ | exact am_R_and _ _ | exact am_R_or _ _ | exact am_R_xor _ _ | exact am_R_shl _ _ | exact am_R_shr _ _ | exact bit_R _ _ | exact xpls_R _ _ | exact xkept_R hW _ _ | exact xwait_R hW _ _ ) | (exact ⟨by omega, by omega⟩) | exact wf _ (by omega) (by omega) | exact wg _ (by omega) (by omega)) (by first | omega | assumption | (with_reducible first | exact hR _ | exact xwd_R hR _ _ | exact xch_R hR _ _ | exact am_R_and _ _ | exact am_R_or _ _ | exact am_R_xor _ _ | exact am_R_shl _ _ | exact am_R_shr _ _ | exact bit_R _ _ | exact xpls_R _ _ | exact xkept_R hW _ _ | exact xwait_R hW _ _ ) | (exact ⟨by omega, by omega⟩) | exact wf _ (by omega) (by omega) | exact wg _ (by omega) (by omega))) rfl am_obX rfl (Nat.le_of_ble_eq_true rfl) (Nat.le_of_ble_eq_true rfl) ?_
              refine sx_iload_n dX3_heir_55 rfl ?_
              refine sx_icmp_ne (tgt := 110) dX3_heir_56 (by decide) (by first | omega | assumption | (with_reducible first | exact hR _ | exact xwd_R hR _ _ | exact xch_R hR _ _ | exact am_R_xor _ _ | exact am_R_or _ _ | exact xkept_R hW _ _ | exact xwait_R hW _ _ | exact xpls_R _ _ | exact xwords_R _ _) | (exact ⟨by omega, by omega⟩)) (by first | omega | assumption | (with_reducible first | exact hR _ | exact xwd_R hR _ _ | exact xch_R hR _ _ | exact am_R_xor _ _ | exact am_R_or _ _ | exact xkept_R hW _ _ | exact xwait_R hW _ _ | exact xpls_R _ _ | exact xwords_R _ _) | (exact ⟨by omega, by omega⟩)) (fun c56 => ?_) (fun c56 => ?_)
              · -- 56t
                refine sx_iinc dX3_heir_110 rfl (by decide) ?_
                refine sx_goto (tgt := 31) dX3_heir_113 (by decide) ?_
                exact sx_forget 4 (ih31 _ (by omega) (c + 1) _ _ rfl (by omega) (by simp only [xheX, he31, if_pos c6, if_pos c20, if_neg (Int.not_le.mpr c20), if_pos c38, if_neg (Int.not_le.mpr c38), if_pos c46, if_neg c56]))
              · -- 56f
                refine sx_iload_n dX3_heir_59 rfl ?_
                refine sx_if_lt (tgt := 76) dX3_heir_60 (by decide) (by first | omega | assumption | (with_reducible first | exact hR _ | exact xwd_R hR _ _ | exact xch_R hR _ _ | exact am_R_xor _ _ | exact am_R_or _ _ | exact xkept_R hW _ _ | exact xwait_R hW _ _ | exact xpls_R _ _ | exact xwords_R _ _) | (exact ⟨by omega, by omega⟩)) (fun c60 => ?_) (fun c60 => ?_)
                · -- 60t
                  refine sx_aload_n dX3_heir_76 rfl ?_
                  refine sx_callVv dX3_heir_77 ml_X3_162 mv3_puts tx_puts rfl am_obX rfl (Nat.le_of_ble_eq_true rfl) (Nat.le_of_ble_eq_true rfl) ?_
                  refine sx_aload_n dX3_heir_80 rfl ?_
                  refine sx_iload_n dX3_heir_81 rfl ?_
                  refine sx_callVi dX3_heir_82 ml_X3_139 mv3_empties (tx_empties _ hW (by exact ⟨by omega, by omega⟩)) rfl am_obX rfl (Nat.le_of_ble_eq_true rfl) (Nat.le_of_ble_eq_true rfl) ?_
                  refine sx_if_lt (tgt := 92) dX3_heir_85 (by decide) (by first | omega | assumption | (with_reducible first | exact hR _ | exact xwd_R hR _ _ | exact xch_R hR _ _ | exact am_R_xor _ _ | exact am_R_or _ _ | exact xkept_R hW _ _ | exact xwait_R hW _ _ | exact xpls_R _ _ | exact xwords_R _ _) | (exact ⟨by omega, by omega⟩)) (fun c85 => ?_) (fun c85 => ?_)
                  · -- 85t
                    refine sx_iconst dX3_heir_92 ?_
                    refine sx_istore dX3_heir_93 (by decide) ?_
                    refine sx_aload_n dX3_heir_95 rfl ?_
                    refine sx_callVv dX3_heir_96 ml_X3_165 mv3_restores tx_restores rfl am_obX rfl (Nat.le_of_ble_eq_true rfl) (Nat.le_of_ble_eq_true rfl) ?_
                    refine sx_heq (xh h0 (xemX (am_u3 Y 4 S) S c) S) (by unfold xemX; (repeat' split) <;> rfl) ?_
                    refine sx_iload dX3_heir_99 rfl ?_
                    refine sx_if_eq (tgt := 108) dX3_heir_101 (by decide) ⟨by decide, by decide⟩ (fun _ => ?_) (fun q => absurd q (by decide))
                    refine sx_iload_n dX3_heir_108 rfl ?_
                    refine sx_istore_n dX3_heir_109 (by decide) ?_
                    refine sx_iinc dX3_heir_110 rfl (by decide) ?_
                    refine sx_goto (tgt := 31) dX3_heir_113 (by decide) ?_
                    exact sx_forget 4 (ih31 _ (by omega) (c + 1) _ _ rfl (by omega) (by simp only [xheX, he31, if_pos c6, if_pos c20, if_neg (Int.not_le.mpr c20), if_pos c38, if_neg (Int.not_le.mpr c38), if_pos c46, if_pos c56, if_pos c60, if_neg (Int.not_le.mpr c60), if_pos c85, if_neg (Int.not_le.mpr c85)]))
                  · -- 85f
                    refine sx_iconst dX3_heir_88 ?_
                    refine sx_goto (tgt := 93) dX3_heir_89 (by decide) ?_
                    refine sx_istore dX3_heir_93 (by decide) ?_
                    refine sx_aload_n dX3_heir_95 rfl ?_
                    refine sx_callVv dX3_heir_96 ml_X3_165 mv3_restores tx_restores rfl am_obX rfl (Nat.le_of_ble_eq_true rfl) (Nat.le_of_ble_eq_true rfl) ?_
                    refine sx_heq (xh h0 (xemX (am_u3 Y 4 S) S c) S) (by unfold xemX; (repeat' split) <;> rfl) ?_
                    refine sx_iload dX3_heir_99 rfl ?_
                    refine sx_if_eq (tgt := 108) dX3_heir_101 (by decide) ⟨by decide, by decide⟩ (fun q => absurd q (by decide)) (fun _ => ?_)
                    refine sx_iload_n dX3_heir_104 rfl ?_
                    refine sx_goto (tgt := 109) dX3_heir_105 (by decide) ?_
                    refine sx_istore_n dX3_heir_109 (by decide) ?_
                    refine sx_iinc dX3_heir_110 rfl (by decide) ?_
                    refine sx_goto (tgt := 31) dX3_heir_113 (by decide) ?_
                    exact sx_forget 4 (ih31 _ (by omega) (c + 1) _ _ rfl (by omega) (by simp only [xheX, he31, if_pos c6, if_pos c20, if_neg (Int.not_le.mpr c20), if_pos c38, if_neg (Int.not_le.mpr c38), if_pos c46, if_pos c56, if_pos c60, if_neg (Int.not_le.mpr c60), if_pos c85, if_neg (Int.not_lt.mpr c85)]))
                · -- 60f
                  refine sx_aload_n dX3_heir_63 rfl ?_
                  refine sx_iload_n dX3_heir_64 rfl ?_
                  refine sx_callVi dX3_heir_65 ml_X3_93 mv3_words (tx_words _ hW (by omega)) rfl am_obX rfl (Nat.le_of_ble_eq_true rfl) (Nat.le_of_ble_eq_true rfl) ?_
                  refine sx_aload_n dX3_heir_68 rfl ?_
                  refine sx_iload_n dX3_heir_69 rfl ?_
                  refine sx_callVi dX3_heir_70 ml_X3_93 mv3_words (tx_words _ hW (by omega)) rfl am_obX rfl (Nat.le_of_ble_eq_true rfl) (Nat.le_of_ble_eq_true rfl) ?_
                  refine sx_icmp_ge (tgt := 110) dX3_heir_73 (by decide) (by first | omega | assumption | (with_reducible first | exact hR _ | exact xwd_R hR _ _ | exact xch_R hR _ _ | exact am_R_xor _ _ | exact am_R_or _ _ | exact xkept_R hW _ _ | exact xwait_R hW _ _ | exact xpls_R _ _ | exact xwords_R _ _) | (exact ⟨by omega, by omega⟩)) (by first | omega | assumption | (with_reducible first | exact hR _ | exact xwd_R hR _ _ | exact xch_R hR _ _ | exact am_R_xor _ _ | exact am_R_or _ _ | exact xkept_R hW _ _ | exact xwait_R hW _ _ | exact xpls_R _ _ | exact xwords_R _ _) | (exact ⟨by omega, by omega⟩)) (fun c73 => ?_) (fun c73 => ?_)
                  · -- 73t
                    refine sx_iinc dX3_heir_110 rfl (by decide) ?_
                    refine sx_goto (tgt := 31) dX3_heir_113 (by decide) ?_
                    exact sx_forget 4 (ih31 _ (by omega) (c + 1) _ _ rfl (by omega) (by simp only [xheX, he31, if_pos c6, if_pos c20, if_neg (Int.not_le.mpr c20), if_pos c38, if_neg (Int.not_le.mpr c38), if_pos c46, if_pos c56, if_pos c60, if_neg (Int.not_lt.mpr c60), if_pos c73, if_neg (Int.not_lt.mpr c73)]))
                  · -- 73f
                    refine sx_aload_n dX3_heir_76 rfl ?_
                    refine sx_callVv dX3_heir_77 ml_X3_162 mv3_puts tx_puts rfl am_obX rfl (Nat.le_of_ble_eq_true rfl) (Nat.le_of_ble_eq_true rfl) ?_
                    refine sx_aload_n dX3_heir_80 rfl ?_
                    refine sx_iload_n dX3_heir_81 rfl ?_
                    refine sx_callVi dX3_heir_82 ml_X3_139 mv3_empties (tx_empties _ hW (by exact ⟨by omega, by omega⟩)) rfl am_obX rfl (Nat.le_of_ble_eq_true rfl) (Nat.le_of_ble_eq_true rfl) ?_
                    refine sx_if_lt (tgt := 92) dX3_heir_85 (by decide) (by first | omega | assumption | (with_reducible first | exact hR _ | exact xwd_R hR _ _ | exact xch_R hR _ _ | exact am_R_xor _ _ | exact am_R_or _ _ | exact xkept_R hW _ _ | exact xwait_R hW _ _ | exact xpls_R _ _ | exact xwords_R _ _) | (exact ⟨by omega, by omega⟩)) (fun c85 => ?_) (fun c85 => ?_)
                    · -- 85t
                      refine sx_iconst dX3_heir_92 ?_
                      refine sx_istore dX3_heir_93 (by decide) ?_
                      refine sx_aload_n dX3_heir_95 rfl ?_
                      refine sx_callVv dX3_heir_96 ml_X3_165 mv3_restores tx_restores rfl am_obX rfl (Nat.le_of_ble_eq_true rfl) (Nat.le_of_ble_eq_true rfl) ?_
                      refine sx_heq (xh h0 (xemX (am_u3 Y 4 S) S c) S) (by unfold xemX; (repeat' split) <;> rfl) ?_
                      refine sx_iload dX3_heir_99 rfl ?_
                      refine sx_if_eq (tgt := 108) dX3_heir_101 (by decide) ⟨by decide, by decide⟩ (fun _ => ?_) (fun q => absurd q (by decide))
                      refine sx_iload_n dX3_heir_108 rfl ?_
                      refine sx_istore_n dX3_heir_109 (by decide) ?_
                      refine sx_iinc dX3_heir_110 rfl (by decide) ?_
                      refine sx_goto (tgt := 31) dX3_heir_113 (by decide) ?_
                      exact sx_forget 4 (ih31 _ (by omega) (c + 1) _ _ rfl (by omega) (by simp only [xheX, he31, if_pos c6, if_pos c20, if_neg (Int.not_le.mpr c20), if_pos c38, if_neg (Int.not_le.mpr c38), if_pos c46, if_pos c56, if_pos c60, if_neg (Int.not_lt.mpr c60), if_pos c73, if_neg (Int.not_le.mpr c73), if_pos c85, if_neg (Int.not_le.mpr c85)]))
                    · -- 85f
                      refine sx_iconst dX3_heir_88 ?_
                      refine sx_goto (tgt := 93) dX3_heir_89 (by decide) ?_
                      refine sx_istore dX3_heir_93 (by decide) ?_
                      refine sx_aload_n dX3_heir_95 rfl ?_
                      refine sx_callVv dX3_heir_96 ml_X3_165 mv3_restores tx_restores rfl am_obX rfl (Nat.le_of_ble_eq_true rfl) (Nat.le_of_ble_eq_true rfl) ?_
                      refine sx_heq (xh h0 (xemX (am_u3 Y 4 S) S c) S) (by unfold xemX; (repeat' split) <;> rfl) ?_
                      refine sx_iload dX3_heir_99 rfl ?_
                      refine sx_if_eq (tgt := 108) dX3_heir_101 (by decide) ⟨by decide, by decide⟩ (fun q => absurd q (by decide)) (fun _ => ?_)
                      refine sx_iload_n dX3_heir_104 rfl ?_
                      refine sx_goto (tgt := 109) dX3_heir_105 (by decide) ?_
                      refine sx_istore_n dX3_heir_109 (by decide) ?_
                      refine sx_iinc dX3_heir_110 rfl (by decide) ?_
                      refine sx_goto (tgt := 31) dX3_heir_113 (by decide) ?_
                      exact sx_forget 4 (ih31 _ (by omega) (c + 1) _ _ rfl (by omega) (by simp only [xheX, he31, if_pos c6, if_pos c20, if_neg (Int.not_le.mpr c20), if_pos c38, if_neg (Int.not_le.mpr c38), if_pos c46, if_pos c56, if_pos c60, if_neg (Int.not_lt.mpr c60), if_pos c73, if_neg (Int.not_le.mpr c73), if_pos c85, if_neg (Int.not_lt.mpr c85)]))
      exact loop31 _ 0 _ _ rfl (by omega) rfl
    · -- 20f
      refine sx_ldc dX3_heir_23 kc_X3_96 ?_
      exact sx_iret dX3_heir_25 rfl (by unfold xheir xgod; simp only [if_pos c6, if_pos c20, if_neg (Int.not_lt.mpr c20)]) (by unfold xheirX xgod; simp only [if_pos c6, if_pos c20, if_neg (Int.not_lt.mpr c20)])
  · -- 6f
    refine sx_ldc dX3_heir_9 kc_X3_40 ?_
    exact sx_iret dX3_heir_11 rfl (by unfold xheir xgod; simp only [if_neg c6]) (by unfold xheirX xgod; simp only [if_neg c6])
set_option maxHeartbeats 4000000 in
set_option maxRecDepth 100000 in
theorem tx_count {h0 : am_H} {X : am_M} {S : Nat → Int} (k : Int) (hW : WX S) (hk9 : am_R k)  : Ct 5 Y3_count [.inr (7, 0), .inl k] (some (.inl (xcount X S k))) (xh h0 X S) (xh h0 X S) := by
  refine Ct_of (by decide +kernel) (Nat.le_of_ble_eq_true rfl) ?_
  show Sx 5 Y3_count (xh h0 X S) (some (.inl (xcount X S k))) 0 [some (.inr (7, 0)), some (.inl k), none, none, none, none] [] (xh h0 X S)
  refine xs_vh (fun hR hRX => ?_)
  obtain ⟨w0, w1, wg, wf, wo⟩ := id hW
  refine sx_iconst dX3_count_0 ?_
  refine sx_istore_n dX3_count_1 (by decide) ?_
  refine sx_iconst dX3_count_2 ?_
  refine sx_istore_n dX3_count_3 (by decide) ?_
  refine sx_iconst dX3_count_4 ?_
  refine sx_istore dX3_count_5 (by decide) ?_
  have loop7 : ∀ (n : Nat) (c : Nat), (S 0 - c).toNat = n → (c : Int) ≤ S 0 → Sx 5 Y3_count (xh h0 X S) (some (.inl (xcount X S k))) 7 [some (.inr (7, 0)), some (.inl k), some (.inl (sumW (fun c => xch S c 2) c)), some (.inl (sumW (fun c => xpls S c) c)), some (.inl (c : Int)), none] [] (xh h0 X S) := by
    intro n
    induction n using Nat.strongRecOn with
    | _ n ih7 =>
      intro c hn7 hle7
      refine sx_iload dX3_count_7 rfl ?_
      refine sx_aload_n dX3_count_9 rfl ?_
      refine xs_getr (j := 1) dX3_count_10 fl_X3_7 (by decide) rfl ?_
      refine sx_iconst dX3_count_13 ?_
      refine xs_ild (n := 208) (m := 0) dX3_count_14 rfl (by decide) (by decide) (by decide) rfl (fun r14 => ?_)
      refine sx_icmp_ge (tgt := 43) dX3_count_15 (by decide) (by first | omega | assumption | (with_reducible first | exact hR _ | exact xwd_R hR _ _ | exact xch_R hR _ _ | exact am_R_xor _ _ | exact am_R_or _ _ | exact xkept_R hW _ _ | exact xwait_R hW _ _ | exact xpls_R _ _ | exact xwords_R _ _) | (exact ⟨by omega, by omega⟩)) (by first | omega | assumption | (with_reducible first | exact hR _ | exact xwd_R hR _ _ | exact xch_R hR _ _ | exact am_R_xor _ _ | exact am_R_or _ _ | exact xkept_R hW _ _ | exact xwait_R hW _ _ | exact xpls_R _ _ | exact xwords_R _ _) | (exact ⟨by omega, by omega⟩)) (fun c15 => ?_) (fun c15 => ?_)
      · -- 15t
        obtain rfl : c = (S 0).toNat := by omega
        refine sx_iconst dX3_count_43 ?_
        refine sx_istore dX3_count_44 (by decide) ?_
        refine sx_iconst dX3_count_46 ?_
        refine sx_istore dX3_count_47 (by decide) ?_
        have loop49 : ∀ (n : Nat) (g : Int) (f : Nat), (3 - f) = n → f ≤ 3 → g = cntW (fun f => decide (0 ≤ xgod S f)) f → Sx 5 Y3_count (xh h0 X S) (some (.inl (xcount X S k))) 49 [some (.inr (7, 0)), some (.inl k), some (.inl (sumW (fun c => xch S c 2) (S 0).toNat)), some (.inl (sumW (fun c => xpls S c) (S 0).toNat)), some (.inl g), some (.inl (f : Int))] [] (xh h0 X S) := by
          intro n
          induction n using Nat.strongRecOn with
          | _ n ih49 =>
            intro g f hn49 hle49 hg
            refine sx_iload dX3_count_49 rfl ?_
            refine sx_iconst dX3_count_51 ?_
            refine sx_icmp_ge (tgt := 83) dX3_count_52 (by decide) (by first | omega | assumption | (with_reducible first | exact hR _ | exact xwd_R hR _ _ | exact xch_R hR _ _ | exact am_R_xor _ _ | exact am_R_or _ _ | exact xkept_R hW _ _ | exact xwait_R hW _ _ | exact xpls_R _ _ | exact xwords_R _ _) | (exact ⟨by omega, by omega⟩)) ⟨by decide, by decide⟩ (fun c52 => ?_) (fun c52 => ?_)
            · -- 52t
              have hf3 : f = 3 := by omega
              subst hf3
              refine sx_iload_n dX3_count_83 rfl ?_
              have hs84 : k < 0 ∨ 11 < k ∨ k = 0 ∨ k = 1 ∨ k = 2 ∨ k = 3 ∨ k = 4 ∨ k = 5 ∨ k = 6 ∨ k = 7 ∨ k = 8 ∨ k = 9 ∨ k = 10 ∨ k = 11 := by omega
              rcases hs84 with hs84 | hs84 | hs84 | hs84 | hs84 | hs84 | hs84 | hs84 | hs84 | hs84 | hs84 | hs84 | hs84 | hs84
              · refine sx_tableOut (tgt := 203) dX3_count_84 (by first | omega | assumption | (with_reducible first | exact hR _ | exact xwd_R hR _ _ | exact xch_R hR _ _ | exact am_R_xor _ _ | exact am_R_or _ _ | exact xkept_R hW _ _ | exact xwait_R hW _ _ | exact xpls_R _ _ | exact xwords_R _ _) | (exact ⟨by omega, by omega⟩)) (Or.inl hs84) (by decide) ?_
                refine sx_ldc dX3_count_203 kc_X3_40 ?_
                exact sx_iret dX3_count_205 rfl (by first | rfl | (rw [hg]; rfl) | (unfold xcount; (repeat rw [if_neg (by omega)]); rfl) | (unfold xcount; (repeat rw [if_neg (by omega)]))) rfl
              · refine sx_tableOut (tgt := 203) dX3_count_84 (by first | omega | assumption | (with_reducible first | exact hR _ | exact xwd_R hR _ _ | exact xch_R hR _ _ | exact am_R_xor _ _ | exact am_R_or _ _ | exact xkept_R hW _ _ | exact xwait_R hW _ _ | exact xpls_R _ _ | exact xwords_R _ _) | (exact ⟨by omega, by omega⟩)) (Or.inr hs84) (by decide) ?_
                refine sx_ldc dX3_count_203 kc_X3_40 ?_
                exact sx_iret dX3_count_205 rfl (by first | rfl | (rw [hg]; rfl) | (unfold xcount; (repeat rw [if_neg (by omega)]); rfl) | (unfold xcount; (repeat rw [if_neg (by omega)]))) rfl
              · subst hs84
                refine sx_tableIn (tgt := 148) (off := 64) dX3_count_84 ⟨by decide, by decide⟩ (by decide) (by decide) rfl (by decide) ?_
                refine sx_aload_n dX3_count_148 rfl ?_
                refine xs_getr (j := 1) dX3_count_149 fl_X3_7 (by decide) rfl ?_
                refine sx_iconst dX3_count_152 ?_
                refine xs_ild (n := 208) (m := 0) dX3_count_153 rfl (by decide) (by decide) (by decide) rfl (fun r153 => ?_)
                exact sx_iret dX3_count_154 rfl (by first | rfl | (rw [hg]; rfl) | (unfold xcount; (repeat rw [if_neg (by omega)]); rfl) | (unfold xcount; (repeat rw [if_neg (by omega)]))) rfl
              · subst hs84
                refine sx_tableIn (tgt := 155) (off := 71) dX3_count_84 ⟨by decide, by decide⟩ (by decide) (by decide) rfl (by decide) ?_
                refine sx_iload_n dX3_count_155 rfl ?_
                exact sx_iret dX3_count_156 rfl (by first | rfl | (rw [hg]; rfl) | (unfold xcount; (repeat rw [if_neg (by omega)]); rfl) | (unfold xcount; (repeat rw [if_neg (by omega)]))) rfl
              · subst hs84
                refine sx_tableIn (tgt := 157) (off := 73) dX3_count_84 ⟨by decide, by decide⟩ (by decide) (by decide) rfl (by decide) ?_
                refine sx_aload_n dX3_count_157 rfl ?_
                refine xs_getr (j := 1) dX3_count_158 fl_X3_7 (by decide) rfl ?_
                refine sx_iconst dX3_count_161 ?_
                refine xs_ild (n := 208) (m := 1) dX3_count_162 rfl (by decide) (by decide) (by decide) rfl (fun r162 => ?_)
                exact sx_iret dX3_count_163 rfl (by first | rfl | (rw [hg]; rfl) | (unfold xcount; (repeat rw [if_neg (by omega)]); rfl) | (unfold xcount; (repeat rw [if_neg (by omega)]))) rfl
              · subst hs84
                refine sx_tableIn (tgt := 164) (off := 80) dX3_count_84 ⟨by decide, by decide⟩ (by decide) (by decide) rfl (by decide) ?_
                refine sx_aload_n dX3_count_164 rfl ?_
                refine sx_iconst dX3_count_165 ?_
                refine sx_iload_n dX3_count_166 rfl ?_
                refine sx_iconst dX3_count_167 ?_
                refine sx_isub dX3_count_168 ?_
                refine sx_iconst dX3_count_169 ?_
                refine sx_callVi dX3_count_170 ml_X3_145 mv3_many (tx_many _ _ _ hW (by exact ⟨by decide, by decide⟩) (by exact ⟨by decide, by decide⟩) (by exact ⟨by decide, by decide⟩)) rfl am_obX rfl (Nat.le_of_ble_eq_true rfl) (Nat.le_of_ble_eq_true rfl) ?_
                exact sx_iret dX3_count_173 rfl (by first | rfl | (rw [hg]; rfl) | (unfold xcount; (repeat rw [if_neg (by omega)]); rfl) | (unfold xcount; (repeat rw [if_neg (by omega)]))) rfl
              · subst hs84
                refine sx_tableIn (tgt := 164) (off := 80) dX3_count_84 ⟨by decide, by decide⟩ (by decide) (by decide) rfl (by decide) ?_
                refine sx_aload_n dX3_count_164 rfl ?_
                refine sx_iconst dX3_count_165 ?_
                refine sx_iload_n dX3_count_166 rfl ?_
                refine sx_iconst dX3_count_167 ?_
                refine sx_isub dX3_count_168 ?_
                refine sx_iconst dX3_count_169 ?_
                refine sx_callVi dX3_count_170 ml_X3_145 mv3_many (tx_many _ _ _ hW (by exact ⟨by decide, by decide⟩) (by exact ⟨by decide, by decide⟩) (by exact ⟨by decide, by decide⟩)) rfl am_obX rfl (Nat.le_of_ble_eq_true rfl) (Nat.le_of_ble_eq_true rfl) ?_
                exact sx_iret dX3_count_173 rfl (by first | rfl | (rw [hg]; rfl) | (unfold xcount; (repeat rw [if_neg (by omega)]); rfl) | (unfold xcount; (repeat rw [if_neg (by omega)]))) rfl
              · subst hs84
                refine sx_tableIn (tgt := 164) (off := 80) dX3_count_84 ⟨by decide, by decide⟩ (by decide) (by decide) rfl (by decide) ?_
                refine sx_aload_n dX3_count_164 rfl ?_
                refine sx_iconst dX3_count_165 ?_
                refine sx_iload_n dX3_count_166 rfl ?_
                refine sx_iconst dX3_count_167 ?_
                refine sx_isub dX3_count_168 ?_
                refine sx_iconst dX3_count_169 ?_
                refine sx_callVi dX3_count_170 ml_X3_145 mv3_many (tx_many _ _ _ hW (by exact ⟨by decide, by decide⟩) (by exact ⟨by decide, by decide⟩) (by exact ⟨by decide, by decide⟩)) rfl am_obX rfl (Nat.le_of_ble_eq_true rfl) (Nat.le_of_ble_eq_true rfl) ?_
                exact sx_iret dX3_count_173 rfl (by first | rfl | (rw [hg]; rfl) | (unfold xcount; (repeat rw [if_neg (by omega)]); rfl) | (unfold xcount; (repeat rw [if_neg (by omega)]))) rfl
              · subst hs84
                refine sx_tableIn (tgt := 174) (off := 90) dX3_count_84 ⟨by decide, by decide⟩ (by decide) (by decide) rfl (by decide) ?_
                refine sx_aload_n dX3_count_174 rfl ?_
                refine xs_getr (j := 1) dX3_count_175 fl_X3_7 (by decide) rfl ?_
                refine sx_iconst dX3_count_178 ?_
                refine xs_ild (n := 208) (m := 2) dX3_count_179 rfl (by decide) (by decide) (by decide) rfl (fun r179 => ?_)
                exact sx_iret dX3_count_180 rfl (by first | rfl | (rw [hg]; rfl) | (unfold xcount; (repeat rw [if_neg (by omega)]); rfl) | (unfold xcount; (repeat rw [if_neg (by omega)]))) rfl
              · subst hs84
                refine sx_tableIn (tgt := 181) (off := 97) dX3_count_84 ⟨by decide, by decide⟩ (by decide) (by decide) rfl (by decide) ?_
                refine sx_aload_n dX3_count_181 rfl ?_
                refine xs_getr (j := 1) dX3_count_182 fl_X3_7 (by decide) rfl ?_
                refine sx_iconst dX3_count_185 ?_
                refine xs_ild (n := 208) (m := 3) dX3_count_186 rfl (by decide) (by decide) (by decide) rfl (fun r186 => ?_)
                exact sx_iret dX3_count_187 rfl (by first | rfl | (rw [hg]; rfl) | (unfold xcount; (repeat rw [if_neg (by omega)]); rfl) | (unfold xcount; (repeat rw [if_neg (by omega)]))) rfl
              · subst hs84
                refine sx_tableIn (tgt := 188) (off := 104) dX3_count_84 ⟨by decide, by decide⟩ (by decide) (by decide) rfl (by decide) ?_
                refine sx_iload dX3_count_188 rfl ?_
                exact sx_iret dX3_count_190 rfl (by first | rfl | (rw [hg]; rfl) | (unfold xcount; (repeat rw [if_neg (by omega)]); rfl) | (unfold xcount; (repeat rw [if_neg (by omega)]))) rfl
              · subst hs84
                refine sx_tableIn (tgt := 191) (off := 107) dX3_count_84 ⟨by decide, by decide⟩ (by decide) (by decide) rfl (by decide) ?_
                refine sx_iload_n dX3_count_191 rfl ?_
                exact sx_iret dX3_count_192 rfl (by first | rfl | (rw [hg]; rfl) | (unfold xcount; (repeat rw [if_neg (by omega)]); rfl) | (unfold xcount; (repeat rw [if_neg (by omega)]))) rfl
              · subst hs84
                refine sx_tableIn (tgt := 193) (off := 109) dX3_count_84 ⟨by decide, by decide⟩ (by decide) (by decide) rfl (by decide) ?_
                refine sx_aload_n dX3_count_193 rfl ?_
                refine xs_geti dX3_count_194 fl_X3_41 (by decide) (fun r194 => ?_)
                exact sx_iret dX3_count_197 rfl (by first | rfl | (rw [hg]; rfl) | (unfold xcount; (repeat rw [if_neg (by omega)]); rfl) | (unfold xcount; (repeat rw [if_neg (by omega)]))) rfl
              · subst hs84
                refine sx_tableIn (tgt := 198) (off := 114) dX3_count_84 ⟨by decide, by decide⟩ (by decide) (by decide) rfl (by decide) ?_
                refine sx_aload_n dX3_count_198 rfl ?_
                refine xs_geti dX3_count_199 fl_X3_171 (by decide) (fun r199 => ?_)
                exact sx_iret dX3_count_202 rfl (by first | rfl | (rw [hg]; rfl) | (unfold xcount; (repeat rw [if_neg (by omega)]); rfl) | (unfold xcount; (repeat rw [if_neg (by omega)]))) rfl
            · -- 52f
              refine sx_iload dX3_count_55 rfl ?_
              refine sx_aload_n dX3_count_57 rfl ?_
              refine xs_getr (j := 1) dX3_count_58 fl_X3_7 (by decide) rfl ?_
              refine sx_iconst dX3_count_61 ?_
              refine sx_iload dX3_count_62 rfl ?_
              refine sx_iadd dX3_count_64 ?_
              refine xs_ild (n := 208) dX3_count_65 rfl (by decide) (by first | omega | assumption | (with_reducible first | exact hR _ | exact xwd_R hR _ _ | exact xch_R hR _ _ | exact am_R_xor _ _ | exact am_R_or _ _ | exact xkept_R hW _ _ | exact xwait_R hW _ _ | exact xpls_R _ _ | exact xwords_R _ _) | (exact ⟨by omega, by omega⟩)) (by first | omega | assumption | (with_reducible first | exact hR _ | exact xwd_R hR _ _ | exact xch_R hR _ _ | exact am_R_xor _ _ | exact am_R_or _ _ | exact xkept_R hW _ _ | exact xwait_R hW _ _ | exact xpls_R _ _ | exact xwords_R _ _) | (exact ⟨by omega, by omega⟩)) rfl (fun r65 => ?_)
              refine sx_if_ge (tgt := 73) dX3_count_66 (by decide) (by first | omega | assumption | (with_reducible first | exact hR _ | exact xwd_R hR _ _ | exact xch_R hR _ _ | exact am_R_xor _ _ | exact am_R_or _ _ | exact xkept_R hW _ _ | exact xwait_R hW _ _ | exact xpls_R _ _ | exact xwords_R _ _) | (exact ⟨by omega, by omega⟩)) (fun c66 => ?_) (fun c66 => ?_)
              · -- 66t
                refine sx_iconst dX3_count_73 ?_
                refine sx_iadd dX3_count_74 ?_
                refine sx_istore dX3_count_75 (by decide) ?_
                refine sx_iinc dX3_count_77 rfl (by decide) ?_
                refine sx_goto (tgt := 49) dX3_count_80 (by decide) ?_
                exact ih49 _ (by omega) _ (f + 1) rfl (by omega) (by first | exact cntW_t hg (decide_eq_true (show 0 ≤ xgod S f from c66)) | exact cntW_f hg (decide_eq_false (show ¬ 0 ≤ xgod S f from Int.not_le.mpr c66)))
              · -- 66f
                refine sx_iconst dX3_count_69 ?_
                refine sx_goto (tgt := 74) dX3_count_70 (by decide) ?_
                refine sx_iadd dX3_count_74 ?_
                refine sx_istore dX3_count_75 (by decide) ?_
                refine sx_iinc dX3_count_77 rfl (by decide) ?_
                refine sx_goto (tgt := 49) dX3_count_80 (by decide) ?_
                exact ih49 _ (by omega) _ (f + 1) rfl (by omega) (by first | exact cntW_t hg (decide_eq_true (show 0 ≤ xgod S f from c66)) | exact cntW_f hg (decide_eq_false (show ¬ 0 ≤ xgod S f from Int.not_le.mpr c66)))
        exact loop49 _ _ 0 rfl (by omega) rfl
      · -- 15f
        refine sx_iload_n dX3_count_18 rfl ?_
        refine sx_aload_n dX3_count_19 rfl ?_
        refine sx_iload dX3_count_20 rfl ?_
        refine sx_iconst dX3_count_22 ?_
        refine sx_callVi dX3_count_23 ml_X3_36 mv3_ch (tx_ch _ _ (by first | omega | assumption | (with_reducible first | exact hR _ | exact xwd_R hR _ _ | exact xch_R hR _ _ | exact am_R_xor _ _ | exact am_R_or _ _ | exact xkept_R hW _ _ | exact xwait_R hW _ _ | exact xpls_R _ _ | exact xwords_R _ _) | (exact ⟨by omega, by omega⟩)) (by first | omega | assumption | (with_reducible first | exact hR _ | exact xwd_R hR _ _ | exact xch_R hR _ _ | exact am_R_xor _ _ | exact am_R_or _ _ | exact xkept_R hW _ _ | exact xwait_R hW _ _ | exact xpls_R _ _ | exact xwords_R _ _) | (exact ⟨by omega, by omega⟩))) rfl am_obX rfl (Nat.le_of_ble_eq_true rfl) (Nat.le_of_ble_eq_true rfl) ?_
        refine sx_iadd dX3_count_26 ?_
        refine sx_istore_n dX3_count_27 (by decide) ?_
        refine sx_iload_n dX3_count_28 rfl ?_
        refine sx_aload_n dX3_count_29 rfl ?_
        refine sx_iload dX3_count_30 rfl ?_
        refine sx_callVi dX3_count_32 ml_X3_68 mv3_places (tx_places _ hW (by first | omega | assumption | (with_reducible first | exact hR _ | exact xwd_R hR _ _ | exact xch_R hR _ _ | exact am_R_and _ _ | exact am_R_or _ _ | exact am_R_xor _ _ | exact am_R_shl _ _ | exact am_R_shr _ _ | exact bit_R _ _ | exact xpls_R _ _ | exact xkept_R hW _ _ | exact xwait_R hW _ _ ) | (exact ⟨by omega, by omega⟩) | exact wf _ (by omega) (by omega) | exact wg _ (by omega) (by omega))) rfl am_obX rfl (Nat.le_of_ble_eq_true rfl) (Nat.le_of_ble_eq_true rfl) ?_
        refine sx_iadd dX3_count_35 ?_
        refine sx_istore_n dX3_count_36 (by decide) ?_
        refine sx_iinc dX3_count_37 rfl (by decide) ?_
        refine sx_goto (tgt := 7) dX3_count_40 (by decide) ?_
        exact ih7 _ (by omega) (c + 1) rfl (by omega)
  exact loop7 _ 0 rfl (by omega)
def xundoR (X : am_M) : Int := if X 0 5 = 0 then -1000002 else X 0 5 - 1
def xundoX (X : am_M) : am_M := if X 0 5 = 0 then X else am_u2 X 0 5 (X 0 5 - 1)
def xundoS (X : am_M) (S : Nat → Int) : Nat → Int := if X 0 5 = 0 then S else fun i => X 2 (208 * (X 0 5 - 1).toNat + i)
set_option maxHeartbeats 4000000 in
set_option maxRecDepth 100000 in
theorem tx_undo {h0 : am_H} {X : am_M} {S : Nat → Int} (hst : 0 ≤ X 0 5 ∧ X 0 5 ≤ 4)  : Ct 0 Y3_undo [.inr (7, 0)] (some (.inl (xundoR X))) (xh h0 X S) (xh h0 (xundoX X) (xundoS X S)) := by
  refine Ct_of (by decide +kernel) (Nat.le_of_ble_eq_true rfl) ?_
  show Sx 0 Y3_undo (xh h0 (xundoX X) (xundoS X S)) (some (.inl (xundoR X))) 0 [some (.inr (7, 0)), none] [] (xh h0 X S)
  refine xs_vh (fun hR hRX => ?_)
  refine sx_aload_n dX3_undo_0 rfl ?_
  refine xs_geti dX3_undo_1 fl_X3_41 (by decide) (fun r1 => ?_)
  refine sx_if_ne (tgt := 10) dX3_undo_4 (by decide) (by first | omega | assumption | (exact ⟨by omega, by omega⟩)) (fun c4 => ?_) (fun c4 => ?_)
  · -- 4t
    refine sx_aload_n dX3_undo_10 rfl ?_
    refine sx_dup dX3_undo_11 ?_
    refine xs_geti dX3_undo_12 fl_X3_41 (by decide) (fun r12 => ?_)
    refine sx_iconst dX3_undo_15 ?_
    refine sx_isub dX3_undo_16 ?_
    refine xs_put dX3_undo_17 fl_X3_41 (by decide) (by first | omega | assumption | (exact ⟨by omega, by omega⟩)) ?_
    refine sx_iconst dX3_undo_20 ?_
    refine sx_istore_n dX3_undo_21 (by decide) ?_
    have loop22 : ∀ (n : Nat) (j : Nat), (208 - j) = n → j ≤ 208 → Sx 0 Y3_undo (xh h0 (xundoX X) (xundoS X S)) (some (.inl (xundoR X))) 22 [some (.inr (7, 0)), some (.inl (j : Int))] [] (xh h0 (am_u2 X 0 5 (X 0 5 - 1)) (am_mix (fun i => X 2 (208 * (X 0 5 - 1).toNat + i)) S j)) := by
      intro n
      induction n using Nat.strongRecOn with
      | _ n ih22 =>
        intro j hn22 hle22
        refine sx_iload_n dX3_undo_22 rfl ?_
        refine sx_sipush dX3_undo_23 rfl ?_
        refine sx_icmp_ge (tgt := 56) dX3_undo_26 (by decide) (by first | omega | assumption | (exact ⟨by omega, by omega⟩)) ⟨by decide, by decide⟩ (fun c26 => ?_) (fun c26 => ?_)
        · -- 26t
          obtain rfl : j = 208 := by omega
          refine xs_sims (G := fun i => X 2 (208 * (X 0 5 - 1).toNat + i)) (fun i hi => (if_pos hi).symm) (fun h _ m => h 2 _ (by decide)) ?_
          refine sx_aload_n dX3_undo_56 rfl ?_
          refine xs_geti dX3_undo_57 fl_X3_41 (by decide) (fun r57 => ?_)
          show Sx 0 Y3_undo _ _ _ _ [.inl (X 0 5 - 1)] _
          exact sx_iret dX3_undo_60 rfl (by unfold xundoR; (repeat' split) <;> first | contradiction | (exfalso; omega) | rfl | (simp_all; done)) (by unfold xundoX xundoS; (repeat' split) <;> first | contradiction | (exfalso; omega) | rfl | (simp_all; done))
        · -- 26f
          refine sx_aload_n dX3_undo_29 rfl ?_
          refine xs_getr (j := 1) dX3_undo_30 fl_X3_7 (by decide) rfl ?_
          refine sx_iload_n dX3_undo_33 rfl ?_
          refine sx_aload_n dX3_undo_34 rfl ?_
          refine xs_getr (j := 2) dX3_undo_35 fl_X3_13 (by decide) rfl ?_
          refine sx_sipush dX3_undo_38 rfl ?_
          refine sx_aload_n dX3_undo_41 rfl ?_
          refine xs_geti dX3_undo_42 fl_X3_41 (by decide) (fun r42 => ?_)
          show Sx 0 Y3_undo _ _ _ _ [.inl (X 0 5 - 1), .inl 208, .inr (7, 2), .inl (j : Int), .inr (7, 1)] _
          refine sx_imul dX3_undo_45 ?_
          refine sx_iload_n dX3_undo_46 rfl ?_
          refine sx_iadd dX3_undo_47 ?_
          refine xs_ildo (n := 832) dX3_undo_48 (am_inX 2 (by decide)) rfl (by decide) rfl (by decide) (by omega) (by omega) rfl (fun r48 => ?_)
          refine xs_vh (fun hR3 hRX3 => ?_)
          refine xs_ist (n := 208) dX3_undo_49 rfl (by decide) (by omega) (by omega) rfl (by assumption) ?_
          refine sx_iinc dX3_undo_50 rfl (by decide) ?_
          refine sx_goto (tgt := 22) dX3_undo_53 (by decide) ?_
          exact sx_heq (xh h0 (am_u2 X 0 5 (X 0 5 - 1)) (am_mix (fun i => X 2 (208 * (X 0 5 - 1).toNat + i)) S (j + 1))) (by rw [← am_mix_s]; congr 2; show X 2 _ = X 2 _; congr 1; omega) (ih22 _ (by omega) (j + 1) rfl (by omega))
    exact sx_heq (xh h0 (am_u2 X 0 5 (X 0 5 - 1)) (am_mix (fun i => X 2 (208 * (X 0 5 - 1).toNat + i)) S 0)) (by rw [am_mix_0]) (loop22 _ 0 rfl (by omega))
  · -- 4f
    refine sx_ldc dX3_undo_7 kc_X3_96 ?_
    exact sx_iret dX3_undo_9 rfl (by unfold xundoR; (repeat' split) <;> first | contradiction | (exfalso; omega) | rfl | (simp_all; done)) (by unfold xundoX xundoS; (repeat' split) <;> first | contradiction | (exfalso; omega) | rfl | (simp_all; done))
