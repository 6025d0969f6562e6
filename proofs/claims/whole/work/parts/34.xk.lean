set_option maxHeartbeats 4000000 in
set_option maxRecDepth 100000 in
theorem tx_does {h0 : am_H} {X : am_M} {S : Nat → Int} (L : Int) (hW : WX S) (hL9 : am_R L) {n : Int} (hB : BX S n) (hn : n ≤ 500000000)  : Ct 9 Y3_does [.inr (7, 0), .inl L] (some (.inl (xdoR X S L))) (xh h0 X S) (xh h0 (xdoX X S L) (xdoS X S L)) := by
  refine Ct_of (by decide +kernel) (Nat.le_of_ble_eq_true rfl) ?_
  show Sx 9 Y3_does (xh h0 (xdoX X S L) (xdoS X S L)) (some (.inl (xdoR X S L))) 0 [some (.inr (7, 0)), some (.inl L)] [] (xh h0 X S)
  refine xs_vh (fun hR hRX => ?_)
  obtain ⟨w0, w1, wg, wf, wo⟩ := id hW
  refine sx_iload_n dX3_does_0 rfl ?_
  by_cases hs1 : L = 101 ∨ L = 107 ∨ L = 112 ∨ L = 116 ∨ L = 118
  · rcases hs1 with hs1 | hs1 | hs1 | hs1 | hs1
    · subst hs1
      refine sx_lookup (tgt := 74) (off := 73) dX3_does_1 ⟨by decide, by decide⟩ (by decide) rfl (by decide) ?_
      refine sx_aload_n dX3_does_74 rfl ?_
      refine sx_aload_n dX3_does_75 rfl ?_
      refine xs_getr (j := 7) dX3_does_76 fl_X3_29 (by decide) rfl ?_
      refine sx_iconst dX3_does_79 ?_
      refine xs_ildo (n := 2) (m := 0) dX3_does_80 (am_inX 7 (by decide)) rfl (by decide) rfl (by decide) (by decide) (by decide) rfl (fun r80 => ?_)
      refine sx_callVi dX3_does_81 ml_X3_103 mv3_elects (tx_elects _ hW (by exact hRX 7 0 (by decide))) rfl am_obX rfl (Nat.le_of_ble_eq_true rfl) (Nat.le_of_ble_eq_true rfl) ?_
      exact sx_iret dX3_does_84 rfl (by unfold xdoR; first | rfl | ((repeat rw [if_neg (by omega)]); done)) (by unfold xdoS xdoX; first | rfl | ((repeat rw [if_neg (by omega)]); done))
    · subst hs1
      refine sx_lookup (tgt := 52) (off := 51) dX3_does_1 ⟨by decide, by decide⟩ (by decide) rfl (by decide) ?_
      refine sx_aload_n dX3_does_52 rfl ?_
      refine sx_aload_n dX3_does_53 rfl ?_
      refine xs_getr (j := 7) dX3_does_54 fl_X3_29 (by decide) rfl ?_
      refine sx_iconst dX3_does_57 ?_
      refine xs_ildo (n := 2) (m := 0) dX3_does_58 (am_inX 7 (by decide)) rfl (by decide) rfl (by decide) (by decide) (by decide) rfl (fun r58 => ?_)
      refine sx_callVi dX3_does_59 ml_X3_114 mv3_kills (tx_kills _ hW (by exact hRX 7 0 (by decide)) (by have := hB.2.2.1; omega)) rfl am_obX rfl (Nat.le_of_ble_eq_true rfl) (Nat.le_of_ble_eq_true rfl) ?_
      exact sx_iret dX3_does_62 rfl (by unfold xdoR; first | rfl | ((repeat rw [if_neg (by omega)]); done)) (by unfold xdoS xdoX; first | rfl | ((repeat rw [if_neg (by omega)]); done))
    · subst hs1
      refine sx_lookup (tgt := 96) (off := 95) dX3_does_1 ⟨by decide, by decide⟩ (by decide) rfl (by decide) ?_
      refine sx_aload_n dX3_does_96 rfl ?_
      refine sx_aload_n dX3_does_97 rfl ?_
      refine xs_getr (j := 7) dX3_does_98 fl_X3_29 (by decide) rfl ?_
      refine sx_iconst dX3_does_101 ?_
      refine xs_ildo (n := 2) (m := 0) dX3_does_102 (am_inX 7 (by decide)) rfl (by decide) rfl (by decide) (by decide) (by decide) rfl (fun r102 => ?_)
      refine sx_aload_n dX3_does_103 rfl ?_
      refine xs_getr (j := 7) dX3_does_104 fl_X3_29 (by decide) rfl ?_
      refine sx_iconst dX3_does_107 ?_
      refine xs_ildo (n := 2) (m := 1) dX3_does_108 (am_inX 7 (by decide)) rfl (by decide) rfl (by decide) (by decide) (by decide) rfl (fun r108 => ?_)
      refine sx_callVi dX3_does_109 ml_X3_130 mv3_putsOne (tx_putsOne _ _ hW (by exact hRX 7 0 (by decide)) (by exact hRX 7 1 (by decide))) rfl am_obX rfl (Nat.le_of_ble_eq_true rfl) (Nat.le_of_ble_eq_true rfl) ?_
      exact sx_iret dX3_does_112 rfl (by unfold xdoR; first | rfl | ((repeat rw [if_neg (by omega)]); done)) (by unfold xdoS xdoX; first | rfl | ((repeat rw [if_neg (by omega)]); done))
    · subst hs1
      refine sx_lookup (tgt := 63) (off := 62) dX3_does_1 ⟨by decide, by decide⟩ (by decide) rfl (by decide) ?_
      refine sx_aload_n dX3_does_63 rfl ?_
      refine sx_aload_n dX3_does_64 rfl ?_
      refine xs_getr (j := 7) dX3_does_65 fl_X3_29 (by decide) rfl ?_
      refine sx_iconst dX3_does_68 ?_
      refine xs_ildo (n := 2) (m := 0) dX3_does_69 (am_inX 7 (by decide)) rfl (by decide) rfl (by decide) (by decide) (by decide) rfl (fun r69 => ?_)
      refine sx_callVi dX3_does_70 ml_X3_159 mv3_ticks (tx_ticks _ hW (by exact hRX 7 0 (by decide)) hB (by omega)) rfl am_obX rfl (Nat.le_of_ble_eq_true rfl) (Nat.le_of_ble_eq_true rfl) ?_
      exact sx_iret dX3_does_73 rfl (by unfold xdoR; first | rfl | ((repeat rw [if_neg (by omega)]); done)) (by unfold xdoS xdoX; first | rfl | ((repeat rw [if_neg (by omega)]); done))
    · subst hs1
      refine sx_lookup (tgt := 85) (off := 84) dX3_does_1 ⟨by decide, by decide⟩ (by decide) rfl (by decide) ?_
      refine sx_aload_n dX3_does_85 rfl ?_
      refine sx_aload_n dX3_does_86 rfl ?_
      refine xs_getr (j := 7) dX3_does_87 fl_X3_29 (by decide) rfl ?_
      refine sx_iconst dX3_does_90 ?_
      refine xs_ildo (n := 2) (m := 0) dX3_does_91 (am_inX 7 (by decide)) rfl (by decide) rfl (by decide) (by decide) (by decide) rfl (fun r91 => ?_)
      refine sx_callVi dX3_does_92 ml_X3_139 mv3_empties (tx_empties _ hW (by exact hRX 7 0 (by decide))) rfl am_obX rfl (Nat.le_of_ble_eq_true rfl) (Nat.le_of_ble_eq_true rfl) ?_
      exact sx_iret dX3_does_95 rfl (by unfold xdoR; first | rfl | ((repeat rw [if_neg (by omega)]); done)) (by unfold xdoS xdoX; first | rfl | ((repeat rw [if_neg (by omega)]); done))
  · refine sx_lookup (tgt := 113) (off := 112) dX3_does_1 (by first | omega | assumption | (exact ⟨by omega, by omega⟩)) (by decide) (by rw [Op.lookupswitch.offset_cons, if_neg (by omega)]; rw [Op.lookupswitch.offset_cons, if_neg (by omega)]; rw [Op.lookupswitch.offset_cons, if_neg (by omega)]; rw [Op.lookupswitch.offset_cons, if_neg (by omega)]; rw [Op.lookupswitch.offset_cons, if_neg (by omega)]; rfl) (by decide) ?_
    refine sx_aload_n dX3_does_113 rfl ?_
    refine sx_aload_n dX3_does_114 rfl ?_
    refine xs_getr (j := 7) dX3_does_115 fl_X3_29 (by decide) rfl ?_
    refine sx_iconst dX3_does_118 ?_
    refine xs_ildo (n := 2) (m := 0) dX3_does_119 (am_inX 7 (by decide)) rfl (by decide) rfl (by decide) (by decide) (by decide) rfl (fun r119 => ?_)
    refine sx_aload_n dX3_does_120 rfl ?_
    refine xs_getr (j := 7) dX3_does_121 fl_X3_29 (by decide) rfl ?_
    refine sx_iconst dX3_does_124 ?_
    refine xs_ildo (n := 2) (m := 1) dX3_does_125 (am_inX 7 (by decide)) rfl (by decide) rfl (by decide) (by decide) (by decide) rfl (fun r125 => ?_)
    refine sx_callVi dX3_does_126 ml_X3_117 mv3_breaksOne (tx_breaksOne _ _ hW (by exact hRX 7 0 (by decide)) (by exact hRX 7 1 (by decide)) (by have := hB.2.2.1; omega)) rfl am_obX rfl (Nat.le_of_ble_eq_true rfl) (Nat.le_of_ble_eq_true rfl) ?_
    exact sx_iret dX3_does_129 rfl (by unfold xdoR; first | rfl | ((repeat rw [if_neg (by omega)]); done)) (by unfold xdoS xdoX; first | rfl | ((repeat rw [if_neg (by omega)]); done))
set_option maxHeartbeats 4000000 in
set_option maxRecDepth 100000 in
theorem tx_doesNext {h0 : am_H} {X : am_M} {S : Nat → Int} (hW : WX S) (hT : TX X) (hlt : X 0 8 < X 0 7) {n : Int} (hB : BX S n) (hn : n ≤ 500000000)  : Ct 10 Y3_doesNext [.inr (7, 0)] (some (.inl (xnR X S))) (xh h0 X S) (xh h0 (xnY X S) (xnS X S)) := by
  refine Ct_of (by decide +kernel) (Nat.le_of_ble_eq_true rfl) ?_
  show Sx 10 Y3_doesNext (xh h0 (xnY X S) (xnS X S)) (some (.inl (xnR X S))) 0 [some (.inr (7, 0)), none] [] (xh h0 X S)
  refine xs_vh (fun hR hRX => ?_)
  obtain ⟨w0, w1, wg, wf, wo⟩ := id hW
  refine sx_aload_n dX3_doesNext_0 rfl ?_
  refine xs_getr (j := 6) dX3_doesNext_1 fl_X3_25 (by decide) rfl ?_
  refine sx_aload_n dX3_doesNext_4 rfl ?_
  refine xs_geti dX3_doesNext_5 fl_X3_174 (by decide) (fun r5 => ?_)
  refine xs_cld (n := 60) dX3_doesNext_8 rfl (by decide) (by first | omega | assumption | (obtain ⟨q1, q2, q3, q4⟩ := hT; omega) | (obtain ⟨q1, q2, q3, q4⟩ := hT; exact ⟨by omega, by omega⟩)) (by first | omega | assumption | (obtain ⟨q1, q2, q3, q4⟩ := hT; omega) | (obtain ⟨q1, q2, q3, q4⟩ := hT; exact ⟨by omega, by omega⟩)) rfl (fun r8 => ?_)
  refine sx_istore_n dX3_doesNext_9 (by decide) ?_
  refine sx_aload_n dX3_doesNext_10 rfl ?_
  refine sx_dup dX3_doesNext_11 ?_
  refine xs_geti dX3_doesNext_12 fl_X3_174 (by decide) (fun r12 => ?_)
  show Sx 10 Y3_doesNext _ _ _ _ [.inl (X 0 8), .inr (7, 0)] _
  refine sx_iconst dX3_doesNext_15 ?_
  refine sx_iadd dX3_doesNext_16 ?_
  refine xs_put dX3_doesNext_17 fl_X3_174 (by decide) (by first | omega | assumption | (obtain ⟨q1, q2, q3, q4⟩ := hT; omega) | (obtain ⟨q1, q2, q3, q4⟩ := hT; exact ⟨by omega, by omega⟩)) ?_
  refine sx_aload_n dX3_doesNext_20 rfl ?_
  refine sx_iload_n dX3_doesNext_21 rfl ?_
  refine sx_callVi dX3_doesNext_22 ml_X3_184 mv3_readsForm (tx_readsForm _ (by exact hRX 6 _ (by decide)) (TX_n1 hT hlt)) rfl am_obX rfl (Nat.le_of_ble_eq_true rfl) (Nat.le_of_ble_eq_true rfl) ?_
  refine sx_heq (xh h0 (xnX X) S) rfl ?_
  show Sx 10 Y3_doesNext _ _ _ [some (.inr (7, 0)), some (.inl (xnL X))] [.inl (if xnF X = true then 1 else 0)] _
  refine sx_ifB_ne (tgt := 30) dX3_doesNext_25 (by decide) (fun c25 => ?_) (fun c25 => ?_)
  · -- 25t
    refine sx_iload_n dX3_doesNext_30 rfl ?_
    refine sx_bipush dX3_doesNext_31 rfl ?_
    refine sx_icmp_eq (tgt := 53) dX3_doesNext_33 (by decide) (by first | omega | assumption | (obtain ⟨q1, q2, q3, q4⟩ := hT; omega) | (obtain ⟨q1, q2, q3, q4⟩ := hT; exact ⟨by omega, by omega⟩)) ⟨by decide, by decide⟩ (fun c33 => ?_) (fun c33 => ?_)
    · -- 33t
      refine sx_aload_n dX3_doesNext_53 rfl ?_
      refine sx_iload_n dX3_doesNext_54 rfl ?_
      refine sx_callVi dX3_doesNext_55 ml_X3_187 mv3_does (tx_does _ hW (by exact hRX 6 _ (by decide)) hB hn) rfl am_obX rfl (Nat.le_of_ble_eq_true rfl) (Nat.le_of_ble_eq_true rfl) ?_
      show Sx 10 Y3_doesNext _ _ _ _ [.inl (xdoR (xnX X) S (xnL X))] _
      have hdb := xdoR_b (X := xnX X) (L := xnL X) hW
      refine sx_ldc dX3_doesNext_58 kc_X3_40 ?_
      refine sx_icmp_gt (tgt := 67) dX3_doesNext_60 (by decide) (by first | omega | assumption | (obtain ⟨q1, q2, q3, q4⟩ := hT; omega) | (obtain ⟨q1, q2, q3, q4⟩ := hT; exact ⟨by omega, by omega⟩)) ⟨by decide, by decide⟩ (fun c60 => ?_) (fun c60 => ?_)
      · -- 60t
        refine sx_iconst dX3_doesNext_67 ?_
        exact sx_iret dX3_doesNext_68 rfl (by unfold xnR; simp only [if_pos c25, if_pos c33, if_pos c60, if_neg (Int.not_le.mpr c60)]) (by unfold xnY xnS xnG; simp only [if_pos c25, if_pos c33, if_pos c60, if_neg (Int.not_le.mpr c60)])
      · -- 60f
        refine sx_iconst dX3_doesNext_63 ?_
        refine sx_goto (tgt := 68) dX3_doesNext_64 (by decide) ?_
        exact sx_iret dX3_doesNext_68 rfl (by unfold xnR; simp only [if_pos c25, if_pos c33, if_pos c60, if_neg (Int.not_lt.mpr c60)]) (by unfold xnY xnS xnG; simp only [if_pos c25, if_pos c33, if_pos c60, if_neg (Int.not_lt.mpr c60)])
    · -- 33f
      refine sx_aload_n dX3_doesNext_36 rfl ?_
      refine sx_aload_n dX3_doesNext_37 rfl ?_
      refine xs_getr (j := 7) dX3_doesNext_38 fl_X3_29 (by decide) rfl ?_
      refine sx_iconst dX3_doesNext_41 ?_
      refine xs_ildo (n := 2) (m := 0) dX3_doesNext_42 (am_inX 7 (by decide)) rfl (by decide) rfl (by decide) (by decide) (by decide) rfl (fun r42 => ?_)
      refine sx_callVi dX3_doesNext_43 ml_X3_90 mv3_isChip (tx_isChip _ hW (by assumption)) rfl am_obX rfl (Nat.le_of_ble_eq_true rfl) (Nat.le_of_ble_eq_true rfl) ?_
      refine sx_ifB_ne (tgt := 53) dX3_doesNext_46 (by decide) (fun c46 => ?_) (fun c46 => ?_)
      · -- 46t
        refine sx_aload_n dX3_doesNext_53 rfl ?_
        refine sx_iload_n dX3_doesNext_54 rfl ?_
        refine sx_callVi dX3_doesNext_55 ml_X3_187 mv3_does (tx_does _ hW (by exact hRX 6 _ (by decide)) hB hn) rfl am_obX rfl (Nat.le_of_ble_eq_true rfl) (Nat.le_of_ble_eq_true rfl) ?_
        show Sx 10 Y3_doesNext _ _ _ _ [.inl (xdoR (xnX X) S (xnL X))] _
        have hdb := xdoR_b (X := xnX X) (L := xnL X) hW
        refine sx_ldc dX3_doesNext_58 kc_X3_40 ?_
        refine sx_icmp_gt (tgt := 67) dX3_doesNext_60 (by decide) (by first | omega | assumption | (obtain ⟨q1, q2, q3, q4⟩ := hT; omega) | (obtain ⟨q1, q2, q3, q4⟩ := hT; exact ⟨by omega, by omega⟩)) ⟨by decide, by decide⟩ (fun c60 => ?_) (fun c60 => ?_)
        · -- 60t
          refine sx_iconst dX3_doesNext_67 ?_
          exact sx_iret dX3_doesNext_68 rfl (by unfold xnR; simp only [if_pos c25, if_neg c33, if_pos c46, if_pos c60, if_neg (Int.not_le.mpr c60)]) (by unfold xnY xnS xnG; simp only [if_pos c25, if_neg c33, if_pos c46, if_pos c60, if_neg (Int.not_le.mpr c60)])
        · -- 60f
          refine sx_iconst dX3_doesNext_63 ?_
          refine sx_goto (tgt := 68) dX3_doesNext_64 (by decide) ?_
          exact sx_iret dX3_doesNext_68 rfl (by unfold xnR; simp only [if_pos c25, if_neg c33, if_pos c46, if_pos c60, if_neg (Int.not_lt.mpr c60)]) (by unfold xnY xnS xnG; simp only [if_pos c25, if_neg c33, if_pos c46, if_pos c60, if_neg (Int.not_lt.mpr c60)])
      · -- 46f
        refine sx_iconst dX3_doesNext_49 ?_
        refine sx_goto (tgt := 68) dX3_doesNext_50 (by decide) ?_
        exact sx_iret dX3_doesNext_68 rfl (by unfold xnR; simp only [if_pos c25, if_neg c33, if_neg c46]) (by unfold xnY xnS xnG; simp only [if_pos c25, if_neg c33, if_neg c46])
  · -- 25f
    refine sx_iconst dX3_doesNext_28 ?_
    exact sx_iret dX3_doesNext_29 rfl (by unfold xnR; simp only [if_neg c25]) (by unfold xnY xnS xnG; simp only [if_neg c25])
set_option maxHeartbeats 4000000 in
set_option maxRecDepth 100000 in
theorem tx_faulty {h0 : am_H} {X : am_M} {S : Nat → Int} (hW : WX S) {n9 : Int} (ht7 : 0 ≤ X 0 7 ∧ X 0 7 ≤ 60) (hB : BX S n9) (hn9 : n9 ≤ 400000000) (hn0 : 0 ≤ n9)  : Ct 11 Y3_faulty [.inr (7, 0)] (some (.inl (xflt X S).1)) (xh h0 X S) (xh h0 (xflt X S).2.1 S) := by
  refine Ct_of (by decide +kernel) (Nat.le_of_ble_eq_true rfl) ?_
  show Sx 11 Y3_faulty (xh h0 (xflt X S).2.1 S) (some (.inl (xflt X S).1)) 0 [some (.inr (7, 0)), none, none] [] (xh h0 X S)
  refine xs_vh (fun hR hRX => ?_)
  obtain ⟨w0, w1, wg, wf, wo⟩ := id hW
  refine sx_aload_n dX3_faulty_0 rfl ?_
  refine sx_callVv dX3_faulty_1 ml_X3_162 mv3_puts tx_puts rfl am_obX rfl (Nat.le_of_ble_eq_true rfl) (Nat.le_of_ble_eq_true rfl) ?_
  refine sx_ldc dX3_faulty_4 kc_X3_123 ?_
  refine sx_istore_n dX3_faulty_6 (by decide) ?_
  refine sx_aload_n dX3_faulty_7 rfl ?_
  refine sx_iconst dX3_faulty_8 ?_
  refine xs_put dX3_faulty_9 fl_X3_174 (by decide) ⟨by decide, by decide⟩ ?_
  have loop12 : ∀ (n : Nat) (k : Nat) (fd : Int) (Y : am_M) (Z : Nat → Int), k = n → (Y 0 7 - Y 0 8 < k) → k ≤ 61 → xfl k (fd, Y, Z) = xflt X S → TX Y → WX Z → BX Z (n9 + 400 * (61 - k)) → (fd = -1000004 ∨ 0 ≤ fd) → am_R fd → Y 4 = S → Sx 11 Y3_faulty (xh h0 (xflt X S).2.1 S) (some (.inl (xflt X S).1)) 12 [some (.inr (7, 0)), some (.inl fd), none] [] (xh h0 Y Z) := by
    intro n
    induction n using Nat.strongRecOn with
    | _ n ih12 =>
      intro k fd Y Z hn12 hk61 hk62 hxf hT hWZ hBZ hfd hfdR hY4
      have hT4 := id hT
      obtain ⟨p1, p2, p3, p4⟩ := hT4
      have hxf1 : ∀ k1, k = k1 + 1 → xfl (k1 + 1) (fd, Y, Z) = xflt X S := fun k1 h => by rw [← h]; exact hxf
      obtain ⟨k1, hk1⟩ : ∃ k1, k = k1 + 1 := ⟨k - 1, by omega⟩
      have hxf2 := hxf1 k1 hk1
      simp only [xfl] at hxf2
      have hxr := xnR_b Y Z
      refine sx_aload_n dX3_faulty_12 rfl ?_
      refine xs_geti dX3_faulty_13 fl_X3_174 (by decide) (fun r13 => ?_)
      refine sx_aload_n dX3_faulty_16 rfl ?_
      refine xs_geti dX3_faulty_17 fl_X3_171 (by decide) (fun r17 => ?_)
      refine sx_icmp_ge (tgt := 58) dX3_faulty_20 (by decide) (by first | omega | assumption | (exact ⟨by omega, by omega⟩)) (by first | omega | assumption | (exact ⟨by omega, by omega⟩)) (fun c20 => ?_) (fun c20 => ?_)
      · -- 20t
        have hend : xfl k (fd, Y, Z) = (fd, Y, Z) := by rw [hk1]; simp only [xfl]; first | rw [if_neg (Int.not_lt.mpr c20)] | rw [if_pos c20, if_neg c26]
        rw [hend] at hxf
        refine sx_aload_n dX3_faulty_58 rfl ?_
        refine sx_callVv dX3_faulty_59 ml_X3_165 mv3_restores tx_restores rfl am_obX rfl (Nat.le_of_ble_eq_true rfl) (Nat.le_of_ble_eq_true rfl) ?_
        refine sx_iload_n dX3_faulty_62 rfl ?_
        exact sx_iret dX3_faulty_63 rfl (by rw [← hxf]) (by rw [← hxf, ← hY4])
      · -- 20f
        refine sx_iload_n dX3_faulty_23 rfl ?_
        refine sx_ldc dX3_faulty_24 kc_X3_123 ?_
        refine sx_icmp_ne (tgt := 58) dX3_faulty_26 (by decide) (by first | omega | assumption | (exact ⟨by omega, by omega⟩)) ⟨by decide, by decide⟩ (fun c26 => ?_) (fun c26 => ?_)
        · -- 26t
          have hend : xfl k (fd, Y, Z) = (fd, Y, Z) := by rw [hk1]; simp only [xfl]; first | rw [if_neg (Int.not_lt.mpr c20)] | rw [if_pos c20, if_neg c26]
          rw [hend] at hxf
          refine sx_aload_n dX3_faulty_58 rfl ?_
          refine sx_callVv dX3_faulty_59 ml_X3_165 mv3_restores tx_restores rfl am_obX rfl (Nat.le_of_ble_eq_true rfl) (Nat.le_of_ble_eq_true rfl) ?_
          refine sx_iload_n dX3_faulty_62 rfl ?_
          exact sx_iret dX3_faulty_63 rfl (by rw [← hxf]) (by rw [← hxf, ← hY4])
        · -- 26f
          refine sx_aload_n dX3_faulty_29 rfl ?_
          refine xs_geti dX3_faulty_30 fl_X3_174 (by decide) (fun r30 => ?_)
          refine sx_istore_n dX3_faulty_33 (by decide) ?_
          refine sx_aload_n dX3_faulty_34 rfl ?_
          refine sx_aload_n dX3_faulty_35 rfl ?_
          refine sx_callVi dX3_faulty_36 ml_X3_191 mv3_doesNext (tx_doesNext hWZ hT c20 hBZ (by omega)) rfl am_obX rfl (Nat.le_of_ble_eq_true rfl) (Nat.le_of_ble_eq_true rfl) ?_
          refine xs_put dX3_faulty_39 fl_X3_194 (by decide) (by exact ⟨by omega, by omega⟩) ?_
          refine sx_aload_n dX3_faulty_42 rfl ?_
          skip
          refine xs_geti dX3_faulty_43 fl_X3_194 (by decide) (fun r43 => ?_)
          show Sx 11 Y3_faulty _ _ _ _ [.inl (xnR Y Z)] _
          refine sx_if_le (tgt := 53) dX3_faulty_46 (by decide) (by first | omega | assumption | (exact ⟨by omega, by omega⟩)) (fun c46 => ?_) (fun c46 => ?_)
          · -- 46t
            refine sx_iload_n dX3_faulty_53 rfl ?_
            refine sx_istore_n dX3_faulty_54 (by decide) ?_
            refine sx_goto (tgt := 12) dX3_faulty_55 (by decide) ?_
            rw [if_pos c20, if_pos c26] at hxf2
            have hnY := TX_nY (S := Z) hT c20
            have e8 : am_u2 (xnY Y Z) 0 9 (xnR Y Z) 0 8 = xnY Y Z 0 8 := am_u2_rd _ _ (Or.inr (by decide))
            have e7 : am_u2 (xnY Y Z) 0 9 (xnR Y Z) 0 7 = xnY Y Z 0 7 := am_u2_rd _ _ (Or.inr (by decide))
            have e4 : am_u2 (xnY Y Z) 0 9 (xnR Y Z) 4 = S := by rw [am_u2_ne _ _ _ (by decide)]; exact (xnY_4 hY4)
            have hBn := BX_nS (X := Y) hWZ hBZ (by omega)
            have hih := ih12 k1 (by omega) k1 (if xnR Y Z ≤ 0 then fd else Y 0 8) _ (xnS Y Z) rfl (by rw [e7, e8]; omega) (by omega) hxf2 (by unfold TX; rw [e7, e8]; exact hnY.1) (WX_nS hWZ) (BX_mono hBn (by omega)) (by split <;> omega) (by split <;> first | exact hfdR | exact ⟨by omega, by omega⟩) e4
            first | rw [if_pos c46] at hih | rw [if_neg (Int.not_le.mpr c46)] at hih
            exact sx_forget 2 hih
          · -- 46f
            refine sx_iload_n dX3_faulty_49 rfl ?_
            refine sx_goto (tgt := 54) dX3_faulty_50 (by decide) ?_
            refine sx_istore_n dX3_faulty_54 (by decide) ?_
            refine sx_goto (tgt := 12) dX3_faulty_55 (by decide) ?_
            rw [if_pos c20, if_pos c26] at hxf2
            have hnY := TX_nY (S := Z) hT c20
            have e8 : am_u2 (xnY Y Z) 0 9 (xnR Y Z) 0 8 = xnY Y Z 0 8 := am_u2_rd _ _ (Or.inr (by decide))
            have e7 : am_u2 (xnY Y Z) 0 9 (xnR Y Z) 0 7 = xnY Y Z 0 7 := am_u2_rd _ _ (Or.inr (by decide))
            have e4 : am_u2 (xnY Y Z) 0 9 (xnR Y Z) 4 = S := by rw [am_u2_ne _ _ _ (by decide)]; exact (xnY_4 hY4)
            have hBn := BX_nS (X := Y) hWZ hBZ (by omega)
            have hih := ih12 k1 (by omega) k1 (if xnR Y Z ≤ 0 then fd else Y 0 8) _ (xnS Y Z) rfl (by rw [e7, e8]; omega) (by omega) hxf2 (by unfold TX; rw [e7, e8]; exact hnY.1) (WX_nS hWZ) (BX_mono hBn (by omega)) (by split <;> omega) (by split <;> first | exact hfdR | exact ⟨by omega, by omega⟩) e4
            first | rw [if_pos c46] at hih | rw [if_neg (Int.not_le.mpr c46)] at hih
            exact sx_forget 2 hih
  refine sx_forget 2 (sx_heq (xh h0 (am_u2 (am_u3 X 4 S) 0 8 0) S) rfl (loop12 _ 61 _ _ _ rfl (by rw [am_u2_hit, am_u2_rd _ _ (Or.inr (by decide))]; show X 0 7 - 0 < _; omega) (by omega) rfl (by unfold TX; rw [am_u2_hit, am_u2_rd _ _ (Or.inr (by decide))]; show 0 ≤ (0 : Int) ∧ 0 ≤ X 0 7 ∧ 0 ≤ X 0 7 ∧ X 0 7 ≤ 60; omega) hW (BX_mono hB (by omega)) (Or.inl rfl) (by exact ⟨by decide, by decide⟩) (by rw [am_u2_ne _ _ _ (by decide), am_u3_at])))
set_option maxHeartbeats 4000000 in
set_option maxRecDepth 100000 in
theorem tx_fault {h0 : am_H} {X : am_M} {S : Nat → Int} (k : Int) (hW : WX S) (hk9 : am_R k) {n9 : Int} (ht7 : 0 ≤ X 0 7 ∧ X 0 7 ≤ 60) (hB : BX S n9) (hn9 : n9 ≤ 400000000) (hn0 : 0 ≤ n9) (hff : am_R (xflt X S).1)  : Ct 12 Y3_fault [.inr (7, 0), .inl k] (some (.inl (xfault X S k))) (xh h0 X S) (xh h0 (xfaultX X S k) S) := by
  refine Ct_of (by decide +kernel) (Nat.le_of_ble_eq_true rfl) ?_
  show Sx 12 Y3_fault (xh h0 (xfaultX X S k) S) (some (.inl (xfault X S k))) 0 [some (.inr (7, 0)), some (.inl k), none] [] (xh h0 X S)
  refine xs_vh (fun hR hRX => ?_)
  obtain ⟨w0, w1, wg, wf, wo⟩ := id hW
  refine sx_iload_n dX3_fault_0 rfl ?_
  refine sx_iconst dX3_fault_1 ?_
  refine sx_iconst dX3_fault_2 ?_
  refine sx_callSi dX3_fault_3 ml_X3_32 ms3_in (tx_in _ _ _ (by assumption) ⟨by decide, by decide⟩ ⟨by decide, by decide⟩) rfl rfl (Nat.le_of_ble_eq_true rfl) (Nat.le_of_ble_eq_true rfl) ?_
  refine sx_ifB_ne (tgt := 12) dX3_fault_6 (by decide) (fun c6 => ?_) (fun c6 => ?_)
  · -- 6t
    refine sx_aload_n dX3_fault_12 rfl ?_
    refine sx_callVi dX3_fault_13 ml_X3_197 mv3_faulty (tx_faulty hW ht7 hB hn9 hn0) rfl am_obX rfl (Nat.le_of_ble_eq_true rfl) (Nat.le_of_ble_eq_true rfl) ?_
    refine sx_istore_n dX3_fault_16 (by decide) ?_
    refine sx_iload_n dX3_fault_17 rfl ?_
    refine sx_ldc dX3_fault_18 kc_X3_123 ?_
    refine sx_icmp_eq (tgt := 27) dX3_fault_20 (by decide) (by first | omega | assumption | (exact ⟨by omega, by omega⟩)) ⟨by decide, by decide⟩ (fun c20 => ?_) (fun c20 => ?_)
    · -- 20t
      refine sx_iload_n dX3_fault_27 rfl ?_
      refine sx_goto (tgt := 35) dX3_fault_28 (by decide) ?_
      exact sx_iret dX3_fault_35 rfl (by unfold xfault; first | (simp only [if_pos c6, if_pos c20]; done) | (rw [if_pos c6, if_pos c20, c20])) (by unfold xfaultX; simp only [if_pos c6, if_pos c20])
    · -- 20f
      refine sx_iload_n dX3_fault_23 rfl ?_
      refine sx_if_ne (tgt := 31) dX3_fault_24 (by decide) (by first | omega | assumption | (exact ⟨by omega, by omega⟩)) (fun c24 => ?_) (fun c24 => ?_)
      · -- 24t
        refine sx_aload_n dX3_fault_31 rfl ?_
        refine xs_geti dX3_fault_32 fl_X3_194 (by decide) (fun r32 => ?_)
        exact sx_iret dX3_fault_35 rfl (by unfold xfault; first | (simp only [if_pos c6, if_neg c20, if_neg c24]; done) | (rw [if_pos c6, if_pos c20, c20])) (by unfold xfaultX; simp only [if_pos c6, if_neg c20, if_neg c24])
      · -- 24f
        refine sx_iload_n dX3_fault_27 rfl ?_
        refine sx_goto (tgt := 35) dX3_fault_28 (by decide) ?_
        exact sx_iret dX3_fault_35 rfl (by unfold xfault; first | (simp only [if_pos c6, if_neg c20, if_pos c24]; done) | (rw [if_pos c6, if_pos c20, c20])) (by unfold xfaultX; simp only [if_pos c6, if_neg c20, if_pos c24])
  · -- 6f
    refine sx_ldc dX3_fault_9 kc_X3_40 ?_
    exact sx_iret dX3_fault_11 rfl (by unfold xfault; first | (simp only [if_neg c6]; done) | (rw [if_pos c6, if_pos c20, c20])) (by unfold xfaultX; simp only [if_neg c6])
set_option maxHeartbeats 4000000 in
set_option maxRecDepth 100000 in
theorem tx_play {h0 : am_H} {X : am_M} {S : Nat → Int} (hW : WX S) {n9 : Int} (ht7 : 0 ≤ X 0 7 ∧ X 0 7 ≤ 60) (hst : 0 ≤ X 0 5 ∧ X 0 5 ≤ 4) (hB : BX S n9) (hn9 : n9 ≤ 400000000) (hn0 : 0 ≤ n9) (hff : am_R (xflt X S).1)  : Ct 12 Y3_play [.inr (7, 0)] (some (.inl (xplayR X S))) (xh h0 X S) (xh h0 (xplayX X S) (xplayS X S)) := by
  refine Ct_of (by decide +kernel) (Nat.le_of_ble_eq_true rfl) ?_
  show Sx 12 Y3_play (xh h0 (xplayX X S) (xplayS X S)) (some (.inl (xplayR X S))) 0 [some (.inr (7, 0)), none] [] (xh h0 X S)
  refine xs_vh (fun hR hRX => ?_)
  obtain ⟨w0, w1, wg, wf, wo⟩ := id hW
  refine sx_aload_n dX3_play_0 rfl ?_
  refine sx_callVi dX3_play_1 ml_X3_197 mv3_faulty (tx_faulty hW ht7 hB hn9 hn0) rfl am_obX rfl (Nat.le_of_ble_eq_true rfl) (Nat.le_of_ble_eq_true rfl) ?_
  refine sx_ldc dX3_play_4 kc_X3_123 ?_
  refine sx_icmp_eq (tgt := 12) dX3_play_6 (by decide) (by first | omega | assumption | (exact ⟨by omega, by omega⟩)) ⟨by decide, by decide⟩ (fun c6 => ?_) (fun c6 => ?_)
  · -- 6t
    refine sx_aload_n dX3_play_12 rfl ?_
    refine sx_callVv dX3_play_13 ml_X3_84 mv3_keeps tx_keeps rfl am_obX rfl (Nat.le_of_ble_eq_true rfl) (Nat.le_of_ble_eq_true rfl) ?_
    refine sx_iconst dX3_play_16 ?_
    refine sx_istore_n dX3_play_17 (by decide) ?_
    refine sx_aload_n dX3_play_18 rfl ?_
    refine sx_iconst dX3_play_19 ?_
    refine xs_put dX3_play_20 fl_X3_174 (by decide) ⟨by decide, by decide⟩ ?_
    have loop23 : ∀ (n : Nat) (k : Nat) (m : Int) (Y : am_M) (Z : Nat → Int), k = n → (Y 0 7 - Y 0 8 < k) → k ≤ 61 → xpl1 k (m, Y, Z) = xplS X S → TX Y → WX Z → BX Z (n9 + 400 * (61 - k)) → (0 ≤ m ∧ m ≤ 61 - k) → (0 ≤ Y 0 5 ∧ Y 0 5 ≤ 4) → Sx 12 Y3_play (xh h0 (xplayX X S) (xplayS X S)) (some (.inl (xplayR X S))) 23 [some (.inr (7, 0)), some (.inl m)] [] (xh h0 Y Z) := by
      intro n
      induction n using Nat.strongRecOn with
      | _ n ih23 =>
        intro k m Y Z hn23 hk61 hk62 hxf hT hWZ hBZ hm hY5
        have hT4 := id hT
        obtain ⟨p1, p2, p3, p4⟩ := hT4
        obtain ⟨k1, hk1⟩ : ∃ k1, k = k1 + 1 := ⟨k - 1, by omega⟩
        have hxf2 : xpl1 (k1 + 1) (m, Y, Z) = xplS X S := by rw [← hk1]; exact hxf
        simp only [xpl1] at hxf2
        have hxr := xnR_b Y Z
        refine sx_aload_n dX3_play_23 rfl ?_
        refine xs_geti dX3_play_24 fl_X3_174 (by decide) (fun r24 => ?_)
        refine sx_aload_n dX3_play_27 rfl ?_
        refine xs_geti dX3_play_28 fl_X3_171 (by decide) (fun r28 => ?_)
        refine sx_icmp_ge (tgt := 52) dX3_play_31 (by decide) (by first | omega | assumption | (exact ⟨by omega, by omega⟩)) (by first | omega | assumption | (exact ⟨by omega, by omega⟩)) (fun c31 => ?_) (fun c31 => ?_)
        · -- 31t
          have hend : xpl1 k (m, Y, Z) = (m, Y, Z) := by rw [hk1]; simp only [xpl1]; rw [if_neg (Int.not_lt.mpr c31)]
          rw [hend] at hxf
          refine sx_aload_n dX3_play_52 rfl ?_
          refine sx_iload_n dX3_play_53 rfl ?_
          refine sx_callVi dX3_play_54 ml_X3_87 mv3_acted (tx_acted _ (by exact ⟨by omega, by omega⟩) hY5) rfl am_obX rfl (Nat.le_of_ble_eq_true rfl) (Nat.le_of_ble_eq_true rfl) ?_
          exact sx_iret dX3_play_57 rfl (by unfold xplayR; rw [if_pos c6, ← hxf]) (by unfold xplayX xplayS; rw [if_pos c6, if_pos c6, ← hxf])
        · -- 31f
          refine sx_iload_n dX3_play_34 rfl ?_
          refine sx_aload_n dX3_play_35 rfl ?_
          refine sx_callVi dX3_play_36 ml_X3_191 mv3_doesNext (tx_doesNext hWZ hT c31 hBZ (by omega)) rfl am_obX rfl (Nat.le_of_ble_eq_true rfl) (Nat.le_of_ble_eq_true rfl) ?_
          refine sx_if_ne (tgt := 46) dX3_play_39 (by decide) (by first | omega | assumption | (exact ⟨by omega, by omega⟩)) (fun c39 => ?_) (fun c39 => ?_)
          · -- 39t
            refine sx_iconst dX3_play_46 ?_
            refine sx_iadd dX3_play_47 ?_
            refine sx_istore_n dX3_play_48 (by decide) ?_
            refine sx_goto (tgt := 23) dX3_play_49 (by decide) ?_
            rw [if_pos c31] at hxf2
            have hnY := TX_nY (S := Z) hT c31
            have hBn := BX_nS (X := Y) hWZ hBZ (by omega)
            have h5 : xnY Y Z 0 5 = Y 0 5 := xnY_5 Y Z
            first | rw [if_pos c39] at hxf2 | rw [if_neg c39] at hxf2
            exact ih23 k1 (by omega) k1 _ _ _ rfl (by omega) (by omega) hxf2 hnY.1 (WX_nS hWZ) (BX_mono hBn (by omega)) (by omega) (by omega)
          · -- 39f
            refine sx_iconst dX3_play_42 ?_
            refine sx_goto (tgt := 47) dX3_play_43 (by decide) ?_
            refine sx_iadd dX3_play_47 ?_
            refine sx_istore_n dX3_play_48 (by decide) ?_
            refine sx_goto (tgt := 23) dX3_play_49 (by decide) ?_
            rw [if_pos c31] at hxf2
            have hnY := TX_nY (S := Z) hT c31
            have hBn := BX_nS (X := Y) hWZ hBZ (by omega)
            have h5 : xnY Y Z 0 5 = Y 0 5 := xnY_5 Y Z
            first | rw [if_pos c39] at hxf2 | rw [if_neg c39] at hxf2
            exact ih23 k1 (by omega) k1 _ _ _ rfl (by omega) (by omega) hxf2 hnY.1 (WX_nS hWZ) (BX_mono hBn (by omega)) (by omega) (by omega)
    have hp5 : 0 ≤ (xflt X S).2.1 0 5 ∧ (xflt X S).2.1 0 5 ≤ 4 := by rw [xflt_5]; exact hst
    have hp7 : (xflt X S).2.1 0 7 = X 0 7 := xflt_7 X S
    exact loop23 _ 61 0 (am_u2 (am_u3 (xflt X S).2.1 3 S) 0 8 0) S rfl (by rw [am_u2_hit, am_u2_rd _ _ (Or.inr (by decide))]; show (xflt X S).2.1 0 7 - 0 < _; omega) (by omega) rfl (by unfold TX; rw [am_u2_hit, am_u2_rd _ _ (Or.inr (by decide))]; show 0 ≤ (0 : Int) ∧ 0 ≤ (xflt X S).2.1 0 7 ∧ 0 ≤ (xflt X S).2.1 0 7 ∧ (xflt X S).2.1 0 7 ≤ 60; omega) hW (BX_mono hB (by omega)) (by omega) (by rw [am_u2_rd _ _ (Or.inr (by decide))]; exact hp5)
  · -- 6f
    refine sx_ldc dX3_play_9 kc_X3_96 ?_
    exact sx_iret dX3_play_11 rfl (by unfold xplayR; simp only [if_neg c6]) (by unfold xplayX xplayS; simp only [if_neg c6])
