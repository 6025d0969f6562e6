/-! ===== the law's loop, the law ===== -/
section LAWL
variable {p : Program} {l : Launch} {e : Env} {s : State} {m : MethodId} {below : List Frame} {meth : Method} {c : Code} {b L : Nat} {xs : Nat → Int32} {D : va_G} {K : ClassId × ClassId × ClassId} {ad : Nat → Nat → Nat}
theorem law_end (hC : LC p s m meth c b L xs D K ad) {H : Heap} {locs : List Loc} {h : am_H} {n : Int} (hH : LH D K ad s H locs h n) {i : Nat} (hi : ¬ i + 3 ≤ L) (hi9 : i ≤ 2000) {ls : Array Slot} (hl : lv_has ls 4 [(3, .int (nI i)), (2, .ref (ad 7 0)), (1, .ref (ad 6 0)), (0, .ref b)]) : W p l e room_1 s m #[Value.ref b] below meth c H locs 96 3326 (lw_Z below #[Value.ref b] s) (F0 m 18 ls []) := by
  obtain ⟨hP, hV, hS, hR⟩ := hH
  obtain ⟨⟨hx, hb, hr, hml, hown, hts, hX, hbl, hlk, hgv⟩, hL, hK, hN, hA, hAd⟩ := hC
  have hbA : ¬ (fun q : Nat => s.heap.size ≤ q) b := Nat.not_le.mpr hbl
  refine lv_iload_n hx hb dL_law_18 rfl (lv_at hl 0 rfl) ?_
  refine lv_aload_n hx hb dL_law_19 rfl (lv_at hl 3 rfl) ?_
  refine va_slen hx hb hX hbl hbA hS dL_law_20 ?_
  refine lv_iconst (v := nI 3) hx hb dL_law_21 (by decide) ?_
  refine lv_isub hx hb dL_law_22 ?_
  refine lv_icmp_gt (tgt := 779) hx hb dL_law_23 (by decide) (fun _ => ?_) (fun z => absurd ?_ z)
  · refine lv_iconst (v := 1) hx hb dL_law_779 (by decide) ?_
    refine va_forget (fun q hq => hS.2.2 q hq) ?_
    refine W.widen (k := 600000) (n := 7302250) (Nat.le_of_ble_eq_true rfl) (Nat.le_of_ble_eq_true rfl) ?_
    exact lw_ret hx hb hr hlk dL_law_780
  · show nI L - nI 3 < nI i
    rw [Int32.lt_iff_toInt_lt, pk_sub_toInt (by omega) (by decide), nI_toInt (by omega)]
    omega
theorem law_loop (hC : LC p s m meth c b L xs D K ad) (fuel : Nat) : ∀ (i : Nat), L ≤ i + fuel → i ≤ L + 2 → ∀ (H : Heap) (locs : List Loc) (h : am_H) (ls : Array Slot), LH D K ad s H locs h (8000 * i) → lv_has ls 4 [(3, .int (nI i)), (2, .ref (ad 7 0)), (1, .ref (ad 6 0)), (0, .ref b)] → W p l e room_1 s m #[Value.ref b] below meth c H locs 96 3326 (lw_Z below #[Value.ref b] s) (F0 m 18 ls []) := by
  have hC0 := hC
  obtain ⟨⟨hx, hb, hr, hml, hown, hts, hX, hbl, hlk, hgv⟩, hL, hK, hN, hA, hAd⟩ := hC
  have hbA : ¬ (fun q : Nat => s.heap.size ≤ q) b := Nat.not_le.mpr hbl
  induction fuel with
  | zero =>
    intro i h1 h2 H locs h ls hH hl
    exact law_end hC0 hH (by omega) (by omega) hl
  | succ f ih =>
    intro i h1 h2 H locs h ls hH hl
    by_cases hi : i + 3 ≤ L
    · have hS := hH.2.2.1
      refine lv_iload_n hx hb dL_law_18 rfl (lv_at hl 0 rfl) ?_
      refine lv_aload_n hx hb dL_law_19 rfl (lv_at hl 3 rfl) ?_
      refine va_slen hx hb hX hbl hbA hS dL_law_20 ?_
      refine lv_iconst (v := nI 3) hx hb dL_law_21 (by decide) ?_
      refine lv_isub hx hb dL_law_22 ?_
      refine lv_icmp_gt (tgt := 779) hx hb dL_law_23 (by decide) (fun z => absurd z ?_) (fun _ => ?_)
      · show ¬ nI L - nI 3 < nI i
        rw [Int32.lt_iff_toInt_lt, pk_sub_toInt (by omega) (by decide), nI_toInt (by omega)]
        omega
      refine lv_aload_n hx hb dL_law_26 rfl (lv_at hl 3 rfl) ?_
      refine lv_iload_n hx hb dL_law_27 rfl (lv_at hl 0 rfl) ?_
      refine va_sld hx hb hX hbl hbA hS (vp_in_nI (by omega) (by omega)) dL_law_28 ?_
      refine lv_bipush (v := nI 31) hx hb dL_law_29 (by decide) ?_
      refine lv_iand hx hb dL_law_31 ?_
      obtain ⟨j, hj, ej⟩ := pk_andE (xs (nI i).toNatClampNeg) (m := nI 31) 5 (by decide)
      have hj : j < 32 := hj
      rw [ej]
      have next : ∀ (H1 : Heap) (locs1 : List Loc) (h1 : am_H), LH D K ad s H1 locs1 h1 (8000 * i + 24000) → W p l e room_1 s m #[Value.ref b] below meth c H1 locs1 96 3326 (lw_Z below #[Value.ref b] s) (F0 m 773 ls []) := by
        intro H1 locs1 h1 hH1
        refine lv_iinc (v := nI (i + 3)) (lv' := [(3, .int (nI (i + 3))), (2, .ref (ad 7 0)), (1, .ref (ad 6 0)), (0, .ref b)]) hx hb dL_law_773 hl (k := 0) rfl (nI_add i 3) (by decide) rfl (fun ls hl => ?_)
        refine lv_goto (tgt := 18) hx hb dL_law_776 (by decide) ?_
        refine ih (i + 3) (by omega) (by omega) H1 locs1 h1 ls ?_ hl
        have e : (8000 * ((i + 3 : Nat) : Int)) = 8000 * i + 24000 := by omega
        rw [e]
        exact hH1
      have hn : (8000 * (i : Int)) ≤ 300000000 := by omega
      have tj : (nI j).toInt = (j : Int) := nI_toInt (by omega)
      rcases (show j = 0 ∨ j = 1 ∨ j = 2 ∨ j = 3 ∨ j = 4 ∨ j = 5 ∨ j = 6 ∨ j = 7 ∨ j = 8 ∨ j = 9 ∨ j = 10 ∨ j = 11 ∨ j = 12 ∨ j = 13 ∨ j = 14 ∨ j = 15 ∨ j = 16 ∨ j = 17 ∨ j = 18 ∨ j = 19 ∨ j = 20 ∨ j = 21 ∨ j = 22 ∨ j = 23 ∨ j = 24 ∨ 25 ≤ j by omega) with rfl | rfl | rfl | rfl | rfl | rfl | rfl | rfl | rfl | rfl | rfl | rfl | rfl | rfl | rfl | rfl | rfl | rfl | rfl | rfl | rfl | rfl | rfl | rfl | rfl | hj25
      · exact lv_tableIn (off := 116) (tgt := 148) hx hb dL_law_32 (by decide) (by decide) rfl (by decide) (lw_c0 hC0 hH hn (by omega) hl next)
      · exact lv_tableIn (off := 149) (tgt := 181) hx hb dL_law_32 (by decide) (by decide) rfl (by decide) (lw_c1 hC0 hH hn (by omega) hl next)
      · exact lv_tableIn (off := 172) (tgt := 204) hx hb dL_law_32 (by decide) (by decide) rfl (by decide) (lw_c2 hC0 hH hn (by omega) hl next)
      · exact lv_tableIn (off := 195) (tgt := 227) hx hb dL_law_32 (by decide) (by decide) rfl (by decide) (lw_c3 hC0 hH hn (by omega) hl next)
      · exact lv_tableIn (off := 228) (tgt := 260) hx hb dL_law_32 (by decide) (by decide) rfl (by decide) (lw_c4 hC0 hH hn (by omega) hl next)
      · exact lv_tableIn (off := 261) (tgt := 293) hx hb dL_law_32 (by decide) (by decide) rfl (by decide) (lw_c5 hC0 hH hn (by omega) hl next)
      · exact lv_tableIn (off := 294) (tgt := 326) hx hb dL_law_32 (by decide) (by decide) rfl (by decide) (lw_c6 hC0 hH hn (by omega) hl next)
      · exact lv_tableIn (off := 327) (tgt := 359) hx hb dL_law_32 (by decide) (by decide) rfl (by decide) (lw_c7 hC0 hH hn (by omega) hl next)
      · exact lv_tableIn (off := 360) (tgt := 392) hx hb dL_law_32 (by decide) (by decide) rfl (by decide) (lw_c8 hC0 hH hn (by omega) hl next)
      · exact lv_tableIn (off := 383) (tgt := 415) hx hb dL_law_32 (by decide) (by decide) rfl (by decide) (lw_c9 hC0 hH hn (by omega) hl next)
      · exact lv_tableIn (off := 416) (tgt := 448) hx hb dL_law_32 (by decide) (by decide) rfl (by decide) (lw_c10 hC0 hH hn (by omega) hl next)
      · exact lv_tableIn (off := 439) (tgt := 471) hx hb dL_law_32 (by decide) (by decide) rfl (by decide) (lw_c11 hC0 hH hn (by omega) hl next)
      · exact lv_tableIn (off := 472) (tgt := 504) hx hb dL_law_32 (by decide) (by decide) rfl (by decide) (lw_c12 hC0 hH hn (by omega) hl next)
      · exact lv_tableIn (off := 505) (tgt := 537) hx hb dL_law_32 (by decide) (by decide) rfl (by decide) (lw_c13 hC0 hH hn (by omega) hl next)
      · exact lv_tableIn (off := 528) (tgt := 560) hx hb dL_law_32 (by decide) (by decide) rfl (by decide) (lw_c14 hC0 hH hn (by omega) hl next)
      · exact lv_tableIn (off := 561) (tgt := 593) hx hb dL_law_32 (by decide) (by decide) rfl (by decide) (lw_c15 hC0 hH hn (by omega) hl next)
      · exact lv_tableIn (off := 574) (tgt := 606) hx hb dL_law_32 (by decide) (by decide) rfl (by decide) (lw_c16 hC0 hH hn (by omega) hl next)
      · exact lv_tableIn (off := 597) (tgt := 629) hx hb dL_law_32 (by decide) (by decide) rfl (by decide) (lw_c17 hC0 hH hn (by omega) hl next)
      · exact lv_tableIn (off := 610) (tgt := 642) hx hb dL_law_32 (by decide) (by decide) rfl (by decide) (lw_c18 hC0 hH hn (by omega) hl next)
      · exact lv_tableIn (off := 633) (tgt := 665) hx hb dL_law_32 (by decide) (by decide) rfl (by decide) (lw_c19 hC0 hH hn (by omega) hl next)
      · exact lv_tableIn (off := 656) (tgt := 688) hx hb dL_law_32 (by decide) (by decide) rfl (by decide) (lw_c20 hC0 hH hn (by omega) hl next)
      · exact lv_tableIn (off := 669) (tgt := 701) hx hb dL_law_32 (by decide) (by decide) rfl (by decide) (lw_c21 hC0 hH hn (by omega) hl next)
      · exact lv_tableIn (off := 692) (tgt := 724) hx hb dL_law_32 (by decide) (by decide) rfl (by decide) (lw_c22 hC0 hH hn (by omega) hl next)
      · exact lv_tableIn (off := 705) (tgt := 737) hx hb dL_law_32 (by decide) (by decide) rfl (by decide) (lw_c23 hC0 hH hn (by omega) hl next)
      · exact lv_tableIn (off := 728) (tgt := 760) hx hb dL_law_32 (by decide) (by decide) rfl (by decide) (lw_c24 hC0 hH hn (by omega) hl next)
      · refine lv_tableOut (tgt := 773) hx hb dL_law_32 (Or.inr (by rw [tj]; omega)) (by decide) ?_
        exact next H locs h ⟨hH.1, hH.2.1, hH.2.2.1, RR_mono hH.2.2.2 (by omega)⟩
    · exact law_end hC0 hH hi (by omega) hl
end LAWL
theorem lk_new : (Cond.classLink R_law 7 RX2 ∈ lw_tbl ∧ Cond.instantiable RX2 5 ∈ lw_tbl ∧ Cond.initialized RX2 ∈ lw_tbl) ∧ (Cond.classLink R_law 10 RX3 ∈ lw_tbl ∧ Cond.instantiable RX3 11 ∈ lw_tbl ∧ Cond.initialized RX3 ∈ lw_tbl) ∧ (Cond.methodLink R_law 9 yX2_init ∈ lw_tbl ∧ Cond.instanceMethod yX2_init ∈ lw_tbl ∧ Cond.code yX2_init cX2_init 2 none ∈ am_GW) ∧ (Cond.methodLink R_law 12 yX3_init ∈ lw_tbl ∧ Cond.instanceMethod yX3_init ∈ lw_tbl ∧ Cond.code yX3_init cX3_init 2 none ∈ am_GW) := by decide +kernel
theorem lk_ins : Cond.instantiable RX0 18 ∈ lw_tbl ∧ Cond.instantiable RX1 8 ∈ lw_tbl ∧ Cond.arrayClass .int ∈ lw_tbl ∧ Cond.arrayClass .char ∈ lw_tbl ∧ Cond.arrayOver (.object RX0) ∈ lw_tbl := by decide +kernel
theorem lk_nw : ∀ w ∈ am_NW, w ∈ lw_tbl ∧ w.onTables = true := by decide +kernel
set_option maxHeartbeats 4000000 in
set_option maxRecDepth 100000 in
theorem whole_start {p : Program} {e : Env} {s : State} {m : MethodId} {below : List Frame} {meth : Method} {c : Code} (l : Launch) (hflags : l.flags = flags0) {b L : Nat} {xs : Nat → Int32} (hL : L ≤ 1536) (C0 : lw_At p s m meth c b L xs) : W p l e room_1 s m #[Value.ref b] below meth c s.heap [] 0 0 (lw_Z below #[Value.ref b] s) (entryFrame m ([Value.ref b] : List Value).toArray 4) := by
  obtain ⟨hx, hb, hr, hml, hown, hts, hX, hbl, hlocks, hgv⟩ := id C0
  have hA : ∀ q : Nat, s.heap.size ≤ q → (fun q : Nat => s.heap.size ≤ q) q := fun _ h => h
  have tb : ∀ w ∈ am_GW, w ∈ lw_tbl := fun w hw => (List.mem_filter.mp hw).1
  obtain ⟨c0, iS0, hKn0⟩ := u_known (C := RX0) (T := TX0) (N := 18) (n := 18) hts (fun w hw => tb w (am_inX0 w hw)) (hts _ lk_ins.1)
  obtain ⟨c1, iS1, hKn1⟩ := u_known (C := RX1) (T := TX1) (N := 8) (n := 8) hts (fun w hw => tb w (am_inX1 w hw)) (hts _ lk_ins.2.1)
  obtain ⟨c2, iS2, hKn2⟩ := u_known (C := RX2) (T := TX2) (N := 5) (n := 5) hts (fun w hw => tb w (am_inX2 w hw)) (hts _ lk_new.1.2.1)
  obtain ⟨c3, iS3, hKn3⟩ := u_known (C := RX3) (T := TX3) (N := 11) (n := 11) hts (fun w hw => tb w (am_inX3 w hw)) (hts _ lk_new.2.1.2.1)
  obtain ⟨D, hKc⟩ : ∃ (D : va_G), ∀ (k : Nat) (q : vw_C), vwCl[k]? = some q → u_Kn s q.1 q.2.1 q.2.2 (D.1 k) (D.2 k) := by
    refine ⟨(fun k => if k = 0 then c0 else if k = 1 then c1 else if k = 2 then c2 else c3, fun k => if k = 0 then iS0 else if k = 1 then iS1 else if k = 2 then iS2 else iS3), ?_⟩
    intro k q hq
    match k, hq with
    | 0, hq => cases hq; exact hKn0
    | 1, hq => cases hq; exact hKn1
    | 2, hq => cases hq; exact hKn2
    | 3, hq => cases hq; exact hKn3
    | k + 4, hq => simp [vwCl] at hq
  obtain ⟨cI, kI, compI, i1, i2, i3⟩ := Cond.arrayClass_spec (hts _ lk_ins.2.2.1)
  obtain ⟨cC, kC, compC, j1, j2, j3⟩ := Cond.arrayClass_spec (hts _ lk_ins.2.2.2.1)
  have hK : va_K D vwCl (cn_ty cI cC) s := by
    refine ⟨hKc, fun k q hk => ?_⟩
    match k, hk with
    | 0, hk => cases hk; exact ⟨fun N z => ⟨(fun k h => by cases h), kI, i2, compI, i3⟩, i1⟩
    | 1, hk => cases hk; exact ⟨fun N z => ⟨(fun k h => by cases h), kC, j2, compC, j3⟩, j1⟩
    | k + 2, hk => simp [cn_ty] at hk
  have hN : ∀ w ∈ am_NW, va_Nw w s := fun w hw => va_Nw.of (lk_nw w hw).2 (hts w (lk_nw w hw).1)
  have hAO : va_AO RX0 s := va_AO.of (hts _ lk_ins.2.2.2.2)
  have hS : va_S (fun q : Nat => s.heap.size ≤ q) s.heap s.heap [] := va_S.rf
  have hP : va_P D vwCl [] s.heap := fun k q h => by simp at h
  have hD : va_D (fun q : Nat => s.heap.size ≤ q) [] := ⟨fun i j p q h => by simp at h, fun k q h => by simp at h⟩
  have hl := lv_entry ([.ref b]) (n := 4) (Nat.le_of_ble_eq_true rfl)
  rw [lg_entry_eq]
  generalize (lg_sl ([.ref b]) ++ List.replicate (4 - (lg_sl ([.ref b])).length) Slot.unset).toArray = ls at hl ⊢
  have hl : lv_has ls 4 [(0, .ref b)] := hl
  refine va_new (ci := 2) (fs := [.null, .null, .null, .null, .int 0]) (C := RX2) (T := TX2) (N := 5) hx hb hts (fun w hw => tb w (am_inX2 w hw)) tyX2 tyX2_ok hown (hts _ lk_new.1.1) (hts _ lk_new.1.2.1) (hts _ lk_new.1.2.2) hK hP hD hS hA rfl (fun j hj => by rcases (show j = 0 ∨ j = 1 ∨ j = 2 ∨ j = 3 ∨ j = 4 by omega) with rfl | rfl | rfl | rfl | rfl <;> rfl) (Nat.le_of_ble_eq_true rfl) (Nat.le_of_ble_eq_true rfl) dL_law_0 (fun g H hP hD hS => ?_)
  refine lv_dup hx hb dL_law_3 rfl ?_
  obtain ⟨hPc, hDc, hlast⟩ := cn_one hP hD
  have hFc := va_free (wc := [(g, .inr (2, [.null, .null, .null, .null, .int 0]))]) hD hS hA [0] (by simp)
  have cb := callB_of (R := room_1) (s := s) (args := #[Value.ref b]) (own := R_law) (index := 9) (y := yX2_init) (bytes := cX2_init) (maxL := 2) (ret := none) (ws := am_w Y2_init) (rm := cn_rmG) (mc := 87) (ms := 1584) 0 hts (am_goodT lk_new.2.2.1.2.2) rfl rfl rfl (hts _ lk_new.1.2.2) (hts _ lk_new.2.2.1.1) (by decide +kernel) ⟨Nat.le_of_ble_eq_true rfl, Nat.le_of_ble_eq_true rfl⟩
  refine va_callv (va_runI (As := []) (rest := [.ref g]) (nL := 4) (n := 0) (b := g) ⟨hx, hb, hml, hown, hts⟩ (c_god l D cI cC g H.size) ⟨cb, rfl, hts _ lk_new.2.2.1.2.1⟩ ⟨cn_blindG, fun U hU hW => ⟨rfl, by rw [hU], by rw [hU]; exact hPc, va_K.moved hW.alike hK, hDc, am_NW_warm hW hN, va_AO.moved hW.alike hAO⟩⟩ rfl rfl hl.1 rfl (lv_room (Nat.le_of_ble_eq_true rfl)) dL_law_4 ⟨Nat.le_of_ble_eq_true rfl, Nat.le_of_ble_eq_true rfl⟩) hS (fun q _ h => hFc q h) hFc (fun u t H1 locs1 ht hvm hw hB hz1 hk1 hS => ?_)
  obtain ⟨cM, bb, aa⟩ := u
  obtain ⟨hP1, hK1, hD1⟩ := hB
  rw [ht] at hP1
  have hKM := va_K.moved hvm.symm hK1
  obtain ⟨hP, hD⟩ := cn_join hP hD hk1 hFc hP1 hD1
  have hP : va_P D vwCl (gw9 cI cC cM g bb aa) H1 := hP
  have hD : va_D (fun q : Nat => s.heap.size ≤ q) (gw9 cI cC cM g bb aa) := hD
  refine lv_astore_n (lv' := [(1, .ref g), (0, .ref b)]) hx hb dL_law_7 rfl hl (by decide) rfl (fun ls hl => ?_)
  refine va_new (ci := 3) (fs := [.null, .null, .null, .null, .null, .int 0, .null, .int 0, .int 0, .int 0, .null]) (C := RX3) (T := TX3) (N := 11) hx hb hts (fun w hw => tb w (am_inX3 w hw)) tyX3 tyX3_ok hown (hts _ lk_new.2.1.1) (hts _ lk_new.2.1.2.1) (hts _ lk_new.2.1.2.2) hK hP hD hS hA rfl (fun j hj => by rcases (show j = 0 ∨ j = 1 ∨ j = 2 ∨ j = 3 ∨ j = 4 ∨ j = 5 ∨ j = 6 ∨ j = 7 ∨ j = 8 ∨ j = 9 ∨ j = 10 by omega) with rfl | rfl | rfl | rfl | rfl | rfl | rfl | rfl | rfl | rfl | rfl <;> rfl) (Nat.le_of_ble_eq_true rfl) (Nat.le_of_ble_eq_true rfl) dL_law_8 (fun x H hP hD hS => ?_)
  refine lv_dup hx hb dL_law_11 rfl ?_
  obtain ⟨hPc, hDc, hlast⟩ := cn_one hP hD
  have hFc := va_free (wc := [(x, .inr (3, [.null, .null, .null, .null, .null, .int 0, .null, .int 0, .int 0, .int 0, .null]))]) hD hS hA [(gw9 cI cC cM g bb aa).length] (by simp)
  have cb2 := callB_of (R := room_1) (s := s) (args := #[Value.ref b]) (own := R_law) (index := 12) (y := yX3_init) (bytes := cX3_init) (maxL := 2) (ret := none) (ws := am_w Y3_init) (rm := cn_rm1 7 1726) (mc := 7) (ms := 1726) 0 hts (am_goodT lk_new.2.2.2.2.2) rfl rfl rfl (hts _ lk_new.2.1.2.2) (hts _ lk_new.2.2.2.1) (by decide +kernel) ⟨Nat.le_of_ble_eq_true rfl, Nat.le_of_ble_eq_true rfl⟩
  refine va_callv (va_runI (As := []) (rest := [.ref x]) (nL := 4) (n := 0) (b := x) ⟨hx, hb, hml, hown, hts⟩ (c_mod l D cI cC x H.size) ⟨cb2, rfl, hts _ lk_new.2.2.2.2.1⟩ ⟨cn_blind, fun U hU hW => ⟨rfl, by rw [hU], by rw [hU]; exact hPc, va_K.moved hW.alike hK, hDc⟩⟩ rfl rfl hl.1 rfl (lv_room (Nat.le_of_ble_eq_true rfl)) dL_law_12 ⟨Nat.le_of_ble_eq_true rfl, Nat.le_of_ble_eq_true rfl⟩) hS (fun q _ h => hFc q h) hFc (fun ux t H1 locs1 ht hvm hw hB hz1 hk1 hS => ?_)
  obtain ⟨hP1, hD1⟩ := hB
  rw [ht] at hP1
  obtain ⟨hP, hD⟩ := cn_join hP hD hk1 hFc hP1 hD1
  refine lv_astore_n (lv' := [(2, .ref x), (1, .ref g), (0, .ref b)]) hx hb dL_law_15 rfl hl (by decide) rfl (fun ls hl => ?_)
  refine lv_iconst (v := nI 0) hx hb dL_law_16 (by decide) ?_
  refine lv_istore_n (lv' := [(3, .int (nI 0)), (2, .ref x), (1, .ref g), (0, .ref b)]) hx hb dL_law_17 rfl hl (by decide) rfl (fun ls hl => ?_)
  refine W.widen (k := 96) (n := 3326) (Nat.le_of_ble_eq_true rfl) (Nat.le_of_ble_eq_true rfl) ?_
  obtain ⟨w1, w2, w3⟩ := cn_world hP hD
  exact law_loop (K := (cI, cC, cM)) (ad := cn_ad g x bb aa ux) ⟨C0, hL, hKM, hN, w2, w3⟩ L 0 (by omega) (by omega) H1 locs1 iH ls ⟨w1, iH_VH, hS, iRH⟩ hl
