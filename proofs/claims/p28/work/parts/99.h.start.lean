/-! ===== the law from its entry ===== -/
theorem lk_new : (Cond.classLink R_law 10 RX2 ∈ lw_tbl ∧ Cond.instantiable RX2 5 ∈ lw_tbl ∧ Cond.initialized RX2 ∈ lw_tbl) ∧ (Cond.methodLink R_law 66 yX2_init ∈ lw_tbl ∧ Cond.instanceMethod yX2_init ∈ lw_tbl ∧ Cond.code yX2_init cX2_init 2 none ∈ am_GW) := by decide +kernel
theorem lk_ins : Cond.instantiable RX0 18 ∈ lw_tbl ∧ Cond.instantiable RX1 8 ∈ lw_tbl ∧ Cond.arrayClass .int ∈ lw_tbl ∧ Cond.arrayClass .char ∈ lw_tbl ∧ Cond.arrayOver (.object RX0) ∈ lw_tbl := by decide +kernel
theorem lk_nw : ∀ w ∈ am_NW, w ∈ lw_tbl ∧ w.onTables = true := by decide +kernel
set_option maxHeartbeats 4000000 in
set_option maxRecDepth 100000 in
theorem whole_start {p : Program} {e : Env} {s : State} {m : MethodId} {below : List Frame} {meth : Method} {c : Code} (l : Launch) (hflags : l.flags = flags0) {b L : Nat} {xs : Nat → Int32} (hL : L ≤ 260) (C0 : lw_At p s m meth c b L xs) : W p l e room_1 s m #[Value.ref b] below meth c s.heap [] 0 0 (lw_Z below #[Value.ref b] s) (entryFrame m ([Value.ref b] : List Value).toArray 5) := by
  obtain ⟨hx, hb, hr, hml, hown, hts, hX, hbl, hlocks, hgv⟩ := id C0
  have hA : ∀ q : Nat, s.heap.size ≤ q → (fun q : Nat => s.heap.size ≤ q) q := fun _ h => h
  have tb : ∀ w ∈ am_GW, w ∈ lw_tbl := fun w hw => (List.mem_filter.mp hw).1
  obtain ⟨c0, iS0, hKn0⟩ := u_known (C := RX0) (T := TX0) (N := 18) (n := 18) hts (fun w hw => tb w (am_inX0 w hw)) (hts _ lk_ins.1)
  obtain ⟨c1, iS1, hKn1⟩ := u_known (C := RX1) (T := TX1) (N := 8) (n := 8) hts (fun w hw => tb w (am_inX1 w hw)) (hts _ lk_ins.2.1)
  obtain ⟨c2, iS2, hKn2⟩ := u_known (C := RX2) (T := TX2) (N := 5) (n := 5) hts (fun w hw => tb w (am_inX2 w hw)) (hts _ lk_new.1.2.1)
  obtain ⟨D, hKc⟩ : ∃ (D : va_G), ∀ (k : Nat) (q : vw_C), vwCl[k]? = some q → u_Kn s q.1 q.2.1 q.2.2 (D.1 k) (D.2 k) := by
    refine ⟨(fun k => if k = 0 then c0 else if k = 1 then c1 else c2, fun k => if k = 0 then iS0 else if k = 1 then iS1 else iS2), ?_⟩
    intro k q hq
    match k, hq with
    | 0, hq => cases hq; exact hKn0
    | 1, hq => cases hq; exact hKn1
    | 2, hq => cases hq; exact hKn2
    | k + 3, hq => simp [vwCl] at hq
  obtain ⟨cI, kI, compI, i1, i2, i3⟩ := Cond.arrayClass_spec (hts _ lk_ins.2.2.1)
  obtain ⟨cC, kC, compC, j1, j2, j3⟩ := Cond.arrayClass_spec (hts _ lk_ins.2.2.2.1)
  have hK : va_K D vwCl (cn_ty cI cC) s := by
    refine ⟨hKc, fun k q hk => ?_⟩
    match k, hk with
    | 0, hk => cases hk; exact ⟨fun N z => ⟨(fun k h => by cases h), kI, i2, compI, i3⟩, i1⟩
    | 1, hk => cases hk; exact ⟨fun N z => ⟨(fun k h => by cases h), kC, j2, compC, j3⟩, j1⟩
    | k + 2, hk => simp [cn_ty] at hk
  have hN : ∀ w ∈ am_NW, va_Nw w s := fun w hw => va_Nw.of (lk_nw w hw).2 (hts w (lk_nw w hw).1)
  have hAO : va_AO RX0 s := va_AO.of (hts _ lk_ins.2.2.2.2)
  have hS : va_S (fun q : Nat => s.heap.size ≤ q) s.heap s.heap [] := va_S.rf
  have hP : va_P D vwCl [] s.heap := fun k q h => by simp at h
  have hD : va_D (fun q : Nat => s.heap.size ≤ q) [] := ⟨fun i j p q h => by simp at h, fun k q h => by simp at h⟩
  have hl := lv_entry ([.ref b]) (n := 5) (Nat.le_of_ble_eq_true rfl)
  rw [lg_entry_eq]
  generalize (lg_sl ([.ref b]) ++ List.replicate (5 - (lg_sl ([.ref b])).length) Slot.unset).toArray = ls at hl ⊢
  have hl : lv_has ls 5 [(0, .ref b)] := hl
  refine va_new (ci := 2) (fs := [.null, .null, .null, .null, .int 0]) (C := RX2) (T := TX2) (N := 5) hx hb hts (fun w hw => tb w (am_inX2 w hw)) tyX2 tyX2_ok hown (hts _ lk_new.1.1) (hts _ lk_new.1.2.1) (hts _ lk_new.1.2.2) hK hP hD hS hA rfl (fun j hj => by rcases (show j = 0 ∨ j = 1 ∨ j = 2 ∨ j = 3 ∨ j = 4 by omega) with rfl | rfl | rfl | rfl | rfl <;> rfl) (Nat.le_of_ble_eq_true rfl) (Nat.le_of_ble_eq_true rfl) dL_law_0 (fun g H hP hD hS => ?_)
  refine lv_dup hx hb dL_law_3 rfl ?_
  obtain ⟨hPc, hDc, hlast⟩ := cn_one hP hD
  have hFc := va_free (wc := [(g, .inr (2, [.null, .null, .null, .null, .int 0]))]) hD hS hA [0] (by simp)
  have cb := callB_of (R := room_1) (s := s) (args := #[Value.ref b]) (own := R_law) (index := 66) (y := yX2_init) (bytes := cX2_init) (maxL := 2) (ret := none) (ws := am_w Y2_init) (rm := cn_rmG) (mc := 87) (ms := 1584) 0 hts (am_goodT lk_new.2.2.2) rfl rfl rfl (hts _ lk_new.1.2.2) (hts _ lk_new.2.1) (by decide +kernel) ⟨Nat.le_of_ble_eq_true rfl, Nat.le_of_ble_eq_true rfl⟩
  refine va_callv (va_runI (As := []) (rest := [.ref g]) (nL := 5) (n := 0) (b := g) ⟨hx, hb, hml, hown, hts⟩ (c_god l D cI cC g H.size) ⟨cb, rfl, hts _ lk_new.2.2.1⟩ ⟨cn_blindG, fun U hU hW => ⟨rfl, by rw [hU], by rw [hU]; exact hPc, va_K.moved hW.alike hK, hDc, am_NW_warm hW hN, va_AO.moved hW.alike hAO⟩⟩ rfl rfl hl.1 rfl (lv_room (Nat.le_of_ble_eq_true rfl)) dL_law_4 ⟨Nat.le_of_ble_eq_true rfl, Nat.le_of_ble_eq_true rfl⟩) hS (fun q _ h => hFc q h) hFc (fun u t H1 locs1 ht hvm hw hB hz1 hk1 hS => ?_)
  obtain ⟨cM, bb, aa⟩ := u
  obtain ⟨hP1, hK1, hD1⟩ := hB
  rw [ht] at hP1
  have hKM := va_K.moved hvm.symm hK1
  obtain ⟨hP, hD⟩ := cn_join hP hD hk1 hFc hP1 hD1
  have hP : va_P D vwCl (gw9 cI cC cM g bb aa) H1 := hP
  have hD : va_D (fun q : Nat => s.heap.size ≤ q) (gw9 cI cC cM g bb aa) := hD
  refine lv_astore_n (lv' := [(1, .ref g), (0, .ref b)]) hx hb dL_law_7 rfl hl (by decide) rfl (fun ls hl => ?_)
  refine W.widen (k := 100) (n := 2000) (Nat.le_of_ble_eq_true rfl) (Nat.le_of_ble_eq_true rfl) ?_
  obtain ⟨w1, w2, w3⟩ := cn_world hP hD
  exact law_go (K := (cI, cC, cM)) (ad := cn_ad g bb aa) ⟨C0, hL, hKM, hN, w2, w3⟩ ⟨w1, iH_VH, hS, iPH⟩ hl
