/-! ===== constructors: Orders(), GodChipsModel() ===== -/
def ow (cC : ClassId) (h0 q : Nat) : va_W := [(h0, .inr (1, [.ref q, .int 0, .int 0, .int 0, .int 0, .int 0, .int 0, .int 0])), (q, .inl (cC, 60, .inl (fun _ => 0)))]
abbrev Y1_init : am_Y := (yX1_init, cX1_init, 1, none)
abbrev Y3_init : am_Y := (yX3_init, cX3_init, 2, none)
theorem gw_o : Cond.fieldLink RX1 9 (TX1 0).1 (TX1 0).2.1 (TX1 0).2.2.1 ∈ am_GW := by decide +kernel
theorem gw_x1 : Cond.fieldLink RX3 7 (TX3 0).1 (TX3 0).2.1 (TX3 0).2.2.1 ∈ am_GW := by decide +kernel
theorem gw_x2 : Cond.fieldLink RX3 13 (TX3 1).1 (TX3 1).2.1 (TX3 1).2.2.1 ∈ am_GW := by decide +kernel
theorem gw_x3 : Cond.fieldLink RX3 16 (TX3 2).1 (TX3 2).2.1 (TX3 2).2.2.1 ∈ am_GW := by decide +kernel
theorem gw_x4 : Cond.fieldLink RX3 19 (TX3 3).1 (TX3 3).2.1 (TX3 3).2.2.1 ∈ am_GW := by decide +kernel
theorem gw_x5 : Cond.fieldLink RX3 22 (TX3 4).1 (TX3 4).2.1 (TX3 4).2.2.1 ∈ am_GW := by decide +kernel
theorem gw_x6 : Cond.fieldLink RX3 25 (TX3 6).1 (TX3 6).2.1 (TX3 6).2.2.1 ∈ am_GW := by decide +kernel
theorem gw_x7 : Cond.fieldLink RX3 29 (TX3 10).1 (TX3 10).2.1 (TX3 10).2.2.1 ∈ am_GW := by decide +kernel
set_option maxHeartbeats 4000000 in
set_option maxRecDepth 100000 in
theorem c_ord (l : Launch) (D : va_G) (cI cC : ClassId) (h0 sz : Nat) : Met l yX1_init (am_w Y1_init) (cn_rm1 1 60) (va_Pc [.ref h0] (fun U => U.heap.size = sz ∧ va_P D vwCl [(h0, .inr (1, [.null, .int 0, .int 0, .int 0, .int 0, .int 0, .int 0, .int 0]))] U.heap ∧ va_K D vwCl (cn_ty cI cC) U ∧ va_D (fun _ => True) [(h0, .inr (1, [.null, .int 0, .int 0, .int 0, .int 0, .int 0, .int 0, .int 0]))])) (va_Qv (fun _ : Nat => True) (fun q t => va_P D vwCl (ow cC h0 q) t.heap ∧ va_D (va_A [(h0, .inr (1, [.null, .int 0, .int 0, .int 0, .int 0, .int 0, .int 0, .int 0]))] sz) (ow cC h0 q)) (va_A [(h0, .inr (1, [.null, .int 0, .int 0, .int 0, .int 0, .int 0, .int 0, .int 0]))] sz)) 1 60 (va_A [(h0, .inr (1, [.null, .int 0, .int 0, .int 0, .int 0, .int 0, .int 0, .int 0]))] sz) := by
  refine Met.ofW (cc := cX1_init) (maxL := 1) (ret := none) (by decide) rfl ?_
  intro p e s m args below meth c s₁ B hml hv
  obtain ⟨rfl, hsz, hP, hK, hD0⟩ := hv
  have hx := B.exec
  have hb := B.bytes
  have hr := B.returns
  have hts := atoms_spec (ws := am_w Y1_init) B.pre
  have hown : s.vm.findClass RX1 = some m.cls := findClass_of_methodNamed B.named
  have hlocks := B.notSynchronized
  have hin : meth.name = "<init>" := (name_of_methodNamed B.named B.method).1
  have ok : ∀ w ∈ am_GW, w.before ([Value.ref h0] : List Value).toArray s = true := fun w hw => hts w (List.mem_cons_of_mem _ hw)
  have mem : ∀ w ∈ am_GW, w ∈ am_w Y1_init := fun w hw => List.mem_cons_of_mem _ hw
  subst hsz
  have hD := hD0.self (sz := s.heap.size)
  generalize hAe : va_A [(h0, .inr (1, [.null, .int 0, .int 0, .int 0, .int 0, .int 0, .int 0, .int 0]))] s.heap.size = A at hD ⊢
  have hA : ∀ q : Nat, s.heap.size ≤ q → A q := fun q h => by rw [← hAe]; exact Or.inr h
  have hS : va_S A s.heap s.heap [] := va_S.rf
  have hP : va_P D vwCl [(h0, .inr (1, [.null, .int 0, .int 0, .int 0, .int 0, .int 0, .int 0, .int 0]))] s.heap := hP
  have hl := lv_entry ([.ref h0]) (n := 1) (Nat.le_of_ble_eq_true rfl)
  rw [lg_entry_eq]
  generalize (lg_sl ([.ref h0]) ++ List.replicate (1 - (lg_sl ([.ref h0])).length) Slot.unset).toArray = ls at hl ⊢
  have hl : lv_has ls 1 [(0, .ref h0)] := hl
  refine lv_aload_n hx hb dX1_init_0 rfl (lv_at hl 0 rfl) ?_
  refine W.objInit hx hb hown (ok _ gw_obj.2.2.2.1) (ok _ gw_obj.1) (ok _ gw_obj.2.1) rfl (by rw [hml]; exact hl.1) rfl dX1_init_1 (Nat.le_of_ble_eq_true rfl) (Nat.le_of_ble_eq_true rfl) ?_
  refine W.eq (g2 := F0 m 4 ls []) rfl ?_
  refine lv_aload_n hx hb dX1_init_4 rfl (lv_at hl 0 rfl) ?_
  refine lv_bipush (v := nI 60) hx hb dX1_init_5 (by decide) ?_
  refine cn_arr (n := 60) (k := 0) (index := 9) (ci := 1) (C := RX1) (T := TX1) (N := 8) (t0 := 1) (ty := .char) hx hb hts hown hin rfl (fun w hw => mem w (am_inX1 w hw)) tyX1 tyX1_ok nmX1 rfl (Or.inr rfl) (mem _ gw_arr.2) hK rfl hP hD hS hA (by decide) (Nat.le_of_ble_eq_true rfl) (Nat.le_of_ble_eq_true rfl) (by decide) (mem _ gw_o) rfl rfl (by decide +kernel) (Nat.le_of_ble_eq_true rfl) dX1_init_7 dX1_init_9 (fun q1 H locs hP hD hS => ?_)
  refine W.widen (k := 1) (n := 60) (Nat.le_of_ble_eq_true rfl) (Nat.le_of_ble_eq_true rfl) ?_
  exact W.vret hx hb hr (fun t ht hW => ⟨⟨q1, rfl, trivial, by rw [ht]; exact hP, hD⟩, hS.F ht⟩) hS.2.2 dX1_init_12
def xs3 : Nat → Int32 := upd (upd (upd (fun _ => 0) 5 (-1)) 6 (-1)) 7 (-1)
def xw (cI cC : ClassId) (h0 : Nat) (u : Nat → Nat) : va_W := [(h0, .inr (3, [.ref (u 1), .ref (u 2), .ref (u 3), .ref (u 4), .ref (u 5), .int 0, .ref (u 6), .int 0, .int 0, .int 0, .ref (u 7)])), (u 1, .inl (cI, 208, .inl (xs3))), (u 2, .inl (cI, 832, .inl (fun _ => 0))), (u 3, .inl (cI, 208, .inl (fun _ => 0))), (u 4, .inl (cI, 208, .inl (fun _ => 0))), (u 5, .inl (cI, 208, .inl (fun _ => 0))), (u 6, .inl (cC, 60, .inl (fun _ => 0))), (u 7, .inl (cI, 2, .inl (fun _ => 0)))]
set_option maxHeartbeats 4000000 in
set_option maxRecDepth 100000 in
theorem c_mod (l : Launch) (D : va_G) (cI cC : ClassId) (h0 sz : Nat) : Met l yX3_init (am_w Y3_init) (cn_rm1 7 1726) (va_Pc [.ref h0] (fun U => U.heap.size = sz ∧ va_P D vwCl [(h0, .inr (3, [.null, .null, .null, .null, .null, .int 0, .null, .int 0, .int 0, .int 0, .null]))] U.heap ∧ va_K D vwCl (cn_ty cI cC) U ∧ va_D (fun _ => True) [(h0, .inr (3, [.null, .null, .null, .null, .null, .int 0, .null, .int 0, .int 0, .int 0, .null]))])) (va_Qv (fun _ : Nat → Nat => True) (fun u t => va_P D vwCl (xw cI cC h0 u) t.heap ∧ va_D (va_A [(h0, .inr (3, [.null, .null, .null, .null, .null, .int 0, .null, .int 0, .int 0, .int 0, .null]))] sz) (xw cI cC h0 u)) (va_A [(h0, .inr (3, [.null, .null, .null, .null, .null, .int 0, .null, .int 0, .int 0, .int 0, .null]))] sz)) 7 1726 (va_A [(h0, .inr (3, [.null, .null, .null, .null, .null, .int 0, .null, .int 0, .int 0, .int 0, .null]))] sz) := by
  refine Met.ofW (cc := cX3_init) (maxL := 2) (ret := none) (by decide) rfl ?_
  intro p e s m args below meth c s₁ B hml hv
  obtain ⟨rfl, hsz, hP, hK, hD0⟩ := hv
  have hx := B.exec
  have hb := B.bytes
  have hr := B.returns
  have hts := atoms_spec (ws := am_w Y3_init) B.pre
  have hown : s.vm.findClass RX3 = some m.cls := findClass_of_methodNamed B.named
  have hlocks := B.notSynchronized
  have hin : meth.name = "<init>" := (name_of_methodNamed B.named B.method).1
  have ok : ∀ w ∈ am_GW, w.before ([Value.ref h0] : List Value).toArray s = true := fun w hw => hts w (List.mem_cons_of_mem _ hw)
  have mem : ∀ w ∈ am_GW, w ∈ am_w Y3_init := fun w hw => List.mem_cons_of_mem _ hw
  subst hsz
  have hD := hD0.self (sz := s.heap.size)
  generalize hAe : va_A [(h0, .inr (3, [.null, .null, .null, .null, .null, .int 0, .null, .int 0, .int 0, .int 0, .null]))] s.heap.size = A at hD ⊢
  have hA : ∀ q : Nat, s.heap.size ≤ q → A q := fun q h => by rw [← hAe]; exact Or.inr h
  have hS : va_S A s.heap s.heap [] := va_S.rf
  have hP : va_P D vwCl [(h0, .inr (3, [.null, .null, .null, .null, .null, .int 0, .null, .int 0, .int 0, .int 0, .null]))] s.heap := hP
  have hl := lv_entry ([.ref h0]) (n := 2) (Nat.le_of_ble_eq_true rfl)
  rw [lg_entry_eq]
  generalize (lg_sl ([.ref h0]) ++ List.replicate (2 - (lg_sl ([.ref h0])).length) Slot.unset).toArray = ls at hl ⊢
  have hl : lv_has ls 2 [(0, .ref h0)] := hl
  refine lv_aload_n hx hb dX3_init_0 rfl (lv_at hl 0 rfl) ?_
  refine W.objInit hx hb hown (ok _ gw_obj.2.2.2.2.2) (ok _ gw_obj.1) (ok _ gw_obj.2.1) rfl (by rw [hml]; exact hl.1) rfl dX3_init_1 (Nat.le_of_ble_eq_true rfl) (Nat.le_of_ble_eq_true rfl) ?_
  refine W.eq (g2 := F0 m 4 ls []) rfl ?_
  refine lv_aload_n hx hb dX3_init_4 rfl (lv_at hl 0 rfl) ?_
  refine lv_sipush (v := nI 208) hx hb dX3_init_5 (by decide) ?_
  refine cn_arr (n := 208) (k := 0) (index := 7) (ci := 3) (C := RX3) (T := TX3) (N := 11) (t0 := 0) (ty := .int) hx hb hts hown hin rfl (fun w hw => mem w (am_inX3 w hw)) tyX3 tyX3_ok nmX3 rfl (Or.inl rfl) (mem _ gw_arr.1) hK rfl hP hD hS hA (by decide) (Nat.le_of_ble_eq_true rfl) (Nat.le_of_ble_eq_true rfl) (by decide) (mem _ gw_x1) rfl rfl (by decide +kernel) (Nat.le_of_ble_eq_true rfl) dX3_init_8 dX3_init_10 (fun q1 H locs hP hD hS => ?_)
  have hP : va_P D vwCl [(h0, .inr (3, [.ref q1, .null, .null, .null, .null, .int 0, .null, .int 0, .int 0, .int 0, .null])), (q1, .inl (cI, 208, .inl (fun _ => 0)))] H := hP
  have hD : va_D A [(h0, .inr (3, [.ref q1, .null, .null, .null, .null, .int 0, .null, .int 0, .int 0, .int 0, .null])), (q1, .inl (cI, 208, .inl (fun _ => 0)))] := hD
  refine lv_aload_n hx hb dX3_init_13 rfl (lv_at hl 0 rfl) ?_
  refine lv_sipush (v := nI 832) hx hb dX3_init_14 (by decide) ?_
  refine cn_arr (n := 832) (k := 1) (index := 13) (ci := 3) (C := RX3) (T := TX3) (N := 11) (t0 := 0) (ty := .int) hx hb hts hown hin rfl (fun w hw => mem w (am_inX3 w hw)) tyX3 tyX3_ok nmX3 rfl (Or.inl rfl) (mem _ gw_arr.1) hK rfl hP hD hS hA (by decide) (Nat.le_of_ble_eq_true rfl) (Nat.le_of_ble_eq_true rfl) (by decide) (mem _ gw_x2) rfl rfl (by decide +kernel) (Nat.le_of_ble_eq_true rfl) dX3_init_17 dX3_init_19 (fun q2 H locs hP hD hS => ?_)
  have hP : va_P D vwCl [(h0, .inr (3, [.ref q1, .ref q2, .null, .null, .null, .int 0, .null, .int 0, .int 0, .int 0, .null])), (q1, .inl (cI, 208, .inl (fun _ => 0))), (q2, .inl (cI, 832, .inl (fun _ => 0)))] H := hP
  have hD : va_D A [(h0, .inr (3, [.ref q1, .ref q2, .null, .null, .null, .int 0, .null, .int 0, .int 0, .int 0, .null])), (q1, .inl (cI, 208, .inl (fun _ => 0))), (q2, .inl (cI, 832, .inl (fun _ => 0)))] := hD
  refine lv_aload_n hx hb dX3_init_22 rfl (lv_at hl 0 rfl) ?_
  refine lv_sipush (v := nI 208) hx hb dX3_init_23 (by decide) ?_
  refine cn_arr (n := 208) (k := 2) (index := 16) (ci := 3) (C := RX3) (T := TX3) (N := 11) (t0 := 0) (ty := .int) hx hb hts hown hin rfl (fun w hw => mem w (am_inX3 w hw)) tyX3 tyX3_ok nmX3 rfl (Or.inl rfl) (mem _ gw_arr.1) hK rfl hP hD hS hA (by decide) (Nat.le_of_ble_eq_true rfl) (Nat.le_of_ble_eq_true rfl) (by decide) (mem _ gw_x3) rfl rfl (by decide +kernel) (Nat.le_of_ble_eq_true rfl) dX3_init_26 dX3_init_28 (fun q3 H locs hP hD hS => ?_)
  have hP : va_P D vwCl [(h0, .inr (3, [.ref q1, .ref q2, .ref q3, .null, .null, .int 0, .null, .int 0, .int 0, .int 0, .null])), (q1, .inl (cI, 208, .inl (fun _ => 0))), (q2, .inl (cI, 832, .inl (fun _ => 0))), (q3, .inl (cI, 208, .inl (fun _ => 0)))] H := hP
  have hD : va_D A [(h0, .inr (3, [.ref q1, .ref q2, .ref q3, .null, .null, .int 0, .null, .int 0, .int 0, .int 0, .null])), (q1, .inl (cI, 208, .inl (fun _ => 0))), (q2, .inl (cI, 832, .inl (fun _ => 0))), (q3, .inl (cI, 208, .inl (fun _ => 0)))] := hD
  refine lv_aload_n hx hb dX3_init_31 rfl (lv_at hl 0 rfl) ?_
  refine lv_sipush (v := nI 208) hx hb dX3_init_32 (by decide) ?_
  refine cn_arr (n := 208) (k := 3) (index := 19) (ci := 3) (C := RX3) (T := TX3) (N := 11) (t0 := 0) (ty := .int) hx hb hts hown hin rfl (fun w hw => mem w (am_inX3 w hw)) tyX3 tyX3_ok nmX3 rfl (Or.inl rfl) (mem _ gw_arr.1) hK rfl hP hD hS hA (by decide) (Nat.le_of_ble_eq_true rfl) (Nat.le_of_ble_eq_true rfl) (by decide) (mem _ gw_x4) rfl rfl (by decide +kernel) (Nat.le_of_ble_eq_true rfl) dX3_init_35 dX3_init_37 (fun q4 H locs hP hD hS => ?_)
  have hP : va_P D vwCl [(h0, .inr (3, [.ref q1, .ref q2, .ref q3, .ref q4, .null, .int 0, .null, .int 0, .int 0, .int 0, .null])), (q1, .inl (cI, 208, .inl (fun _ => 0))), (q2, .inl (cI, 832, .inl (fun _ => 0))), (q3, .inl (cI, 208, .inl (fun _ => 0))), (q4, .inl (cI, 208, .inl (fun _ => 0)))] H := hP
  have hD : va_D A [(h0, .inr (3, [.ref q1, .ref q2, .ref q3, .ref q4, .null, .int 0, .null, .int 0, .int 0, .int 0, .null])), (q1, .inl (cI, 208, .inl (fun _ => 0))), (q2, .inl (cI, 832, .inl (fun _ => 0))), (q3, .inl (cI, 208, .inl (fun _ => 0))), (q4, .inl (cI, 208, .inl (fun _ => 0)))] := hD
  refine lv_aload_n hx hb dX3_init_40 rfl (lv_at hl 0 rfl) ?_
  refine lv_sipush (v := nI 208) hx hb dX3_init_41 (by decide) ?_
  refine cn_arr (n := 208) (k := 4) (index := 22) (ci := 3) (C := RX3) (T := TX3) (N := 11) (t0 := 0) (ty := .int) hx hb hts hown hin rfl (fun w hw => mem w (am_inX3 w hw)) tyX3 tyX3_ok nmX3 rfl (Or.inl rfl) (mem _ gw_arr.1) hK rfl hP hD hS hA (by decide) (Nat.le_of_ble_eq_true rfl) (Nat.le_of_ble_eq_true rfl) (by decide) (mem _ gw_x5) rfl rfl (by decide +kernel) (Nat.le_of_ble_eq_true rfl) dX3_init_44 dX3_init_46 (fun q5 H locs hP hD hS => ?_)
  have hP : va_P D vwCl [(h0, .inr (3, [.ref q1, .ref q2, .ref q3, .ref q4, .ref q5, .int 0, .null, .int 0, .int 0, .int 0, .null])), (q1, .inl (cI, 208, .inl (fun _ => 0))), (q2, .inl (cI, 832, .inl (fun _ => 0))), (q3, .inl (cI, 208, .inl (fun _ => 0))), (q4, .inl (cI, 208, .inl (fun _ => 0))), (q5, .inl (cI, 208, .inl (fun _ => 0)))] H := hP
  have hD : va_D A [(h0, .inr (3, [.ref q1, .ref q2, .ref q3, .ref q4, .ref q5, .int 0, .null, .int 0, .int 0, .int 0, .null])), (q1, .inl (cI, 208, .inl (fun _ => 0))), (q2, .inl (cI, 832, .inl (fun _ => 0))), (q3, .inl (cI, 208, .inl (fun _ => 0))), (q4, .inl (cI, 208, .inl (fun _ => 0))), (q5, .inl (cI, 208, .inl (fun _ => 0)))] := hD
  refine lv_aload_n hx hb dX3_init_49 rfl (lv_at hl 0 rfl) ?_
  refine lv_bipush (v := nI 60) hx hb dX3_init_50 (by decide) ?_
  refine cn_arr (n := 60) (k := 6) (index := 25) (ci := 3) (C := RX3) (T := TX3) (N := 11) (t0 := 1) (ty := .char) hx hb hts hown hin rfl (fun w hw => mem w (am_inX3 w hw)) tyX3 tyX3_ok nmX3 rfl (Or.inr rfl) (mem _ gw_arr.2) hK rfl hP hD hS hA (by decide) (Nat.le_of_ble_eq_true rfl) (Nat.le_of_ble_eq_true rfl) (by decide) (mem _ gw_x6) rfl rfl (by decide +kernel) (Nat.le_of_ble_eq_true rfl) dX3_init_52 dX3_init_54 (fun q6 H locs hP hD hS => ?_)
  have hP : va_P D vwCl [(h0, .inr (3, [.ref q1, .ref q2, .ref q3, .ref q4, .ref q5, .int 0, .ref q6, .int 0, .int 0, .int 0, .null])), (q1, .inl (cI, 208, .inl (fun _ => 0))), (q2, .inl (cI, 832, .inl (fun _ => 0))), (q3, .inl (cI, 208, .inl (fun _ => 0))), (q4, .inl (cI, 208, .inl (fun _ => 0))), (q5, .inl (cI, 208, .inl (fun _ => 0))), (q6, .inl (cC, 60, .inl (fun _ => 0)))] H := hP
  have hD : va_D A [(h0, .inr (3, [.ref q1, .ref q2, .ref q3, .ref q4, .ref q5, .int 0, .ref q6, .int 0, .int 0, .int 0, .null])), (q1, .inl (cI, 208, .inl (fun _ => 0))), (q2, .inl (cI, 832, .inl (fun _ => 0))), (q3, .inl (cI, 208, .inl (fun _ => 0))), (q4, .inl (cI, 208, .inl (fun _ => 0))), (q5, .inl (cI, 208, .inl (fun _ => 0))), (q6, .inl (cC, 60, .inl (fun _ => 0)))] := hD
  refine lv_aload_n hx hb dX3_init_57 rfl (lv_at hl 0 rfl) ?_
  refine lv_iconst (v := nI 2) hx hb dX3_init_58 (by decide) ?_
  refine cn_arr (n := 2) (k := 10) (index := 29) (ci := 3) (C := RX3) (T := TX3) (N := 11) (t0 := 0) (ty := .int) hx hb hts hown hin rfl (fun w hw => mem w (am_inX3 w hw)) tyX3 tyX3_ok nmX3 rfl (Or.inl rfl) (mem _ gw_arr.1) hK rfl hP hD hS hA (by decide) (Nat.le_of_ble_eq_true rfl) (Nat.le_of_ble_eq_true rfl) (by decide) (mem _ gw_x7) rfl rfl (by decide +kernel) (Nat.le_of_ble_eq_true rfl) dX3_init_59 dX3_init_61 (fun q7 H locs hP hD hS => ?_)
  have hP : va_P D vwCl [(h0, .inr (3, [.ref q1, .ref q2, .ref q3, .ref q4, .ref q5, .int 0, .ref q6, .int 0, .int 0, .int 0, .ref q7])), (q1, .inl (cI, 208, .inl (fun _ => 0))), (q2, .inl (cI, 832, .inl (fun _ => 0))), (q3, .inl (cI, 208, .inl (fun _ => 0))), (q4, .inl (cI, 208, .inl (fun _ => 0))), (q5, .inl (cI, 208, .inl (fun _ => 0))), (q6, .inl (cC, 60, .inl (fun _ => 0))), (q7, .inl (cI, 2, .inl (fun _ => 0)))] H := hP
  have hD : va_D A [(h0, .inr (3, [.ref q1, .ref q2, .ref q3, .ref q4, .ref q5, .int 0, .ref q6, .int 0, .int 0, .int 0, .ref q7])), (q1, .inl (cI, 208, .inl (fun _ => 0))), (q2, .inl (cI, 832, .inl (fun _ => 0))), (q3, .inl (cI, 208, .inl (fun _ => 0))), (q4, .inl (cI, 208, .inl (fun _ => 0))), (q5, .inl (cI, 208, .inl (fun _ => 0))), (q6, .inl (cC, 60, .inl (fun _ => 0))), (q7, .inl (cI, 2, .inl (fun _ => 0)))] := hD
  refine lv_iconst (v := nI 0) hx hb dX3_init_64 (by decide) ?_
  refine lv_istore_n (lv' := [(1, .int (nI 0)), (0, .ref h0)]) hx hb dX3_init_65 rfl hl (by decide) rfl (fun ls hl => ?_)
  refine lv_iload_n hx hb dX3_init_66 rfl (lv_at hl 0 rfl) ?_
  refine lv_iconst (v := nI 3) hx hb dX3_init_67 (by decide) ?_
  refine lv_icmp_ge (tgt := 86) hx hb dX3_init_68 (by decide) (fun z => absurd z (nI_ge (by decide) (by decide))) (fun _ => ?_)
  refine lv_aload_n hx hb dX3_init_71 rfl (lv_at hl 1 rfl) ?_
  refine va_get (D := D) (ci := 3) (v := .ref q1) (C := RX3) (T := TX3) (N := 11) hx hb hts (fun w hw => mem w (am_inX3 w hw)) hown hK hP 0 rfl rfl 0 (by decide) (ok _ gw_x1) (fun _ h9 => h9) rfl dX3_init_72 ?_
  refine lv_iconst (v := nI 5) hx hb dX3_init_75 (by decide) ?_
  refine lv_iload_n hx hb dX3_init_76 rfl (lv_at hl 0 rfl) ?_
  refine lv_iadd hx hb dX3_init_77 ?_
  rw [nI_add]
  refine lv_iconst (v := -1) hx hb dX3_init_78 (by decide) ?_
  refine va_iast hx hb hK hP hD hS 1 0 rfl rfl (vp_in_nI (by decide) (by decide)) dX3_init_79 (fun H locs hP hD hS => ?_)
  rw [nI_clamp (by decide)] at hP hD
  have hP : va_P D vwCl [(h0, .inr (3, [.ref q1, .ref q2, .ref q3, .ref q4, .ref q5, .int 0, .ref q6, .int 0, .int 0, .int 0, .ref q7])), (q1, .inl (cI, 208, .inl (upd (fun _ => 0) 5 (-1)))), (q2, .inl (cI, 832, .inl (fun _ => 0))), (q3, .inl (cI, 208, .inl (fun _ => 0))), (q4, .inl (cI, 208, .inl (fun _ => 0))), (q5, .inl (cI, 208, .inl (fun _ => 0))), (q6, .inl (cC, 60, .inl (fun _ => 0))), (q7, .inl (cI, 2, .inl (fun _ => 0)))] H := hP
  have hD : va_D A [(h0, .inr (3, [.ref q1, .ref q2, .ref q3, .ref q4, .ref q5, .int 0, .ref q6, .int 0, .int 0, .int 0, .ref q7])), (q1, .inl (cI, 208, .inl (upd (fun _ => 0) 5 (-1)))), (q2, .inl (cI, 832, .inl (fun _ => 0))), (q3, .inl (cI, 208, .inl (fun _ => 0))), (q4, .inl (cI, 208, .inl (fun _ => 0))), (q5, .inl (cI, 208, .inl (fun _ => 0))), (q6, .inl (cC, 60, .inl (fun _ => 0))), (q7, .inl (cI, 2, .inl (fun _ => 0)))] := hD
  refine lv_iinc (v := nI 1) (lv' := [(1, .int (nI 1)), (0, .ref h0)]) hx hb dX3_init_80 hl (k := 0) rfl (by decide) (by decide) rfl (fun ls hl => ?_)
  refine lv_goto (tgt := 66) hx hb dX3_init_83 (by decide) ?_
  refine lv_iload_n hx hb dX3_init_66 rfl (lv_at hl 0 rfl) ?_
  refine lv_iconst (v := nI 3) hx hb dX3_init_67 (by decide) ?_
  refine lv_icmp_ge (tgt := 86) hx hb dX3_init_68 (by decide) (fun z => absurd z (nI_ge (by decide) (by decide))) (fun _ => ?_)
  refine lv_aload_n hx hb dX3_init_71 rfl (lv_at hl 1 rfl) ?_
  refine va_get (D := D) (ci := 3) (v := .ref q1) (C := RX3) (T := TX3) (N := 11) hx hb hts (fun w hw => mem w (am_inX3 w hw)) hown hK hP 0 rfl rfl 0 (by decide) (ok _ gw_x1) (fun _ h9 => h9) rfl dX3_init_72 ?_
  refine lv_iconst (v := nI 5) hx hb dX3_init_75 (by decide) ?_
  refine lv_iload_n hx hb dX3_init_76 rfl (lv_at hl 0 rfl) ?_
  refine lv_iadd hx hb dX3_init_77 ?_
  rw [nI_add]
  refine lv_iconst (v := -1) hx hb dX3_init_78 (by decide) ?_
  refine va_iast hx hb hK hP hD hS 1 0 rfl rfl (vp_in_nI (by decide) (by decide)) dX3_init_79 (fun H locs hP hD hS => ?_)
  rw [nI_clamp (by decide)] at hP hD
  have hP : va_P D vwCl [(h0, .inr (3, [.ref q1, .ref q2, .ref q3, .ref q4, .ref q5, .int 0, .ref q6, .int 0, .int 0, .int 0, .ref q7])), (q1, .inl (cI, 208, .inl (upd (upd (fun _ => 0) 5 (-1)) 6 (-1)))), (q2, .inl (cI, 832, .inl (fun _ => 0))), (q3, .inl (cI, 208, .inl (fun _ => 0))), (q4, .inl (cI, 208, .inl (fun _ => 0))), (q5, .inl (cI, 208, .inl (fun _ => 0))), (q6, .inl (cC, 60, .inl (fun _ => 0))), (q7, .inl (cI, 2, .inl (fun _ => 0)))] H := hP
  have hD : va_D A [(h0, .inr (3, [.ref q1, .ref q2, .ref q3, .ref q4, .ref q5, .int 0, .ref q6, .int 0, .int 0, .int 0, .ref q7])), (q1, .inl (cI, 208, .inl (upd (upd (fun _ => 0) 5 (-1)) 6 (-1)))), (q2, .inl (cI, 832, .inl (fun _ => 0))), (q3, .inl (cI, 208, .inl (fun _ => 0))), (q4, .inl (cI, 208, .inl (fun _ => 0))), (q5, .inl (cI, 208, .inl (fun _ => 0))), (q6, .inl (cC, 60, .inl (fun _ => 0))), (q7, .inl (cI, 2, .inl (fun _ => 0)))] := hD
  refine lv_iinc (v := nI 2) (lv' := [(1, .int (nI 2)), (0, .ref h0)]) hx hb dX3_init_80 hl (k := 0) rfl (by decide) (by decide) rfl (fun ls hl => ?_)
  refine lv_goto (tgt := 66) hx hb dX3_init_83 (by decide) ?_
  refine lv_iload_n hx hb dX3_init_66 rfl (lv_at hl 0 rfl) ?_
  refine lv_iconst (v := nI 3) hx hb dX3_init_67 (by decide) ?_
  refine lv_icmp_ge (tgt := 86) hx hb dX3_init_68 (by decide) (fun z => absurd z (nI_ge (by decide) (by decide))) (fun _ => ?_)
  refine lv_aload_n hx hb dX3_init_71 rfl (lv_at hl 1 rfl) ?_
  refine va_get (D := D) (ci := 3) (v := .ref q1) (C := RX3) (T := TX3) (N := 11) hx hb hts (fun w hw => mem w (am_inX3 w hw)) hown hK hP 0 rfl rfl 0 (by decide) (ok _ gw_x1) (fun _ h9 => h9) rfl dX3_init_72 ?_
  refine lv_iconst (v := nI 5) hx hb dX3_init_75 (by decide) ?_
  refine lv_iload_n hx hb dX3_init_76 rfl (lv_at hl 0 rfl) ?_
  refine lv_iadd hx hb dX3_init_77 ?_
  rw [nI_add]
  refine lv_iconst (v := -1) hx hb dX3_init_78 (by decide) ?_
  refine va_iast hx hb hK hP hD hS 1 0 rfl rfl (vp_in_nI (by decide) (by decide)) dX3_init_79 (fun H locs hP hD hS => ?_)
  rw [nI_clamp (by decide)] at hP hD
  have hP : va_P D vwCl [(h0, .inr (3, [.ref q1, .ref q2, .ref q3, .ref q4, .ref q5, .int 0, .ref q6, .int 0, .int 0, .int 0, .ref q7])), (q1, .inl (cI, 208, .inl (upd (upd (upd (fun _ => 0) 5 (-1)) 6 (-1)) 7 (-1)))), (q2, .inl (cI, 832, .inl (fun _ => 0))), (q3, .inl (cI, 208, .inl (fun _ => 0))), (q4, .inl (cI, 208, .inl (fun _ => 0))), (q5, .inl (cI, 208, .inl (fun _ => 0))), (q6, .inl (cC, 60, .inl (fun _ => 0))), (q7, .inl (cI, 2, .inl (fun _ => 0)))] H := hP
  have hD : va_D A [(h0, .inr (3, [.ref q1, .ref q2, .ref q3, .ref q4, .ref q5, .int 0, .ref q6, .int 0, .int 0, .int 0, .ref q7])), (q1, .inl (cI, 208, .inl (upd (upd (upd (fun _ => 0) 5 (-1)) 6 (-1)) 7 (-1)))), (q2, .inl (cI, 832, .inl (fun _ => 0))), (q3, .inl (cI, 208, .inl (fun _ => 0))), (q4, .inl (cI, 208, .inl (fun _ => 0))), (q5, .inl (cI, 208, .inl (fun _ => 0))), (q6, .inl (cC, 60, .inl (fun _ => 0))), (q7, .inl (cI, 2, .inl (fun _ => 0)))] := hD
  refine lv_iinc (v := nI 3) (lv' := [(1, .int (nI 3)), (0, .ref h0)]) hx hb dX3_init_80 hl (k := 0) rfl (by decide) (by decide) rfl (fun ls hl => ?_)
  refine lv_goto (tgt := 66) hx hb dX3_init_83 (by decide) ?_
  refine lv_iload_n hx hb dX3_init_66 rfl (lv_at hl 0 rfl) ?_
  refine lv_iconst (v := nI 3) hx hb dX3_init_67 (by decide) ?_
  refine lv_icmp_ge (tgt := 86) hx hb dX3_init_68 (by decide) (fun _ => ?_) (fun z => absurd (Int32.le_refl _) z)
  refine W.widen (k := 7) (n := 1726) (Nat.le_of_ble_eq_true rfl) (Nat.le_of_ble_eq_true rfl) ?_
  exact W.vret hx hb hr (fun t ht hW => ⟨⟨(fun j => match j with | 1 => q1 | 2 => q2 | 3 => q3 | 4 => q4 | 5 => q5 | 6 => q6 | _ => q7), rfl, trivial, by rw [ht]; exact hP, hD⟩, hS.F ht⟩) hS.2.2 dX3_init_86
