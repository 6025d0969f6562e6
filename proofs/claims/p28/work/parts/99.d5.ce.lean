/-! ===== constructors: GodChips() itself ===== -/
def hs9 (a : Nat → Nat → Nat) : Nat → Option Nat := va_up (va_up (va_up (va_up (fun _ => none) 0 (some (a 0 0))) 1 (some (a 1 0))) 2 (some (a 2 0))) 3 (some (a 3 0))
def gw9 (cI cC cM : ClassId) (h0 : Nat) (b : Nat → Nat) (a : Nat → Nat → Nat) : va_W := (h0, .inr (2, [.ref (b 0), .ref (b 1), .ref (a 4 0), .ref (a 5 0), .int 0])) :: (b 0, .inl (cM, 4, .inr (.inr (.inr (.inr (hs9 a)))))) :: (((((((([] : va_W) ++ mw cI (a 0 0) (a 0)) ++ mw cI (a 1 0) (a 1)) ++ mw cI (a 2 0) (a 2)) ++ mw cI (a 3 0) (a 3)) ++ ow cC (b 1) (b 2)) ++ mw cI (a 4 0) (a 4)) ++ mw cI (a 5 0) (a 5))
theorem mw_congr {cI : ClassId} {h0 : Nat} {u v : Nat → Nat} (h : ∀ j, 1 ≤ j → u j = v j) : mw cI h0 u = mw cI h0 v := by
  unfold mw
  rw [h 1 (by decide), h 2 (by decide), h 3 (by decide), h 4 (by decide), h 5 (by decide), h 6 (by decide), h 7 (by decide), h 8 (by decide), h 9 (by decide), h 10 (by decide), h 11 (by decide), h 12 (by decide), h 13 (by decide)]
theorem mw_0 (cI : ClassId) (h0 : Nat) (u : Nat → Nat) : ∃ vs : List Value, (mw cI h0 u)[0]? = some (h0, .inr (0, vs)) := ⟨_, rfl⟩
set_option maxHeartbeats 1000000 in
/-- a turn of the loop that makes the history -/
theorem gm_iter {p : Program} {l : Launch} {e : Env} {s : State} {m : MethodId} {args : Array Value} {below : List Frame} {meth : Method} {c : Code} {H H0 : Heap} {locs : List Loc} {cells slots : Nat} {Q : State → Prop} {A : Nat → Prop} {D : va_G}
    (hx : p.tables.exec = Jvm.exec) (hb : c.code = cX2_init) (hml : c.maxLocals = 2) (hts : ∀ w ∈ am_w Y2_init, w.before args s = true) (hown : s.vm.findClass RX2 = some m.cls) {cI cC cM : ClassId} (hK : va_K D vwCl (cn_ty cI cC) s) (hKM : va_K D vwCl (cn_ty cI cC ++ [(cM, .object RX0)]) s) {h0 qh : Nat} {gf : List Value} {f : Nat → Option Nat} {rest : va_W} (hP : va_P D vwCl ((h0, .inr (2, .ref qh :: gf)) :: (qh, .inl (cM, 4, .inr (.inr (.inr (.inr f))))) :: rest) H) (hD : va_D A ((h0, .inr (2, .ref qh :: gf)) :: (qh, .inl (cM, 4, .inr (.inr (.inr (.inr f))))) :: rest)) (hS : va_S A H0 H locs) (hA : ∀ q, H0.size ≤ q → A q)
    {k : Nat} (hk : k < 4) (hcells : cells + 1 + 13 ≤ 87) (hslots : slots + 18 + 234 ≤ 1584) {ls : Array Slot} (hl : lv_has ls 2 [(1, .int (nI k)), (0, .ref h0)])
    (kk : ∀ (q : Nat) (u : Nat → Nat) (H1 : Heap) (locs1 : List Loc) (ls1 : Array Slot), va_P D vwCl ((h0, .inr (2, .ref qh :: gf)) :: (qh, .inl (cM, 4, .inr (.inr (.inr (.inr (va_up f k (some q))))))) :: (rest ++ mw cI q u)) H1 → va_D A ((h0, .inr (2, .ref qh :: gf)) :: (qh, .inl (cM, 4, .inr (.inr (.inr (.inr (va_up f k (some q))))))) :: (rest ++ mw cI q u)) → va_S A H0 H1 locs1 → lv_has ls1 2 [(1, .int (nI (k + 1))), (0, .ref h0)] → W p l e cn_rmG s m args below meth c H1 locs1 (cells + 1 + 13) (slots + 18 + 234) Q (F0 m 14 ls1 [])) : W p l e cn_rmG s m args below meth c H locs cells slots Q (F0 m 14 ls []) := by
  have ok : ∀ w ∈ am_GW, w.before args s = true := fun w hw => hts w (List.mem_cons_of_mem _ hw)
  have mem : ∀ w ∈ am_GW, w ∈ am_w Y2_init := fun w hw => List.mem_cons_of_mem _ hw
  refine lv_iload_n hx hb dX2_init_14 rfl (lv_at hl 0 rfl) ?_
  refine lv_iconst (v := nI 4) hx hb dX2_init_15 (by decide) ?_
  refine lv_icmp_ge (tgt := 38) hx hb dX2_init_16 (by decide) (fun z => absurd z (nI_ge hk (by decide))) (fun _ => ?_)
  refine lv_aload_n hx hb dX2_init_19 rfl (lv_at hl 1 rfl) ?_
  refine va_get (D := D) (ci := 2) (v := .ref qh) (C := RX2) (T := TX2) (N := 5) hx hb hts (fun w hw => mem w (am_inX2 w hw)) hown hK hP 0 rfl rfl 0 (by decide) (ok _ gw_g2.1) (fun _ h9 => h9) rfl dX2_init_20 ?_
  refine lv_iload_n hx hb dX2_init_23 rfl (lv_at hl 0 rfl) ?_
  refine gm_new hx hb hml hts hown hK hP hD hS hA hcells hslots dX2_init_24 dX2_init_27 dX2_init_28 hl.1 (Nat.le_of_ble_eq_true rfl) (fun q u H locs hP hD hS => ?_)
  obtain ⟨vs, hv⟩ := mw_0 cI q u
  have hq : ((h0, .inr (2, .ref qh :: gf)) :: (qh, .inl (cM, 4, .inr (.inr (.inr (.inr f))))) :: (rest ++ mw cI q u) : va_W)[rest.length + 2]? = some (q, .inr (0, vs)) := by
    rw [List.getElem?_cons_succ, List.getElem?_cons_succ, List.getElem?_append_right (Nat.le_refl _), Nat.sub_self]
    exact hv
  have hP : va_P D vwCl ((h0, .inr (2, .ref qh :: gf)) :: (qh, .inl (cM, 4, .inr (.inr (.inr (.inr f))))) :: (rest ++ mw cI q u)) H := hP
  have hD : va_D A ((h0, .inr (2, .ref qh :: gf)) :: (qh, .inl (cM, 4, .inr (.inr (.inr (.inr f))))) :: (rest ++ mw cI q u)) := hD
  refine va_astq hx hb hKM hP hD hS 1 2 (rest.length + 2) 0 (r := (RX0, TX0, 18)) rfl rfl hq rfl (vp_in_nI hk (by decide)) dX2_init_31 (fun H locs hP hD hS => ?_)
  rw [nI_clamp (by omega)] at hP hD
  refine lv_iinc (v := nI (k + 1)) (lv' := [(1, .int (nI (k + 1))), (0, .ref h0)]) hx hb dX2_init_32 hl (k := 0) rfl (nI_succ k).symm (by decide) rfl (fun ls hl => ?_)
  refine lv_goto (tgt := 14) hx hb dX2_init_35 (by decide) ?_
  exact kk q u H locs ls hP hD hS hl
theorem cn_blindG {av : List Value} {sz : Nat} {D : va_G} {ws : va_W} {tys : List (ClassId × FieldType)} {A : Nat → Prop} : FrameBlind (va_Pc av (fun U => U.heap.size = sz ∧ va_P D vwCl ws U.heap ∧ va_K D vwCl tys U ∧ va_D A ws ∧ (∀ w ∈ am_NW, va_Nw w U) ∧ va_AO RX0 U)) := by
  intro a U g mk q
  obtain ⟨q0, q1, qP, qK, qD, qN, qA⟩ := q
  exact ⟨q0, q1, qP, va_K.moved (u := U) (U := U.calling g mk a) (Vm.Alike.refl U.vm) qK, qD, fun w hw => va_Nw.same (u := U) (U := U.calling g mk a) (by
    have : ∀ w ∈ am_NW, w.onTables = true := by decide +kernel
    exact this w hw) rfl (qN w hw), va_AO.moved (u := U) (U := U.calling g mk a) (Vm.Alike.refl U.vm) qA⟩
set_option maxHeartbeats 4000000 in
set_option maxRecDepth 100000 in
/-- GodChips(): its history, its orders, present and trial -/
theorem c_god (l : Launch) (D : va_G) (cI cC : ClassId) (h0 sz : Nat) : Met l yX2_init (am_w Y2_init) cn_rmG (va_Pc [.ref h0] (fun U => U.heap.size = sz ∧ va_P D vwCl [(h0, .inr (2, [.null, .null, .null, .null, .int 0]))] U.heap ∧ va_K D vwCl (cn_ty cI cC) U ∧ va_D (fun _ => True) [(h0, .inr (2, [.null, .null, .null, .null, .int 0]))] ∧ (∀ w ∈ am_NW, va_Nw w U) ∧ va_AO RX0 U)) (va_Qv (fun _ : ClassId × (Nat → Nat) × (Nat → Nat → Nat) => True) (fun x t => va_P D vwCl (gw9 cI cC x.1 h0 x.2.1 x.2.2) t.heap ∧ va_K D vwCl (cn_ty cI cC ++ [(x.1, .object RX0)]) t ∧ va_D (va_A [(h0, .inr (2, [.null, .null, .null, .null, .int 0]))] sz) (gw9 cI cC x.1 h0 x.2.1 x.2.2)) (va_A [(h0, .inr (2, [.null, .null, .null, .null, .int 0]))] sz)) 87 1584 (va_A [(h0, .inr (2, [.null, .null, .null, .null, .int 0]))] sz) := by
  refine Met.ofW (cc := cX2_init) (maxL := 2) (ret := none) (by decide) rfl ?_
  intro p e s m args below meth c s₁ B hml hv
  obtain ⟨rfl, hsz, hP, hK, hD0, hN, hAO⟩ := hv
  have hx := B.exec
  have hb := B.bytes
  have hr := B.returns
  have hts := atoms_spec (ws := am_w Y2_init) B.pre
  have hown : s.vm.findClass RX2 = some m.cls := findClass_of_methodNamed B.named
  have hlocks := B.notSynchronized
  have hin : meth.name = "<init>" := (name_of_methodNamed B.named B.method).1
  have ok : ∀ w ∈ am_GW, w.before ([Value.ref h0] : List Value).toArray s = true := fun w hw => hts w (List.mem_cons_of_mem _ hw)
  have mem : ∀ w ∈ am_GW, w ∈ am_w Y2_init := fun w hw => List.mem_cons_of_mem _ hw
  subst hsz
  have hD := hD0.self (sz := s.heap.size)
  generalize hAe : va_A [(h0, .inr (2, [.null, .null, .null, .null, .int 0]))] s.heap.size = A at hD ⊢
  have hA : ∀ q : Nat, s.heap.size ≤ q → A q := fun q h => by rw [← hAe]; exact Or.inr h
  have hS : va_S A s.heap s.heap [] := va_S.rf
  have hP : va_P D vwCl [(h0, .inr (2, [.null, .null, .null, .null, .int 0]))] s.heap := hP
  have hl := lv_entry ([.ref h0]) (n := 2) (Nat.le_of_ble_eq_true rfl)
  rw [lg_entry_eq]
  generalize (lg_sl ([.ref h0]) ++ List.replicate (2 - (lg_sl ([.ref h0])).length) Slot.unset).toArray = ls at hl ⊢
  have hl : lv_has ls 2 [(0, .ref h0)] := hl
  refine lv_aload_n hx hb dX2_init_0 rfl (lv_at hl 0 rfl) ?_
  refine W.objInit hx hb hown (ok _ gw_obj.2.2.2.2.1) (ok _ gw_obj.1) (ok _ gw_obj.2.1) rfl (by rw [hml]; exact hl.1) rfl dX2_init_1 (Nat.le_of_ble_eq_true rfl) (Nat.le_of_ble_eq_true rfl) ?_
  refine W.eq (g2 := F0 m 4 ls []) rfl ?_
  refine lv_aload_n hx hb dX2_init_4 rfl (lv_at hl 0 rfl) ?_
  refine lv_iconst (v := nI 4) hx hb dX2_init_5 (by decide) ?_
  refine va_newq (n := nI 4) (N' := 4) hx hb hown (ok _ gw_g.1.1) hAO hK hP hD hS hA (nI_pos (by decide)) (nI_clamp (by decide)) (by decide) (Nat.le_of_ble_eq_true rfl) (Nat.le_of_ble_eq_true rfl) dX2_init_6 (fun qh cM H hKM hP hD hS => ?_)
  refine va_putF (D := D) (ci := 2) (v := .ref qh) (ty := .array (.object "GodChips$Memory")) (C := RX2) (T := TX2) (N := 5) hx hb hts (fun w hw => mem w (am_inX2 w hw)) tyX2 tyX2_ok nmX2 hown hK hP hD hS 0 rfl rfl 0 (by decide) (ok _ gw_g2.1) (fun _ h9 => h9) rfl hin rfl (by decide +kernel) rfl rfl (Nat.le_of_ble_eq_true rfl) dX2_init_9 (fun H locs hP hD hS => ?_)
  refine lv_iconst (v := nI 0) hx hb dX2_init_12 (by decide) ?_
  refine lv_istore_n (lv' := [(1, .int (nI 0)), (0, .ref h0)]) hx hb dX2_init_13 rfl hl (by decide) rfl (fun ls hl => ?_)
  have hP : va_P D vwCl ((h0, .inr (2, .ref qh :: [.null, .null, .null, .int 0])) :: (qh, .inl (cM, 4, .inr (.inr (.inr (.inr (fun _ => none)))))) :: ([] : va_W)) H := hP
  have hD : va_D A ((h0, .inr (2, .ref qh :: [.null, .null, .null, .int 0])) :: (qh, .inl (cM, 4, .inr (.inr (.inr (.inr (fun _ => none)))))) :: ([] : va_W)) := hD
  refine gm_iter hx hb hml hts hown hK hKM hP hD hS hA (k := 0) (by decide) (Nat.le_of_ble_eq_true rfl) (Nat.le_of_ble_eq_true rfl) hl (fun q0 u0 H locs ls hP hD hS hl => ?_)
  refine gm_iter hx hb hml hts hown hK hKM hP hD hS hA (k := 1) (by decide) (Nat.le_of_ble_eq_true rfl) (Nat.le_of_ble_eq_true rfl) hl (fun q1 u1 H locs ls hP hD hS hl => ?_)
  refine gm_iter hx hb hml hts hown hK hKM hP hD hS hA (k := 2) (by decide) (Nat.le_of_ble_eq_true rfl) (Nat.le_of_ble_eq_true rfl) hl (fun q2 u2 H locs ls hP hD hS hl => ?_)
  refine gm_iter hx hb hml hts hown hK hKM hP hD hS hA (k := 3) (by decide) (Nat.le_of_ble_eq_true rfl) (Nat.le_of_ble_eq_true rfl) hl (fun q3 u3 H locs ls hP hD hS hl => ?_)
  refine lv_iload_n hx hb dX2_init_14 rfl (lv_at hl 0 rfl) ?_
  refine lv_iconst (v := nI 4) hx hb dX2_init_15 (by decide) ?_
  refine lv_icmp_ge (tgt := 38) hx hb dX2_init_16 (by decide) (fun _ => ?_) (fun z => absurd (Int32.le_refl _) z)
  refine lv_aload_n hx hb dX2_init_38 rfl (lv_at hl 1 rfl) ?_
  refine go_new hx hb hml hts hown hK hP hD hS hA hN (Nat.le_of_ble_eq_true rfl) (Nat.le_of_ble_eq_true rfl) dX2_init_39 dX2_init_42 dX2_init_43 hl.1 (Nat.le_of_ble_eq_true rfl) (fun qo qx H locs hP hD hS => ?_)
  refine va_putF (D := D) (ci := 2) (v := .ref qo) (ty := .object "GodChips$Orders") (C := RX2) (T := TX2) (N := 5) hx hb hts (fun w hw => mem w (am_inX2 w hw)) tyX2 tyX2_ok nmX2 hown hK hP hD hS 0 rfl rfl 1 (by decide) (ok _ gw_g2.2.1) (fun _ h9 => h9) rfl hin rfl (by decide +kernel) rfl rfl (Nat.le_of_ble_eq_true rfl) dX2_init_46 (fun H locs hP hD hS => ?_)
  refine lv_aload_n hx hb dX2_init_49 rfl (lv_at hl 1 rfl) ?_
  refine gm_new hx hb hml hts hown hK hP hD hS hA (Nat.le_of_ble_eq_true rfl) (Nat.le_of_ble_eq_true rfl) dX2_init_50 dX2_init_53 dX2_init_54 hl.1 (Nat.le_of_ble_eq_true rfl) (fun q4 u4 H locs hP hD hS => ?_)
  refine va_put (D := D) (ci := 2) (v := .ref q4) (ty := .object "GodChips$Memory") (C := RX2) (T := TX2) (N := 5) hx hb hts (fun w hw => mem w (am_inX2 w hw)) tyX2 tyX2_ok nmX2 hown hK hP hD hS 0 rfl rfl 2 (by decide) (ok _ gw_g2.2.2.1) (fun _ h9 => h9) rfl (by decide +kernel) rfl rfl (Nat.le_of_ble_eq_true rfl) dX2_init_57 (fun H locs hP hD hS => ?_)
  refine lv_aload_n hx hb dX2_init_60 rfl (lv_at hl 1 rfl) ?_
  refine gm_new hx hb hml hts hown hK hP hD hS hA (Nat.le_of_ble_eq_true rfl) (Nat.le_of_ble_eq_true rfl) dX2_init_61 dX2_init_64 dX2_init_65 hl.1 (Nat.le_of_ble_eq_true rfl) (fun q5 u5 H locs hP hD hS => ?_)
  refine va_put (D := D) (ci := 2) (v := .ref q5) (ty := .object "GodChips$Memory") (C := RX2) (T := TX2) (N := 5) hx hb hts (fun w hw => mem w (am_inX2 w hw)) tyX2 tyX2_ok nmX2 hown hK hP hD hS 0 rfl rfl 3 (by decide) (ok _ gw_g2.2.2.2.1) (fun _ h9 => h9) rfl (by decide +kernel) rfl rfl (Nat.le_of_ble_eq_true rfl) dX2_init_68 (fun H locs hP hD hS => ?_)
  refine lv_aload_n hx hb dX2_init_71 rfl (lv_at hl 1 rfl) ?_
  refine lv_iconst (v := 0) hx hb dX2_init_72 (by decide) ?_
  refine va_put (D := D) (ci := 2) (v := .int 0) (ty := .int) (C := RX2) (T := TX2) (N := 5) hx hb hts (fun w hw => mem w (am_inX2 w hw)) tyX2 tyX2_ok nmX2 hown hK hP hD hS 0 rfl rfl 4 (by decide) (ok _ gw_g2.2.2.2.2) (fun _ h9 => h9) rfl (by decide +kernel) rfl rfl (Nat.le_of_ble_eq_true rfl) dX2_init_73 (fun H locs hP hD hS => ?_)
  refine W.widen (k := 87) (n := 1584) (Nat.le_of_ble_eq_true rfl) (Nat.le_of_ble_eq_true rfl) ?_
  obtain ⟨a, ha0, ha⟩ : ∃ a : Nat → Nat → Nat, (a 0 0 = q0 ∧ a 1 0 = q1 ∧ a 2 0 = q2 ∧ a 3 0 = q3 ∧ a 4 0 = q4 ∧ a 5 0 = q5) ∧ ∀ j, 1 ≤ j → a 0 j = u0 j ∧ a 1 j = u1 j ∧ a 2 j = u2 j ∧ a 3 j = u3 j ∧ a 4 j = u4 j ∧ a 5 j = u5 j := by
    refine ⟨fun k j => if j = 0 then (if k = 0 then q0 else if k = 1 then q1 else if k = 2 then q2 else if k = 3 then q3 else if k = 4 then q4 else q5) else (if k = 0 then u0 j else if k = 1 then u1 j else if k = 2 then u2 j else if k = 3 then u3 j else if k = 4 then u4 j else u5 j), ⟨rfl, rfl, rfl, rfl, rfl, rfl⟩, fun j hj => ?_⟩
    have hj0 : ¬ j = 0 := by omega
    simp only [if_neg hj0]
    exact ⟨rfl, rfl, rfl, rfl, rfl, rfl⟩
  obtain ⟨e0, e1, e2, e3, e4, e5⟩ := ha0
  have eW : gw9 cI cC cM h0 (fun j => if j = 0 then qh else if j = 1 then qo else qx) a = (h0, .inr (2, [.ref qh, .ref qo, .ref q4, .ref q5, .int 0])) :: (qh, .inl (cM, 4, .inr (.inr (.inr (.inr (va_up (va_up (va_up (va_up (fun _ => none) 0 (some q0)) 1 (some q1)) 2 (some q2)) 3 (some q3))))))) :: (((((((([] : va_W) ++ mw cI q0 u0) ++ mw cI q1 u1) ++ mw cI q2 u2) ++ mw cI q3 u3) ++ ow cC qo qx) ++ mw cI q4 u4) ++ mw cI q5 u5) := by
    unfold gw9 hs9
    rw [e0, e1, e2, e3, e4, e5, mw_congr (u := a 0) (v := u0) (fun j hj => (ha j hj).1), mw_congr (u := a 1) (v := u1) (fun j hj => (ha j hj).2.1), mw_congr (u := a 2) (v := u2) (fun j hj => (ha j hj).2.2.1), mw_congr (u := a 3) (v := u3) (fun j hj => (ha j hj).2.2.2.1), mw_congr (u := a 4) (v := u4) (fun j hj => (ha j hj).2.2.2.2.1), mw_congr (u := a 5) (v := u5) (fun j hj => (ha j hj).2.2.2.2.2)]
    rfl
  have hP9 : va_P D vwCl (gw9 cI cC cM h0 (fun j => if j = 0 then qh else if j = 1 then qo else qx) a) H := by
    rw [eW]
    exact hP
  have hD9 : va_D A (gw9 cI cC cM h0 (fun j => if j = 0 then qh else if j = 1 then qo else qx) a) := by
    rw [eW]
    exact hD
  exact W.vret hx hb hr (fun t ht hW => ⟨⟨(cM, (fun j => if j = 0 then qh else if j = 1 then qo else qx), a), rfl, trivial, by rw [ht]; exact hP9, va_K.moved hW.alike hKM, hD9⟩, hS.F ht⟩) hS.2.2 dX2_init_76
