/-! ===== constructors: GodChips() ===== -/
theorem cn_join {A0 : Nat → Prop} {D : va_G} {cl : List vw_C} {W1 w1 : va_W} {a : Nat} {e : va_E} {H H1 : Heap} (hP : va_P D cl (W1 ++ [(a, e)]) H) (hD : va_D A0 (W1 ++ [(a, e)])) (hk : ∀ q : Nat, q < H.size → ¬ va_A [(a, e)] H.size q → H1[q]? = H[q]?) (hF : ∀ q, va_A [(a, e)] H.size q → A0 q) (hP1 : va_P D cl w1 H1) (hD1 : va_D (va_A [(a, e)] H.size) w1) : va_P D cl (W1 ++ w1) H1 ∧ va_D A0 (W1 ++ w1) := by
  have lt : ∀ (k : Nat) (q : Nat × va_E), W1[k]? = some q → k < W1.length := fun k q hq => (List.getElem?_eq_some_iff.mp hq).1
  have big : ∀ (k : Nat) (q : Nat × va_E), W1[k]? = some q → (W1 ++ [(a, e)])[k]? = some q := fun k q hq => by
    rw [List.getElem?_append_left (lt k q hq)]
    exact hq
  have last : (W1 ++ [(a, e)])[W1.length]? = some (a, e) := by
    rw [List.getElem?_append_right (Nat.le_refl _)]
    simp
  have apart : ∀ (k : Nat) (q : Nat × va_E), W1[k]? = some q → q.1 < H.size ∧ ¬ va_A [(a, e)] H.size q.1 := by
    intro k q hq
    have hl := (hP k q (big k q hq)).lt
    refine ⟨hl, fun z => ?_⟩
    rcases z with ⟨j, e2, hj⟩ | z
    · have hj0 : j = 0 := by
        have := (List.getElem?_eq_some_iff.mp hj).1
        simp at this
        exact this
      subst hj0
      have h1 : q.1 = a := (congrArg Prod.fst (Option.some.inj hj)).symm
      have := hD.1 k W1.length q (a, e) (big k q hq) last h1
      have := lt k q hq
      omega
    · omega
  refine ⟨va_P.app (fun k q hq => ?_) hP1, va_D.app ⟨fun i j x y hi hj hxy => hD.1 i j x y (big i x hi) (big j y hj) hxy, fun k q hq => hD.2 k q (big k q hq)⟩ (hD1.weaken (fun k q _ h => hF q.1 h)) (fun i j x y hx hy hxy => ?_)⟩
  · obtain ⟨g1, g2⟩ := apart k q hq
    exact (hP k q (big k q hq)).kept (hk q.1 g1 g2)
  · exact (apart i x hx).2 (by rw [hxy]; exact hD1.2 j y hy)
theorem cn_one {D : va_G} {cl : List vw_C} {A : Nat → Prop} {ws : va_W} {a : Nat} {e : va_E} {H : Heap} (hP : va_P D cl (ws ++ [(a, e)]) H) (hD : va_D A (ws ++ [(a, e)])) : va_P D cl [(a, e)] H ∧ va_D (fun _ => True) [(a, e)] ∧ (ws ++ [(a, e)])[ws.length]? = some (a, e) := by
  have last : (ws ++ [(a, e)])[ws.length]? = some (a, e) := by
    rw [List.getElem?_append_right (Nat.le_refl _)]
    simp
  refine ⟨fun k x hk => ?_, ⟨fun i j x y hi hj _ => ?_, fun _ _ _ => trivial⟩, last⟩
  · have hk0 : k = 0 := by
      have := (List.getElem?_eq_some_iff.mp hk).1
      simp at this
      exact this
    subst hk0
    cases hk
    exact hP _ _ last
  · have h1 := (List.getElem?_eq_some_iff.mp hi).1
    have h2 := (List.getElem?_eq_some_iff.mp hj).1
    simp at h1 h2
    omega
abbrev Y2_init : am_Y := (yX2_init, cX2_init, 2, none)
def cn_rmG : Room := { frames := 2, cells := 87, slots := 1584, locals := 90 }
theorem gw_g : (Cond.classLink RX2 9 RX0 ∈ am_GW ∧ Cond.instantiable RX0 18 ∈ am_GW ∧ Cond.initialized RX0 ∈ am_GW) ∧ (Cond.classLink RX2 16 RX1 ∈ am_GW ∧ Cond.instantiable RX1 8 ∈ am_GW ∧ Cond.initialized RX1 ∈ am_GW) ∧ (Cond.methodLink RX2 15 yX0_init ∈ am_GW ∧ Cond.instanceMethod yX0_init ∈ am_GW ∧ Cond.code yX0_init cX0_init 1 none ∈ am_GW) ∧ (Cond.instanceMethod yX1_init ∈ am_GW ∧ Cond.code yX1_init cX1_init 1 none ∈ am_GW) := by decide +kernel
theorem gw_g2 : Cond.fieldLink RX2 11 (TX2 0).1 (TX2 0).2.1 (TX2 0).2.2.1 ∈ am_GW ∧ Cond.fieldLink RX2 19 (TX2 1).1 (TX2 1).2.1 (TX2 1).2.2.1 ∈ am_GW ∧ Cond.fieldLink RX2 23 (TX2 2).1 (TX2 2).2.1 (TX2 2).2.2.1 ∈ am_GW ∧ Cond.fieldLink RX2 27 (TX2 3).1 (TX2 3).2.1 (TX2 3).2.2.1 ∈ am_GW ∧ Cond.fieldLink RX2 30 (TX2 4).1 (TX2 4).2.1 (TX2 4).2.2.1 ∈ am_GW := by decide +kernel
set_option maxHeartbeats 1000000 in
/-- a new Memory of GodChips() -/
theorem gm_new {p : Program} {l : Launch} {e : Env} {s : State} {m : MethodId} {args : Array Value} {below : List Frame} {meth : Method} {c : Code} {H H0 : Heap} {locs : List Loc} {cells slots : Nat} {Q : State → Prop} {A : Nat → Prop} {D : va_G}
    (hx : p.tables.exec = Jvm.exec) (hb : c.code = cX2_init) (hml : c.maxLocals = 2) (hts : ∀ w ∈ am_w Y2_init, w.before args s = true) (hown : s.vm.findClass RX2 = some m.cls) {cI cC : ClassId} (hK : va_K D vwCl (cn_ty cI cC) s) {ws : va_W} (hP : va_P D vwCl ws H) (hD : va_D A ws) (hS : va_S A H0 H locs) (hA : ∀ q, H0.size ≤ q → A q) (hcells : cells + 1 + 13 ≤ 87) (hslots : slots + 18 + 234 ≤ 1584) {pc : Nat} (d1 : decode cX2_init pc = .ok (.new 9, 3)) (d2 : decode cX2_init (pc + 3) = .ok (.dup, 1)) (d3 : decode cX2_init (pc + 3 + 1) = .ok (.invokespecial 15, 3)) {ls : Array Slot} (hls : ls.size = 2) {rest : List Value} (hrest : 1 + (rest.map fun v => v.category).sum ≤ 8)
    (kk : ∀ (q : Nat) (u : Nat → Nat) (H1 : Heap) (locs1 : List Loc), va_P D vwCl (ws ++ mw cI q u) H1 → va_D A (ws ++ mw cI q u) → va_S A H0 H1 locs1 → W p l e cn_rmG s m args below meth c H1 locs1 (cells + 1 + 13) (slots + 18 + 234) Q (F0 m (pc + 3 + 1 + 3) ls (.ref q :: rest))) : W p l e cn_rmG s m args below meth c H locs cells slots Q (F0 m pc ls rest) := by
  have ok : ∀ w ∈ am_GW, w.before args s = true := fun w hw => hts w (List.mem_cons_of_mem _ hw)
  have mem : ∀ w ∈ am_GW, w ∈ am_w Y2_init := fun w hw => List.mem_cons_of_mem _ hw
  obtain ⟨⟨a1, a2, a3⟩, -, ⟨a4, a5, a6⟩, -⟩ := gw_g
  refine va_new (ci := 0) (fs := [.int 0, .int 0, .int 0, .int 0, .int 0, .null, .null, .null, .null, .null, .null, .null, .null, .null, .null, .null, .null, .null]) (C := RX0) (T := TX0) (N := 18) hx hb hts (fun w hw => mem w (am_inX0 w hw)) tyX0 tyX0_ok hown (ok _ a1) (ok _ a2) (ok _ a3) hK hP hD hS hA rfl (fun j hj => by rcases (show j = 0 ∨ j = 1 ∨ j = 2 ∨ j = 3 ∨ j = 4 ∨ j = 5 ∨ j = 6 ∨ j = 7 ∨ j = 8 ∨ j = 9 ∨ j = 10 ∨ j = 11 ∨ j = 12 ∨ j = 13 ∨ j = 14 ∨ j = 15 ∨ j = 16 ∨ j = 17 by omega) with rfl | rfl | rfl | rfl | rfl | rfl | rfl | rfl | rfl | rfl | rfl | rfl | rfl | rfl | rfl | rfl | rfl | rfl <;> rfl) (show cells + 1 ≤ 87 by omega) (show slots + 18 ≤ 1584 by omega) d1 (fun q H hP hD hS => ?_)
  refine lv_dup hx hb d2 rfl ?_
  obtain ⟨hPc, hDc, hlast⟩ := cn_one hP hD
  have hFc := va_free (wc := [(q, .inr (0, [.int 0, .int 0, .int 0, .int 0, .int 0, .null, .null, .null, .null, .null, .null, .null, .null, .null, .null, .null, .null, .null]))]) hD hS hA [ws.length] (by simp)
  have cb := callB_of (R := cn_rmG) (s := s) (args := args) (own := RX2) (index := 15) (y := yX0_init) (bytes := cX0_init) (maxL := 1) (ret := none) (ws := am_w Y0_init) (rm := cn_rm1 13 234) (mc := 13) (ms := 234) 0 hts (am_good a6) rfl rfl rfl (ok _ a3) (ok _ a4) (by decide +kernel) ⟨Nat.le_of_ble_eq_true rfl, Nat.le_of_ble_eq_true rfl⟩
  refine va_callv (va_runI (As := []) (rest := .ref q :: rest) (nL := 2) (n := 0) (b := q) ⟨hx, hb, hml, hown, hts⟩ (c_mem l D cI cC q H.size) ⟨cb, rfl, ok _ a5⟩ ⟨cn_blind, fun U hU hW => ⟨rfl, by rw [hU], by rw [hU]; exact hPc, va_K.moved hW.alike hK, hDc⟩⟩ rfl rfl hls rfl (lv_room hrest) d3 ⟨hcells, hslots⟩) hS (fun q _ h => hFc q h) hFc (fun u t H1 locs1 ht hvm hw hB hz1 hk1 hS => ?_)
  obtain ⟨hP1, hD1⟩ := hB
  rw [ht] at hP1
  obtain ⟨hP, hD⟩ := cn_join hP hD hk1 hFc hP1 hD1
  exact kk q u H1 locs1 hP hD hS
set_option maxHeartbeats 1000000 in
/-- the new Orders of GodChips() -/
theorem go_new {p : Program} {l : Launch} {e : Env} {s : State} {m : MethodId} {args : Array Value} {below : List Frame} {meth : Method} {c : Code} {H H0 : Heap} {locs : List Loc} {cells slots : Nat} {Q : State → Prop} {A : Nat → Prop} {D : va_G}
    (hx : p.tables.exec = Jvm.exec) (hb : c.code = cX2_init) (hml : c.maxLocals = 2) (hts : ∀ w ∈ am_w Y2_init, w.before args s = true) (hown : s.vm.findClass RX2 = some m.cls) {cI cC : ClassId} (hK : va_K D vwCl (cn_ty cI cC) s) {ws : va_W} (hP : va_P D vwCl ws H) (hD : va_D A ws) (hS : va_S A H0 H locs) (hA : ∀ q, H0.size ≤ q → A q) (hN : ∀ w ∈ am_NW, va_Nw w s) (hcells : cells + 1 + 1 ≤ 87) (hslots : slots + 8 + 60 ≤ 1584) {pc : Nat} (d1 : decode cX2_init pc = .ok (.new 16, 3)) (d2 : decode cX2_init (pc + 3) = .ok (.dup, 1)) (d3 : decode cX2_init (pc + 3 + 1) = .ok (.invokespecial 18, 3)) {ls : Array Slot} (hls : ls.size = 2) {rest : List Value} (hrest : 1 + (rest.map fun v => v.category).sum ≤ 8)
    (kk : ∀ (q t : Nat) (H1 : Heap) (locs1 : List Loc), va_P D vwCl (ws ++ ow cC q t) H1 → va_D A (ws ++ ow cC q t) → va_S A H0 H1 locs1 → W p l e cn_rmG s m args below meth c H1 locs1 (cells + 1 + 1) (slots + 8 + 60) Q (F0 m (pc + 3 + 1 + 3) ls (.ref q :: rest))) : W p l e cn_rmG s m args below meth c H locs cells slots Q (F0 m pc ls rest) := by
  have ok : ∀ w ∈ am_GW, w.before args s = true := fun w hw => hts w (List.mem_cons_of_mem _ hw)
  have mem : ∀ w ∈ am_GW, w ∈ am_w Y2_init := fun w hw => List.mem_cons_of_mem _ hw
  obtain ⟨-, ⟨a1, a2, a3⟩, -, ⟨a5, a6⟩⟩ := gw_g
  refine va_new (ci := 1) (fs := [.null, .int 0, .int 0, .int 0, .int 0, .int 0, .int 0, .int 0]) (C := RX1) (T := TX1) (N := 8) hx hb hts (fun w hw => mem w (am_inX1 w hw)) tyX1 tyX1_ok hown (ok _ a1) (ok _ a2) (ok _ a3) hK hP hD hS hA rfl (fun j hj => by rcases (show j = 0 ∨ j = 1 ∨ j = 2 ∨ j = 3 ∨ j = 4 ∨ j = 5 ∨ j = 6 ∨ j = 7 by omega) with rfl | rfl | rfl | rfl | rfl | rfl | rfl | rfl <;> rfl) (show cells + 1 ≤ 87 by omega) (show slots + 8 ≤ 1584 by omega) d1 (fun q H hP hD hS => ?_)
  refine lv_dup hx hb d2 rfl ?_
  obtain ⟨hPc, hDc, hlast⟩ := cn_one hP hD
  have hFc := va_free (wc := [(q, .inr (1, [.null, .int 0, .int 0, .int 0, .int 0, .int 0, .int 0, .int 0]))]) hD hS hA [ws.length] (by simp)
  have cb := va_cnB (R := cn_rmG) (s := s) (args := args) (own := RX2) (host := "GodChips") (index := 18) (y := yX1_init) (bytes := cX1_init) (maxL := 1) (ret := none) (ws := am_w Y1_init) (rm := cn_rm1 1 60) (mc := 1) (ms := 60) 0 hts (am_good a6) rfl rfl rfl (hN _ (by unfold am_NW; exact List.mem_cons_of_mem _ (List.mem_cons_of_mem _ (List.mem_cons_of_mem _ List.mem_cons_self)))) (ok _ a3) (by decide +kernel) ⟨Nat.le_of_ble_eq_true rfl, Nat.le_of_ble_eq_true rfl⟩
  refine va_callv (va_runIN (As := []) (rest := .ref q :: rest) (nL := 2) (n := 0) (b := q) ⟨hx, hb, hml, hown, hts⟩ (c_ord l D cI cC q H.size) ⟨cb, rfl, ok _ a5⟩ ⟨cn_blind, fun U hU hW => ⟨rfl, by rw [hU], by rw [hU]; exact hPc, va_K.moved hW.alike hK, hDc⟩⟩ rfl rfl hls rfl (lv_room hrest) d3 ⟨hcells, hslots⟩) hS (fun q _ h => hFc q h) hFc (fun u t H1 locs1 ht hvm hw hB hz1 hk1 hS => ?_)
  obtain ⟨hP1, hD1⟩ := hB
  rw [ht] at hP1
  obtain ⟨hP, hD⟩ := cn_join hP hD hk1 hFc hP1 hD1
  exact kk q u H1 locs1 hP hD hS
