/-! ===== the law's calls ===== -/
theorem am_goodT {y' : am_Y} (hc : Cond.code y'.1 y'.2.1 y'.2.2.1 y'.2.2.2 ∈ am_GW) : GoodIn lw_tbl (am_w y') := by
  intro w hw
  have hg : w ∈ am_GW := by
    rcases List.mem_cons.mp hw with rfl | h
    · exact hc
    · exact h
  obtain ⟨h1, h2⟩ := List.mem_filter.mp hg
  exact ⟨h1, good_of_word h2⟩
/-- behind a call of the law's -/
theorem lw_back {p : Program} {l : Launch} {e : Env} {R : Room} {s : State} {m : MethodId} {args : Array Value} {below : List Frame} {meth : Method} {c : Code} {H H0 : Heap} {locs : List Loc} {cells slots : Nat} {Q : State → Prop} {pc : Nat} {lsr : Array Slot} {st0 rest : List Value} {D : va_G} {K : ClassId × ClassId × ClassId} {ad : Nat → Nat → Nat} {h' : am_H} {x : Int} {a : Array Value} {A0 : Nat → Prop}
    (hr : va_Run p l e R s m args below meth c H locs cells slots 0 0 (F0 m pc lsr st0) rest (am_Q D K ad h' (some (.inl x)) a) (am_A ad)) (hS : va_S A0 H0 H locs) (hA : ∀ q, am_A ad q → A0 q)
    (kk : ∀ (H1 : Heap) (locs1 : List Loc), va_P D vwCl (am_ws K ad h') H1 → am_VH h' → va_S A0 H0 H1 locs1 → W p l e R s m args below meth c H1 locs1 cells slots Q (F0 m (pc + 3) lsr (.int (Int32.ofInt x) :: rest))) : W p l e R s m args below meth c H locs cells slots Q (F0 m pc lsr st0) := by
  intro T hT X
  obtain ⟨v, st₀, t, T', L, h0, X', hL, e1, e2, ⟨hv, hp, hvh, hz, hk⟩, st⟩ := hr T hT X
  cases hv
  rw [h0] at hz hk
  obtain ⟨t2, a1, b1⟩ := kk T'.heap (locs ++ L) (by rw [e1]; exact hp) hvh ⟨Nat.le_trans hS.1 (by rw [e1]; exact hz), fun q h1 h2 => by rw [e1, hk q (Nat.lt_of_lt_of_le h1 hS.1) (fun z => h2 (hA q z))]; exact hS.2.1 q h1 h2, fun q hq => by
      rcases List.mem_append.mp hq with h | h
      · exact hS.2.2 q h
      · exact hA _ (hL q h)⟩ T' rfl X'
  exact ⟨t2, st t2 a1, b1⟩
def LC (p : Program) (s : State) (m : MethodId) (meth : Method) (c : Code) (b L : Nat) (xs : Nat → Int32) (D : va_G) (K : ClassId × ClassId × ClassId) (ad : Nat → Nat → Nat) : Prop := lw_At p s m meth c b L xs ∧ L ≤ 260 ∧ va_K D vwCl (am_ty K) s ∧ (∀ w ∈ am_NW, va_Nw w s) ∧ am_ad ad ∧ ∀ q, am_A ad q → s.heap.size ≤ q
def LH (D : va_G) (K : ClassId × ClassId × ClassId) (ad : Nat → Nat → Nat) (s : State) (H : Heap) (locs : List Loc) (h : am_H) (S : Nat → Int) (n : Int) : Prop := va_P D vwCl (am_ws K ad h) H ∧ am_VH h ∧ va_S (fun q : Nat => s.heap.size ≤ q) s.heap H locs ∧ PH h S n
theorem lk_m : Cond.methodLink R_law 67 yL_families ∈ lw_tbl ∧ Cond.methodLink R_law 73 yL_words ∈ lw_tbl ∧ Cond.methodLink R_law 76 yL_cell ∈ lw_tbl ∧ Cond.methodLink R_law 83 yL_acts ∈ lw_tbl ∧ Cond.methodLink R_law 80 yX2_chip ∈ lw_tbl ∧ Cond.methodLink R_law 53 yX2_elect ∈ lw_tbl ∧ Cond.methodLink R_law 19 yX2_count ∈ lw_tbl ∧ Cond.methodLink R_law 50 yX2_tick ∈ lw_tbl ∧ Cond.methodLink R_law 87 yX2_undo ∈ lw_tbl := by decide +kernel
section LAW
variable {p : Program} {l : Launch} {e : Env} {s : State} {m : MethodId} {below : List Frame} {meth : Method} {c : Code} {b L : Nat} {xs : Nat → Int32} {D : va_G} {K : ClassId × ClassId × ClassId} {ad : Nat → Nat → Nat} {H : Heap} {locs : List Loc} {Q : State → Prop}
theorem lw_callV (hC : LC p s m meth c b L xs D K ad) {h h' : am_H} (hP : va_P D vwCl (am_ws K ad h) H) (hV : am_VH h) (hS : va_S (fun q : Nat => s.heap.size ≤ q) s.heap H locs) {y' : am_Y} {u n d' ix : Nat} {as : List am_V} {a : Int} (hl : Cond.methodLink R_law ix y'.1 ∈ lw_tbl) (hm : am_mv y' n) (hc : Ct d' y' (.inr (u, 0) :: as) (some (.inl a)) h h') (hob : am_ob u 0 y'.1.cls) (hn : as.length = n) (hdd : d' ≤ 8) {rest : List Value} (hroom : (rest.map fun v => v.category).sum ≤ 8) {pc : Nat} {ls : Array Slot} (hls : ls.size = 5) (hd : decode code pc = .ok (.invokevirtual ix, 3)) {st : List Value} (hst : st = (as.map (am_cv ad)).reverse ++ .ref (ad u 0) :: rest)
    (kk : ∀ (H1 : Heap) (locs1 : List Loc), va_P D vwCl (am_ws K ad h') H1 → am_VH h' → va_S (fun q : Nat => s.heap.size ≤ q) s.heap H1 locs1 → W p l e room_1 s m #[Value.ref b] below meth c H1 locs1 100 2000 Q (F0 m (pc + 3) ls (.int (Int32.ofInt a) :: rest))) : W p l e room_1 s m #[Value.ref b] below meth c H locs 100 2000 Q (F0 m pc ls st) := by
  subst hst
  obtain ⟨⟨hx, hb, hr, hml, hown, hts, hX, hbl, hlk, hgv⟩, hL, hK, hN, hA, hAd⟩ := hC
  obtain ⟨⟨m1, m2, m3, m4⟩, hdd2, hml9⟩ := hm
  have ok : ∀ w ∈ am_GW, w.before #[Value.ref b] s = true := fun w hw => hts w (List.mem_filter.mp hw).1
  have cb := callB_of (R := room_1) (s := s) (args := #[Value.ref b]) (own := R_law) (index := ix) (y := y'.1) (bytes := y'.2.1) (maxL := y'.2.2.1) (ret := y'.2.2.2) (ws := am_w y') (rm := am_rm d') (mc := 0) (ms := 0) n hts (am_goodT m4) rfl rfl rfl (ok _ m3) (hts _ hl) hdd2 (by
    refine ⟨?_, ?_⟩
    · show d' + 1 ≤ 9
      omega
    · show 8 + (y'.2.2.1 + 11) + 33 * d' ≤ 362
      omega)
  obtain ⟨o1, o2, o3⟩ := hob
  have he := am_ws_at (K := K) (ad := ad) (h := h) o1
  rw [am_cell0 o2] at he
  have hrc := va_recv hK hP (am_cl (u, 0) o1 o2) he
  have hrc : ∃ cell : Cell, H[ad u 0]? = some cell ∧ cell.vm.isStatics = false ∧ s.vm.findClass y'.1.cls = some cell.cls := by rw [← o3]; exact hrc
  refine lw_back (va_runV (As := as.map (am_cv ad)) (rest := rest) (nL := 5) (n := n) (b := ad u 0) ⟨hx, hb, hml, hown, hts⟩ (hc l D K ad) ⟨cb, ok _ m1, ok _ m2⟩ ⟨am_blind, hrc, fun U hU hW => ⟨rfl, by rw [hU]; exact hP, va_K.moved hW.alike hK, am_NW_warm hW hN, hV, hA⟩⟩ rfl (by rw [List.length_map]; exact hn) hls rfl (lv_room hroom) hd ⟨Nat.le_of_ble_eq_true rfl, Nat.le_of_ble_eq_true rfl⟩) hS hAd (fun H1 locs1 hP1 hH1 hS1 => kk H1 locs1 hP1 hH1 hS1)
theorem lw_callS (hC : LC p s m meth c b L xs D K ad) {h h' : am_H} (hP : va_P D vwCl (am_ws K ad h) H) (hV : am_VH h) (hS : va_S (fun q : Nat => s.heap.size ≤ q) s.heap H locs) {y' : am_Y} {n d' ix : Nat} {as : List am_V} {a : Int} (hl : Cond.methodLink R_law ix y'.1 ∈ lw_tbl) (m1 : Cond.static y'.1 ∈ am_GW) (hcl : y'.1.cls = RL) (m4 : Cond.code y'.1 y'.2.1 y'.2.2.1 y'.2.2.2 ∈ am_GW) (hdd2 : y'.1.cls ≠ "java/lang/invoke/MethodHandle" ∧ y'.1.cls ≠ "java/lang/invoke/VarHandle" ∧ (parseMethodDescriptor y'.1.desc).map (fun d => d.parameters.length) = some n) (hml9 : y'.2.2.1 ≤ 20) (hc : Ct d' y' as (some (.inl a)) h h') (hn : as.length = n) (hdd : d' ≤ 8) {rest : List Value} (hroom : (rest.map fun v => v.category).sum ≤ 8) {pc : Nat} {ls : Array Slot} (hls : ls.size = 5) (hd : decode code pc = .ok (.invokestatic ix, 3)) {st : List Value} (hst : st = (as.map (am_cv ad)).reverse ++ rest)
    (kk : ∀ (H1 : Heap) (locs1 : List Loc), va_P D vwCl (am_ws K ad h') H1 → am_VH h' → va_S (fun q : Nat => s.heap.size ≤ q) s.heap H1 locs1 → W p l e room_1 s m #[Value.ref b] below meth c H1 locs1 100 2000 Q (F0 m (pc + 3) ls (.int (Int32.ofInt a) :: rest))) : W p l e room_1 s m #[Value.ref b] below meth c H locs 100 2000 Q (F0 m pc ls st) := by
  subst hst
  obtain ⟨⟨hx, hb, hr, hml, hown, hts, hX, hbl, hlk, hgv⟩, hL, hK, hN, hA, hAd⟩ := hC
  have ok : ∀ w ∈ am_GW, w.before #[Value.ref b] s = true := fun w hw => hts w (List.mem_filter.mp hw).1
  have m3 : Cond.initialized y'.1.cls ∈ am_GW := by rw [hcl]; exact msL_cell.2.1
  have cb := callB_of (R := room_1) (s := s) (args := #[Value.ref b]) (own := R_law) (index := ix) (y := y'.1) (bytes := y'.2.1) (maxL := y'.2.2.1) (ret := y'.2.2.2) (ws := am_w y') (rm := am_rm d') (mc := 0) (ms := 0) n hts (am_goodT m4) rfl rfl rfl (ok _ m3) (hts _ hl) hdd2 (by
    refine ⟨?_, ?_⟩
    · show d' + 1 ≤ 9
      omega
    · show 8 + (y'.2.2.1 + 11) + 33 * d' ≤ 362
      omega)
  refine lw_back (va_runS (As := as.map (am_cv ad)) (rest := rest) (nL := 5) (n := n) ⟨hx, hb, hml, hown, hts⟩ (hc l D K ad) ⟨cb, ok _ m1⟩ ⟨am_blind, fun U hU hW => ⟨rfl, by rw [hU]; exact hP, va_K.moved hW.alike hK, am_NW_warm hW hN, hV, hA⟩⟩ rfl (by rw [List.length_map]; exact hn) hls rfl (lv_room hroom) hd ⟨Nat.le_of_ble_eq_true rfl, Nat.le_of_ble_eq_true rfl⟩) hS hAd (fun H1 locs1 hP1 hH1 hS1 => kk H1 locs1 hP1 hH1 hS1)
theorem lw_fam (hC : LC p s m meth c b L xs D K ad) {h : am_H} {S : Nat → Int} {n : Int} (hH : LH D K ad s H locs h S n) {pc : Nat} {ls : Array Slot} (hls : ls.size = 5) (hd : decode code pc = .ok (.invokestatic 67, 3))
    (kk : ∀ (H1 : Heap) (locs1 : List Loc), LH D K ad s H1 locs1 h S n → W p l e room_1 s m #[Value.ref b] below meth c H1 locs1 100 2000 Q (F0 m (pc + 3) ls [.int (Int32.ofInt 1)])) : W p l e room_1 s m #[Value.ref b] below meth c H locs 100 2000 Q (F0 m pc ls [.ref (ad 6 0)]) :=
  lw_callS hC hH.1 hH.2.1 hH.2.2.1 (y' := YL_families) lk_m.1 msL_families.1 rfl msL_families.2.2 (n := 1) (by decide +kernel) (by decide) (pl_families hH.2.2.2) rfl (by decide) (rest := []) (Nat.le_of_ble_eq_true rfl) hls hd rfl (fun H1 locs1 a1 a2 a3 => kk H1 locs1 ⟨a1, a2, a3, hH.2.2.2⟩)
theorem lw_wrd (hC : LC p s m meth c b L xs D K ad) {h : am_H} {S : Nat → Int} {n : Int} (hH : LH D K ad s H locs h S n) {pc : Nat} {ls : Array Slot} (hls : ls.size = 5) (hd : decode code pc = .ok (.invokestatic 73, 3))
    (kk : ∀ (H1 : Heap) (locs1 : List Loc), LH D K ad s H1 locs1 h S n → W p l e room_1 s m #[Value.ref b] below meth c H1 locs1 100 2000 Q (F0 m (pc + 3) ls [.int (Int32.ofInt 1)])) : W p l e room_1 s m #[Value.ref b] below meth c H locs 100 2000 Q (F0 m pc ls [.ref (ad 6 0)]) :=
  lw_callS hC hH.1 hH.2.1 hH.2.2.1 (y' := YL_words) lk_m.2.1 msL_words.1 rfl msL_words.2.2 (n := 1) (by decide +kernel) (by decide) (pl_words hH.2.2.2) rfl (by decide) (rest := []) (Nat.le_of_ble_eq_true rfl) hls hd rfl (fun H1 locs1 a1 a2 a3 => kk H1 locs1 ⟨a1, a2, a3, hH.2.2.2⟩)
theorem lw_act (hC : LC p s m meth c b L xs D K ad) {h : am_H} {S : Nat → Int} {n : Int} (hH : LH D K ad s H locs h S n) (hn : n ≤ 700000000) (h5 : gP h 0 0 = 5) (hT : gP h 0 3 ≤ 1000) {y : Int} (hy : 0 ≤ y ∧ y ≤ 2147483647) {pc : Nat} {ls : Array Slot} (hls : ls.size = 5) (hd : decode code pc = .ok (.invokestatic 83, 3))
    (kk : ∀ (H1 : Heap) (locs1 : List Loc) (h1 : am_H) (S1 : Nat → Int), LH D K ad s H1 locs1 h1 S1 (n + 400) → gP h1 0 0 = 5 → gP h1 0 3 ≤ gP h 0 3 + 4 → W p l e room_1 s m #[Value.ref b] below meth c H1 locs1 100 2000 Q (F0 m (pc + 3) ls [.int (Int32.ofInt 1)])) : W p l e room_1 s m #[Value.ref b] below meth c H locs 100 2000 Q (F0 m pc ls [.int (Int32.ofInt y), .ref (ad 6 0)]) := by
  obtain ⟨G, S1, hc, hPG, g0, g3⟩ := pl_acts hH.2.2.2 hn h5 hT hy
  exact lw_callS hC hH.1 hH.2.1 hH.2.2.1 (y' := YL_acts) lk_m.2.2.2.1 msL_acts.1 rfl msL_acts.2.2 (n := 2) (by decide +kernel) (by decide) hc rfl (by decide) (rest := []) (Nat.le_of_ble_eq_true rfl) hls hd rfl (fun H1 locs1 a1 a2 a3 => kk H1 locs1 G S1 ⟨a1, a2, a3, hPG⟩ g0 g3)
end LAW
/-! ===== a cell of the script ===== -/
theorem and31 (a : Int32) : ∃ y : Int, (0 ≤ y ∧ y ≤ 2147483647) ∧ a &&& Int32.ofInt 2147483647 = Int32.ofInt y := by
  have hn : (a.toBitVec &&& 2147483647#32).toNat ≤ 2147483647 := by
    rw [BitVec.toNat_and]
    exact Nat.and_le_right
  have e : (a &&& Int32.ofInt 2147483647).toInt = (a.toBitVec &&& 2147483647#32).toInt := rfl
  have ht : (a.toBitVec &&& 2147483647#32).toInt = ((a.toBitVec &&& 2147483647#32).toNat : Int) := BitVec.toInt_eq_toNat_of_lt (by omega)
  refine ⟨(a &&& Int32.ofInt 2147483647).toInt, ?_, (Int32.ofInt_toInt _).symm⟩
  rw [e, ht]
  omega
def cl_rm : Room := { frames := 0, cells := 0, slots := 0, locals := 0 }
set_option maxHeartbeats 4000000 in
theorem pl_cell (l : Launch) (D : va_G) (ws : va_W) (b L : Nat) (xs : Nat → Int32) (hL : L ≤ 260) (k : Nat) (hk : k ≤ 100) : Met l yL_cell (am_w YL_cell) cl_rm (va_Pc [.ref b, .int (nI k)] (fun U => b < U.heap.size ∧ va_X b L xs U U.heap ∧ va_P D vwCl ws U.heap)) (va_Qi (fun r (_ : Unit) => ∃ y : Int, (0 ≤ y ∧ y ≤ 2147483647) ∧ r = Int32.ofInt y) (fun _ t => va_P D vwCl ws t.heap) (fun _ => False)) 0 0 (fun _ => False) := by
  refine Met.ofW (cc := cL_cell) (maxL := 2) (ret := some .int) (by decide) rfl ?_
  intro p e s m args below meth c s₁ B hml hv
  obtain ⟨rfl, hbl, hX, hPw⟩ := hv
  have hx := B.exec
  have hb := B.bytes
  have hr := B.returns
  have hlk := B.notSynchronized
  have hown : s.vm.findClass RL = some m.cls := findClass_of_methodNamed B.named
  have hts := atoms_spec (ws := am_w YL_cell) B.pre
  have ok : ∀ w ∈ am_GW, w.before ([Value.ref b, Value.int (nI k)] : List Value).toArray s = true := fun w hw => hts w (List.mem_cons_of_mem _ hw)
  have hS : va_S (fun _ => False) s.heap s.heap [] := va_S.rf
  have hbl : b < s.heap.size := hbl
  have hX : va_X b L xs s s.heap := hX
  have hl := lv_entry ([.ref b, .int (nI k)]) (n := 2) (Nat.le_of_ble_eq_true rfl)
  rw [lg_entry_eq]
  generalize (lg_sl ([.ref b, .int (nI k)]) ++ List.replicate (2 - (lg_sl ([.ref b, .int (nI k)])).length) Slot.unset).toArray = ls at hl ⊢
  have hl : lv_has ls 2 [(0, .ref b), (1, .int (nI k))] := hl
  have fin : ∀ v : Int32, W p l e cl_rm s m (([Value.ref b, Value.int (nI k)] : List Value).toArray) below meth c s.heap [] 0 0 (MQ below (va_Qi (fun r (_ : Unit) => ∃ y : Int, (0 ≤ y ∧ y ≤ 2147483647) ∧ r = Int32.ofInt y) (fun _ t => va_P D vwCl ws t.heap) (fun _ => False)) (([Value.ref b, Value.int (nI k)] : List Value).toArray) s 0 0 (fun _ => False)) (F0 m 19 ls [.int v]) := by
    intro v
    refine lv_ldc hx hb hown (ok _ kc_L_8) dL_cell_19 ?_
    refine lv_iand hx hb dL_cell_21 ?_
    exact W.iret hx hb hr (fun t ht hW => ⟨⟨_, (), rfl, and31 v, by show va_P D vwCl ws t.heap; rw [ht]; exact hPw⟩, hS.F ht⟩) hS.2.2 dL_cell_22 hlk
  refine lv_iload_n hx hb dL_cell_0 rfl (lv_at hl 1 rfl) ?_
  refine lv_aload_n hx hb dL_cell_1 rfl (lv_at hl 0 rfl) ?_
  refine va_slen hx hb hX hbl (fun z => z) hS dL_cell_2 ?_
  by_cases hkL : k < L
  · refine lv_icmp_ge (tgt := 12) hx hb dL_cell_3 (by decide) (fun z => absurd z (nI_ge hkL (by omega))) (fun _ => ?_)
    refine lv_aload_n hx hb dL_cell_6 rfl (lv_at hl 0 rfl) ?_
    refine lv_iload_n hx hb dL_cell_7 rfl (lv_at hl 1 rfl) ?_
    refine va_sld hx hb hX hbl (fun z => z) hS (vp_in_nI hkL (by omega)) dL_cell_8 ?_
    refine lv_goto (tgt := 19) hx hb dL_cell_9 (by decide) ?_
    exact fin _
  · refine lv_icmp_ge (tgt := 12) hx hb dL_cell_3 (by decide) (fun _ => ?_) (fun z => absurd (nI_le (by omega) (by omega)) z)
    refine lv_ldc hx hb hown (ok _ kc_L_7) dL_cell_12 ?_
    refine lv_iload_n hx hb dL_cell_14 rfl (lv_at hl 1 rfl) ?_
    refine lv_bipush (v := nI 31) hx hb dL_cell_15 (by decide) ?_
    refine lv_iadd hx hb dL_cell_17 ?_
    refine lv_imul hx hb dL_cell_18 ?_
    exact fin _
theorem cl_blind {D : va_G} {ws : va_W} {b L : Nat} {xs : Nat → Int32} {av : List Value} : FrameBlind (va_Pc av (fun U => b < U.heap.size ∧ va_X b L xs U U.heap ∧ va_P D vwCl ws U.heap)) := by
  intro a U g mk q
  obtain ⟨q0, q1, q2, q3⟩ := q
  exact ⟨q0, q1, va_X.moved (u := U) (U := U.calling g mk a) (Vm.Alike.refl U.vm) q2, q3⟩
section LAW2
variable {p : Program} {l : Launch} {e : Env} {s : State} {m : MethodId} {below : List Frame} {meth : Method} {c : Code} {b L : Nat} {xs : Nat → Int32} {D : va_G} {K : ClassId × ClassId × ClassId} {ad : Nat → Nat → Nat} {H : Heap} {locs : List Loc} {Q : State → Prop}
theorem lw_cell (hC : LC p s m meth c b L xs D K ad) {h : am_H} {S : Nat → Int} {n : Int} (hH : LH D K ad s H locs h S n) {k : Nat} (hk : k ≤ 100) {pc : Nat} {ls : Array Slot} (hls : ls.size = 5) (hd : decode code pc = .ok (.invokestatic 76, 3)) {rest : List Value} (hroom : (rest.map fun v => v.category).sum ≤ 8)
    (kk : ∀ (y : Int) (H1 : Heap) (locs1 : List Loc), (0 ≤ y ∧ y ≤ 2147483647) → LH D K ad s H1 locs1 h S n → W p l e room_1 s m #[Value.ref b] below meth c H1 locs1 100 2000 Q (F0 m (pc + 3) ls (.int (Int32.ofInt y) :: rest))) : W p l e room_1 s m #[Value.ref b] below meth c H locs 100 2000 Q (F0 m pc ls (.int (nI k) :: .ref b :: rest)) := by
  obtain ⟨⟨hx, hb, hr, hml, hown, hts, hX, hbl, hlk, hgv⟩, hL, hK, hN, hA, hAd⟩ := hC
  obtain ⟨hP, hV, hS, hPH⟩ := hH
  have ok : ∀ w ∈ am_GW, w.before #[Value.ref b] s = true := fun w hw => hts w (List.mem_filter.mp hw).1
  have hbA : ¬ (fun q : Nat => s.heap.size ≤ q) b := Nat.not_le.mpr hbl
  have hXH : va_X b L xs s H := va_X.kept hX (hS.2.1 b hbl hbA)
  have cb := callB_of (R := room_1) (s := s) (args := #[Value.ref b]) (own := R_law) (index := 76) (y := yL_cell) (bytes := cL_cell) (maxL := 2) (ret := some .int) (ws := am_w YL_cell) (rm := cl_rm) (mc := 0) (ms := 0) 2 hts (am_goodT msL_cell.2.2) rfl rfl rfl (ok _ msL_cell.2.1) (hts _ lk_m.2.2.1) (by decide +kernel) ⟨Nat.le_of_ble_eq_true rfl, Nat.le_of_ble_eq_true rfl⟩
  refine va_calli (va_runS (As := [.ref b, .int (nI k)]) (rest := rest) (nL := 5) (n := 2) ⟨hx, hb, hml, hown, hts⟩ (pl_cell l D (am_ws K ad h) b L xs hL k hk) ⟨cb, ok _ msL_cell.1⟩ ⟨cl_blind, fun U hU hW => ⟨rfl, by rw [hU]; exact Nat.lt_of_lt_of_le hbl hS.1, by rw [hU]; exact va_X.moved hW.alike hXH, by rw [hU]; exact hP⟩⟩ rfl rfl hls rfl (lv_room hroom) hd ⟨Nat.le_of_ble_eq_true rfl, Nat.le_of_ble_eq_true rfl⟩) hS (fun q _ z => z.elim) (fun q z => z.elim) (fun r u t H1 locs1 ht hvm hp hPt hz1 hk1 hS1 => ?_)
  obtain ⟨y, hy, rfl⟩ := hp
  exact kk y H1 locs1 hy ⟨by rw [← ht]; exact hPt, hV, hS1, hPH⟩
end LAW2
