/-! ===== the law's calls ===== -/
theorem am_goodT {y' : am_Y} (hc : Cond.code y'.1 y'.2.1 y'.2.2.1 y'.2.2.2 ∈ am_GW) : GoodIn lw_tbl (am_w y') := by
  intro w hw
  have hg : w ∈ am_GW := by
    rcases List.mem_cons.mp hw with rfl | h
    · exact hc
    · exact h
  obtain ⟨h1, h2⟩ := List.mem_filter.mp hg
  exact ⟨h1, good_of_word h2⟩
theorem i32_R (x : Int32) : am_R x.toInt := ⟨by have := Int32.le_toInt x; omega, by have := Int32.toInt_lt x; omega⟩
/-- behind a call of the law's -/
theorem lw_back {p : Program} {l : Launch} {e : Env} {R : Room} {s : State} {m : MethodId} {args : Array Value} {below : List Frame} {meth : Method} {c : Code} {H H0 : Heap} {locs : List Loc} {cells slots : Nat} {Q : State → Prop} {pc : Nat} {lsr : Array Slot} {st0 rest : List Value} {D : va_G} {K : ClassId × ClassId × ClassId} {ad : Nat → Nat → Nat} {h' : am_H} {x : Int} {a : Array Value} {A0 : Nat → Prop}
    (hr : va_Run p l e R s m args below meth c H locs cells slots 0 0 (F0 m pc lsr st0) rest (am_Q D K ad h' (some (.inl x)) a) (am_A ad)) (hS : va_S A0 H0 H locs) (hA : ∀ q, am_A ad q → A0 q)
    (kk : ∀ (H1 : Heap) (locs1 : List Loc), va_P D vwCl (am_ws K ad h') H1 → am_VH h' → va_S A0 H0 H1 locs1 → W p l e R s m args below meth c H1 locs1 cells slots Q (F0 m (pc + 3) lsr (.int (Int32.ofInt x) :: rest))) : W p l e R s m args below meth c H locs cells slots Q (F0 m pc lsr st0) := by
  intro T hT X
  obtain ⟨v, st₀, t, T', L, h0, X', hL, e1, e2, ⟨hv, hp, hvh, hz, hk⟩, st⟩ := hr T hT X
  cases hv
  rw [h0] at hz hk
  obtain ⟨t2, a1, b1⟩ := kk T'.heap (locs ++ L) (by rw [e1]; exact hp) hvh ⟨Nat.le_trans hS.1 (by rw [e1]; exact hz), fun q h1 h2 => by rw [e1, hk q (Nat.lt_of_lt_of_le h1 hS.1) (fun z => h2 (hA q z))]; exact hS.2.1 q h1 h2, fun q hq => by
      rcases List.mem_append.mp hq with h | h
      · exact hS.2.2 q h
      · exact hA _ (hL q h)⟩ T' rfl X'
  exact ⟨t2, st t2 a1, b1⟩
def LC (p : Program) (s : State) (m : MethodId) (meth : Method) (c : Code) (b L : Nat) (xs : Nat → Int32) (D : va_G) (K : ClassId × ClassId × ClassId) (ad : Nat → Nat → Nat) : Prop := lw_At p s m meth c b L xs ∧ L ≤ 1536 ∧ va_K D vwCl (am_ty K) s ∧ (∀ w ∈ am_NW, va_Nw w s) ∧ am_ad ad ∧ ∀ q, am_A ad q → s.heap.size ≤ q
def LH (D : va_G) (K : ClassId × ClassId × ClassId) (ad : Nat → Nat → Nat) (s : State) (H : Heap) (locs : List Loc) (h : am_H) (n : Int) : Prop := va_P D vwCl (am_ws K ad h) H ∧ am_VH h ∧ va_S (fun q : Nat => s.heap.size ≤ q) s.heap H locs ∧ RH h n
section LAW
variable {p : Program} {l : Launch} {e : Env} {s : State} {m : MethodId} {below : List Frame} {meth : Method} {c : Code} {b L : Nat} {xs : Nat → Int32} {D : va_G} {K : ClassId × ClassId × ClassId} {ad : Nat → Nat → Nat} {H : Heap} {locs : List Loc} {Q : State → Prop}
theorem lw_call (hC : LC p s m meth c b L xs D K ad) {h h' : am_H} (hP : va_P D vwCl (am_ws K ad h) H) (hV : am_VH h) (hS : va_S (fun q : Nat => s.heap.size ≤ q) s.heap H locs) {y' : am_Y} {u n d' ix : Nat} {as : List am_V} {a : Int} (hl : Cond.methodLink R_law ix y'.1 ∈ lw_tbl) (hm : am_mv y' n) (hc : Ct d' y' (.inr (u, 0) :: as) (some (.inl a)) h h') (hob : am_ob u 0 y'.1.cls) (hn : as.length = n) (hdd : d' ≤ 12) {rest : List Value} (hroom : (rest.map fun v => v.category).sum ≤ 8) {pc : Nat} {ls : Array Slot} (hls : ls.size = 4) (hd : decode code pc = .ok (.invokevirtual ix, 3)) {st : List Value} (hst : st = (as.map (am_cv ad)).reverse ++ .ref (ad u 0) :: rest)
    (kk : ∀ (H1 : Heap) (locs1 : List Loc), va_P D vwCl (am_ws K ad h') H1 → am_VH h' → va_S (fun q : Nat => s.heap.size ≤ q) s.heap H1 locs1 → W p l e room_1 s m #[Value.ref b] below meth c H1 locs1 96 3326 Q (F0 m (pc + 3) ls (.int (Int32.ofInt a) :: rest))) : W p l e room_1 s m #[Value.ref b] below meth c H locs 96 3326 Q (F0 m pc ls st) := by
  subst hst
  obtain ⟨⟨hx, hb, hr, hml, hown, hts, hX, hbl, hlk, hgv⟩, hL, hK, hN, hA, hAd⟩ := hC
  obtain ⟨⟨m1, m2, m3, m4⟩, hdd2, hml9⟩ := hm
  have ok : ∀ w ∈ am_GW, w.before #[Value.ref b] s = true := fun w hw => hts w (List.mem_filter.mp hw).1
  have cb := callB_of (R := room_1) (s := s) (args := #[Value.ref b]) (own := R_law) (index := ix) (y := y'.1) (bytes := y'.2.1) (maxL := y'.2.2.1) (ret := y'.2.2.2) (ws := am_w y') (rm := am_rm d') (mc := 0) (ms := 0) n hts (am_goodT m4) rfl rfl rfl (ok _ m3) (hts _ hl) hdd2 (by
    refine ⟨?_, ?_⟩
    · show d' + 1 ≤ 14
      omega
    · show 8 + (y'.2.2.1 + 11) + 33 * d' ≤ 544
      omega)
  obtain ⟨o1, o2, o3⟩ := hob
  have he := am_ws_at (K := K) (ad := ad) (h := h) o1
  rw [am_cell0 o2] at he
  have hrc := va_recv hK hP (am_cl (u, 0) o1 o2) he
  have hrc : ∃ cell : Cell, H[ad u 0]? = some cell ∧ cell.vm.isStatics = false ∧ s.vm.findClass y'.1.cls = some cell.cls := by rw [← o3]; exact hrc
  refine lw_back (va_runV (As := as.map (am_cv ad)) (rest := rest) (nL := 4) (n := n) (b := ad u 0) ⟨hx, hb, hml, hown, hts⟩ (hc l D K ad) ⟨cb, ok _ m1, ok _ m2⟩ ⟨am_blind, hrc, fun U hU hW => ⟨rfl, by rw [hU]; exact hP, va_K.moved hW.alike hK, am_NW_warm hW hN, hV, hA⟩⟩ rfl (by rw [List.length_map]; exact hn) hls rfl (lv_room hroom) hd ⟨Nat.le_of_ble_eq_true rfl, Nat.le_of_ble_eq_true rfl⟩) hS hAd (fun H1 locs1 hP1 hH1 hS1 => kk H1 locs1 hP1 hH1 hS1)
/-- an int of the script -/
theorem lw_el (hC : LC p s m meth c b L xs D K ad) (hS : va_S (fun q : Nat => s.heap.size ≤ q) s.heap H locs) {ls : Array Slot} {i k : Nat} (h0 : ls[0]? = some (.val (.ref b))) (h3 : ls[3]? = some (.val (.int (nI i)))) (hi : i + k < L) {kc : Int} (hkc : Int32.ofInt kc = nI k) {pc : Nat} (d0 : decode code pc = .ok (.aload_n 0, 1)) (d1 : decode code (pc + 1) = .ok (.iload_n 3, 1)) (d2 : decode code (pc + 1 + 1) = .ok (.iconst kc, 1)) (d3 : decode code (pc + 1 + 1 + 1) = .ok (.iadd, 1)) (d4 : decode code (pc + 1 + 1 + 1 + 1) = .ok (.iaload, 1)) {rest : List Value}
    (kk : W p l e room_1 s m #[Value.ref b] below meth c H locs 96 3326 Q (F0 m (pc + 1 + 1 + 1 + 1 + 1) ls (.int (xs (i + k)) :: rest))) : W p l e room_1 s m #[Value.ref b] below meth c H locs 96 3326 Q (F0 m pc ls rest) := by
  obtain ⟨⟨hx, hb, hr, hml, hown, hts, hX, hbl, hlk, hgv⟩, hL, hK, hN, hA, hAd⟩ := hC
  have hbA : ¬ (fun q : Nat => s.heap.size ≤ q) b := Nat.not_le.mpr hbl
  refine lv_aload_n hx hb d0 rfl h0 ?_
  refine lv_iload_n hx hb d1 rfl h3 ?_
  refine lv_iconst (v := nI k) hx hb d2 hkc ?_
  refine lv_iadd hx hb d3 ?_
  rw [nI_add]
  refine va_sld hx hb hX hbl hbA hS (vp_in_nI hi (by omega)) d4 ?_
  rw [nI_clamp (by omega)]
  exact kk
end LAW
