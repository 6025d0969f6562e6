section SI
variable {d : Nat} {y : am_Y} {h1 : am_H} {r : Option am_V} {pc : Nat} {ls : List (Option am_V)} {st : List am_V} {h : am_H}
theorem am_room (ad : Nat → Nat → Nat) (rest : List am_V) : ((rest.map (am_cv ad)).map fun v => v.category).sum = rest.length := by
  induction rest with
  | nil => rfl
  | cons a l ih =>
    simp only [List.map_cons, List.sum_cons, List.length_cons, am_cat, ih]
    omega
/-- behind a call of the machine -/
theorem am_back {p : Program} {l : Launch} {e : Env} {R : Room} {s : State} {m : MethodId} {args : Array Value} {below : List Frame} {meth : Method} {c : Code} {H H0 : Heap} {locs : List Loc} {Q : State → Prop} {pc : Nat} {lsr : Array Slot} {st0 rest : List Value} {D : va_G} {K : ClassId × ClassId × ClassId} {ad : Nat → Nat → Nat} {h' : am_H} {r' : Option am_V} {a : Array Value}
    (hr : va_Run p l e R s m args below meth c H locs 0 0 0 0 (F0 m pc lsr st0) rest (am_Q D K ad h' r' a) (am_A ad)) (hS : va_S (am_A ad) H0 H locs)
    (kk : ∀ (H1 : Heap) (locs1 : List Loc), va_P D vwCl (am_ws K ad h') H1 → am_VH h' → va_S (am_A ad) H0 H1 locs1 → W p l e R s m args below meth c H1 locs1 0 0 Q (F0 m (pc + 3) lsr ((r'.map (am_cv ad)).toList ++ rest))) : W p l e R s m args below meth c H locs 0 0 Q (F0 m pc lsr st0) := by
  intro T hT X
  obtain ⟨v, st₀, t, T', L, h0, X', hL, e1, e2, ⟨hv, hp, hvh, hz, hk⟩, st⟩ := hr T hT X
  cases hv
  rw [h0] at hz hk
  obtain ⟨t2, a1, b1⟩ := kk T'.heap (locs ++ L) (by rw [e1]; exact hp) hvh ⟨Nat.le_trans hS.1 (by rw [e1]; exact hz), fun q h1 h2 => by rw [e1, hk q (Nat.lt_of_lt_of_le h1 hS.1) h2]; exact hS.2.1 q h1 h2, fun q hq => by
      rcases List.mem_append.mp hq with h | h
      · exact hS.2.2 q h
      · exact hL q h⟩ T' rfl X'
  exact ⟨t2, st t2 a1, b1⟩
theorem am_blind {D : va_G} {K : ClassId × ClassId × ClassId} {ad : Nat → Nat → Nat} {h : am_H} {av : List Value} : FrameBlind (va_Pc av (am_Pre D K ad h)) := by
  intro a U g mk q
  obtain ⟨q0, qP, qK, qN, qV, qA⟩ := q
  exact ⟨q0, qP, va_K.moved (u := U) (U := U.calling g mk a) (Vm.Alike.refl U.vm) qK, fun w hw => va_Nw.same (u := U) (U := U.calling g mk a) (by
    have : ∀ w ∈ am_NW, w.onTables = true := by decide +kernel
    exact this w hw) rfl (qN w hw), qV, qA⟩
theorem am_NW_warm {s U : State} (hW : s.WarmedH U.vm) (h : ∀ w ∈ am_NW, va_Nw w s) : ∀ w ∈ am_NW, va_Nw w U := by
  intro w hw
  have h0 := h w hw
  simp only [am_NW, List.mem_cons, List.not_mem_nil, or_false] at hw
  rcases hw with rfl | rfl | rfl | rfl <;> exact va_Nw.warmM hW h0
def am_ob (u j : Nat) (C : String) : Prop := (u, j) ∈ am_cs ∧ am_kd u j = 0 ∧ am_C u j = C
theorem am_obM {u : Nat} (hu : u < 6) : am_ob u 0 RX0 := ⟨am_inM u hu 0 (by decide), rfl, by unfold am_C; rw [if_pos hu]⟩
theorem am_obG : am_ob 6 0 RX2 := ⟨am_inG 0 (by decide), rfl, rfl⟩
theorem am_obO : am_ob 6 2 RX1 := ⟨am_inG 2 (by decide), rfl, rfl⟩
theorem am_rmok {d d' n : Nat} {y' : am_Y} (hd : d' + 1 ≤ d) (hm : y'.2.2.1 ≤ 14) : (am_rm d').frames + 1 ≤ (am_rm d).frames ∧ 8 + (y'.2.2.1 + 11) + (am_rm d').locals ≤ (am_rm d).locals := by
  refine ⟨hd, ?_⟩
  show 8 + (y'.2.2.1 + 11) + 33 * d' ≤ 33 * d
  omega
theorem sx_callV {y' : am_Y} {u j n ix d' : Nat} {as rest : List am_V} {r' : Option am_V} {h' : am_H} (hd : decode y.2.1 pc = .ok (.invokevirtual ix, 3)) (hl : am_ml y.1.cls ix y') (hm : am_mv y' n) (hc : Ct d' y' (.inr (u, j) :: as) r' h h') (hst : st = as.reverse ++ .inr (u, j) :: rest) (hob : am_ob u j y'.1.cls) (hn : as.length = n) (hdd : d' + 1 ≤ d) (hroom : rest.length ≤ 8)
    (kk : Sx d y h1 r (pc + 3) ls (r'.toList ++ rest) h') : Sx d y h1 r pc ls st h := by
  subst hst
  intro p l e s m args below meth c D K ad H locs lsr hS hV hP hH hl2
  obtain ⟨hx, hb, hml, hr, hlk, hown, hts, hK, hN, hA⟩ := id hS
  obtain ⟨⟨m1, m2, m3, m4⟩, hdd2, hml9⟩ := hm
  have ok : ∀ w ∈ am_GW, w.before args s = true := fun w hw => hts w (List.mem_cons_of_mem _ hw)
  have cb := callB_of (R := am_rm d) (s := s) (args := args) (own := y.1.cls) (index := ix) (y := y'.1) (bytes := y'.2.1) (maxL := y'.2.2.1) (ret := y'.2.2.2) (ws := am_w y') (rm := am_rm d') (mc := 0) (ms := 0) n hts (am_good m4) rfl rfl rfl (ok _ m3) (ok _ hl) hdd2 (am_rmok (n := n) hdd hml9)
  obtain ⟨o1, o2, o3⟩ := hob
  have he := am_ws_at (K := K) (ad := ad) (h := h) o1
  rw [am_cell0 o2] at he
  have hrc := va_recv hK hP (am_cl (u, j) o1 o2) he
  have hrc : ∃ cell : Cell, H[ad u j]? = some cell ∧ cell.vm.isStatics = false ∧ s.vm.findClass y'.1.cls = some cell.cls := by rw [← o3]; exact hrc
  refine am_back (va_runV (As := as.map (am_cv ad)) (rest := rest.map (am_cv ad)) (nL := y.2.2.1) (n := n) (b := ad u j) ⟨hx, hb, hml, hown, hts⟩ (hc l D K ad) ⟨cb, ok _ m1, ok _ m2⟩ ⟨am_blind, hrc, fun U hU hW => ⟨rfl, by rw [hU]; exact hP, va_K.moved hW.alike hK, am_NW_warm hW hN, hH, hA⟩⟩ rfl (by rw [List.length_map]; exact hn) hl2.1 (by simp [am_cv]) (lv_room (by rw [am_room]; exact hroom)) hd ⟨Nat.le_refl _, Nat.le_refl _⟩) hV (fun H1 locs1 hP1 hH1 hS1 => ?_)
  have z := kk p l e s m args below meth c D K ad H1 locs1 lsr hS hS1 hP1 hH1 hl2
  rw [List.map_append] at z
  cases r' <;> exact z
theorem sx_callS {y' : am_Y} {n ix d' : Nat} {as rest : List am_V} {r' : Option am_V} {h' : am_H} (hd : decode y.2.1 pc = .ok (.invokestatic ix, 3)) (hl : am_ml y.1.cls ix y') (hm : am_ms y' n) (hc : Ct d' y' as r' h h') (hst : st = as.reverse ++ rest) (hn : as.length = n) (hdd : d' + 1 ≤ d) (hroom : rest.length ≤ 8)
    (kk : Sx d y h1 r (pc + 3) ls (r'.toList ++ rest) h') : Sx d y h1 r pc ls st h := by
  subst hst
  intro p l e s m args below meth c D K ad H locs lsr hS hV hP hH hl2
  obtain ⟨hx, hb, hml, hr, hlk, hown, hts, hK, hN, hA⟩ := id hS
  obtain ⟨⟨m1, m3, m4⟩, hdd2, hml9⟩ := hm
  have ok : ∀ w ∈ am_GW, w.before args s = true := fun w hw => hts w (List.mem_cons_of_mem _ hw)
  have cb := callB_of (R := am_rm d) (s := s) (args := args) (own := y.1.cls) (index := ix) (y := y'.1) (bytes := y'.2.1) (maxL := y'.2.2.1) (ret := y'.2.2.2) (ws := am_w y') (rm := am_rm d') (mc := 0) (ms := 0) n hts (am_good m4) rfl rfl rfl (ok _ m3) (ok _ hl) hdd2 (am_rmok (n := n) hdd hml9)
  refine am_back (va_runS (As := as.map (am_cv ad)) (rest := rest.map (am_cv ad)) (nL := y.2.2.1) (n := n) ⟨hx, hb, hml, hown, hts⟩ (hc l D K ad) ⟨cb, ok _ m1⟩ ⟨am_blind, fun U hU hW => ⟨rfl, by rw [hU]; exact hP, va_K.moved hW.alike hK, am_NW_warm hW hN, hH, hA⟩⟩ rfl (by rw [List.length_map]; exact hn) hl2.1 (by simp) (lv_room (by rw [am_room]; exact hroom)) hd ⟨Nat.le_refl _, Nat.le_refl _⟩) hV (fun H1 locs1 hP1 hH1 hS1 => ?_)
  have z := kk p l e s m args below meth c D K ad H1 locs1 lsr hS hS1 hP1 hH1 hl2
  rw [List.map_append] at z
  cases r' <;> exact z
theorem sx_callN {y' : am_Y} {n ix d' : Nat} {host : String} {as rest : List am_V} {r' : Option am_V} {h' : am_H} (hd : decode y.2.1 pc = .ok (.invokestatic ix, 3)) (hl : Cond.methodLinkNest y.1.cls ix y'.1 host ∈ am_NW) (hm : am_ms y' n) (hc : Ct d' y' as r' h h') (hst : st = as.reverse ++ rest) (hn : as.length = n) (hdd : d' + 1 ≤ d) (hroom : rest.length ≤ 8)
    (kk : Sx d y h1 r (pc + 3) ls (r'.toList ++ rest) h') : Sx d y h1 r pc ls st h := by
  subst hst
  intro p l e s m args below meth c D K ad H locs lsr hS hV hP hH hl2
  obtain ⟨hx, hb, hml, hr, hlk, hown, hts, hK, hN, hA⟩ := id hS
  obtain ⟨⟨m1, m3, m4⟩, hdd2, hml9⟩ := hm
  have ok : ∀ w ∈ am_GW, w.before args s = true := fun w hw => hts w (List.mem_cons_of_mem _ hw)
  have cb := va_cnB (R := am_rm d) (s := s) (args := args) (own := y.1.cls) (host := host) (index := ix) (y := y'.1) (bytes := y'.2.1) (maxL := y'.2.2.1) (ret := y'.2.2.2) (ws := am_w y') (rm := am_rm d') (mc := 0) (ms := 0) n hts (am_good m4) rfl rfl rfl (hN _ hl) (ok _ m3) hdd2 (am_rmok (n := n) hdd hml9)
  refine am_back (va_runSN (As := as.map (am_cv ad)) (rest := rest.map (am_cv ad)) (nL := y.2.2.1) (n := n) ⟨hx, hb, hml, hown, hts⟩ (hc l D K ad) ⟨cb, ok _ m1, trivial⟩ ⟨am_blind, fun U hU hW => ⟨rfl, by rw [hU]; exact hP, va_K.moved hW.alike hK, am_NW_warm hW hN, hH, hA⟩⟩ rfl (by rw [List.length_map]; exact hn) hl2.1 (by simp) (lv_room (by rw [am_room]; exact hroom)) hd ⟨Nat.le_refl _, Nat.le_refl _⟩) hV (fun H1 locs1 hP1 hH1 hS1 => ?_)
  have z := kk p l e s m args below meth c D K ad H1 locs1 lsr hS hS1 hP1 hH1 hl2
  rw [List.map_append] at z
  cases r' <;> exact z
end SI
