/-! ===== what the first calls of the law come to ===== -/
theorem F_chip {h : am_H} {S : Nat → Int} {n : Int} (hP : PH h S n) {f sp : Int} (hf : 0 ≤ f ∧ f ≤ 2) (hsp : 0 ≤ sp ∧ sp ≤ 2) (h8 : gP h 0 0 < 8) : ∃ (G : am_H) (S1 : Nat → Int), G = gset (am_U h (h.2 1) (yadM (gP h) f sp)) (yadR (gP h) f sp) ∧ PH G S1 n ∧ yadR (gP h) f sp = gP h 0 0 ∧ gP G = yadN (gP h) f sp := by
  have hx := PH_CX hP
  have hX := hx.1.1.2
  have h0 := (PH_WM hP).1
  have e1 : yadR (gP h) f sp = gP h 0 0 := by
    unfold yadR
    rw [if_pos hf, if_neg (by omega), if_pos hsp.2, if_pos h8]
  have e2 : yadM (gP h) f sp = yadN (gP h) f sp := by
    unfold yadM yadN
    rw [if_pos hf, if_neg (by omega), if_pos hsp.2, if_pos h8]
  refine ⟨_, _, rfl, PH_set hP.1 ⟨⟨CZ_chip (PH_CZ hP) f sp, VX_chip hX hP.2.1.2 f sp⟩, PI_chip hP.2.2 hx f sp⟩ (by omega), e1, ?_⟩
  rw [gP_set hP.1 (by omega), e2]
def LQ (M : am_M) (k : Int) : Prop := M 0 0 = k ∧ M 0 2 = 0 ∧ M 0 3 = 0 ∧ (∀ f : Int, 0 ≤ f → f ≤ 2 → rd M 5 f = -1) ∧ (∀ c : Int, 0 ≤ c → c < 8 → rd M 2 c = 0) ∧ (0 ≤ M 0 1 ∧ M 0 1 < 256) ∧ (∀ c : Int, 0 ≤ c → c < k → bit (M 0 1) c = 1) ∧ (2 ≤ k → rd M 1 1 = 0)
theorem LQ_0 : LQ iM 0 := by
  have z : ∀ k, iM 0 k = 0 := fun k => iM_0 (by decide) (by decide) (by decide) k
  have rz : ∀ (j : Nat) (k : Int), j ≠ 4 → j ≠ 5 → j ≠ 6 → rd iM j k = 0 := fun j k a b c => iM_0 a b c _
  exact ⟨z 0, z 2, z 3, fun f _ f2 => iM_5 (by omega), fun c _ _ => rz 2 c (by decide) (by decide) (by decide), by rw [z 1]; decide, fun c c0 ck => by omega, fun q => by omega⟩
theorem LQ_s {M : am_M} {k f sp : Int} (h : LQ M k) (hk : 0 ≤ k ∧ k < 8) (hf : k < 2 → f = 0) : LQ (yadN M f sp) (k + 1) := by
  obtain ⟨a0, a2, a3, a5, ab, al, av, a1⟩ := h
  have z := yadN_0 (M := M) (f := f) (sp := sp)
  have r : ∀ (j : Nat) (i : Int), j ≠ 0 → j ≠ 1 → j ≠ 3 → rd (yadN M f sp) j i = rd M j i := fun j i h0 h1 h3 => by unfold rd; rw [yadN_row h0 h1 h3]
  have ho := bi_or8 al (r := M 0 0) (by omega)
  refine ⟨by rw [z 0, if_pos rfl, a0], by rw [z 2]; exact a2, by rw [z 3]; exact a3, fun g g0 g2 => by rw [r 5 g (by decide) (by decide) (by decide)]; exact a5 g g0 g2, fun c c0 c8 => by rw [r 2 c (by decide) (by decide) (by decide)]; exact ab c c0 c8, ?_, fun c c0 ck => ?_, fun q => ?_⟩
  · rw [z 1, if_neg (by decide), if_pos rfl]
    exact ho.1
  · rw [z 1, if_neg (by decide), if_pos rfl, ho.2 c c0 (by omega)]
    by_cases e : c = M 0 0
    · rw [if_pos e]
    · rw [if_neg e]
      exact av c c0 (by omega)
  · rw [(yadN_1 (M := M) (f := f) (sp := sp) (by omega) (c := 1) (by decide)).1]
    by_cases e : (1 : Int) = M 0 0
    · rw [if_pos e]
      exact hf (by omega)
    · rw [if_neg e]
      exact a1 (by omega)
theorem yb63 : ybc (am_and 63 (am_xor 0 (-1))) = 6 := by decide +kernel
theorem LQ_elect {M : am_M} (h : LQ M 5) : (yelect M 1).1 = 6 := by
  obtain ⟨a0, a2, a3, a5, ab, al, av, a1⟩ := h
  have e1 := a1 (by decide)
  have ek : ykb M 1 = 0 := by
    unfold ykb
    rw [a2]
    rfl
  unfold yelect
  rw [if_pos (by omega), if_pos (av 1 (by decide) (by decide)), e1, if_pos (a5 0 (by decide) (by decide)), if_pos (by omega)]
  show ybc (ygd (yelM M 1) (rd (yelM M 1) 1 1)) = 6
  have f1 : rd (yelM M 1) 1 1 = 0 := by
    unfold yelM
    rw [rd_wrj _ _ _ _ (by decide)]
    exact e1
  have f5 : rd (yelM M 1) 5 0 = 1 := by
    unfold yelM
    rw [e1]
    exact rd_wr _ _ _ _
  have f2 : rd (yelM M 1) 2 1 = 0 := by
    unfold yelM
    rw [rd_wrj _ _ _ _ (by decide)]
    exact ab 1 (by decide) (by decide)
  rw [f1]
  unfold ygd
  rw [f5, if_neg (by decide), f2]
  exact yb63
theorem nI_int {k : Nat} (hk : k ≤ 1000) : nI k = Int32.ofInt (k : Int) := by
  apply Int32.toInt_inj.mp
  rw [nI_toInt (by omega), am_toInt ⟨by omega, by omega⟩]
theorem am_rem {x z : Int} (hx : 0 ≤ x ∧ x ≤ 2147483647) (hz : 0 < z ∧ z ≤ 2147483647) : Int32.ofInt x - Int32.ofInt x / Int32.ofInt z * Int32.ofInt z = Int32.ofInt (x % z) := by
  rw [am_div hx hz, ← Int32.ofInt_mul, ← Int32.ofInt_sub, Int.emod_def, Int.mul_comm z]
/-! ===== the law's loops ===== -/
section LAWL
variable {p : Program} {l : Launch} {e : Env} {s : State} {m : MethodId} {below : List Frame} {meth : Method} {c : Code} {b L : Nat} {xs : Nat → Int32} {D : va_G} {K : ClassId × ClassId × ClassId} {ad : Nat → Nat → Nat}
set_option maxHeartbeats 4000000 in
theorem law_end (hC : LC p s m meth c b L xs D K ad) {H : Heap} {locs : List Loc} {h : am_H} {S : Nat → Int} {n : Int} {k : Nat} (hH : LH D K ad s H locs h S n) (hn : n ≤ 700000000) (hT : gP h 0 3 ≤ 1000) {ls : Array Slot} (hl : lv_has ls 5 [(3, .int (nI k)), (2, .int (nI 1)), (1, .ref (ad 6 0)), (0, .ref b)]) : W p l e room_1 s m #[Value.ref b] below meth c H locs 100 2000 (lw_Z below #[Value.ref b] s) (F0 m 173 ls []) := by
  have hC0 := hC
  obtain ⟨⟨hx, hb, hr, hml, hown, hts, hX, hbl, hlk, hgv⟩, hL, hK, hN, hA, hAd⟩ := hC
  obtain ⟨hP, hV, hS, hPH⟩ := hH
  refine lv_aload_n hx hb dL_law_173 rfl (lv_at hl 2 rfl) ?_
  refine lv_bipush (v := Int32.ofInt 6) hx hb dL_law_174 (by decide) ?_
  refine lw_callV hC0 hP hV hS lk_m.2.2.2.2.2.2.1 mv2_count (pq_count hPH 6 ⟨by decide, by decide⟩) am_obG rfl (by decide) (rest := []) (Nat.le_of_ble_eq_true rfl) hl.1 dL_law_176 rfl (fun H locs hP hV hS => ?_)
  refine lv_istore_n (lv' := [(3, .int (Int32.ofInt (gcnt (gP h) (h.1 6 0 4) (h.1 6 2 1) 6))), (2, .int (nI 1)), (1, .ref (ad 6 0)), (0, .ref b)]) hx hb dL_law_179 rfl hl (by decide) rfl (fun ls hl => ?_)
  refine lv_aload_n hx hb dL_law_180 rfl (lv_at hl 2 rfl) ?_
  refine lv_iconst (v := Int32.ofInt 4) hx hb dL_law_181 (by decide) ?_
  refine lw_callV hC0 hP hV hS lk_m.2.2.2.2.2.2.1 mv2_count (pq_count hPH 4 ⟨by decide, by decide⟩) am_obG rfl (by decide) (rest := []) (Nat.le_of_ble_eq_true rfl) hl.1 dL_law_182 rfl (fun H locs hP hV hS => ?_)
  refine lv_istore (lv' := [(4, .int (Int32.ofInt (gcnt (gP h) (h.1 6 0 4) (h.1 6 2 1) 4))), (3, .int (Int32.ofInt (gcnt (gP h) (h.1 6 0 4) (h.1 6 2 1) 6))), (2, .int (nI 1)), (1, .ref (ad 6 0)), (0, .ref b)]) hx hb dL_law_185 hl (by decide) rfl (fun ls hl => ?_)
  refine lv_iload_n hx hb dL_law_187 rfl (lv_at hl 2 rfl) ?_
  refine lv_if_eq (tgt := 244) hx hb dL_law_188 (by decide) (fun z => absurd z (by decide)) (fun _ => ?_)
  obtain ⟨G, S1, eG, hPG, g0, g3, g4, bb, l5⟩ := F_tick hPH (by omega) (t := 5) (by decide) (by omega)
  refine lv_aload_n hx hb dL_law_191 rfl (lv_at hl 3 rfl) ?_
  refine lv_iconst (v := Int32.ofInt 5) hx hb dL_law_192 (by decide) ?_
  refine lw_callV hC0 hP hV hS lk_m.2.2.2.2.2.2.2.1 mv2_tick (pc_tick hPH (by omega) 5 ⟨by decide, by decide⟩) am_obG rfl (by decide) (rest := []) (Nat.le_of_ble_eq_true rfl) hl.1 dL_law_193 rfl (fun H locs hP hV hS => ?_)
  refine lv_if_lt (tgt := 244) hx hb dL_law_196 (by decide) (fun z => absurd (am_b_lt (x := (ytick (gP h) 5).1) (z := 0) ⟨by omega, by omega⟩ ⟨by decide, by decide⟩ z) (by omega)) (fun _ => ?_)
  obtain ⟨u1, u2, u3⟩ := PH_undo hPH (ytick (gP h) 5).2 bb.1
  have hu9 := (AG_set hPH.1 (ytick (gP h) 5).2 (ytick (gP h) 5).1).2.1
  have hcu := tg_undo (AG_set hPH.1 (ytick (gP h) 5).2 (ytick (gP h) 5).1)
  have huR : gunR (gset (am_U h (h.2 1) (ytick (gP h) 5).2) (ytick (gP h) 5).1) ≤ 4 := by
    unfold gunR
    split <;> omega
  generalize gset (am_U h (h.2 1) (ytick (gP h) 5).2) (ytick (gP h) 5).1 = G2 at *
  refine lv_aload_n hx hb dL_law_199 rfl (lv_at hl 3 rfl) ?_
  refine lw_callV hC0 hP hV hS (as := []) lk_m.2.2.2.2.2.2.2.2 mv2_undo hcu am_obG rfl (by decide) (rest := []) (Nat.le_of_ble_eq_true rfl) hl.1 dL_law_200 rfl (fun H locs hP hV hS => ?_)
  refine lv_if_lt (tgt := 244) hx hb dL_law_203 (by decide) (fun z => absurd (am_b_lt (x := gunR G2) (z := 0) ⟨by omega, by omega⟩ ⟨by decide, by decide⟩ z) (by omega)) (fun _ => ?_)
  generalize gund G2 = G3 at *
  refine lv_aload_n hx hb dL_law_206 rfl (lv_at hl 3 rfl) ?_
  refine lv_bipush (v := Int32.ofInt 6) hx hb dL_law_207 (by decide) ?_
  refine lw_callV hC0 hP hV hS lk_m.2.2.2.2.2.2.1 mv2_count (pq_count u1 6 ⟨by decide, by decide⟩) am_obG rfl (by decide) (rest := []) (Nat.le_of_ble_eq_true rfl) hl.1 dL_law_209 rfl (fun H locs hP hV hS => ?_)
  have e6 : gcnt (gP G3) (G3.1 6 0 4) (G3.1 6 2 1) 6 = gcnt (gP h) (h.1 6 0 4) (h.1 6 2 1) 6 := by rw [u3]; rfl
  have e4 : gcnt (gP G3) (G3.1 6 0 4) (G3.1 6 2 1) 4 = gcnt (gP h) (h.1 6 0 4) (h.1 6 2 1) 4 := by rw [u3]; rfl
  refine lv_iload_n hx hb dL_law_212 rfl (lv_at hl 1 rfl) ?_
  refine lv_icmp_ne (tgt := 244) hx hb dL_law_213 (by decide) (fun z => absurd (by rw [e6]) z) (fun _ => ?_)
  refine lv_aload_n hx hb dL_law_216 rfl (lv_at hl 3 rfl) ?_
  refine lv_iconst (v := Int32.ofInt 4) hx hb dL_law_217 (by decide) ?_
  refine lw_callV hC0 hP hV hS lk_m.2.2.2.2.2.2.1 mv2_count (pq_count u1 4 ⟨by decide, by decide⟩) am_obG rfl (by decide) (rest := []) (Nat.le_of_ble_eq_true rfl) hl.1 dL_law_218 rfl (fun H locs hP hV hS => ?_)
  refine lv_iload hx hb dL_law_221 (lv_at hl 0 rfl) ?_
  refine lv_icmp_ne (tgt := 244) hx hb dL_law_223 (by decide) (fun z => absurd (by rw [e4]) z) (fun _ => ?_)
  have hH : LH D K ad s H locs G3 S n := ⟨hP, hV, hS, u1⟩
  refine lv_aload_n hx hb dL_law_226 rfl (lv_at hl 3 rfl) ?_
  refine lw_fam hC0 hH hl.1 dL_law_227 (fun H locs hH => ?_)
  refine lv_if_eq (tgt := 244) hx hb dL_law_230 (by decide) (fun z => absurd z (by decide)) (fun _ => ?_)
  refine lv_aload_n hx hb dL_law_233 rfl (lv_at hl 3 rfl) ?_
  refine lw_wrd hC0 hH hl.1 dL_law_234 (fun H locs hH => ?_)
  refine lv_if_eq (tgt := 244) hx hb dL_law_237 (by decide) (fun z => absurd z (by decide)) (fun _ => ?_)
  refine lv_iconst (v := 1) hx hb dL_law_240 (by decide) ?_
  refine lv_goto (tgt := 245) hx hb dL_law_241 (by decide) ?_
  refine va_forget (fun q hq => hH.2.2.1.2.2 q hq) ?_
  refine W.widen (k := 600000) (n := 7302250) (Nat.le_of_ble_eq_true rfl) (Nat.le_of_ble_eq_true rfl) ?_
  exact lw_ret hx hb hr hlk dL_law_245
set_option maxHeartbeats 4000000 in
theorem law_l2 (hC : LC p s m meth c b L xs D K ad) (fuel : Nat) : ∀ (k : Nat), k + fuel = 34 → ∀ (H : Heap) (locs : List Loc) (h : am_H) (S : Nat → Int) (ls : Array Slot), LH D K ad s H locs h S (400 * k) → gP h 0 0 = 5 → gP h 0 3 ≤ 4 * k → lv_has ls 5 [(3, .int (nI k)), (2, .int (nI 1)), (1, .ref (ad 6 0)), (0, .ref b)] → W p l e room_1 s m #[Value.ref b] below meth c H locs 100 2000 (lw_Z below #[Value.ref b] s) (F0 m 123 ls []) := by
  have hC0 := hC
  obtain ⟨⟨hx, hb, hr, hml, hown, hts, hX, hbl, hlk, hgv⟩, hL, hK, hN, hA, hAd⟩ := hC
  induction fuel with
  | zero =>
    intro k hk H locs h S ls hH h5 hT hl
    have ek : k = 34 := by omega
    subst ek
    refine lv_iload_n hx hb dL_law_123 rfl (lv_at hl 0 rfl) ?_
    refine lv_bipush (v := nI 34) hx hb dL_law_124 (by decide) ?_
    refine lv_icmp_ge (tgt := 173) hx hb dL_law_126 (by decide) (fun _ => ?_) (fun z => absurd (Int32.le_refl _) z)
    exact law_end hC0 hH (by omega) (by omega) hl
  | succ f ih =>
    intro k hk H locs h S ls hH h5 hT hl
    refine lv_iload_n hx hb dL_law_123 rfl (lv_at hl 0 rfl) ?_
    refine lv_bipush (v := nI 34) hx hb dL_law_124 (by decide) ?_
    refine lv_icmp_ge (tgt := 173) hx hb dL_law_126 (by decide) (fun z => absurd z (nI_ge (by omega) (by decide))) (fun _ => ?_)
    refine lv_iload_n hx hb dL_law_129 rfl (lv_at hl 1 rfl) ?_
    refine lv_if_eq (tgt := 173) hx hb dL_law_130 (by decide) (fun z => absurd z (by decide)) (fun _ => ?_)
    refine lv_aload_n hx hb dL_law_133 rfl (lv_at hl 2 rfl) ?_
    refine lv_aload_n hx hb dL_law_134 rfl (lv_at hl 3 rfl) ?_
    refine lv_iconst (v := nI 5) hx hb dL_law_135 (by decide) ?_
    refine lv_iload_n hx hb dL_law_136 rfl (lv_at hl 0 rfl) ?_
    refine lv_iadd hx hb dL_law_137 ?_
    rw [nI_add]
    refine lw_cell hC0 hH (k := 5 + k) (by omega) hl.1 dL_law_138 (rest := [.ref (ad 6 0)]) (Nat.le_of_ble_eq_true rfl) (fun y H locs hy hH => ?_)
    refine lw_act hC0 hH (by omega) h5 (by omega) hy hl.1 dL_law_141 (fun H locs h1 S1 hH g0 g3 => ?_)
    refine lv_if_eq (tgt := 165) hx hb dL_law_144 (by decide) (fun z => absurd z (by decide)) (fun _ => ?_)
    refine lv_aload_n hx hb dL_law_147 rfl (lv_at hl 2 rfl) ?_
    refine lw_fam hC0 hH hl.1 dL_law_148 (fun H locs hH => ?_)
    refine lv_if_eq (tgt := 165) hx hb dL_law_151 (by decide) (fun z => absurd z (by decide)) (fun _ => ?_)
    refine lv_aload_n hx hb dL_law_154 rfl (lv_at hl 2 rfl) ?_
    refine lw_wrd hC0 hH hl.1 dL_law_155 (fun H locs hH => ?_)
    refine lv_if_eq (tgt := 165) hx hb dL_law_158 (by decide) (fun z => absurd z (by decide)) (fun _ => ?_)
    refine lv_iconst (v := nI 1) hx hb dL_law_161 (by decide) ?_
    refine lv_goto (tgt := 166) hx hb dL_law_162 (by decide) ?_
    refine lv_istore_n (lv' := [(2, .int (nI 1)), (3, .int (nI k)), (1, .ref (ad 6 0)), (0, .ref b)]) hx hb dL_law_166 rfl hl (by decide) rfl (fun ls hl => ?_)
    refine lv_iinc (v := nI (k + 1)) (lv' := [(3, .int (nI (k + 1))), (2, .int (nI 1)), (1, .ref (ad 6 0)), (0, .ref b)]) hx hb dL_law_167 hl (k := 1) rfl (nI_succ k).symm (by decide) rfl (fun ls hl => ?_)
    refine lv_goto (tgt := 123) hx hb dL_law_170 (by decide) ?_
    exact ih (k + 1) (by omega) H locs h1 S1 ls ⟨hH.1, hH.2.1, hH.2.2.1, PH_mono hH.2.2.2 (by omega)⟩ g0 (by omega) hl
set_option maxHeartbeats 4000000 in
theorem law_el (hC : LC p s m meth c b L xs D K ad) {H : Heap} {locs : List Loc} {h : am_H} {S : Nat → Int} (hH : LH D K ad s H locs h S 0) (hQ : LQ (gP h) 5) {ls : Array Slot} (hl : lv_has ls 5 [(3, .int (nI 5)), (2, .int (nI 1)), (1, .ref (ad 6 0)), (0, .ref b)]) : W p l e room_1 s m #[Value.ref b] below meth c H locs 100 2000 (lw_Z below #[Value.ref b] s) (F0 m 94 ls []) := by
  have hC0 := hC
  obtain ⟨⟨hx, hb, hr, hml, hown, hts, hX, hbl, hlk, hgv⟩, hL, hK, hN, hA, hAd⟩ := hC
  obtain ⟨hP, hV, hS, hPH⟩ := hH
  have h5 := hQ.1
  have hT := hQ.2.2.1
  obtain ⟨G, S1, eG, hPG, g0, g3, -, -, -⟩ := F_elect hPH (c := 1) (by omega)
  have e6 := LQ_elect hQ
  refine lv_iload_n hx hb dL_law_94 rfl (lv_at hl 1 rfl) ?_
  refine lv_if_eq (tgt := 119) hx hb dL_law_95 (by decide) (fun z => absurd z (by decide)) (fun _ => ?_)
  refine lv_aload_n hx hb dL_law_98 rfl (lv_at hl 2 rfl) ?_
  refine lv_iconst (v := Int32.ofInt 1) hx hb dL_law_99 (by decide) ?_
  refine lw_callV hC0 hP hV hS lk_m.2.2.2.2.2.1 mv2_elect (pc_elect hPH (by decide) 1 ⟨by decide, by decide⟩) am_obG rfl (by decide) (rest := []) (Nat.le_of_ble_eq_true rfl) hl.1 dL_law_100 rfl (fun H locs hP hV hS => ?_)
  rw [← eG] at hP
  rw [e6]
  refine lv_bipush (v := Int32.ofInt 6) hx hb dL_law_103 (by decide) ?_
  refine lv_icmp_ne (tgt := 119) hx hb dL_law_105 (by decide) (fun z => absurd rfl z) (fun _ => ?_)
  have hH : LH D K ad s H locs G S1 0 := ⟨hP, by rw [eG]; exact hV, hS, hPG⟩
  refine lv_aload_n hx hb dL_law_108 rfl (lv_at hl 2 rfl) ?_
  refine lw_fam hC0 hH hl.1 dL_law_109 (fun H locs hH => ?_)
  refine lv_if_eq (tgt := 119) hx hb dL_law_112 (by decide) (fun z => absurd z (by decide)) (fun _ => ?_)
  refine lv_iconst (v := nI 1) hx hb dL_law_115 (by decide) ?_
  refine lv_goto (tgt := 120) hx hb dL_law_116 (by decide) ?_
  refine lv_istore_n (lv' := [(2, .int (nI 1)), (3, .int (nI 5)), (1, .ref (ad 6 0)), (0, .ref b)]) hx hb dL_law_120 rfl hl (by decide) rfl (fun ls hl => ?_)
  refine lv_iconst (v := nI 0) hx hb dL_law_121 (by decide) ?_
  refine lv_istore_n (lv' := [(3, .int (nI 0)), (2, .int (nI 1)), (1, .ref (ad 6 0)), (0, .ref b)]) hx hb dL_law_122 rfl hl (by decide) rfl (fun ls hl => ?_)
  exact law_l2 hC0 34 0 (by decide) H locs G S1 ls hH (by omega) (by omega) hl
set_option maxHeartbeats 4000000 in
theorem law_l1 (hC : LC p s m meth c b L xs D K ad) (fuel : Nat) : ∀ (k : Nat), k + fuel = 5 → ∀ (H : Heap) (locs : List Loc) (h : am_H) (S : Nat → Int) (ls : Array Slot), LH D K ad s H locs h S 0 → LQ (gP h) k → lv_has ls 5 [(3, .int (nI k)), (2, .int (nI 1)), (1, .ref (ad 6 0)), (0, .ref b)] → W p l e room_1 s m #[Value.ref b] below meth c H locs 100 2000 (lw_Z below #[Value.ref b] s) (F0 m 30 ls []) := by
  have hC0 := hC
  obtain ⟨⟨hx, hb, hr, hml, hown, hts, hX, hbl, hlk, hgv⟩, hL, hK, hN, hA, hAd⟩ := hC
  induction fuel with
  | zero =>
    intro k hk H locs h S ls hH hQ hl
    have ek : k = 5 := by omega
    subst ek
    refine lv_iload_n hx hb dL_law_30 rfl (lv_at hl 0 rfl) ?_
    refine lv_iconst (v := nI 5) hx hb dL_law_31 (by decide) ?_
    refine lv_icmp_ge (tgt := 94) hx hb dL_law_32 (by decide) (fun _ => ?_) (fun z => absurd (Int32.le_refl _) z)
    exact law_el hC0 hH hQ hl
  | succ fu ih =>
    intro k hk H locs h S ls hH hQ hl
    refine lv_iload_n hx hb dL_law_30 rfl (lv_at hl 0 rfl) ?_
    refine lv_iconst (v := nI 5) hx hb dL_law_31 (by decide) ?_
    refine lv_icmp_ge (tgt := 94) hx hb dL_law_32 (by decide) (fun z => absurd z (nI_ge (by omega) (by decide))) (fun _ => ?_)
    refine lv_iload_n hx hb dL_law_35 rfl (lv_at hl 1 rfl) ?_
    refine lv_if_eq (tgt := 94) hx hb dL_law_36 (by decide) (fun z => absurd z (by decide)) (fun _ => ?_)
    refine lv_aload_n hx hb dL_law_39 rfl (lv_at hl 3 rfl) ?_
    refine lv_iload_n hx hb dL_law_40 rfl (lv_at hl 0 rfl) ?_
    refine lw_cell hC0 hH (k := k) (by omega) hl.1 dL_law_41 (rest := []) (Nat.le_of_ble_eq_true rfl) (fun y H locs hy hH => ?_)
    refine lv_istore (lv' := [(4, .int (Int32.ofInt y)), (3, .int (nI k)), (2, .int (nI 1)), (1, .ref (ad 6 0)), (0, .ref b)]) hx hb dL_law_44 hl (by decide) rfl (fun ls hl => ?_)
    have h0 := hQ.1
    have key : ∀ f : Int, 0 ≤ f ∧ f ≤ 2 → ((k : Int) < 2 → f = 0) → W p l e room_1 s m #[Value.ref b] below meth c H locs 100 2000 (lw_Z below #[Value.ref b] s) (F0 m 69 ls [.int (Int32.ofInt f), .ref (ad 6 0)]) := by
      intro f hf hf0
      obtain ⟨hP, hV, hS, hPH⟩ := hH
      refine lv_iload hx hb dL_law_69 (lv_at hl 0 rfl) ?_
      refine lv_iconst (v := Int32.ofInt 4) hx hb dL_law_71 (by decide) ?_
      refine lv_idiv hx hb dL_law_72 (by decide) ?_
      rw [am_div hy (by decide)]
      refine lv_iconst (v := Int32.ofInt 3) hx hb dL_law_73 (by decide) ?_
      refine lv_irem hx hb dL_law_74 (by decide) ?_
      rw [am_rem (show 0 ≤ y / 4 ∧ y / 4 ≤ 2147483647 by omega) (by decide)]
      obtain ⟨G, S1, eG, hPG, e1, e2⟩ := F_chip hPH hf (sp := y / 4 % 3) (by omega) (by omega)
      refine lw_callV hC0 hP hV hS lk_m.2.2.2.2.1 mv2_chip (pc_chip hPH (by decide) f (y / 4 % 3) ⟨by omega, by omega⟩ ⟨by omega, by omega⟩) am_obG rfl (by decide) (rest := []) (Nat.le_of_ble_eq_true rfl) hl.1 dL_law_75 rfl (fun H locs hP hV hS => ?_)
      rw [← eG] at hP
      rw [e1, h0, ← nI_int (by omega)]
      refine lv_iload_n hx hb dL_law_78 rfl (lv_at hl 1 rfl) ?_
      refine lv_icmp_ne (tgt := 86) hx hb dL_law_79 (by decide) (fun z => absurd rfl z) (fun _ => ?_)
      refine lv_iconst (v := nI 1) hx hb dL_law_82 (by decide) ?_
      refine lv_goto (tgt := 87) hx hb dL_law_83 (by decide) ?_
      refine lv_istore_n (lv' := [(2, .int (nI 1)), (4, .int (Int32.ofInt y)), (3, .int (nI k)), (1, .ref (ad 6 0)), (0, .ref b)]) hx hb dL_law_87 rfl hl (by decide) rfl (fun ls hl => ?_)
      refine lv_iinc (v := nI (k + 1)) (lv' := [(3, .int (nI (k + 1))), (2, .int (nI 1)), (4, .int (Int32.ofInt y)), (1, .ref (ad 6 0)), (0, .ref b)]) hx hb dL_law_88 hl (k := 2) rfl (nI_succ k).symm (by decide) rfl (fun ls hl => ?_)
      refine lv_goto (tgt := 30) hx hb dL_law_91 (by decide) ?_
      refine ih (k + 1) (by omega) H locs G S1 ls ⟨hP, by rw [eG]; exact hV, hS, hPG⟩ ?_ (lv_sub hl [0, 1, 3, 4] rfl)
      rw [e2]
      exact LQ_s hQ (by omega) hf0
    refine lv_aload_n hx hb dL_law_46 rfl (lv_at hl 3 rfl) ?_
    refine lv_iload_n hx hb dL_law_47 rfl (lv_at hl 1 rfl) ?_
    refine lv_iconst (v := nI 2) hx hb dL_law_48 (by decide) ?_
    by_cases k2 : k < 2
    · refine lv_icmp_ge (tgt := 56) hx hb dL_law_49 (by decide) (fun z => absurd z (nI_ge k2 (by decide))) (fun _ => ?_)
      refine lv_iconst (v := Int32.ofInt 0) hx hb dL_law_52 (by decide) ?_
      refine lv_goto (tgt := 69) hx hb dL_law_53 (by decide) ?_
      exact key 0 (by decide) (fun _ => rfl)
    · refine lv_icmp_ge (tgt := 56) hx hb dL_law_49 (by decide) (fun _ => ?_) (fun z => absurd (nI_le (by omega) (by omega)) z)
      refine lv_iload_n hx hb dL_law_56 rfl (lv_at hl 1 rfl) ?_
      refine lv_iconst (v := nI 2) hx hb dL_law_57 (by decide) ?_
      by_cases k3 : k = 2
      · refine lv_icmp_ne (tgt := 65) hx hb dL_law_58 (by decide) (fun z => absurd (by rw [k3]) z) (fun _ => ?_)
        refine lv_iconst (v := Int32.ofInt 1) hx hb dL_law_61 (by decide) ?_
        refine lv_goto (tgt := 69) hx hb dL_law_62 (by decide) ?_
        exact key 1 (by decide) (fun z => by omega)
      · refine lv_icmp_ne (tgt := 65) hx hb dL_law_58 (by decide) (fun _ => ?_) (fun z => absurd ((nI_eq (by omega) (by decide)).mp z) k3)
        refine lv_iload hx hb dL_law_65 (lv_at hl 0 rfl) ?_
        refine lv_iconst (v := Int32.ofInt 3) hx hb dL_law_67 (by decide) ?_
        refine lv_irem hx hb dL_law_68 (by decide) ?_
        rw [am_rem hy (by decide)]
        exact key (y % 3) (by omega) (fun z => by omega)
set_option maxHeartbeats 4000000 in
theorem law_go (hC : LC p s m meth c b L xs D K ad) {H : Heap} {locs : List Loc} (hH : LH D K ad s H locs iH (iX 1) 0) {ls : Array Slot} (hl : lv_has ls 5 [(1, .ref (ad 6 0)), (0, .ref b)]) : W p l e room_1 s m #[Value.ref b] below meth c H locs 100 2000 (lw_Z below #[Value.ref b] s) (F0 m 8 ls []) := by
  have hC0 := hC
  obtain ⟨⟨hx, hb, hr, hml, hown, hts, hX, hbl, hlk, hgv⟩, hL, hK, hN, hA, hAd⟩ := hC
  refine lv_aload_n hx hb dL_law_8 rfl (lv_at hl 0 rfl) ?_
  refine lw_fam hC0 hH hl.1 dL_law_9 (fun H locs hH => ?_)
  refine lv_if_eq (tgt := 26) hx hb dL_law_12 (by decide) (fun z => absurd z (by decide)) (fun _ => ?_)
  refine lv_aload_n hx hb dL_law_15 rfl (lv_at hl 0 rfl) ?_
  refine lw_wrd hC0 hH hl.1 dL_law_16 (fun H locs hH => ?_)
  refine lv_if_eq (tgt := 26) hx hb dL_law_19 (by decide) (fun z => absurd z (by decide)) (fun _ => ?_)
  refine lv_iconst (v := nI 1) hx hb dL_law_22 (by decide) ?_
  refine lv_goto (tgt := 27) hx hb dL_law_23 (by decide) ?_
  refine lv_istore_n (lv' := [(2, .int (nI 1)), (1, .ref (ad 6 0)), (0, .ref b)]) hx hb dL_law_27 rfl hl (by decide) rfl (fun ls hl => ?_)
  refine lv_iconst (v := nI 0) hx hb dL_law_28 (by decide) ?_
  refine lv_istore_n (lv' := [(3, .int (nI 0)), (2, .int (nI 1)), (1, .ref (ad 6 0)), (0, .ref b)]) hx hb dL_law_29 rfl hl (by decide) rfl (fun ls hl => ?_)
  exact law_l1 hC0 5 0 (by decide) H locs iH (iX 1) ls hH LQ_0 hl
end LAWL
