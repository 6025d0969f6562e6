/-! ===== the law's cases ===== -/
section LAWC
variable {p : Program} {l : Launch} {e : Env} {s : State} {m : MethodId} {below : List Frame} {meth : Method} {c : Code} {b L : Nat} {xs : Nat → Int32} {D : va_G} {K : ClassId × ClassId × ClassId} {ad : Nat → Nat → Nat} {H : Heap} {locs : List Loc} {Q : State → Prop}
theorem lk_0 : Cond.methodLink R_law 13 yX2_chip ∈ lw_tbl ∧ Cond.methodLink R_law 17 yX3_chip ∈ lw_tbl := by decide +kernel
theorem lw_c0 (hC : LC p s m meth c b L xs D K ad) {h : am_H} {n : Int} (hH : LH D K ad s H locs h n) (hn : n ≤ 300000000) {i : Nat} (hi : i + 2 < L) {ls : Array Slot} (hl : lv_has ls 4 [(3, .int (nI i)), (2, .ref (ad 7 0)), (1, .ref (ad 6 0)), (0, .ref b)])
    (kk : ∀ (H1 : Heap) (locs1 : List Loc) (h1 : am_H), LH D K ad s H1 locs1 h1 (n + 24000) → W p l e room_1 s m #[Value.ref b] below meth c H1 locs1 96 3326 Q (F0 m 773 ls [])) : W p l e room_1 s m #[Value.ref b] below meth c H locs 96 3326 Q (F0 m 148 ls []) := by
  obtain ⟨hP, hV, hS, hR⟩ := hH
  have hx := hC.1.1
  have hb := hC.1.2.1
  obtain ⟨a, h1, h2, c2, c3, hR2⟩ := sp_chip hR hn (xs (i + 1)).toInt (xs (i + 2)).toInt (i32_R _) (i32_R _)
  refine lv_aload_n hx hb dL_law_148 rfl (lv_at hl 2 rfl) ?_
  refine lw_el hC hS (k := 1) (lv_at hl 3 rfl) (lv_at hl 0 rfl) (by omega) (by decide) dL_law_149 dL_law_150 dL_law_151 dL_law_152 dL_law_153 ?_
  refine lw_el hC hS (k := 2) (lv_at hl 3 rfl) (lv_at hl 0 rfl) (by omega) (by decide) dL_law_154 dL_law_155 dL_law_156 dL_law_157 dL_law_158 ?_
  refine lw_call hC hP hV hS lk_0.1 mv2_chip c2 am_obG rfl (by decide) (rest := []) (Nat.le_of_ble_eq_true rfl) hl.1 dL_law_159 (by simp [am_cv, Int32.ofInt_toInt]) (fun H locs hP hV hS => ?_)
  refine lv_aload_n hx hb dL_law_162 rfl (lv_at hl 1 rfl) ?_
  refine lw_el hC hS (k := 1) (lv_at hl 3 rfl) (lv_at hl 0 rfl) (by omega) (by decide) dL_law_163 dL_law_164 dL_law_165 dL_law_166 dL_law_167 ?_
  refine lw_el hC hS (k := 2) (lv_at hl 3 rfl) (lv_at hl 0 rfl) (by omega) (by decide) dL_law_168 dL_law_169 dL_law_170 dL_law_171 dL_law_172 ?_
  refine lw_call hC hP hV hS lk_0.2 mv3_chip c3 am_obX rfl (by decide) (rest := [.int (Int32.ofInt a)]) (Nat.le_of_ble_eq_true rfl) hl.1 dL_law_173 (by simp [am_cv, Int32.ofInt_toInt]) (fun H locs hP hV hS => ?_)
  refine lv_icmp_eq (tgt := 773) hx hb dL_law_176 (by decide) (fun _ => ?_) (fun z => absurd rfl z)
  exact kk H locs h2 ⟨hP, hV, hS, hR2⟩
theorem lk_1 : Cond.methodLink R_law 18 yX2_elect ∈ lw_tbl ∧ Cond.methodLink R_law 22 yX3_elect ∈ lw_tbl := by decide +kernel
theorem lw_c1 (hC : LC p s m meth c b L xs D K ad) {h : am_H} {n : Int} (hH : LH D K ad s H locs h n) (hn : n ≤ 300000000) {i : Nat} (hi : i + 2 < L) {ls : Array Slot} (hl : lv_has ls 4 [(3, .int (nI i)), (2, .ref (ad 7 0)), (1, .ref (ad 6 0)), (0, .ref b)])
    (kk : ∀ (H1 : Heap) (locs1 : List Loc) (h1 : am_H), LH D K ad s H1 locs1 h1 (n + 24000) → W p l e room_1 s m #[Value.ref b] below meth c H1 locs1 96 3326 Q (F0 m 773 ls [])) : W p l e room_1 s m #[Value.ref b] below meth c H locs 96 3326 Q (F0 m 181 ls []) := by
  obtain ⟨hP, hV, hS, hR⟩ := hH
  have hx := hC.1.1
  have hb := hC.1.2.1
  obtain ⟨a, h1, h2, c2, c3, hR2⟩ := sp_elect hR hn (xs (i + 1)).toInt (i32_R _)
  refine lv_aload_n hx hb dL_law_181 rfl (lv_at hl 2 rfl) ?_
  refine lw_el hC hS (k := 1) (lv_at hl 3 rfl) (lv_at hl 0 rfl) (by omega) (by decide) dL_law_182 dL_law_183 dL_law_184 dL_law_185 dL_law_186 ?_
  refine lw_call hC hP hV hS lk_1.1 mv2_elect c2 am_obG rfl (by decide) (rest := []) (Nat.le_of_ble_eq_true rfl) hl.1 dL_law_187 (by simp [am_cv, Int32.ofInt_toInt]) (fun H locs hP hV hS => ?_)
  refine lv_aload_n hx hb dL_law_190 rfl (lv_at hl 1 rfl) ?_
  refine lw_el hC hS (k := 1) (lv_at hl 3 rfl) (lv_at hl 0 rfl) (by omega) (by decide) dL_law_191 dL_law_192 dL_law_193 dL_law_194 dL_law_195 ?_
  refine lw_call hC hP hV hS lk_1.2 mv3_elect c3 am_obX rfl (by decide) (rest := [.int (Int32.ofInt a)]) (Nat.le_of_ble_eq_true rfl) hl.1 dL_law_196 (by simp [am_cv, Int32.ofInt_toInt]) (fun H locs hP hV hS => ?_)
  refine lv_icmp_eq (tgt := 773) hx hb dL_law_199 (by decide) (fun _ => ?_) (fun z => absurd rfl z)
  exact kk H locs h2 ⟨hP, hV, hS, hR2⟩
theorem lk_2 : Cond.methodLink R_law 23 yX2_kill ∈ lw_tbl ∧ Cond.methodLink R_law 26 yX3_kill ∈ lw_tbl := by decide +kernel
theorem lw_c2 (hC : LC p s m meth c b L xs D K ad) {h : am_H} {n : Int} (hH : LH D K ad s H locs h n) (hn : n ≤ 300000000) {i : Nat} (hi : i + 2 < L) {ls : Array Slot} (hl : lv_has ls 4 [(3, .int (nI i)), (2, .ref (ad 7 0)), (1, .ref (ad 6 0)), (0, .ref b)])
    (kk : ∀ (H1 : Heap) (locs1 : List Loc) (h1 : am_H), LH D K ad s H1 locs1 h1 (n + 24000) → W p l e room_1 s m #[Value.ref b] below meth c H1 locs1 96 3326 Q (F0 m 773 ls [])) : W p l e room_1 s m #[Value.ref b] below meth c H locs 96 3326 Q (F0 m 204 ls []) := by
  obtain ⟨hP, hV, hS, hR⟩ := hH
  have hx := hC.1.1
  have hb := hC.1.2.1
  obtain ⟨a, h1, h2, c2, c3, hR2⟩ := sp_kill hR hn (xs (i + 1)).toInt (i32_R _)
  refine lv_aload_n hx hb dL_law_204 rfl (lv_at hl 2 rfl) ?_
  refine lw_el hC hS (k := 1) (lv_at hl 3 rfl) (lv_at hl 0 rfl) (by omega) (by decide) dL_law_205 dL_law_206 dL_law_207 dL_law_208 dL_law_209 ?_
  refine lw_call hC hP hV hS lk_2.1 mv2_kill c2 am_obG rfl (by decide) (rest := []) (Nat.le_of_ble_eq_true rfl) hl.1 dL_law_210 (by simp [am_cv, Int32.ofInt_toInt]) (fun H locs hP hV hS => ?_)
  refine lv_aload_n hx hb dL_law_213 rfl (lv_at hl 1 rfl) ?_
  refine lw_el hC hS (k := 1) (lv_at hl 3 rfl) (lv_at hl 0 rfl) (by omega) (by decide) dL_law_214 dL_law_215 dL_law_216 dL_law_217 dL_law_218 ?_
  refine lw_call hC hP hV hS lk_2.2 mv3_kill c3 am_obX rfl (by decide) (rest := [.int (Int32.ofInt a)]) (Nat.le_of_ble_eq_true rfl) hl.1 dL_law_219 (by simp [am_cv, Int32.ofInt_toInt]) (fun H locs hP hV hS => ?_)
  refine lv_icmp_eq (tgt := 773) hx hb dL_law_222 (by decide) (fun _ => ?_) (fun z => absurd rfl z)
  exact kk H locs h2 ⟨hP, hV, hS, hR2⟩
theorem lk_3 : Cond.methodLink R_law 27 yX2_breaks ∈ lw_tbl ∧ Cond.methodLink R_law 30 yX3_breaks ∈ lw_tbl := by decide +kernel
theorem lw_c3 (hC : LC p s m meth c b L xs D K ad) {h : am_H} {n : Int} (hH : LH D K ad s H locs h n) (hn : n ≤ 300000000) {i : Nat} (hi : i + 2 < L) {ls : Array Slot} (hl : lv_has ls 4 [(3, .int (nI i)), (2, .ref (ad 7 0)), (1, .ref (ad 6 0)), (0, .ref b)])
    (kk : ∀ (H1 : Heap) (locs1 : List Loc) (h1 : am_H), LH D K ad s H1 locs1 h1 (n + 24000) → W p l e room_1 s m #[Value.ref b] below meth c H1 locs1 96 3326 Q (F0 m 773 ls [])) : W p l e room_1 s m #[Value.ref b] below meth c H locs 96 3326 Q (F0 m 227 ls []) := by
  obtain ⟨hP, hV, hS, hR⟩ := hH
  have hx := hC.1.1
  have hb := hC.1.2.1
  obtain ⟨a, h1, h2, c2, c3, hR2⟩ := sp_breaks hR hn (xs (i + 1)).toInt (xs (i + 2)).toInt (i32_R _) (i32_R _)
  refine lv_aload_n hx hb dL_law_227 rfl (lv_at hl 2 rfl) ?_
  refine lw_el hC hS (k := 1) (lv_at hl 3 rfl) (lv_at hl 0 rfl) (by omega) (by decide) dL_law_228 dL_law_229 dL_law_230 dL_law_231 dL_law_232 ?_
  refine lw_el hC hS (k := 2) (lv_at hl 3 rfl) (lv_at hl 0 rfl) (by omega) (by decide) dL_law_233 dL_law_234 dL_law_235 dL_law_236 dL_law_237 ?_
  refine lw_call hC hP hV hS lk_3.1 mv2_breaks c2 am_obG rfl (by decide) (rest := []) (Nat.le_of_ble_eq_true rfl) hl.1 dL_law_238 (by simp [am_cv, Int32.ofInt_toInt]) (fun H locs hP hV hS => ?_)
  refine lv_aload_n hx hb dL_law_241 rfl (lv_at hl 1 rfl) ?_
  refine lw_el hC hS (k := 1) (lv_at hl 3 rfl) (lv_at hl 0 rfl) (by omega) (by decide) dL_law_242 dL_law_243 dL_law_244 dL_law_245 dL_law_246 ?_
  refine lw_el hC hS (k := 2) (lv_at hl 3 rfl) (lv_at hl 0 rfl) (by omega) (by decide) dL_law_247 dL_law_248 dL_law_249 dL_law_250 dL_law_251 ?_
  refine lw_call hC hP hV hS lk_3.2 mv3_breaks c3 am_obX rfl (by decide) (rest := [.int (Int32.ofInt a)]) (Nat.le_of_ble_eq_true rfl) hl.1 dL_law_252 (by simp [am_cv, Int32.ofInt_toInt]) (fun H locs hP hV hS => ?_)
  refine lv_icmp_eq (tgt := 773) hx hb dL_law_255 (by decide) (fun _ => ?_) (fun z => absurd rfl z)
  exact kk H locs h2 ⟨hP, hV, hS, hR2⟩
theorem lk_4 : Cond.methodLink R_law 31 yX2_chipOf ∈ lw_tbl ∧ Cond.methodLink R_law 34 yX3_chipOf ∈ lw_tbl := by decide +kernel
theorem lw_c4 (hC : LC p s m meth c b L xs D K ad) {h : am_H} {n : Int} (hH : LH D K ad s H locs h n) (hn : n ≤ 300000000) {i : Nat} (hi : i + 2 < L) {ls : Array Slot} (hl : lv_has ls 4 [(3, .int (nI i)), (2, .ref (ad 7 0)), (1, .ref (ad 6 0)), (0, .ref b)])
    (kk : ∀ (H1 : Heap) (locs1 : List Loc) (h1 : am_H), LH D K ad s H1 locs1 h1 (n + 24000) → W p l e room_1 s m #[Value.ref b] below meth c H1 locs1 96 3326 Q (F0 m 773 ls [])) : W p l e room_1 s m #[Value.ref b] below meth c H locs 96 3326 Q (F0 m 260 ls []) := by
  obtain ⟨hP, hV, hS, hR⟩ := hH
  have hx := hC.1.1
  have hb := hC.1.2.1
  obtain ⟨a, h1, h2, c2, c3, hR2⟩ := sp_chipOf hR (xs (i + 1)).toInt (xs (i + 2)).toInt (i32_R _) (i32_R _)
  refine lv_aload_n hx hb dL_law_260 rfl (lv_at hl 2 rfl) ?_
  refine lw_el hC hS (k := 1) (lv_at hl 3 rfl) (lv_at hl 0 rfl) (by omega) (by decide) dL_law_261 dL_law_262 dL_law_263 dL_law_264 dL_law_265 ?_
  refine lw_el hC hS (k := 2) (lv_at hl 3 rfl) (lv_at hl 0 rfl) (by omega) (by decide) dL_law_266 dL_law_267 dL_law_268 dL_law_269 dL_law_270 ?_
  refine lw_call hC hP hV hS lk_4.1 mv2_chipOf c2 am_obG rfl (by decide) (rest := []) (Nat.le_of_ble_eq_true rfl) hl.1 dL_law_271 (by simp [am_cv, Int32.ofInt_toInt]) (fun H locs hP hV hS => ?_)
  refine lv_aload_n hx hb dL_law_274 rfl (lv_at hl 1 rfl) ?_
  refine lw_el hC hS (k := 1) (lv_at hl 3 rfl) (lv_at hl 0 rfl) (by omega) (by decide) dL_law_275 dL_law_276 dL_law_277 dL_law_278 dL_law_279 ?_
  refine lw_el hC hS (k := 2) (lv_at hl 3 rfl) (lv_at hl 0 rfl) (by omega) (by decide) dL_law_280 dL_law_281 dL_law_282 dL_law_283 dL_law_284 ?_
  refine lw_call hC hP hV hS lk_4.2 mv3_chipOf c3 am_obX rfl (by decide) (rest := [.int (Int32.ofInt a)]) (Nat.le_of_ble_eq_true rfl) hl.1 dL_law_285 (by simp [am_cv, Int32.ofInt_toInt]) (fun H locs hP hV hS => ?_)
  refine lv_icmp_eq (tgt := 773) hx hb dL_law_288 (by decide) (fun _ => ?_) (fun z => absurd rfl z)
  exact kk H locs h2 ⟨hP, hV, hS, hR2⟩
theorem lk_5 : Cond.methodLink R_law 35 yX2_rowOf ∈ lw_tbl ∧ Cond.methodLink R_law 38 yX3_rowOf ∈ lw_tbl := by decide +kernel
theorem lw_c5 (hC : LC p s m meth c b L xs D K ad) {h : am_H} {n : Int} (hH : LH D K ad s H locs h n) (hn : n ≤ 300000000) {i : Nat} (hi : i + 2 < L) {ls : Array Slot} (hl : lv_has ls 4 [(3, .int (nI i)), (2, .ref (ad 7 0)), (1, .ref (ad 6 0)), (0, .ref b)])
    (kk : ∀ (H1 : Heap) (locs1 : List Loc) (h1 : am_H), LH D K ad s H1 locs1 h1 (n + 24000) → W p l e room_1 s m #[Value.ref b] below meth c H1 locs1 96 3326 Q (F0 m 773 ls [])) : W p l e room_1 s m #[Value.ref b] below meth c H locs 96 3326 Q (F0 m 293 ls []) := by
  obtain ⟨hP, hV, hS, hR⟩ := hH
  have hx := hC.1.1
  have hb := hC.1.2.1
  obtain ⟨a, h1, h2, c2, c3, hR2⟩ := sp_rowOf hR (xs (i + 1)).toInt (xs (i + 2)).toInt (i32_R _) (i32_R _)
  refine lv_aload_n hx hb dL_law_293 rfl (lv_at hl 2 rfl) ?_
  refine lw_el hC hS (k := 1) (lv_at hl 3 rfl) (lv_at hl 0 rfl) (by omega) (by decide) dL_law_294 dL_law_295 dL_law_296 dL_law_297 dL_law_298 ?_
  refine lw_el hC hS (k := 2) (lv_at hl 3 rfl) (lv_at hl 0 rfl) (by omega) (by decide) dL_law_299 dL_law_300 dL_law_301 dL_law_302 dL_law_303 ?_
  refine lw_call hC hP hV hS lk_5.1 mv2_rowOf c2 am_obG rfl (by decide) (rest := []) (Nat.le_of_ble_eq_true rfl) hl.1 dL_law_304 (by simp [am_cv, Int32.ofInt_toInt]) (fun H locs hP hV hS => ?_)
  refine lv_aload_n hx hb dL_law_307 rfl (lv_at hl 1 rfl) ?_
  refine lw_el hC hS (k := 1) (lv_at hl 3 rfl) (lv_at hl 0 rfl) (by omega) (by decide) dL_law_308 dL_law_309 dL_law_310 dL_law_311 dL_law_312 ?_
  refine lw_el hC hS (k := 2) (lv_at hl 3 rfl) (lv_at hl 0 rfl) (by omega) (by decide) dL_law_313 dL_law_314 dL_law_315 dL_law_316 dL_law_317 ?_
  refine lw_call hC hP hV hS lk_5.2 mv3_rowOf c3 am_obX rfl (by decide) (rest := [.int (Int32.ofInt a)]) (Nat.le_of_ble_eq_true rfl) hl.1 dL_law_318 (by simp [am_cv, Int32.ofInt_toInt]) (fun H locs hP hV hS => ?_)
  refine lv_icmp_eq (tgt := 773) hx hb dL_law_321 (by decide) (fun _ => ?_) (fun z => absurd rfl z)
  exact kk H locs h2 ⟨hP, hV, hS, hR2⟩
theorem lk_6 : Cond.methodLink R_law 39 yX2_put ∈ lw_tbl ∧ Cond.methodLink R_law 42 yX3_put ∈ lw_tbl := by decide +kernel
theorem lw_c6 (hC : LC p s m meth c b L xs D K ad) {h : am_H} {n : Int} (hH : LH D K ad s H locs h n) (hn : n ≤ 300000000) {i : Nat} (hi : i + 2 < L) {ls : Array Slot} (hl : lv_has ls 4 [(3, .int (nI i)), (2, .ref (ad 7 0)), (1, .ref (ad 6 0)), (0, .ref b)])
    (kk : ∀ (H1 : Heap) (locs1 : List Loc) (h1 : am_H), LH D K ad s H1 locs1 h1 (n + 24000) → W p l e room_1 s m #[Value.ref b] below meth c H1 locs1 96 3326 Q (F0 m 773 ls [])) : W p l e room_1 s m #[Value.ref b] below meth c H locs 96 3326 Q (F0 m 326 ls []) := by
  obtain ⟨hP, hV, hS, hR⟩ := hH
  have hx := hC.1.1
  have hb := hC.1.2.1
  obtain ⟨a, h1, h2, c2, c3, hR2⟩ := sp_put hR hn (xs (i + 1)).toInt (xs (i + 2)).toInt (i32_R _) (i32_R _)
  refine lv_aload_n hx hb dL_law_326 rfl (lv_at hl 2 rfl) ?_
  refine lw_el hC hS (k := 1) (lv_at hl 3 rfl) (lv_at hl 0 rfl) (by omega) (by decide) dL_law_327 dL_law_328 dL_law_329 dL_law_330 dL_law_331 ?_
  refine lw_el hC hS (k := 2) (lv_at hl 3 rfl) (lv_at hl 0 rfl) (by omega) (by decide) dL_law_332 dL_law_333 dL_law_334 dL_law_335 dL_law_336 ?_
  refine lw_call hC hP hV hS lk_6.1 mv2_put c2 am_obG rfl (by decide) (rest := []) (Nat.le_of_ble_eq_true rfl) hl.1 dL_law_337 (by simp [am_cv, Int32.ofInt_toInt]) (fun H locs hP hV hS => ?_)
  refine lv_aload_n hx hb dL_law_340 rfl (lv_at hl 1 rfl) ?_
  refine lw_el hC hS (k := 1) (lv_at hl 3 rfl) (lv_at hl 0 rfl) (by omega) (by decide) dL_law_341 dL_law_342 dL_law_343 dL_law_344 dL_law_345 ?_
  refine lw_el hC hS (k := 2) (lv_at hl 3 rfl) (lv_at hl 0 rfl) (by omega) (by decide) dL_law_346 dL_law_347 dL_law_348 dL_law_349 dL_law_350 ?_
  refine lw_call hC hP hV hS lk_6.2 mv3_put c3 am_obX rfl (by decide) (rest := [.int (Int32.ofInt a)]) (Nat.le_of_ble_eq_true rfl) hl.1 dL_law_351 (by simp [am_cv, Int32.ofInt_toInt]) (fun H locs hP hV hS => ?_)
  refine lv_icmp_eq (tgt := 773) hx hb dL_law_354 (by decide) (fun _ => ?_) (fun z => absurd rfl z)
  exact kk H locs h2 ⟨hP, hV, hS, hR2⟩
theorem lk_7 : Cond.methodLink R_law 43 yX2_write ∈ lw_tbl ∧ Cond.methodLink R_law 46 yX3_write ∈ lw_tbl := by decide +kernel
theorem lw_c7 (hC : LC p s m meth c b L xs D K ad) {h : am_H} {n : Int} (hH : LH D K ad s H locs h n) (hn : n ≤ 300000000) {i : Nat} (hi : i + 2 < L) {ls : Array Slot} (hl : lv_has ls 4 [(3, .int (nI i)), (2, .ref (ad 7 0)), (1, .ref (ad 6 0)), (0, .ref b)])
    (kk : ∀ (H1 : Heap) (locs1 : List Loc) (h1 : am_H), LH D K ad s H1 locs1 h1 (n + 24000) → W p l e room_1 s m #[Value.ref b] below meth c H1 locs1 96 3326 Q (F0 m 773 ls [])) : W p l e room_1 s m #[Value.ref b] below meth c H locs 96 3326 Q (F0 m 359 ls []) := by
  obtain ⟨hP, hV, hS, hR⟩ := hH
  have hx := hC.1.1
  have hb := hC.1.2.1
  obtain ⟨a, h1, h2, c2, c3, hR2⟩ := sp_write hR hn (xs (i + 1)).toInt (xs (i + 2)).toInt (i32_R _) (i32_R _)
  refine lv_aload_n hx hb dL_law_359 rfl (lv_at hl 2 rfl) ?_
  refine lw_el hC hS (k := 1) (lv_at hl 3 rfl) (lv_at hl 0 rfl) (by omega) (by decide) dL_law_360 dL_law_361 dL_law_362 dL_law_363 dL_law_364 ?_
  refine lw_el hC hS (k := 2) (lv_at hl 3 rfl) (lv_at hl 0 rfl) (by omega) (by decide) dL_law_365 dL_law_366 dL_law_367 dL_law_368 dL_law_369 ?_
  refine lw_call hC hP hV hS lk_7.1 mv2_write c2 am_obG rfl (by decide) (rest := []) (Nat.le_of_ble_eq_true rfl) hl.1 dL_law_370 (by simp [am_cv, Int32.ofInt_toInt]) (fun H locs hP hV hS => ?_)
  refine lv_aload_n hx hb dL_law_373 rfl (lv_at hl 1 rfl) ?_
  refine lw_el hC hS (k := 1) (lv_at hl 3 rfl) (lv_at hl 0 rfl) (by omega) (by decide) dL_law_374 dL_law_375 dL_law_376 dL_law_377 dL_law_378 ?_
  refine lw_el hC hS (k := 2) (lv_at hl 3 rfl) (lv_at hl 0 rfl) (by omega) (by decide) dL_law_379 dL_law_380 dL_law_381 dL_law_382 dL_law_383 ?_
  refine lw_call hC hP hV hS lk_7.2 mv3_write c3 am_obX rfl (by decide) (rest := [.int (Int32.ofInt a)]) (Nat.le_of_ble_eq_true rfl) hl.1 dL_law_384 (by simp [am_cv, Int32.ofInt_toInt]) (fun H locs hP hV hS => ?_)
  refine lv_icmp_eq (tgt := 773) hx hb dL_law_387 (by decide) (fun _ => ?_) (fun z => absurd rfl z)
  exact kk H locs h2 ⟨hP, hV, hS, hR2⟩
theorem lk_8 : Cond.methodLink R_law 47 yX2_read ∈ lw_tbl ∧ Cond.methodLink R_law 50 yX3_read ∈ lw_tbl := by decide +kernel
theorem lw_c8 (hC : LC p s m meth c b L xs D K ad) {h : am_H} {n : Int} (hH : LH D K ad s H locs h n) (hn : n ≤ 300000000) {i : Nat} (hi : i + 2 < L) {ls : Array Slot} (hl : lv_has ls 4 [(3, .int (nI i)), (2, .ref (ad 7 0)), (1, .ref (ad 6 0)), (0, .ref b)])
    (kk : ∀ (H1 : Heap) (locs1 : List Loc) (h1 : am_H), LH D K ad s H1 locs1 h1 (n + 24000) → W p l e room_1 s m #[Value.ref b] below meth c H1 locs1 96 3326 Q (F0 m 773 ls [])) : W p l e room_1 s m #[Value.ref b] below meth c H locs 96 3326 Q (F0 m 392 ls []) := by
  obtain ⟨hP, hV, hS, hR⟩ := hH
  have hx := hC.1.1
  have hb := hC.1.2.1
  obtain ⟨a, h1, h2, c2, c3, hR2⟩ := sp_read hR (xs (i + 1)).toInt (i32_R _)
  refine lv_aload_n hx hb dL_law_392 rfl (lv_at hl 2 rfl) ?_
  refine lw_el hC hS (k := 1) (lv_at hl 3 rfl) (lv_at hl 0 rfl) (by omega) (by decide) dL_law_393 dL_law_394 dL_law_395 dL_law_396 dL_law_397 ?_
  refine lw_call hC hP hV hS lk_8.1 mv2_read c2 am_obG rfl (by decide) (rest := []) (Nat.le_of_ble_eq_true rfl) hl.1 dL_law_398 (by simp [am_cv, Int32.ofInt_toInt]) (fun H locs hP hV hS => ?_)
  refine lv_aload_n hx hb dL_law_401 rfl (lv_at hl 1 rfl) ?_
  refine lw_el hC hS (k := 1) (lv_at hl 3 rfl) (lv_at hl 0 rfl) (by omega) (by decide) dL_law_402 dL_law_403 dL_law_404 dL_law_405 dL_law_406 ?_
  refine lw_call hC hP hV hS lk_8.2 mv3_read c3 am_obX rfl (by decide) (rest := [.int (Int32.ofInt a)]) (Nat.le_of_ble_eq_true rfl) hl.1 dL_law_407 (by simp [am_cv, Int32.ofInt_toInt]) (fun H locs hP hV hS => ?_)
  refine lv_icmp_eq (tgt := 773) hx hb dL_law_410 (by decide) (fun _ => ?_) (fun z => absurd rfl z)
  exact kk H locs h2 ⟨hP, hV, hS, hR2⟩
theorem lk_9 : Cond.methodLink R_law 51 yX2_carry ∈ lw_tbl ∧ Cond.methodLink R_law 54 yX3_carry ∈ lw_tbl := by decide +kernel
theorem lw_c9 (hC : LC p s m meth c b L xs D K ad) {h : am_H} {n : Int} (hH : LH D K ad s H locs h n) (hn : n ≤ 300000000) {i : Nat} (hi : i + 2 < L) {ls : Array Slot} (hl : lv_has ls 4 [(3, .int (nI i)), (2, .ref (ad 7 0)), (1, .ref (ad 6 0)), (0, .ref b)])
    (kk : ∀ (H1 : Heap) (locs1 : List Loc) (h1 : am_H), LH D K ad s H1 locs1 h1 (n + 24000) → W p l e room_1 s m #[Value.ref b] below meth c H1 locs1 96 3326 Q (F0 m 773 ls [])) : W p l e room_1 s m #[Value.ref b] below meth c H locs 96 3326 Q (F0 m 415 ls []) := by
  obtain ⟨hP, hV, hS, hR⟩ := hH
  have hx := hC.1.1
  have hb := hC.1.2.1
  obtain ⟨a, h1, h2, c2, c3, hR2⟩ := sp_carry hR hn (xs (i + 1)).toInt (xs (i + 2)).toInt (i32_R _) (i32_R _)
  refine lv_aload_n hx hb dL_law_415 rfl (lv_at hl 2 rfl) ?_
  refine lw_el hC hS (k := 1) (lv_at hl 3 rfl) (lv_at hl 0 rfl) (by omega) (by decide) dL_law_416 dL_law_417 dL_law_418 dL_law_419 dL_law_420 ?_
  refine lw_el hC hS (k := 2) (lv_at hl 3 rfl) (lv_at hl 0 rfl) (by omega) (by decide) dL_law_421 dL_law_422 dL_law_423 dL_law_424 dL_law_425 ?_
  refine lw_call hC hP hV hS lk_9.1 mv2_carry c2 am_obG rfl (by decide) (rest := []) (Nat.le_of_ble_eq_true rfl) hl.1 dL_law_426 (by simp [am_cv, Int32.ofInt_toInt]) (fun H locs hP hV hS => ?_)
  refine lv_aload_n hx hb dL_law_429 rfl (lv_at hl 1 rfl) ?_
  refine lw_el hC hS (k := 1) (lv_at hl 3 rfl) (lv_at hl 0 rfl) (by omega) (by decide) dL_law_430 dL_law_431 dL_law_432 dL_law_433 dL_law_434 ?_
  refine lw_el hC hS (k := 2) (lv_at hl 3 rfl) (lv_at hl 0 rfl) (by omega) (by decide) dL_law_435 dL_law_436 dL_law_437 dL_law_438 dL_law_439 ?_
  refine lw_call hC hP hV hS lk_9.2 mv3_carry c3 am_obX rfl (by decide) (rest := [.int (Int32.ofInt a)]) (Nat.le_of_ble_eq_true rfl) hl.1 dL_law_440 (by simp [am_cv, Int32.ofInt_toInt]) (fun H locs hP hV hS => ?_)
  refine lv_icmp_eq (tgt := 773) hx hb dL_law_443 (by decide) (fun _ => ?_) (fun z => absurd rfl z)
  exact kk H locs h2 ⟨hP, hV, hS, hR2⟩
theorem lk_10 : Cond.methodLink R_law 55 yX2_empty ∈ lw_tbl ∧ Cond.methodLink R_law 58 yX3_empty ∈ lw_tbl := by decide +kernel
theorem lw_c10 (hC : LC p s m meth c b L xs D K ad) {h : am_H} {n : Int} (hH : LH D K ad s H locs h n) (hn : n ≤ 300000000) {i : Nat} (hi : i + 2 < L) {ls : Array Slot} (hl : lv_has ls 4 [(3, .int (nI i)), (2, .ref (ad 7 0)), (1, .ref (ad 6 0)), (0, .ref b)])
    (kk : ∀ (H1 : Heap) (locs1 : List Loc) (h1 : am_H), LH D K ad s H1 locs1 h1 (n + 24000) → W p l e room_1 s m #[Value.ref b] below meth c H1 locs1 96 3326 Q (F0 m 773 ls [])) : W p l e room_1 s m #[Value.ref b] below meth c H locs 96 3326 Q (F0 m 448 ls []) := by
  obtain ⟨hP, hV, hS, hR⟩ := hH
  have hx := hC.1.1
  have hb := hC.1.2.1
  obtain ⟨a, h1, h2, c2, c3, hR2⟩ := sp_empty hR hn (xs (i + 1)).toInt (i32_R _)
  refine lv_aload_n hx hb dL_law_448 rfl (lv_at hl 2 rfl) ?_
  refine lw_el hC hS (k := 1) (lv_at hl 3 rfl) (lv_at hl 0 rfl) (by omega) (by decide) dL_law_449 dL_law_450 dL_law_451 dL_law_452 dL_law_453 ?_
  refine lw_call hC hP hV hS lk_10.1 mv2_empty c2 am_obG rfl (by decide) (rest := []) (Nat.le_of_ble_eq_true rfl) hl.1 dL_law_454 (by simp [am_cv, Int32.ofInt_toInt]) (fun H locs hP hV hS => ?_)
  refine lv_aload_n hx hb dL_law_457 rfl (lv_at hl 1 rfl) ?_
  refine lw_el hC hS (k := 1) (lv_at hl 3 rfl) (lv_at hl 0 rfl) (by omega) (by decide) dL_law_458 dL_law_459 dL_law_460 dL_law_461 dL_law_462 ?_
  refine lw_call hC hP hV hS lk_10.2 mv3_empty c3 am_obX rfl (by decide) (rest := [.int (Int32.ofInt a)]) (Nat.le_of_ble_eq_true rfl) hl.1 dL_law_463 (by simp [am_cv, Int32.ofInt_toInt]) (fun H locs hP hV hS => ?_)
  refine lv_icmp_eq (tgt := 773) hx hb dL_law_466 (by decide) (fun _ => ?_) (fun z => absurd rfl z)
  exact kk H locs h2 ⟨hP, hV, hS, hR2⟩
theorem lk_11 : Cond.methodLink R_law 59 yX2_wordOf ∈ lw_tbl ∧ Cond.methodLink R_law 62 yX3_wordOf ∈ lw_tbl := by decide +kernel
theorem lw_c11 (hC : LC p s m meth c b L xs D K ad) {h : am_H} {n : Int} (hH : LH D K ad s H locs h n) (hn : n ≤ 300000000) {i : Nat} (hi : i + 2 < L) {ls : Array Slot} (hl : lv_has ls 4 [(3, .int (nI i)), (2, .ref (ad 7 0)), (1, .ref (ad 6 0)), (0, .ref b)])
    (kk : ∀ (H1 : Heap) (locs1 : List Loc) (h1 : am_H), LH D K ad s H1 locs1 h1 (n + 24000) → W p l e room_1 s m #[Value.ref b] below meth c H1 locs1 96 3326 Q (F0 m 773 ls [])) : W p l e room_1 s m #[Value.ref b] below meth c H locs 96 3326 Q (F0 m 471 ls []) := by
  obtain ⟨hP, hV, hS, hR⟩ := hH
  have hx := hC.1.1
  have hb := hC.1.2.1
  obtain ⟨a, h1, h2, c2, c3, hR2⟩ := sp_wordOf hR (xs (i + 1)).toInt (xs (i + 2)).toInt (i32_R _) (i32_R _)
  refine lv_aload_n hx hb dL_law_471 rfl (lv_at hl 2 rfl) ?_
  refine lw_el hC hS (k := 1) (lv_at hl 3 rfl) (lv_at hl 0 rfl) (by omega) (by decide) dL_law_472 dL_law_473 dL_law_474 dL_law_475 dL_law_476 ?_
  refine lw_el hC hS (k := 2) (lv_at hl 3 rfl) (lv_at hl 0 rfl) (by omega) (by decide) dL_law_477 dL_law_478 dL_law_479 dL_law_480 dL_law_481 ?_
  refine lw_call hC hP hV hS lk_11.1 mv2_wordOf c2 am_obG rfl (by decide) (rest := []) (Nat.le_of_ble_eq_true rfl) hl.1 dL_law_482 (by simp [am_cv, Int32.ofInt_toInt]) (fun H locs hP hV hS => ?_)
  refine lv_aload_n hx hb dL_law_485 rfl (lv_at hl 1 rfl) ?_
  refine lw_el hC hS (k := 1) (lv_at hl 3 rfl) (lv_at hl 0 rfl) (by omega) (by decide) dL_law_486 dL_law_487 dL_law_488 dL_law_489 dL_law_490 ?_
  refine lw_el hC hS (k := 2) (lv_at hl 3 rfl) (lv_at hl 0 rfl) (by omega) (by decide) dL_law_491 dL_law_492 dL_law_493 dL_law_494 dL_law_495 ?_
  refine lw_call hC hP hV hS lk_11.2 mv3_wordOf c3 am_obX rfl (by decide) (rest := [.int (Int32.ofInt a)]) (Nat.le_of_ble_eq_true rfl) hl.1 dL_law_496 (by simp [am_cv, Int32.ofInt_toInt]) (fun H locs hP hV hS => ?_)
  refine lv_icmp_eq (tgt := 773) hx hb dL_law_499 (by decide) (fun _ => ?_) (fun z => absurd rfl z)
  exact kk H locs h2 ⟨hP, hV, hS, hR2⟩
theorem lk_12 : Cond.methodLink R_law 63 yX2_familyOf ∈ lw_tbl ∧ Cond.methodLink R_law 66 yX3_familyOf ∈ lw_tbl := by decide +kernel
theorem lw_c12 (hC : LC p s m meth c b L xs D K ad) {h : am_H} {n : Int} (hH : LH D K ad s H locs h n) (hn : n ≤ 300000000) {i : Nat} (hi : i + 2 < L) {ls : Array Slot} (hl : lv_has ls 4 [(3, .int (nI i)), (2, .ref (ad 7 0)), (1, .ref (ad 6 0)), (0, .ref b)])
    (kk : ∀ (H1 : Heap) (locs1 : List Loc) (h1 : am_H), LH D K ad s H1 locs1 h1 (n + 24000) → W p l e room_1 s m #[Value.ref b] below meth c H1 locs1 96 3326 Q (F0 m 773 ls [])) : W p l e room_1 s m #[Value.ref b] below meth c H locs 96 3326 Q (F0 m 504 ls []) := by
  obtain ⟨hP, hV, hS, hR⟩ := hH
  have hx := hC.1.1
  have hb := hC.1.2.1
  obtain ⟨a, h1, h2, c2, c3, hR2⟩ := sp_familyOf hR (xs (i + 1)).toInt (xs (i + 2)).toInt (i32_R _) (i32_R _)
  refine lv_aload_n hx hb dL_law_504 rfl (lv_at hl 2 rfl) ?_
  refine lw_el hC hS (k := 1) (lv_at hl 3 rfl) (lv_at hl 0 rfl) (by omega) (by decide) dL_law_505 dL_law_506 dL_law_507 dL_law_508 dL_law_509 ?_
  refine lw_el hC hS (k := 2) (lv_at hl 3 rfl) (lv_at hl 0 rfl) (by omega) (by decide) dL_law_510 dL_law_511 dL_law_512 dL_law_513 dL_law_514 ?_
  refine lw_call hC hP hV hS lk_12.1 mv2_familyOf c2 am_obG rfl (by decide) (rest := []) (Nat.le_of_ble_eq_true rfl) hl.1 dL_law_515 (by simp [am_cv, Int32.ofInt_toInt]) (fun H locs hP hV hS => ?_)
  refine lv_aload_n hx hb dL_law_518 rfl (lv_at hl 1 rfl) ?_
  refine lw_el hC hS (k := 1) (lv_at hl 3 rfl) (lv_at hl 0 rfl) (by omega) (by decide) dL_law_519 dL_law_520 dL_law_521 dL_law_522 dL_law_523 ?_
  refine lw_el hC hS (k := 2) (lv_at hl 3 rfl) (lv_at hl 0 rfl) (by omega) (by decide) dL_law_524 dL_law_525 dL_law_526 dL_law_527 dL_law_528 ?_
  refine lw_call hC hP hV hS lk_12.2 mv3_familyOf c3 am_obX rfl (by decide) (rest := [.int (Int32.ofInt a)]) (Nat.le_of_ble_eq_true rfl) hl.1 dL_law_529 (by simp [am_cv, Int32.ofInt_toInt]) (fun H locs hP hV hS => ?_)
  refine lv_icmp_eq (tgt := 773) hx hb dL_law_532 (by decide) (fun _ => ?_) (fun z => absurd rfl z)
  exact kk H locs h2 ⟨hP, hV, hS, hR2⟩
theorem lk_13 : Cond.methodLink R_law 67 yX2_tick ∈ lw_tbl ∧ Cond.methodLink R_law 70 yX3_tick ∈ lw_tbl := by decide +kernel
theorem lw_c13 (hC : LC p s m meth c b L xs D K ad) {h : am_H} {n : Int} (hH : LH D K ad s H locs h n) (hn : n ≤ 300000000) {i : Nat} (hi : i + 2 < L) {ls : Array Slot} (hl : lv_has ls 4 [(3, .int (nI i)), (2, .ref (ad 7 0)), (1, .ref (ad 6 0)), (0, .ref b)])
    (kk : ∀ (H1 : Heap) (locs1 : List Loc) (h1 : am_H), LH D K ad s H1 locs1 h1 (n + 24000) → W p l e room_1 s m #[Value.ref b] below meth c H1 locs1 96 3326 Q (F0 m 773 ls [])) : W p l e room_1 s m #[Value.ref b] below meth c H locs 96 3326 Q (F0 m 537 ls []) := by
  obtain ⟨hP, hV, hS, hR⟩ := hH
  have hx := hC.1.1
  have hb := hC.1.2.1
  obtain ⟨a, h1, h2, c2, c3, hR2⟩ := sp_tick hR hn (xs (i + 1)).toInt (i32_R _)
  refine lv_aload_n hx hb dL_law_537 rfl (lv_at hl 2 rfl) ?_
  refine lw_el hC hS (k := 1) (lv_at hl 3 rfl) (lv_at hl 0 rfl) (by omega) (by decide) dL_law_538 dL_law_539 dL_law_540 dL_law_541 dL_law_542 ?_
  refine lw_call hC hP hV hS lk_13.1 mv2_tick c2 am_obG rfl (by decide) (rest := []) (Nat.le_of_ble_eq_true rfl) hl.1 dL_law_543 (by simp [am_cv, Int32.ofInt_toInt]) (fun H locs hP hV hS => ?_)
  refine lv_aload_n hx hb dL_law_546 rfl (lv_at hl 1 rfl) ?_
  refine lw_el hC hS (k := 1) (lv_at hl 3 rfl) (lv_at hl 0 rfl) (by omega) (by decide) dL_law_547 dL_law_548 dL_law_549 dL_law_550 dL_law_551 ?_
  refine lw_call hC hP hV hS lk_13.2 mv3_tick c3 am_obX rfl (by decide) (rest := [.int (Int32.ofInt a)]) (Nat.le_of_ble_eq_true rfl) hl.1 dL_law_552 (by simp [am_cv, Int32.ofInt_toInt]) (fun H locs hP hV hS => ?_)
  refine lv_icmp_eq (tgt := 773) hx hb dL_law_555 (by decide) (fun _ => ?_) (fun z => absurd rfl z)
  exact kk H locs h2 ⟨hP, hV, hS, hR2⟩
theorem lk_14 : Cond.methodLink R_law 71 yX2_loss ∈ lw_tbl ∧ Cond.methodLink R_law 74 yX3_loss ∈ lw_tbl := by decide +kernel
theorem lw_c14 (hC : LC p s m meth c b L xs D K ad) {h : am_H} {n : Int} (hH : LH D K ad s H locs h n) (hn : n ≤ 300000000) {i : Nat} (hi : i + 2 < L) {ls : Array Slot} (hl : lv_has ls 4 [(3, .int (nI i)), (2, .ref (ad 7 0)), (1, .ref (ad 6 0)), (0, .ref b)])
    (kk : ∀ (H1 : Heap) (locs1 : List Loc) (h1 : am_H), LH D K ad s H1 locs1 h1 (n + 24000) → W p l e room_1 s m #[Value.ref b] below meth c H1 locs1 96 3326 Q (F0 m 773 ls [])) : W p l e room_1 s m #[Value.ref b] below meth c H locs 96 3326 Q (F0 m 560 ls []) := by
  obtain ⟨hP, hV, hS, hR⟩ := hH
  have hx := hC.1.1
  have hb := hC.1.2.1
  obtain ⟨a, h1, h2, c2, c3, hR2⟩ := sp_loss hR hn (xs (i + 1)).toInt (xs (i + 2)).toInt (i32_R _) (i32_R _)
  refine lv_aload_n hx hb dL_law_560 rfl (lv_at hl 2 rfl) ?_
  refine lw_el hC hS (k := 1) (lv_at hl 3 rfl) (lv_at hl 0 rfl) (by omega) (by decide) dL_law_561 dL_law_562 dL_law_563 dL_law_564 dL_law_565 ?_
  refine lw_el hC hS (k := 2) (lv_at hl 3 rfl) (lv_at hl 0 rfl) (by omega) (by decide) dL_law_566 dL_law_567 dL_law_568 dL_law_569 dL_law_570 ?_
  refine lw_call hC hP hV hS lk_14.1 mv2_loss c2 am_obG rfl (by decide) (rest := []) (Nat.le_of_ble_eq_true rfl) hl.1 dL_law_571 (by simp [am_cv, Int32.ofInt_toInt]) (fun H locs hP hV hS => ?_)
  refine lv_aload_n hx hb dL_law_574 rfl (lv_at hl 1 rfl) ?_
  refine lw_el hC hS (k := 1) (lv_at hl 3 rfl) (lv_at hl 0 rfl) (by omega) (by decide) dL_law_575 dL_law_576 dL_law_577 dL_law_578 dL_law_579 ?_
  refine lw_el hC hS (k := 2) (lv_at hl 3 rfl) (lv_at hl 0 rfl) (by omega) (by decide) dL_law_580 dL_law_581 dL_law_582 dL_law_583 dL_law_584 ?_
  refine lw_call hC hP hV hS lk_14.2 mv3_loss c3 am_obX rfl (by decide) (rest := [.int (Int32.ofInt a)]) (Nat.le_of_ble_eq_true rfl) hl.1 dL_law_585 (by simp [am_cv, Int32.ofInt_toInt]) (fun H locs hP hV hS => ?_)
  refine lv_icmp_eq (tgt := 773) hx hb dL_law_588 (by decide) (fun _ => ?_) (fun z => absurd rfl z)
  exact kk H locs h2 ⟨hP, hV, hS, hR2⟩
theorem lk_15 : Cond.methodLink R_law 75 yX2_safe ∈ lw_tbl ∧ Cond.methodLink R_law 79 yX3_safe ∈ lw_tbl := by decide +kernel
theorem lw_c15 (hC : LC p s m meth c b L xs D K ad) {h : am_H} {n : Int} (hH : LH D K ad s H locs h n) (hn : n ≤ 300000000) {i : Nat} (hi : i + 2 < L) {ls : Array Slot} (hl : lv_has ls 4 [(3, .int (nI i)), (2, .ref (ad 7 0)), (1, .ref (ad 6 0)), (0, .ref b)])
    (kk : ∀ (H1 : Heap) (locs1 : List Loc) (h1 : am_H), LH D K ad s H1 locs1 h1 (n + 24000) → W p l e room_1 s m #[Value.ref b] below meth c H1 locs1 96 3326 Q (F0 m 773 ls [])) : W p l e room_1 s m #[Value.ref b] below meth c H locs 96 3326 Q (F0 m 593 ls []) := by
  obtain ⟨hP, hV, hS, hR⟩ := hH
  have hx := hC.1.1
  have hb := hC.1.2.1
  obtain ⟨a, h1, h2, c2, c3, hR2⟩ := sp_safe hR hn  
  refine lv_aload_n hx hb dL_law_593 rfl (lv_at hl 2 rfl) ?_
  refine lw_call hC hP hV hS lk_15.1 mv2_safe c2 am_obG rfl (by decide) (rest := []) (Nat.le_of_ble_eq_true rfl) hl.1 dL_law_594 (rfl) (fun H locs hP hV hS => ?_)
  refine lv_aload_n hx hb dL_law_597 rfl (lv_at hl 1 rfl) ?_
  refine lw_call hC hP hV hS lk_15.2 mv3_safe c3 am_obX rfl (by decide) (rest := [.int (Int32.ofInt a)]) (Nat.le_of_ble_eq_true rfl) hl.1 dL_law_598 (rfl) (fun H locs hP hV hS => ?_)
  refine lv_icmp_eq (tgt := 773) hx hb dL_law_601 (by decide) (fun _ => ?_) (fun z => absurd rfl z)
  exact kk H locs h2 ⟨hP, hV, hS, hR2⟩
theorem lk_16 : Cond.methodLink R_law 80 yX2_worstTwo ∈ lw_tbl ∧ Cond.methodLink R_law 83 yX3_worstTwo ∈ lw_tbl := by decide +kernel
theorem lw_c16 (hC : LC p s m meth c b L xs D K ad) {h : am_H} {n : Int} (hH : LH D K ad s H locs h n) (hn : n ≤ 300000000) {i : Nat} (hi : i + 2 < L) {ls : Array Slot} (hl : lv_has ls 4 [(3, .int (nI i)), (2, .ref (ad 7 0)), (1, .ref (ad 6 0)), (0, .ref b)])
    (kk : ∀ (H1 : Heap) (locs1 : List Loc) (h1 : am_H), LH D K ad s H1 locs1 h1 (n + 24000) → W p l e room_1 s m #[Value.ref b] below meth c H1 locs1 96 3326 Q (F0 m 773 ls [])) : W p l e room_1 s m #[Value.ref b] below meth c H locs 96 3326 Q (F0 m 606 ls []) := by
  obtain ⟨hP, hV, hS, hR⟩ := hH
  have hx := hC.1.1
  have hb := hC.1.2.1
  obtain ⟨a, h1, h2, c2, c3, hR2⟩ := sp_worstTwo hR hn (xs (i + 1)).toInt (i32_R _)
  refine lv_aload_n hx hb dL_law_606 rfl (lv_at hl 2 rfl) ?_
  refine lw_el hC hS (k := 1) (lv_at hl 3 rfl) (lv_at hl 0 rfl) (by omega) (by decide) dL_law_607 dL_law_608 dL_law_609 dL_law_610 dL_law_611 ?_
  refine lw_call hC hP hV hS lk_16.1 mv2_worstTwo c2 am_obG rfl (by decide) (rest := []) (Nat.le_of_ble_eq_true rfl) hl.1 dL_law_612 (by simp [am_cv, Int32.ofInt_toInt]) (fun H locs hP hV hS => ?_)
  refine lv_aload_n hx hb dL_law_615 rfl (lv_at hl 1 rfl) ?_
  refine lw_el hC hS (k := 1) (lv_at hl 3 rfl) (lv_at hl 0 rfl) (by omega) (by decide) dL_law_616 dL_law_617 dL_law_618 dL_law_619 dL_law_620 ?_
  refine lw_call hC hP hV hS lk_16.2 mv3_worstTwo c3 am_obX rfl (by decide) (rest := [.int (Int32.ofInt a)]) (Nat.le_of_ble_eq_true rfl) hl.1 dL_law_621 (by simp [am_cv, Int32.ofInt_toInt]) (fun H locs hP hV hS => ?_)
  refine lv_icmp_eq (tgt := 773) hx hb dL_law_624 (by decide) (fun _ => ?_) (fun z => absurd rfl z)
  exact kk H locs h2 ⟨hP, hV, hS, hR2⟩
theorem lk_17 : Cond.methodLink R_law 84 yX2_calm ∈ lw_tbl ∧ Cond.methodLink R_law 87 yX3_calm ∈ lw_tbl := by decide +kernel
theorem lw_c17 (hC : LC p s m meth c b L xs D K ad) {h : am_H} {n : Int} (hH : LH D K ad s H locs h n) (hn : n ≤ 300000000) {i : Nat} (hi : i + 2 < L) {ls : Array Slot} (hl : lv_has ls 4 [(3, .int (nI i)), (2, .ref (ad 7 0)), (1, .ref (ad 6 0)), (0, .ref b)])
    (kk : ∀ (H1 : Heap) (locs1 : List Loc) (h1 : am_H), LH D K ad s H1 locs1 h1 (n + 24000) → W p l e room_1 s m #[Value.ref b] below meth c H1 locs1 96 3326 Q (F0 m 773 ls [])) : W p l e room_1 s m #[Value.ref b] below meth c H locs 96 3326 Q (F0 m 629 ls []) := by
  obtain ⟨hP, hV, hS, hR⟩ := hH
  have hx := hC.1.1
  have hb := hC.1.2.1
  obtain ⟨a, h1, h2, c2, c3, hR2⟩ := sp_calm hR hn  
  refine lv_aload_n hx hb dL_law_629 rfl (lv_at hl 2 rfl) ?_
  refine lw_call hC hP hV hS lk_17.1 mv2_calm c2 am_obG rfl (by decide) (rest := []) (Nat.le_of_ble_eq_true rfl) hl.1 dL_law_630 (rfl) (fun H locs hP hV hS => ?_)
  refine lv_aload_n hx hb dL_law_633 rfl (lv_at hl 1 rfl) ?_
  refine lw_call hC hP hV hS lk_17.2 mv3_calm c3 am_obX rfl (by decide) (rest := [.int (Int32.ofInt a)]) (Nat.le_of_ble_eq_true rfl) hl.1 dL_law_634 (rfl) (fun H locs hP hV hS => ?_)
  refine lv_icmp_eq (tgt := 773) hx hb dL_law_637 (by decide) (fun _ => ?_) (fun z => absurd rfl z)
  exact kk H locs h2 ⟨hP, hV, hS, hR2⟩
theorem lk_18 : Cond.methodLink R_law 88 yX2_heir ∈ lw_tbl ∧ Cond.methodLink R_law 91 yX3_heir ∈ lw_tbl := by decide +kernel
theorem lw_c18 (hC : LC p s m meth c b L xs D K ad) {h : am_H} {n : Int} (hH : LH D K ad s H locs h n) (hn : n ≤ 300000000) {i : Nat} (hi : i + 2 < L) {ls : Array Slot} (hl : lv_has ls 4 [(3, .int (nI i)), (2, .ref (ad 7 0)), (1, .ref (ad 6 0)), (0, .ref b)])
    (kk : ∀ (H1 : Heap) (locs1 : List Loc) (h1 : am_H), LH D K ad s H1 locs1 h1 (n + 24000) → W p l e room_1 s m #[Value.ref b] below meth c H1 locs1 96 3326 Q (F0 m 773 ls [])) : W p l e room_1 s m #[Value.ref b] below meth c H locs 96 3326 Q (F0 m 642 ls []) := by
  obtain ⟨hP, hV, hS, hR⟩ := hH
  have hx := hC.1.1
  have hb := hC.1.2.1
  obtain ⟨a, h1, h2, c2, c3, hR2⟩ := sp_heir hR hn (xs (i + 1)).toInt (i32_R _)
  refine lv_aload_n hx hb dL_law_642 rfl (lv_at hl 2 rfl) ?_
  refine lw_el hC hS (k := 1) (lv_at hl 3 rfl) (lv_at hl 0 rfl) (by omega) (by decide) dL_law_643 dL_law_644 dL_law_645 dL_law_646 dL_law_647 ?_
  refine lw_call hC hP hV hS lk_18.1 mv2_heir c2 am_obG rfl (by decide) (rest := []) (Nat.le_of_ble_eq_true rfl) hl.1 dL_law_648 (by simp [am_cv, Int32.ofInt_toInt]) (fun H locs hP hV hS => ?_)
  refine lv_aload_n hx hb dL_law_651 rfl (lv_at hl 1 rfl) ?_
  refine lw_el hC hS (k := 1) (lv_at hl 3 rfl) (lv_at hl 0 rfl) (by omega) (by decide) dL_law_652 dL_law_653 dL_law_654 dL_law_655 dL_law_656 ?_
  refine lw_call hC hP hV hS lk_18.2 mv3_heir c3 am_obX rfl (by decide) (rest := [.int (Int32.ofInt a)]) (Nat.le_of_ble_eq_true rfl) hl.1 dL_law_657 (by simp [am_cv, Int32.ofInt_toInt]) (fun H locs hP hV hS => ?_)
  refine lv_icmp_eq (tgt := 773) hx hb dL_law_660 (by decide) (fun _ => ?_) (fun z => absurd rfl z)
  exact kk H locs h2 ⟨hP, hV, hS, hR2⟩
theorem lk_19 : Cond.methodLink R_law 92 yX2_count ∈ lw_tbl ∧ Cond.methodLink R_law 95 yX3_count ∈ lw_tbl := by decide +kernel
theorem lw_c19 (hC : LC p s m meth c b L xs D K ad) {h : am_H} {n : Int} (hH : LH D K ad s H locs h n) (hn : n ≤ 300000000) {i : Nat} (hi : i + 2 < L) {ls : Array Slot} (hl : lv_has ls 4 [(3, .int (nI i)), (2, .ref (ad 7 0)), (1, .ref (ad 6 0)), (0, .ref b)])
    (kk : ∀ (H1 : Heap) (locs1 : List Loc) (h1 : am_H), LH D K ad s H1 locs1 h1 (n + 24000) → W p l e room_1 s m #[Value.ref b] below meth c H1 locs1 96 3326 Q (F0 m 773 ls [])) : W p l e room_1 s m #[Value.ref b] below meth c H locs 96 3326 Q (F0 m 665 ls []) := by
  obtain ⟨hP, hV, hS, hR⟩ := hH
  have hx := hC.1.1
  have hb := hC.1.2.1
  obtain ⟨a, h1, h2, c2, c3, hR2⟩ := sp_count hR (xs (i + 1)).toInt (i32_R _)
  refine lv_aload_n hx hb dL_law_665 rfl (lv_at hl 2 rfl) ?_
  refine lw_el hC hS (k := 1) (lv_at hl 3 rfl) (lv_at hl 0 rfl) (by omega) (by decide) dL_law_666 dL_law_667 dL_law_668 dL_law_669 dL_law_670 ?_
  refine lw_call hC hP hV hS lk_19.1 mv2_count c2 am_obG rfl (by decide) (rest := []) (Nat.le_of_ble_eq_true rfl) hl.1 dL_law_671 (by simp [am_cv, Int32.ofInt_toInt]) (fun H locs hP hV hS => ?_)
  refine lv_aload_n hx hb dL_law_674 rfl (lv_at hl 1 rfl) ?_
  refine lw_el hC hS (k := 1) (lv_at hl 3 rfl) (lv_at hl 0 rfl) (by omega) (by decide) dL_law_675 dL_law_676 dL_law_677 dL_law_678 dL_law_679 ?_
  refine lw_call hC hP hV hS lk_19.2 mv3_count c3 am_obX rfl (by decide) (rest := [.int (Int32.ofInt a)]) (Nat.le_of_ble_eq_true rfl) hl.1 dL_law_680 (by simp [am_cv, Int32.ofInt_toInt]) (fun H locs hP hV hS => ?_)
  refine lv_icmp_eq (tgt := 773) hx hb dL_law_683 (by decide) (fun _ => ?_) (fun z => absurd rfl z)
  exact kk H locs h2 ⟨hP, hV, hS, hR2⟩
theorem lk_20 : Cond.methodLink R_law 96 yX2_undo ∈ lw_tbl ∧ Cond.methodLink R_law 99 yX3_undo ∈ lw_tbl := by decide +kernel
theorem lw_c20 (hC : LC p s m meth c b L xs D K ad) {h : am_H} {n : Int} (hH : LH D K ad s H locs h n) (hn : n ≤ 300000000) {i : Nat} (hi : i + 2 < L) {ls : Array Slot} (hl : lv_has ls 4 [(3, .int (nI i)), (2, .ref (ad 7 0)), (1, .ref (ad 6 0)), (0, .ref b)])
    (kk : ∀ (H1 : Heap) (locs1 : List Loc) (h1 : am_H), LH D K ad s H1 locs1 h1 (n + 24000) → W p l e room_1 s m #[Value.ref b] below meth c H1 locs1 96 3326 Q (F0 m 773 ls [])) : W p l e room_1 s m #[Value.ref b] below meth c H locs 96 3326 Q (F0 m 688 ls []) := by
  obtain ⟨hP, hV, hS, hR⟩ := hH
  have hx := hC.1.1
  have hb := hC.1.2.1
  obtain ⟨a, h1, h2, c2, c3, hR2⟩ := sp_undo hR  
  refine lv_aload_n hx hb dL_law_688 rfl (lv_at hl 2 rfl) ?_
  refine lw_call hC hP hV hS lk_20.1 mv2_undo c2 am_obG rfl (by decide) (rest := []) (Nat.le_of_ble_eq_true rfl) hl.1 dL_law_689 (rfl) (fun H locs hP hV hS => ?_)
  refine lv_aload_n hx hb dL_law_692 rfl (lv_at hl 1 rfl) ?_
  refine lw_call hC hP hV hS lk_20.2 mv3_undo c3 am_obX rfl (by decide) (rest := [.int (Int32.ofInt a)]) (Nat.le_of_ble_eq_true rfl) hl.1 dL_law_693 (rfl) (fun H locs hP hV hS => ?_)
  refine lv_icmp_eq (tgt := 773) hx hb dL_law_696 (by decide) (fun _ => ?_) (fun z => absurd rfl z)
  exact kk H locs h2 ⟨hP, hV, hS, hR2⟩
theorem lk_21 : Cond.methodLink R_law 100 yX2_type ∈ lw_tbl ∧ Cond.methodLink R_law 103 yX3_type ∈ lw_tbl := by decide +kernel
theorem lw_c21 (hC : LC p s m meth c b L xs D K ad) {h : am_H} {n : Int} (hH : LH D K ad s H locs h n) (hn : n ≤ 300000000) {i : Nat} (hi : i + 2 < L) {ls : Array Slot} (hl : lv_has ls 4 [(3, .int (nI i)), (2, .ref (ad 7 0)), (1, .ref (ad 6 0)), (0, .ref b)])
    (kk : ∀ (H1 : Heap) (locs1 : List Loc) (h1 : am_H), LH D K ad s H1 locs1 h1 (n + 24000) → W p l e room_1 s m #[Value.ref b] below meth c H1 locs1 96 3326 Q (F0 m 773 ls [])) : W p l e room_1 s m #[Value.ref b] below meth c H locs 96 3326 Q (F0 m 701 ls []) := by
  obtain ⟨hP, hV, hS, hR⟩ := hH
  have hx := hC.1.1
  have hb := hC.1.2.1
  obtain ⟨a, h1, h2, c2, c3, hR2⟩ := sp_type hR (xs (i + 1)).toInt (i32_R _)
  refine lv_aload_n hx hb dL_law_701 rfl (lv_at hl 2 rfl) ?_
  refine lw_el hC hS (k := 1) (lv_at hl 3 rfl) (lv_at hl 0 rfl) (by omega) (by decide) dL_law_702 dL_law_703 dL_law_704 dL_law_705 dL_law_706 ?_
  refine lw_call hC hP hV hS lk_21.1 mv2_type c2 am_obG rfl (by decide) (rest := []) (Nat.le_of_ble_eq_true rfl) hl.1 dL_law_707 (by simp [am_cv, Int32.ofInt_toInt]) (fun H locs hP hV hS => ?_)
  refine lv_aload_n hx hb dL_law_710 rfl (lv_at hl 1 rfl) ?_
  refine lw_el hC hS (k := 1) (lv_at hl 3 rfl) (lv_at hl 0 rfl) (by omega) (by decide) dL_law_711 dL_law_712 dL_law_713 dL_law_714 dL_law_715 ?_
  refine lw_call hC hP hV hS lk_21.2 mv3_type c3 am_obX rfl (by decide) (rest := [.int (Int32.ofInt a)]) (Nat.le_of_ble_eq_true rfl) hl.1 dL_law_716 (by simp [am_cv, Int32.ofInt_toInt]) (fun H locs hP hV hS => ?_)
  refine lv_icmp_eq (tgt := 773) hx hb dL_law_719 (by decide) (fun _ => ?_) (fun z => absurd rfl z)
  exact kk H locs h2 ⟨hP, hV, hS, hR2⟩
theorem lk_22 : Cond.methodLink R_law 104 yX2_clearText ∈ lw_tbl ∧ Cond.methodLink R_law 107 yX3_clearText ∈ lw_tbl := by decide +kernel
theorem lw_c22 (hC : LC p s m meth c b L xs D K ad) {h : am_H} {n : Int} (hH : LH D K ad s H locs h n) (hn : n ≤ 300000000) {i : Nat} (hi : i + 2 < L) {ls : Array Slot} (hl : lv_has ls 4 [(3, .int (nI i)), (2, .ref (ad 7 0)), (1, .ref (ad 6 0)), (0, .ref b)])
    (kk : ∀ (H1 : Heap) (locs1 : List Loc) (h1 : am_H), LH D K ad s H1 locs1 h1 (n + 24000) → W p l e room_1 s m #[Value.ref b] below meth c H1 locs1 96 3326 Q (F0 m 773 ls [])) : W p l e room_1 s m #[Value.ref b] below meth c H locs 96 3326 Q (F0 m 724 ls []) := by
  obtain ⟨hP, hV, hS, hR⟩ := hH
  have hx := hC.1.1
  have hb := hC.1.2.1
  obtain ⟨a, h1, h2, c2, c3, hR2⟩ := sp_clearText hR  
  refine lv_aload_n hx hb dL_law_724 rfl (lv_at hl 2 rfl) ?_
  refine lw_call hC hP hV hS lk_22.1 mv2_clearText c2 am_obG rfl (by decide) (rest := []) (Nat.le_of_ble_eq_true rfl) hl.1 dL_law_725 (rfl) (fun H locs hP hV hS => ?_)
  refine lv_aload_n hx hb dL_law_728 rfl (lv_at hl 1 rfl) ?_
  refine lw_call hC hP hV hS lk_22.2 mv3_clearText c3 am_obX rfl (by decide) (rest := [.int (Int32.ofInt a)]) (Nat.le_of_ble_eq_true rfl) hl.1 dL_law_729 (rfl) (fun H locs hP hV hS => ?_)
  refine lv_icmp_eq (tgt := 773) hx hb dL_law_732 (by decide) (fun _ => ?_) (fun z => absurd rfl z)
  exact kk H locs h2 ⟨hP, hV, hS, hR2⟩
theorem lk_23 : Cond.methodLink R_law 108 yX2_fault ∈ lw_tbl ∧ Cond.methodLink R_law 111 yX3_fault ∈ lw_tbl := by decide +kernel
theorem lw_c23 (hC : LC p s m meth c b L xs D K ad) {h : am_H} {n : Int} (hH : LH D K ad s H locs h n) (hn : n ≤ 300000000) {i : Nat} (hi : i + 2 < L) {ls : Array Slot} (hl : lv_has ls 4 [(3, .int (nI i)), (2, .ref (ad 7 0)), (1, .ref (ad 6 0)), (0, .ref b)])
    (kk : ∀ (H1 : Heap) (locs1 : List Loc) (h1 : am_H), LH D K ad s H1 locs1 h1 (n + 24000) → W p l e room_1 s m #[Value.ref b] below meth c H1 locs1 96 3326 Q (F0 m 773 ls [])) : W p l e room_1 s m #[Value.ref b] below meth c H locs 96 3326 Q (F0 m 737 ls []) := by
  obtain ⟨hP, hV, hS, hR⟩ := hH
  have hx := hC.1.1
  have hb := hC.1.2.1
  obtain ⟨a, h1, h2, c2, c3, hR2⟩ := sp_fault hR hn (xs (i + 1)).toInt (i32_R _)
  refine lv_aload_n hx hb dL_law_737 rfl (lv_at hl 2 rfl) ?_
  refine lw_el hC hS (k := 1) (lv_at hl 3 rfl) (lv_at hl 0 rfl) (by omega) (by decide) dL_law_738 dL_law_739 dL_law_740 dL_law_741 dL_law_742 ?_
  refine lw_call hC hP hV hS lk_23.1 mv2_fault c2 am_obG rfl (by decide) (rest := []) (Nat.le_of_ble_eq_true rfl) hl.1 dL_law_743 (by simp [am_cv, Int32.ofInt_toInt]) (fun H locs hP hV hS => ?_)
  refine lv_aload_n hx hb dL_law_746 rfl (lv_at hl 1 rfl) ?_
  refine lw_el hC hS (k := 1) (lv_at hl 3 rfl) (lv_at hl 0 rfl) (by omega) (by decide) dL_law_747 dL_law_748 dL_law_749 dL_law_750 dL_law_751 ?_
  refine lw_call hC hP hV hS lk_23.2 mv3_fault c3 am_obX rfl (by decide) (rest := [.int (Int32.ofInt a)]) (Nat.le_of_ble_eq_true rfl) hl.1 dL_law_752 (by simp [am_cv, Int32.ofInt_toInt]) (fun H locs hP hV hS => ?_)
  refine lv_icmp_eq (tgt := 773) hx hb dL_law_755 (by decide) (fun _ => ?_) (fun z => absurd rfl z)
  exact kk H locs h2 ⟨hP, hV, hS, hR2⟩
theorem lk_24 : Cond.methodLink R_law 112 yX2_play ∈ lw_tbl ∧ Cond.methodLink R_law 115 yX3_play ∈ lw_tbl := by decide +kernel
theorem lw_c24 (hC : LC p s m meth c b L xs D K ad) {h : am_H} {n : Int} (hH : LH D K ad s H locs h n) (hn : n ≤ 300000000) {i : Nat} (hi : i + 2 < L) {ls : Array Slot} (hl : lv_has ls 4 [(3, .int (nI i)), (2, .ref (ad 7 0)), (1, .ref (ad 6 0)), (0, .ref b)])
    (kk : ∀ (H1 : Heap) (locs1 : List Loc) (h1 : am_H), LH D K ad s H1 locs1 h1 (n + 24000) → W p l e room_1 s m #[Value.ref b] below meth c H1 locs1 96 3326 Q (F0 m 773 ls [])) : W p l e room_1 s m #[Value.ref b] below meth c H locs 96 3326 Q (F0 m 760 ls []) := by
  obtain ⟨hP, hV, hS, hR⟩ := hH
  have hx := hC.1.1
  have hb := hC.1.2.1
  obtain ⟨a, h1, h2, c2, c3, hR2⟩ := sp_play hR hn  
  refine lv_aload_n hx hb dL_law_760 rfl (lv_at hl 2 rfl) ?_
  refine lw_call hC hP hV hS lk_24.1 mv2_play c2 am_obG rfl (by decide) (rest := []) (Nat.le_of_ble_eq_true rfl) hl.1 dL_law_761 (rfl) (fun H locs hP hV hS => ?_)
  refine lv_aload_n hx hb dL_law_764 rfl (lv_at hl 1 rfl) ?_
  refine lw_call hC hP hV hS lk_24.2 mv3_play c3 am_obX rfl (by decide) (rest := [.int (Int32.ofInt a)]) (Nat.le_of_ble_eq_true rfl) hl.1 dL_law_765 (rfl) (fun H locs hP hV hS => ?_)
  refine lv_icmp_eq (tgt := 773) hx hb dL_law_768 (by decide) (fun _ => ?_) (fun z => absurd rfl z)
  exact kk H locs h2 ⟨hP, hV, hS, hR2⟩
end LAWC
