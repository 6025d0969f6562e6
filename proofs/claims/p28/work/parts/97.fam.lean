/-! ===== families() answers true ===== -/
set_option maxHeartbeats 4000000 in
set_option maxRecDepth 100000 in
theorem fam_w {h : am_H} {S : Nat → Int} {n : Int} (hP : PH h S n) {H W K L f hd rows set r : Int} (hfR : am_R f) (hrR : am_R r) (k : Sx 3 YL_families h (some (.inl 1)) 368 [some (.inr (6, 0)), some (.inl H), some (.inl W), some (.inl K), some (.inl L), some (.inl 1), some (.inl f), some (.inl hd), some (.inl rows), some (.inl set), some (.inl r), some (.inl (aSum (gP h) f r (gP h 0 2).toNat)), some (.inl (aHere (gP h) f r (gP h 0 2).toNat)), none, none] [] h) : Sx 3 YL_families h (some (.inl 1)) 275 [some (.inr (6, 0)), some (.inl H), some (.inl W), some (.inl K), some (.inl L), some (.inl 1), some (.inl f), some (.inl hd), some (.inl rows), some (.inl set), some (.inl r), some (.inl 0), some (.inl 0), some (.inl 0), none] [] h := by
  refine sx_vh (fun hV => ?_)
  have hR : ∀ j k, am_R (gP h j k) := fun j k => hV.1 _ j k
  have hM := PH_WM hP
  have hN : ∀ k, am_R (gcnt (gP h) (h.1 6 0 4) (h.1 6 2 1) k) := fun k => gcnt_R hR hM (hV.1 6 0 4) (hV.1 6 2 1) k
  have h24 := hM.2.1
  have h8 := hM.1
  have n2 : (gcnt (gP h) (h.1 6 0 4) (h.1 6 2 1) 2) = gP h 0 2 := rfl
  have n0 : (gcnt (gP h) (h.1 6 0 4) (h.1 6 2 1) 0) = gP h 0 0 := rfl
  have loop275 : ∀ (n : Nat) (sum here : Int) (w : Nat), (gP h 0 2 - w).toNat = n → (w : Int) ≤ gP h 0 2 → sum = aSum (gP h) f r w → here = aHere (gP h) f r w → Sx 3 YL_families h (some (.inl 1)) 275 [some (.inr (6, 0)), some (.inl H), some (.inl W), some (.inl K), some (.inl L), some (.inl 1), some (.inl f), some (.inl hd), some (.inl rows), some (.inl set), some (.inl r), some (.inl sum), some (.inl here), some (.inl (w : Int)), none] [] h := by
    intro n
    induction n using Nat.strongRecOn with
    | _ n ih275 =>
      intro sum here w hn hle hs hh
      subst hs
      subst hh
      refine sx_iload dL_families_275 rfl ?_
      refine sx_aload_n dL_families_277 rfl ?_
      refine sx_iconst dL_families_278 ?_
      refine sx_callVi dL_families_279 ml_L_19 mv2_count (pq_count hP _ (by first | exact ⟨by decide, by decide⟩ | exact ⟨by omega, by omega⟩ | assumption | (with_reducible exact gfam_R hR hM _ _) | (with_reducible exact gword_R hR hM _ _))) rfl am_obG rfl (Nat.le_of_ble_eq_true rfl) (Nat.le_of_ble_eq_true rfl) ?_
      refine sx_icmp_ge (tgt := 368) dL_families_282 (by decide) (by first | (with_reducible first | exact gfam_R hR hM _ _ | exact gchip_R hR hM _ _ | exact gword_R hR hM _ _ | exact gread_R hR _ | exact grow_R hR _ _ | exact hN _ | exact am_R_and _ _ | exact am_R_or _ _ | exact am_R_xor _ _ | exact aSum_R _ _ _ _) | assumption | exact ⟨by decide, by decide⟩ | exact ⟨by omega, by omega⟩) (by first | (with_reducible first | exact gfam_R hR hM _ _ | exact gchip_R hR hM _ _ | exact gword_R hR hM _ _ | exact gread_R hR _ | exact grow_R hR _ _ | exact hN _ | exact am_R_and _ _ | exact am_R_or _ _ | exact am_R_xor _ _ | exact aSum_R _ _ _ _) | assumption | exact ⟨by decide, by decide⟩ | exact ⟨by omega, by omega⟩) (fun c282 => ?_) (fun c282 => ?_)
      · -- 282t
        have ew : w = (gP h 0 2).toNat := by omega
        subst ew
        exact sx_forget 13 k
      · -- 282f
        refine sx_aload_n dL_families_285 rfl ?_
        refine sx_iload dL_families_286 rfl ?_
        refine sx_iconst dL_families_288 ?_
        refine sx_callVi dL_families_289 ml_L_23 mv2_wordOf (pq_wordOf hP _ _ (by first | exact ⟨by decide, by decide⟩ | exact ⟨by omega, by omega⟩ | assumption | (with_reducible exact gfam_R hR hM _ _) | (with_reducible exact gword_R hR hM _ _)) (by first | exact ⟨by decide, by decide⟩ | exact ⟨by omega, by omega⟩ | assumption | (with_reducible exact gfam_R hR hM _ _) | (with_reducible exact gword_R hR hM _ _))) rfl am_obG rfl (Nat.le_of_ble_eq_true rfl) (Nat.le_of_ble_eq_true rfl) ?_
        refine sx_iload dL_families_292 rfl ?_
        refine sx_icmp_ne (tgt := 313) dL_families_294 (by decide) (by first | (with_reducible first | exact gfam_R hR hM _ _ | exact gchip_R hR hM _ _ | exact gword_R hR hM _ _ | exact gread_R hR _ | exact grow_R hR _ _ | exact hN _ | exact am_R_and _ _ | exact am_R_or _ _ | exact am_R_xor _ _ | exact aSum_R _ _ _ _) | assumption | exact ⟨by decide, by decide⟩ | exact ⟨by omega, by omega⟩) (by first | (with_reducible first | exact gfam_R hR hM _ _ | exact gchip_R hR hM _ _ | exact gword_R hR hM _ _ | exact gread_R hR _ | exact grow_R hR _ _ | exact hN _ | exact am_R_and _ _ | exact am_R_or _ _ | exact am_R_xor _ _ | exact aSum_R _ _ _ _) | assumption | exact ⟨by decide, by decide⟩ | exact ⟨by omega, by omega⟩) (fun c294 => ?_) (fun c294 => ?_)
        · -- 294t
          refine sx_iconst dL_families_313 ?_
          refine sx_istore dL_families_314 (by decide) ?_
          refine sx_iload dL_families_316 rfl ?_
          refine sx_iload dL_families_318 rfl ?_
          refine sx_if_eq (tgt := 332) dL_families_320 (by decide) ⟨by decide, by decide⟩ (fun _ => ?_) (fun q => absurd q (by decide))
          refine sx_iconst dL_families_332 ?_
          refine sx_ixor dL_families_333 ?_
          refine sx_istore dL_families_334 (by decide) ?_
          refine sx_iload dL_families_336 rfl ?_
          refine sx_iload dL_families_338 rfl ?_
          refine sx_if_eq (tgt := 358) dL_families_340 (by decide) ⟨by decide, by decide⟩ (fun _ => ?_) (fun q => absurd q (by decide))
          refine sx_iconst dL_families_358 ?_
          refine sx_iadd dL_families_359 ?_
          refine sx_istore dL_families_360 (by decide) ?_
          refine sx_iinc dL_families_362 rfl (by decide) ?_
          refine sx_goto (tgt := 275) dL_families_365 (by decide) ?_
          exact sx_forget 14 (ih275 _ (by omega) _ _ (w + 1) rfl (by omega) (by simp only [aSum, if_pos c282, if_neg (Int.not_le.mpr c282), if_neg c294]) (by simp only [aHere, if_pos c282, if_neg (Int.not_le.mpr c282), if_neg c294]))
        · -- 294f
          refine sx_aload_n dL_families_297 rfl ?_
          refine sx_iload dL_families_298 rfl ?_
          refine sx_iconst dL_families_300 ?_
          refine sx_callVi dL_families_301 ml_L_23 mv2_wordOf (pq_wordOf hP _ _ (by first | exact ⟨by decide, by decide⟩ | exact ⟨by omega, by omega⟩ | assumption | (with_reducible exact gfam_R hR hM _ _) | (with_reducible exact gword_R hR hM _ _)) (by first | exact ⟨by decide, by decide⟩ | exact ⟨by omega, by omega⟩ | assumption | (with_reducible exact gfam_R hR hM _ _) | (with_reducible exact gword_R hR hM _ _))) rfl am_obG rfl (Nat.le_of_ble_eq_true rfl) (Nat.le_of_ble_eq_true rfl) ?_
          refine sx_iload dL_families_304 rfl ?_
          refine sx_icmp_ne (tgt := 313) dL_families_306 (by decide) (by first | (with_reducible first | exact gfam_R hR hM _ _ | exact gchip_R hR hM _ _ | exact gword_R hR hM _ _ | exact gread_R hR _ | exact grow_R hR _ _ | exact hN _ | exact am_R_and _ _ | exact am_R_or _ _ | exact am_R_xor _ _ | exact aSum_R _ _ _ _) | assumption | exact ⟨by decide, by decide⟩ | exact ⟨by omega, by omega⟩) (by first | (with_reducible first | exact gfam_R hR hM _ _ | exact gchip_R hR hM _ _ | exact gword_R hR hM _ _ | exact gread_R hR _ | exact grow_R hR _ _ | exact hN _ | exact am_R_and _ _ | exact am_R_or _ _ | exact am_R_xor _ _ | exact aSum_R _ _ _ _) | assumption | exact ⟨by decide, by decide⟩ | exact ⟨by omega, by omega⟩) (fun c306 => ?_) (fun c306 => ?_)
          · -- 306t
            refine sx_iconst dL_families_313 ?_
            refine sx_istore dL_families_314 (by decide) ?_
            refine sx_iload dL_families_316 rfl ?_
            refine sx_iload dL_families_318 rfl ?_
            refine sx_if_eq (tgt := 332) dL_families_320 (by decide) ⟨by decide, by decide⟩ (fun _ => ?_) (fun q => absurd q (by decide))
            refine sx_iconst dL_families_332 ?_
            refine sx_ixor dL_families_333 ?_
            refine sx_istore dL_families_334 (by decide) ?_
            refine sx_iload dL_families_336 rfl ?_
            refine sx_iload dL_families_338 rfl ?_
            refine sx_if_eq (tgt := 358) dL_families_340 (by decide) ⟨by decide, by decide⟩ (fun _ => ?_) (fun q => absurd q (by decide))
            refine sx_iconst dL_families_358 ?_
            refine sx_iadd dL_families_359 ?_
            refine sx_istore dL_families_360 (by decide) ?_
            refine sx_iinc dL_families_362 rfl (by decide) ?_
            refine sx_goto (tgt := 275) dL_families_365 (by decide) ?_
            exact sx_forget 14 (ih275 _ (by omega) _ _ (w + 1) rfl (by omega) (by simp only [aSum, if_pos c282, if_neg (Int.not_le.mpr c282), if_pos c294, if_neg c306]) (by simp only [aHere, if_pos c282, if_neg (Int.not_le.mpr c282), if_pos c294, if_neg c306]))
          · -- 306f
            refine sx_iconst dL_families_309 ?_
            refine sx_goto (tgt := 314) dL_families_310 (by decide) ?_
            refine sx_istore dL_families_314 (by decide) ?_
            refine sx_iload dL_families_316 rfl ?_
            refine sx_iload dL_families_318 rfl ?_
            refine sx_if_eq (tgt := 332) dL_families_320 (by decide) ⟨by decide, by decide⟩ (fun q => absurd q (by decide)) (fun _ => ?_)
            refine sx_aload_n dL_families_323 rfl ?_
            refine sx_iload dL_families_324 rfl ?_
            refine sx_callVi dL_families_326 ml_L_26 mv2_read (pq_read hP _ (by first | exact ⟨by decide, by decide⟩ | exact ⟨by omega, by omega⟩ | assumption | (with_reducible exact gfam_R hR hM _ _) | (with_reducible exact gword_R hR hM _ _))) rfl am_obG rfl (Nat.le_of_ble_eq_true rfl) (Nat.le_of_ble_eq_true rfl) ?_
            refine sx_goto (tgt := 333) dL_families_329 (by decide) ?_
            refine sx_ixor dL_families_333 ?_
            refine sx_istore dL_families_334 (by decide) ?_
            refine sx_iload dL_families_336 rfl ?_
            refine sx_iload dL_families_338 rfl ?_
            refine sx_if_eq (tgt := 358) dL_families_340 (by decide) ⟨by decide, by decide⟩ (fun q => absurd q (by decide)) (fun _ => ?_)
            refine sx_aload_n dL_families_343 rfl ?_
            refine sx_iload dL_families_344 rfl ?_
            refine sx_iconst dL_families_346 ?_
            refine sx_callVi dL_families_347 ml_L_23 mv2_wordOf (pq_wordOf hP _ _ (by first | exact ⟨by decide, by decide⟩ | exact ⟨by omega, by omega⟩ | assumption | (with_reducible exact gfam_R hR hM _ _) | (with_reducible exact gword_R hR hM _ _)) (by first | exact ⟨by decide, by decide⟩ | exact ⟨by omega, by omega⟩ | assumption | (with_reducible exact gfam_R hR hM _ _) | (with_reducible exact gword_R hR hM _ _))) rfl am_obG rfl (Nat.le_of_ble_eq_true rfl) (Nat.le_of_ble_eq_true rfl) ?_
            refine sx_iconst dL_families_350 ?_
            refine sx_icmp_ne (tgt := 358) dL_families_351 (by decide) (by first | (with_reducible first | exact gfam_R hR hM _ _ | exact gchip_R hR hM _ _ | exact gword_R hR hM _ _ | exact gread_R hR _ | exact grow_R hR _ _ | exact hN _ | exact am_R_and _ _ | exact am_R_or _ _ | exact am_R_xor _ _ | exact aSum_R _ _ _ _) | assumption | exact ⟨by decide, by decide⟩ | exact ⟨by omega, by omega⟩) ⟨by decide, by decide⟩ (fun c351 => ?_) (fun c351 => ?_)
            · -- 351t
              refine sx_iconst dL_families_358 ?_
              refine sx_iadd dL_families_359 ?_
              refine sx_istore dL_families_360 (by decide) ?_
              refine sx_iinc dL_families_362 rfl (by decide) ?_
              refine sx_goto (tgt := 275) dL_families_365 (by decide) ?_
              exact sx_forget 14 (ih275 _ (by omega) _ _ (w + 1) rfl (by omega) (by simp only [aSum, if_pos c282, if_neg (Int.not_le.mpr c282), if_pos c294, if_pos c306, if_neg c351]) (by simp only [aHere, if_pos c282, if_neg (Int.not_le.mpr c282), if_pos c294, if_pos c306, if_neg c351]))
            · -- 351f
              refine sx_iconst dL_families_354 ?_
              refine sx_goto (tgt := 359) dL_families_355 (by decide) ?_
              refine sx_iadd dL_families_359 ?_
              refine sx_istore dL_families_360 (by decide) ?_
              refine sx_iinc dL_families_362 rfl (by decide) ?_
              refine sx_goto (tgt := 275) dL_families_365 (by decide) ?_
              exact sx_forget 14 (ih275 _ (by omega) _ _ (w + 1) rfl (by omega) (by simp only [aSum, if_pos c282, if_neg (Int.not_le.mpr c282), if_pos c294, if_pos c306, if_pos c351]) (by simp only [aHere, if_pos c282, if_neg (Int.not_le.mpr c282), if_pos c294, if_pos c306, if_pos c351]))
  exact loop275 _ _ _ 0 rfl (by omega) rfl rfl
set_option maxHeartbeats 4000000 in
set_option maxRecDepth 100000 in
theorem fam_r {h : am_H} {S : Nat → Int} {n : Int} (hP : PH h S n) {H W K L f : Int} (hf : 0 ≤ f ∧ f ≤ 2) (k : Sx 3 YL_families h (some (.inl 1)) 425 [some (.inr (6, 0)), some (.inl H), some (.inl W), some (.inl K), some (.inl L), some (.inl 1), some (.inl f), none, none, none, none, none, none, none, none] [] h) : Sx 3 YL_families h (some (.inl 1)) 249 [some (.inr (6, 0)), some (.inl H), some (.inl W), some (.inl K), some (.inl L), some (.inl 1), some (.inl f), some (.inl (gfam (gP h) f 0)), some (.inl (gfam (gP h) f 4)), some (.inl (gfam (gP h) f 1)), some (.inl 0), none, none, none, none] [] h := by
  refine sx_vh (fun hV => ?_)
  have hR : ∀ j k, am_R (gP h j k) := fun j k => hV.1 _ j k
  have hM := PH_WM hP
  have hN : ∀ k, am_R (gcnt (gP h) (h.1 6 0 4) (h.1 6 2 1) k) := fun k => gcnt_R hR hM (hV.1 6 0 4) (hV.1 6 2 1) k
  have h24 := hM.2.1
  have h8 := hM.1
  have n2 : (gcnt (gP h) (h.1 6 0 4) (h.1 6 2 1) 2) = gP h 0 2 := rfl
  have n0 : (gcnt (gP h) (h.1 6 0 4) (h.1 6 2 1) 0) = gP h 0 0 := rfl
  obtain ⟨a1, a2, a3, a4⟩ := FA_f hP.2 hR hf
  have hfR : am_R f := ⟨by omega, by omega⟩
  have loop249 : ∀ (n : Nat) (r : Nat), 6 - r = n → r ≤ 6 → Sx 3 YL_families h (some (.inl 1)) 249 [some (.inr (6, 0)), some (.inl H), some (.inl W), some (.inl K), some (.inl L), some (.inl 1), some (.inl f), some (.inl (gfam (gP h) f 0)), some (.inl (gfam (gP h) f 4)), some (.inl (gfam (gP h) f 1)), some (.inl (r : Int)), none, none, none, none] [] h := by
    intro n
    induction n using Nat.strongRecOn with
    | _ n ih249 =>
      intro r hn hle
      refine sx_iload dL_families_249 rfl ?_
      refine sx_bipush dL_families_251 rfl ?_
      refine sx_icmp_ge (tgt := 425) dL_families_253 (by decide) (by first | (with_reducible first | exact gfam_R hR hM _ _ | exact gchip_R hR hM _ _ | exact gword_R hR hM _ _ | exact gread_R hR _ | exact grow_R hR _ _ | exact hN _ | exact am_R_and _ _ | exact am_R_or _ _ | exact am_R_xor _ _ | exact aSum_R _ _ _ _) | assumption | exact ⟨by decide, by decide⟩ | exact ⟨by omega, by omega⟩) ⟨by decide, by decide⟩ (fun c253 => ?_) (fun c253 => ?_)
      · -- 253t
        exact sx_forget 7 (sx_forget 8 (sx_forget 9 (sx_forget 10 k)))
      · -- 253f
        refine sx_iload dL_families_256 rfl ?_
        refine sx_if_eq (tgt := 425) dL_families_258 (by decide) ⟨by decide, by decide⟩ (fun q => absurd q (by decide)) (fun _ => ?_)
        refine sx_iload dL_families_261 rfl ?_
        refine sx_if_lt (tgt := 425) dL_families_263 (by decide) (by first | (with_reducible first | exact gfam_R hR hM _ _ | exact gchip_R hR hM _ _ | exact gword_R hR hM _ _ | exact gread_R hR _ | exact grow_R hR _ _ | exact hN _ | exact am_R_and _ _ | exact am_R_or _ _ | exact am_R_xor _ _ | exact aSum_R _ _ _ _) | assumption | exact ⟨by decide, by decide⟩ | exact ⟨by omega, by omega⟩) (fun c263 => ?_) (fun c263 => ?_)
        · -- 263t
          exact sx_forget 7 (sx_forget 8 (sx_forget 9 (sx_forget 10 k)))
        · -- 263f
          refine sx_iconst dL_families_266 ?_
          refine sx_istore dL_families_267 (by decide) ?_
          refine sx_iconst dL_families_269 ?_
          refine sx_istore dL_families_270 (by decide) ?_
          refine sx_iconst dL_families_272 ?_
          refine sx_istore dL_families_273 (by decide) ?_
          obtain ⟨q1, q2⟩ := (a2 (by omega)).2 (r : Int) (by omega) (by omega)
          unfold bit at q1 q2
          have hb := aHere_b (gP h) f (r : Int) (gP h 0 2).toNat
          refine fam_w hP hfR ⟨by omega, by omega⟩ ?_
          refine sx_iload dL_families_368 rfl ?_
          refine sx_iload dL_families_370 rfl ?_
          refine sx_iload dL_families_372 rfl ?_
          refine sx_ishr dL_families_374 ?_
          refine sx_iconst dL_families_375 ?_
          refine sx_iand dL_families_376 ?_
          refine sx_iconst dL_families_377 ?_
          refine sx_icmp_ne (tgt := 385) dL_families_378 (by decide) (by first | (with_reducible first | exact gfam_R hR hM _ _ | exact gchip_R hR hM _ _ | exact gword_R hR hM _ _ | exact gread_R hR _ | exact grow_R hR _ _ | exact hN _ | exact am_R_and _ _ | exact am_R_or _ _ | exact am_R_xor _ _ | exact aSum_R _ _ _ _) | assumption | exact ⟨by decide, by decide⟩ | exact ⟨by omega, by omega⟩) ⟨by decide, by decide⟩ (fun c378 => ?_) (fun c378 => ?_)
          · -- 378t
            refine sx_iconst dL_families_385 ?_
            refine sx_icmp_gt (tgt := 416) dL_families_386 (by decide) (by first | (with_reducible first | exact gfam_R hR hM _ _ | exact gchip_R hR hM _ _ | exact gword_R hR hM _ _ | exact gread_R hR _ | exact grow_R hR _ _ | exact hN _ | exact am_R_and _ _ | exact am_R_or _ _ | exact am_R_xor _ _ | exact aSum_R _ _ _ _) | assumption | exact ⟨by decide, by decide⟩ | exact ⟨by omega, by omega⟩) ⟨by decide, by decide⟩ (fun c386 => ?_) (fun c386 => ?_)
            · -- 386t
              (exfalso; first | (rw [if_pos c378] at q1; omega) | (rw [if_neg c378] at q1; omega))
            · -- 386f
              refine sx_iload dL_families_389 rfl ?_
              refine sx_iload dL_families_391 rfl ?_
              refine sx_ishr dL_families_393 ?_
              refine sx_iconst dL_families_394 ?_
              refine sx_iand dL_families_395 ?_
              refine sx_if_eq (tgt := 412) dL_families_396 (by decide) (by first | (with_reducible first | exact gfam_R hR hM _ _ | exact gchip_R hR hM _ _ | exact gword_R hR hM _ _ | exact gread_R hR _ | exact grow_R hR _ _ | exact hN _ | exact am_R_and _ _ | exact am_R_or _ _ | exact am_R_xor _ _ | exact aSum_R _ _ _ _) | assumption | exact ⟨by decide, by decide⟩ | exact ⟨by omega, by omega⟩) (fun c396 => ?_) (fun c396 => ?_)
              · -- 396t
                refine sx_iconst dL_families_412 ?_
                refine sx_goto (tgt := 417) dL_families_413 (by decide) ?_
                refine sx_istore dL_families_417 (by decide) ?_
                refine sx_iinc dL_families_419 rfl (by decide) ?_
                refine sx_goto (tgt := 249) dL_families_422 (by decide) ?_
                exact sx_forget 11 (sx_forget 12 (ih249 _ (by omega) (r + 1) rfl (by omega)))
              · -- 396f
                refine sx_aload_n dL_families_399 rfl ?_
                refine sx_iload dL_families_400 rfl ?_
                refine sx_iload dL_families_402 rfl ?_
                refine sx_callVi dL_families_404 ml_L_29 mv2_rowOf (pq_rowOf hP _ _ (by first | exact ⟨by decide, by decide⟩ | exact ⟨by omega, by omega⟩ | assumption | (with_reducible exact gfam_R hR hM _ _) | (with_reducible exact gword_R hR hM _ _)) (by first | exact ⟨by decide, by decide⟩ | exact ⟨by omega, by omega⟩ | assumption | (with_reducible exact gfam_R hR hM _ _) | (with_reducible exact gword_R hR hM _ _))) rfl am_obG rfl (Nat.le_of_ble_eq_true rfl) (Nat.le_of_ble_eq_true rfl) ?_
                refine sx_iload dL_families_407 rfl ?_
                refine sx_icmp_ne (tgt := 416) dL_families_409 (by decide) (by first | (with_reducible first | exact gfam_R hR hM _ _ | exact gchip_R hR hM _ _ | exact gword_R hR hM _ _ | exact gread_R hR _ | exact grow_R hR _ _ | exact hN _ | exact am_R_and _ _ | exact am_R_or _ _ | exact am_R_xor _ _ | exact aSum_R _ _ _ _) | assumption | exact ⟨by decide, by decide⟩ | exact ⟨by omega, by omega⟩) (by first | (with_reducible first | exact gfam_R hR hM _ _ | exact gchip_R hR hM _ _ | exact gword_R hR hM _ _ | exact gread_R hR _ | exact grow_R hR _ _ | exact hN _ | exact am_R_and _ _ | exact am_R_or _ _ | exact am_R_xor _ _ | exact aSum_R _ _ _ _) | assumption | exact ⟨by decide, by decide⟩ | exact ⟨by omega, by omega⟩) (fun c409 => ?_) (fun c409 => ?_)
                · -- 409t
                  exact absurd (q2.resolve_left c396) c409
                · -- 409f
                  refine sx_iconst dL_families_412 ?_
                  refine sx_goto (tgt := 417) dL_families_413 (by decide) ?_
                  refine sx_istore dL_families_417 (by decide) ?_
                  refine sx_iinc dL_families_419 rfl (by decide) ?_
                  refine sx_goto (tgt := 249) dL_families_422 (by decide) ?_
                  exact sx_forget 11 (sx_forget 12 (ih249 _ (by omega) (r + 1) rfl (by omega)))
          · -- 378f
            refine sx_iconst dL_families_381 ?_
            refine sx_goto (tgt := 386) dL_families_382 (by decide) ?_
            refine sx_icmp_gt (tgt := 416) dL_families_386 (by decide) (by first | (with_reducible first | exact gfam_R hR hM _ _ | exact gchip_R hR hM _ _ | exact gword_R hR hM _ _ | exact gread_R hR _ | exact grow_R hR _ _ | exact hN _ | exact am_R_and _ _ | exact am_R_or _ _ | exact am_R_xor _ _ | exact aSum_R _ _ _ _) | assumption | exact ⟨by decide, by decide⟩ | exact ⟨by omega, by omega⟩) ⟨by decide, by decide⟩ (fun c386 => ?_) (fun c386 => ?_)
            · -- 386t
              (exfalso; first | (rw [if_pos c378] at q1; omega) | (rw [if_neg c378] at q1; omega))
            · -- 386f
              refine sx_iload dL_families_389 rfl ?_
              refine sx_iload dL_families_391 rfl ?_
              refine sx_ishr dL_families_393 ?_
              refine sx_iconst dL_families_394 ?_
              refine sx_iand dL_families_395 ?_
              refine sx_if_eq (tgt := 412) dL_families_396 (by decide) (by first | (with_reducible first | exact gfam_R hR hM _ _ | exact gchip_R hR hM _ _ | exact gword_R hR hM _ _ | exact gread_R hR _ | exact grow_R hR _ _ | exact hN _ | exact am_R_and _ _ | exact am_R_or _ _ | exact am_R_xor _ _ | exact aSum_R _ _ _ _) | assumption | exact ⟨by decide, by decide⟩ | exact ⟨by omega, by omega⟩) (fun c396 => ?_) (fun c396 => ?_)
              · -- 396t
                refine sx_iconst dL_families_412 ?_
                refine sx_goto (tgt := 417) dL_families_413 (by decide) ?_
                refine sx_istore dL_families_417 (by decide) ?_
                refine sx_iinc dL_families_419 rfl (by decide) ?_
                refine sx_goto (tgt := 249) dL_families_422 (by decide) ?_
                exact sx_forget 11 (sx_forget 12 (ih249 _ (by omega) (r + 1) rfl (by omega)))
              · -- 396f
                refine sx_aload_n dL_families_399 rfl ?_
                refine sx_iload dL_families_400 rfl ?_
                refine sx_iload dL_families_402 rfl ?_
                refine sx_callVi dL_families_404 ml_L_29 mv2_rowOf (pq_rowOf hP _ _ (by first | exact ⟨by decide, by decide⟩ | exact ⟨by omega, by omega⟩ | assumption | (with_reducible exact gfam_R hR hM _ _) | (with_reducible exact gword_R hR hM _ _)) (by first | exact ⟨by decide, by decide⟩ | exact ⟨by omega, by omega⟩ | assumption | (with_reducible exact gfam_R hR hM _ _) | (with_reducible exact gword_R hR hM _ _))) rfl am_obG rfl (Nat.le_of_ble_eq_true rfl) (Nat.le_of_ble_eq_true rfl) ?_
                refine sx_iload dL_families_407 rfl ?_
                refine sx_icmp_ne (tgt := 416) dL_families_409 (by decide) (by first | (with_reducible first | exact gfam_R hR hM _ _ | exact gchip_R hR hM _ _ | exact gword_R hR hM _ _ | exact gread_R hR _ | exact grow_R hR _ _ | exact hN _ | exact am_R_and _ _ | exact am_R_or _ _ | exact am_R_xor _ _ | exact aSum_R _ _ _ _) | assumption | exact ⟨by decide, by decide⟩ | exact ⟨by omega, by omega⟩) (by first | (with_reducible first | exact gfam_R hR hM _ _ | exact gchip_R hR hM _ _ | exact gword_R hR hM _ _ | exact gread_R hR _ | exact grow_R hR _ _ | exact hN _ | exact am_R_and _ _ | exact am_R_or _ _ | exact am_R_xor _ _ | exact aSum_R _ _ _ _) | assumption | exact ⟨by decide, by decide⟩ | exact ⟨by omega, by omega⟩) (fun c409 => ?_) (fun c409 => ?_)
                · -- 409t
                  exact absurd (q2.resolve_left c396) c409
                · -- 409f
                  refine sx_iconst dL_families_412 ?_
                  refine sx_goto (tgt := 417) dL_families_413 (by decide) ?_
                  refine sx_istore dL_families_417 (by decide) ?_
                  refine sx_iinc dL_families_419 rfl (by decide) ?_
                  refine sx_goto (tgt := 249) dL_families_422 (by decide) ?_
                  exact sx_forget 11 (sx_forget 12 (ih249 _ (by omega) (r + 1) rfl (by omega)))
  exact loop249 _ 0 rfl (by omega)
set_option maxHeartbeats 4000000 in
set_option maxRecDepth 100000 in
theorem fam_c {h : am_H} {H W K L f hd rows set : Int} (k : Sx 3 YL_families h (some (.inl 1)) 114 [some (.inr (6, 0)), some (.inl H), some (.inl W), some (.inl K), some (.inl (L + sumW (fun c => bit set c) 8)), some (.inl 1), some (.inl f), some (.inl hd), some (.inl rows), some (.inl set), none, none, none, none, none] [] h) : Sx 3 YL_families h (some (.inl 1)) 89 [some (.inr (6, 0)), some (.inl H), some (.inl W), some (.inl K), some (.inl L), some (.inl 1), some (.inl f), some (.inl hd), some (.inl rows), some (.inl set), some (.inl 0), none, none, none, none] [] h := by
  skip
  have loop89 : ∀ (n : Nat) (Lc : Int) (c : Nat), 8 - c = n → c ≤ 8 → Lc = L + sumW (fun c => bit set c) c → Sx 3 YL_families h (some (.inl 1)) 89 [some (.inr (6, 0)), some (.inl H), some (.inl W), some (.inl K), some (.inl Lc), some (.inl 1), some (.inl f), some (.inl hd), some (.inl rows), some (.inl set), some (.inl (c : Int)), none, none, none, none] [] h := by
    intro n
    induction n using Nat.strongRecOn with
    | _ n ih89 =>
      intro Lc c hn hle hs
      subst hs
      refine sx_iload dL_families_89 rfl ?_
      refine sx_bipush dL_families_91 rfl ?_
      refine sx_icmp_ge (tgt := 114) dL_families_93 (by decide) (by first | (with_reducible first | exact gfam_R hR hM _ _ | exact gchip_R hR hM _ _ | exact gword_R hR hM _ _ | exact gread_R hR _ | exact grow_R hR _ _ | exact hN _ | exact am_R_and _ _ | exact am_R_or _ _ | exact am_R_xor _ _ | exact aSum_R _ _ _ _) | assumption | exact ⟨by decide, by decide⟩ | exact ⟨by omega, by omega⟩) ⟨by decide, by decide⟩ (fun c93 => ?_) (fun c93 => ?_)
      · -- 93t
        have ec : c = 8 := by omega
        subst ec
        exact sx_forget 10 k
      · -- 93f
        refine sx_iload dL_families_96 rfl ?_
        refine sx_iload dL_families_98 rfl ?_
        refine sx_iload dL_families_100 rfl ?_
        refine sx_ishr dL_families_102 ?_
        refine sx_iconst dL_families_103 ?_
        refine sx_iand dL_families_104 ?_
        refine sx_iadd dL_families_105 ?_
        refine sx_istore dL_families_106 (by decide) ?_
        refine sx_iinc dL_families_108 rfl (by decide) ?_
        refine sx_goto (tgt := 89) dL_families_111 (by decide) ?_
        exact ih89 _ (by omega) _ (c + 1) rfl (by omega) (by simp only [sumW, bit]; omega)
  exact loop89 _ _ 0 rfl (by omega) (by simp only [sumW]; omega)
set_option maxHeartbeats 4000000 in
set_option maxRecDepth 100000 in
theorem fam_f {h : am_H} {S : Nat → Int} {n : Int} (hP : PH h S n) (k : Sx 3 YL_families h (some (.inl 1)) 431 [some (.inr (6, 0)), some (.inl (gcnt (gP h) (h.1 6 0 4) (h.1 6 2 1) 8)), some (.inl (gcnt (gP h) (h.1 6 0 4) (h.1 6 2 1) 4)), some (.inl (gcnt (gP h) (h.1 6 0 4) (h.1 6 2 1) 3)), some (.inl (gcnt (gP h) (h.1 6 0 4) (h.1 6 2 1) 1)), some (.inl 1), none, none, none, none, none, none, none, none, none] [] h) : Sx 3 YL_families h (some (.inl 1)) 15 [some (.inr (6, 0)), some (.inl 0), some (.inl 0), some (.inl 0), some (.inl 0), some (.inl 1), some (.inl 0), none, none, none, none, none, none, none, none] [] h := by
  refine sx_vh (fun hV => ?_)
  have hR : ∀ j k, am_R (gP h j k) := fun j k => hV.1 _ j k
  have hM := PH_WM hP
  have hN : ∀ k, am_R (gcnt (gP h) (h.1 6 0 4) (h.1 6 2 1) k) := fun k => gcnt_R hR hM (hV.1 6 0 4) (hV.1 6 2 1) k
  have h24 := hM.2.1
  have h8 := hM.1
  have n2 : (gcnt (gP h) (h.1 6 0 4) (h.1 6 2 1) 2) = gP h 0 2 := rfl
  have n0 : (gcnt (gP h) (h.1 6 0 4) (h.1 6 2 1) 0) = gP h 0 0 := rfl
  have loop15 : ∀ (n : Nat) (H W K L : Int) (f : Nat), 3 - f = n → f ≤ 3 → H = aHd (gP h) f → W = sumW (fun f => gfam (gP h) f 2) f → K = sumW (fun f => gfam (gP h) f 3) f → L = sumW (fun f => sumW (fun c => bit (gfam (gP h) f 1) c) 8) f → Sx 3 YL_families h (some (.inl 1)) 15 [some (.inr (6, 0)), some (.inl H), some (.inl W), some (.inl K), some (.inl L), some (.inl 1), some (.inl (f : Int)), none, none, none, none, none, none, none, none] [] h := by
    intro n
    induction n using Nat.strongRecOn with
    | _ n ih15 =>
      intro H W K L f hn hle e1 e2 e3 e4
      subst e1
      subst e2
      subst e3
      subst e4
      refine sx_iload dL_families_15 rfl ?_
      refine sx_iconst dL_families_17 ?_
      refine sx_icmp_ge (tgt := 431) dL_families_18 (by decide) (by first | (with_reducible first | exact gfam_R hR hM _ _ | exact gchip_R hR hM _ _ | exact gword_R hR hM _ _ | exact gread_R hR _ | exact grow_R hR _ _ | exact hN _ | exact am_R_and _ _ | exact am_R_or _ _ | exact am_R_xor _ _ | exact aSum_R _ _ _ _) | assumption | exact ⟨by decide, by decide⟩ | exact ⟨by omega, by omega⟩) ⟨by decide, by decide⟩ (fun c18 => ?_) (fun c18 => ?_)
      · -- 18t
        have ef : f = 3 := by omega
        subst ef
        obtain ⟨e8, e4, e3, e1, -⟩ := FA_c hP.2 (h.1 6 0 4) (h.1 6 2 1)
        rw [← e8, ← e4, ← e3, ← e1]
        exact sx_forget 6 k
      · -- 18f
        have hf : 0 ≤ (f : Int) ∧ (f : Int) ≤ 2 := by omega
        obtain ⟨a1, a2, a3, a4⟩ := FA_f hP.2 hR hf
        refine sx_iload dL_families_21 rfl ?_
        refine sx_if_eq (tgt := 431) dL_families_23 (by decide) ⟨by decide, by decide⟩ (fun q => absurd q (by decide)) (fun _ => ?_)
        refine sx_aload_n dL_families_26 rfl ?_
        refine sx_iload dL_families_27 rfl ?_
        refine sx_iconst dL_families_29 ?_
        refine sx_callVi dL_families_30 ml_L_9 mv2_familyOf (pq_familyOf hP _ _ (by first | exact ⟨by decide, by decide⟩ | exact ⟨by omega, by omega⟩ | assumption | (with_reducible exact gfam_R hR hM _ _) | (with_reducible exact gword_R hR hM _ _)) (by first | exact ⟨by decide, by decide⟩ | exact ⟨by omega, by omega⟩ | assumption | (with_reducible exact gfam_R hR hM _ _) | (with_reducible exact gword_R hR hM _ _))) rfl am_obG rfl (Nat.le_of_ble_eq_true rfl) (Nat.le_of_ble_eq_true rfl) ?_
        refine sx_istore dL_families_33 (by decide) ?_
        refine sx_aload_n dL_families_35 rfl ?_
        refine sx_iload dL_families_36 rfl ?_
        refine sx_iconst dL_families_38 ?_
        refine sx_callVi dL_families_39 ml_L_9 mv2_familyOf (pq_familyOf hP _ _ (by first | exact ⟨by decide, by decide⟩ | exact ⟨by omega, by omega⟩ | assumption | (with_reducible exact gfam_R hR hM _ _) | (with_reducible exact gword_R hR hM _ _)) (by first | exact ⟨by decide, by decide⟩ | exact ⟨by omega, by omega⟩ | assumption | (with_reducible exact gfam_R hR hM _ _) | (with_reducible exact gword_R hR hM _ _))) rfl am_obG rfl (Nat.le_of_ble_eq_true rfl) (Nat.le_of_ble_eq_true rfl) ?_
        refine sx_istore dL_families_42 (by decide) ?_
        refine sx_iload_n dL_families_44 rfl ?_
        refine sx_iload dL_families_45 rfl ?_
        refine sx_if_lt (tgt := 54) dL_families_47 (by decide) (by first | (with_reducible first | exact gfam_R hR hM _ _ | exact gchip_R hR hM _ _ | exact gword_R hR hM _ _ | exact gread_R hR _ | exact grow_R hR _ _ | exact hN _ | exact am_R_and _ _ | exact am_R_or _ _ | exact am_R_xor _ _ | exact aSum_R _ _ _ _) | assumption | exact ⟨by decide, by decide⟩ | exact ⟨by omega, by omega⟩) (fun c47 => ?_) (fun c47 => ?_)
        · -- 47t
          refine sx_iconst dL_families_54 ?_
          refine sx_iadd dL_families_55 ?_
          refine sx_istore_n dL_families_56 (by decide) ?_
          refine sx_iload_n dL_families_57 rfl ?_
          refine sx_aload_n dL_families_58 rfl ?_
          refine sx_iload dL_families_59 rfl ?_
          refine sx_iconst dL_families_61 ?_
          refine sx_callVi dL_families_62 ml_L_9 mv2_familyOf (pq_familyOf hP _ _ (by first | exact ⟨by decide, by decide⟩ | exact ⟨by omega, by omega⟩ | assumption | (with_reducible exact gfam_R hR hM _ _) | (with_reducible exact gword_R hR hM _ _)) (by first | exact ⟨by decide, by decide⟩ | exact ⟨by omega, by omega⟩ | assumption | (with_reducible exact gfam_R hR hM _ _) | (with_reducible exact gword_R hR hM _ _))) rfl am_obG rfl (Nat.le_of_ble_eq_true rfl) (Nat.le_of_ble_eq_true rfl) ?_
          refine sx_iadd dL_families_65 ?_
          refine sx_istore_n dL_families_66 (by decide) ?_
          refine sx_iload_n dL_families_67 rfl ?_
          refine sx_aload_n dL_families_68 rfl ?_
          refine sx_iload dL_families_69 rfl ?_
          refine sx_iconst dL_families_71 ?_
          refine sx_callVi dL_families_72 ml_L_9 mv2_familyOf (pq_familyOf hP _ _ (by first | exact ⟨by decide, by decide⟩ | exact ⟨by omega, by omega⟩ | assumption | (with_reducible exact gfam_R hR hM _ _) | (with_reducible exact gword_R hR hM _ _)) (by first | exact ⟨by decide, by decide⟩ | exact ⟨by omega, by omega⟩ | assumption | (with_reducible exact gfam_R hR hM _ _) | (with_reducible exact gword_R hR hM _ _))) rfl am_obG rfl (Nat.le_of_ble_eq_true rfl) (Nat.le_of_ble_eq_true rfl) ?_
          refine sx_iadd dL_families_75 ?_
          refine sx_istore_n dL_families_76 (by decide) ?_
          refine sx_aload_n dL_families_77 rfl ?_
          refine sx_iload dL_families_78 rfl ?_
          refine sx_iconst dL_families_80 ?_
          refine sx_callVi dL_families_81 ml_L_9 mv2_familyOf (pq_familyOf hP _ _ (by first | exact ⟨by decide, by decide⟩ | exact ⟨by omega, by omega⟩ | assumption | (with_reducible exact gfam_R hR hM _ _) | (with_reducible exact gword_R hR hM _ _)) (by first | exact ⟨by decide, by decide⟩ | exact ⟨by omega, by omega⟩ | assumption | (with_reducible exact gfam_R hR hM _ _) | (with_reducible exact gword_R hR hM _ _))) rfl am_obG rfl (Nat.le_of_ble_eq_true rfl) (Nat.le_of_ble_eq_true rfl) ?_
          refine sx_istore dL_families_84 (by decide) ?_
          refine sx_iconst dL_families_86 ?_
          refine sx_istore dL_families_87 (by decide) ?_
          refine fam_c ?_
          refine sx_iload dL_families_114 rfl ?_
          refine sx_if_lt (tgt := 171) dL_families_116 (by decide) (by first | (with_reducible first | exact gfam_R hR hM _ _ | exact gchip_R hR hM _ _ | exact gword_R hR hM _ _ | exact gread_R hR _ | exact grow_R hR _ _ | exact hN _ | exact am_R_and _ _ | exact am_R_or _ _ | exact am_R_xor _ _ | exact aSum_R _ _ _ _) | assumption | exact ⟨by decide, by decide⟩ | exact ⟨by omega, by omega⟩) (fun c116 => ?_) (fun c116 => ?_)
          · -- 116t
            refine sx_iload dL_families_171 rfl ?_
            refine sx_if_ne (tgt := 243) dL_families_173 (by decide) (by first | (with_reducible first | exact gfam_R hR hM _ _ | exact gchip_R hR hM _ _ | exact gword_R hR hM _ _ | exact gread_R hR _ | exact grow_R hR _ _ | exact hN _ | exact am_R_and _ _ | exact am_R_or _ _ | exact am_R_xor _ _ | exact aSum_R _ _ _ _) | assumption | exact ⟨by decide, by decide⟩ | exact ⟨by omega, by omega⟩) (fun c173 => ?_) (fun c173 => ?_)
            · -- 173t
              exact absurd (a1 (by omega)).1 c173
            · -- 173f
              refine sx_aload_n dL_families_176 rfl ?_
              refine sx_iload dL_families_177 rfl ?_
              refine sx_iconst dL_families_179 ?_
              refine sx_callVi dL_families_180 ml_L_9 mv2_familyOf (pq_familyOf hP _ _ (by first | exact ⟨by decide, by decide⟩ | exact ⟨by omega, by omega⟩ | assumption | (with_reducible exact gfam_R hR hM _ _) | (with_reducible exact gword_R hR hM _ _)) (by first | exact ⟨by decide, by decide⟩ | exact ⟨by omega, by omega⟩ | assumption | (with_reducible exact gfam_R hR hM _ _) | (with_reducible exact gword_R hR hM _ _))) rfl am_obG rfl (Nat.le_of_ble_eq_true rfl) (Nat.le_of_ble_eq_true rfl) ?_
              refine sx_if_ne (tgt := 243) dL_families_183 (by decide) (by first | (with_reducible first | exact gfam_R hR hM _ _ | exact gchip_R hR hM _ _ | exact gword_R hR hM _ _ | exact gread_R hR _ | exact grow_R hR _ _ | exact hN _ | exact am_R_and _ _ | exact am_R_or _ _ | exact am_R_xor _ _ | exact aSum_R _ _ _ _) | assumption | exact ⟨by decide, by decide⟩ | exact ⟨by omega, by omega⟩) (fun c183 => ?_) (fun c183 => ?_)
              · -- 183t
                exact absurd (a1 (by omega)).2 c183
              · -- 183f
                refine sx_aload_n dL_families_186 rfl ?_
                refine sx_iload dL_families_187 rfl ?_
                refine sx_bipush dL_families_189 rfl ?_
                refine sx_callVi dL_families_191 ml_L_9 mv2_familyOf (pq_familyOf hP _ _ (by first | exact ⟨by decide, by decide⟩ | exact ⟨by omega, by omega⟩ | assumption | (with_reducible exact gfam_R hR hM _ _) | (with_reducible exact gword_R hR hM _ _)) (by first | exact ⟨by decide, by decide⟩ | exact ⟨by omega, by omega⟩ | assumption | (with_reducible exact gfam_R hR hM _ _) | (with_reducible exact gword_R hR hM _ _))) rfl am_obG rfl (Nat.le_of_ble_eq_true rfl) (Nat.le_of_ble_eq_true rfl) ?_
                refine sx_ldc dL_families_194 kc_L_18 ?_
                refine sx_icmp_ne (tgt := 203) dL_families_196 (by decide) (by first | (with_reducible first | exact gfam_R hR hM _ _ | exact gchip_R hR hM _ _ | exact gword_R hR hM _ _ | exact gread_R hR _ | exact grow_R hR _ _ | exact hN _ | exact am_R_and _ _ | exact am_R_or _ _ | exact am_R_xor _ _ | exact aSum_R _ _ _ _) | assumption | exact ⟨by decide, by decide⟩ | exact ⟨by omega, by omega⟩) ⟨by decide, by decide⟩ (fun c196 => ?_) (fun c196 => ?_)
                · -- 196t
                  refine sx_iconst dL_families_203 ?_
                  refine sx_aload_n dL_families_204 rfl ?_
                  refine sx_iload dL_families_205 rfl ?_
                  refine sx_iconst dL_families_207 ?_
                  refine sx_callVi dL_families_208 ml_L_9 mv2_familyOf (pq_familyOf hP _ _ (by first | exact ⟨by decide, by decide⟩ | exact ⟨by omega, by omega⟩ | assumption | (with_reducible exact gfam_R hR hM _ _) | (with_reducible exact gword_R hR hM _ _)) (by first | exact ⟨by decide, by decide⟩ | exact ⟨by omega, by omega⟩ | assumption | (with_reducible exact gfam_R hR hM _ _) | (with_reducible exact gword_R hR hM _ _))) rfl am_obG rfl (Nat.le_of_ble_eq_true rfl) (Nat.le_of_ble_eq_true rfl) ?_
                  refine sx_if_ne (tgt := 218) dL_families_211 (by decide) (by first | (with_reducible first | exact gfam_R hR hM _ _ | exact gchip_R hR hM _ _ | exact gword_R hR hM _ _ | exact gread_R hR _ | exact grow_R hR _ _ | exact hN _ | exact am_R_and _ _ | exact am_R_or _ _ | exact am_R_xor _ _ | exact aSum_R _ _ _ _) | assumption | exact ⟨by decide, by decide⟩ | exact ⟨by omega, by omega⟩) (fun c211 => ?_) (fun c211 => ?_)
                  · -- 211t
                    refine sx_iconst dL_families_218 ?_
                    refine sx_icmp_ne (tgt := 243) dL_families_219 (by decide) ⟨by decide, by decide⟩ ⟨by decide, by decide⟩ (fun q => absurd q (by decide)) (fun _ => ?_)
                    refine sx_aload_n dL_families_222 rfl ?_
                    refine sx_iload dL_families_223 rfl ?_
                    refine sx_iconst dL_families_225 ?_
                    refine sx_callVi dL_families_226 ml_L_9 mv2_familyOf (pq_familyOf hP _ _ (by first | exact ⟨by decide, by decide⟩ | exact ⟨by omega, by omega⟩ | assumption | (with_reducible exact gfam_R hR hM _ _) | (with_reducible exact gword_R hR hM _ _)) (by first | exact ⟨by decide, by decide⟩ | exact ⟨by omega, by omega⟩ | assumption | (with_reducible exact gfam_R hR hM _ _) | (with_reducible exact gword_R hR hM _ _))) rfl am_obG rfl (Nat.le_of_ble_eq_true rfl) (Nat.le_of_ble_eq_true rfl) ?_
                    refine sx_aload_n dL_families_229 rfl ?_
                    refine sx_iload dL_families_230 rfl ?_
                    refine sx_iconst dL_families_232 ?_
                    refine sx_callVi dL_families_233 ml_L_9 mv2_familyOf (pq_familyOf hP _ _ (by first | exact ⟨by decide, by decide⟩ | exact ⟨by omega, by omega⟩ | assumption | (with_reducible exact gfam_R hR hM _ _) | (with_reducible exact gword_R hR hM _ _)) (by first | exact ⟨by decide, by decide⟩ | exact ⟨by omega, by omega⟩ | assumption | (with_reducible exact gfam_R hR hM _ _) | (with_reducible exact gword_R hR hM _ _))) rfl am_obG rfl (Nat.le_of_ble_eq_true rfl) (Nat.le_of_ble_eq_true rfl) ?_
                    refine sx_icmp_gt (tgt := 243) dL_families_236 (by decide) (by first | (with_reducible first | exact gfam_R hR hM _ _ | exact gchip_R hR hM _ _ | exact gword_R hR hM _ _ | exact gread_R hR _ | exact grow_R hR _ _ | exact hN _ | exact am_R_and _ _ | exact am_R_or _ _ | exact am_R_xor _ _ | exact aSum_R _ _ _ _) | assumption | exact ⟨by decide, by decide⟩ | exact ⟨by omega, by omega⟩) (by first | (with_reducible first | exact gfam_R hR hM _ _ | exact gchip_R hR hM _ _ | exact gword_R hR hM _ _ | exact gread_R hR _ | exact grow_R hR _ _ | exact hN _ | exact am_R_and _ _ | exact am_R_or _ _ | exact am_R_xor _ _ | exact aSum_R _ _ _ _) | assumption | exact ⟨by decide, by decide⟩ | exact ⟨by omega, by omega⟩) (fun c236 => ?_) (fun c236 => ?_)
                    · -- 236t
                      exfalso; omega
                    · -- 236f
                      refine sx_iconst dL_families_239 ?_
                      refine sx_goto (tgt := 244) dL_families_240 (by decide) ?_
                      refine sx_istore dL_families_244 (by decide) ?_
                      refine sx_iconst dL_families_246 ?_
                      refine sx_istore dL_families_247 (by decide) ?_
                      refine fam_r hP hf ?_
                      refine sx_iinc dL_families_425 rfl (by decide) ?_
                      refine sx_goto (tgt := 15) dL_families_428 (by decide) ?_
                      exact ih15 _ (by omega) _ _ _ _ (f + 1) rfl (by omega) (by simp only [aHd, if_pos c18, if_neg (Int.not_le.mpr c18), if_pos c47, if_neg (Int.not_le.mpr c47), if_pos c116, if_neg (Int.not_le.mpr c116), if_pos c173, if_pos c183, if_neg c196, if_neg c211, if_pos c236, if_neg (Int.not_lt.mpr c236)]) (by simp only [sumW]) (by simp only [sumW]) (by simp only [sumW])
                  · -- 211f
                    refine sx_iconst dL_families_214 ?_
                    refine sx_goto (tgt := 219) dL_families_215 (by decide) ?_
                    refine sx_icmp_ne (tgt := 243) dL_families_219 (by decide) ⟨by decide, by decide⟩ ⟨by decide, by decide⟩ (fun _ => ?_) (fun q => absurd q (by decide))
                    (exfalso; first | omega | exact c196 (a3.mpr (by assumption)) | exact absurd (a3.mp c196) (by assumption))
                · -- 196f
                  refine sx_iconst dL_families_199 ?_
                  refine sx_goto (tgt := 204) dL_families_200 (by decide) ?_
                  refine sx_aload_n dL_families_204 rfl ?_
                  refine sx_iload dL_families_205 rfl ?_
                  refine sx_iconst dL_families_207 ?_
                  refine sx_callVi dL_families_208 ml_L_9 mv2_familyOf (pq_familyOf hP _ _ (by first | exact ⟨by decide, by decide⟩ | exact ⟨by omega, by omega⟩ | assumption | (with_reducible exact gfam_R hR hM _ _) | (with_reducible exact gword_R hR hM _ _)) (by first | exact ⟨by decide, by decide⟩ | exact ⟨by omega, by omega⟩ | assumption | (with_reducible exact gfam_R hR hM _ _) | (with_reducible exact gword_R hR hM _ _))) rfl am_obG rfl (Nat.le_of_ble_eq_true rfl) (Nat.le_of_ble_eq_true rfl) ?_
                  refine sx_if_ne (tgt := 218) dL_families_211 (by decide) (by first | (with_reducible first | exact gfam_R hR hM _ _ | exact gchip_R hR hM _ _ | exact gword_R hR hM _ _ | exact gread_R hR _ | exact grow_R hR _ _ | exact hN _ | exact am_R_and _ _ | exact am_R_or _ _ | exact am_R_xor _ _ | exact aSum_R _ _ _ _) | assumption | exact ⟨by decide, by decide⟩ | exact ⟨by omega, by omega⟩) (fun c211 => ?_) (fun c211 => ?_)
                  · -- 211t
                    refine sx_iconst dL_families_218 ?_
                    refine sx_icmp_ne (tgt := 243) dL_families_219 (by decide) ⟨by decide, by decide⟩ ⟨by decide, by decide⟩ (fun _ => ?_) (fun q => absurd q (by decide))
                    (exfalso; first | omega | exact c196 (a3.mpr (by assumption)) | exact absurd (a3.mp c196) (by assumption))
                  · -- 211f
                    refine sx_iconst dL_families_214 ?_
                    refine sx_goto (tgt := 219) dL_families_215 (by decide) ?_
                    refine sx_icmp_ne (tgt := 243) dL_families_219 (by decide) ⟨by decide, by decide⟩ ⟨by decide, by decide⟩ (fun q => absurd q (by decide)) (fun _ => ?_)
                    refine sx_aload_n dL_families_222 rfl ?_
                    refine sx_iload dL_families_223 rfl ?_
                    refine sx_iconst dL_families_225 ?_
                    refine sx_callVi dL_families_226 ml_L_9 mv2_familyOf (pq_familyOf hP _ _ (by first | exact ⟨by decide, by decide⟩ | exact ⟨by omega, by omega⟩ | assumption | (with_reducible exact gfam_R hR hM _ _) | (with_reducible exact gword_R hR hM _ _)) (by first | exact ⟨by decide, by decide⟩ | exact ⟨by omega, by omega⟩ | assumption | (with_reducible exact gfam_R hR hM _ _) | (with_reducible exact gword_R hR hM _ _))) rfl am_obG rfl (Nat.le_of_ble_eq_true rfl) (Nat.le_of_ble_eq_true rfl) ?_
                    refine sx_aload_n dL_families_229 rfl ?_
                    refine sx_iload dL_families_230 rfl ?_
                    refine sx_iconst dL_families_232 ?_
                    refine sx_callVi dL_families_233 ml_L_9 mv2_familyOf (pq_familyOf hP _ _ (by first | exact ⟨by decide, by decide⟩ | exact ⟨by omega, by omega⟩ | assumption | (with_reducible exact gfam_R hR hM _ _) | (with_reducible exact gword_R hR hM _ _)) (by first | exact ⟨by decide, by decide⟩ | exact ⟨by omega, by omega⟩ | assumption | (with_reducible exact gfam_R hR hM _ _) | (with_reducible exact gword_R hR hM _ _))) rfl am_obG rfl (Nat.le_of_ble_eq_true rfl) (Nat.le_of_ble_eq_true rfl) ?_
                    refine sx_icmp_gt (tgt := 243) dL_families_236 (by decide) (by first | (with_reducible first | exact gfam_R hR hM _ _ | exact gchip_R hR hM _ _ | exact gword_R hR hM _ _ | exact gread_R hR _ | exact grow_R hR _ _ | exact hN _ | exact am_R_and _ _ | exact am_R_or _ _ | exact am_R_xor _ _ | exact aSum_R _ _ _ _) | assumption | exact ⟨by decide, by decide⟩ | exact ⟨by omega, by omega⟩) (by first | (with_reducible first | exact gfam_R hR hM _ _ | exact gchip_R hR hM _ _ | exact gword_R hR hM _ _ | exact gread_R hR _ | exact grow_R hR _ _ | exact hN _ | exact am_R_and _ _ | exact am_R_or _ _ | exact am_R_xor _ _ | exact aSum_R _ _ _ _) | assumption | exact ⟨by decide, by decide⟩ | exact ⟨by omega, by omega⟩) (fun c236 => ?_) (fun c236 => ?_)
                    · -- 236t
                      exfalso; omega
                    · -- 236f
                      refine sx_iconst dL_families_239 ?_
                      refine sx_goto (tgt := 244) dL_families_240 (by decide) ?_
                      refine sx_istore dL_families_244 (by decide) ?_
                      refine sx_iconst dL_families_246 ?_
                      refine sx_istore dL_families_247 (by decide) ?_
                      refine fam_r hP hf ?_
                      refine sx_iinc dL_families_425 rfl (by decide) ?_
                      refine sx_goto (tgt := 15) dL_families_428 (by decide) ?_
                      exact ih15 _ (by omega) _ _ _ _ (f + 1) rfl (by omega) (by simp only [aHd, if_pos c18, if_neg (Int.not_le.mpr c18), if_pos c47, if_neg (Int.not_le.mpr c47), if_pos c116, if_neg (Int.not_le.mpr c116), if_pos c173, if_pos c183, if_pos c196, if_pos c211, if_pos c236, if_neg (Int.not_lt.mpr c236)]) (by simp only [sumW]) (by simp only [sumW]) (by simp only [sumW])
          · -- 116f
            exfalso; omega
        · -- 47f
          refine sx_iconst dL_families_50 ?_
          refine sx_goto (tgt := 55) dL_families_51 (by decide) ?_
          refine sx_iadd dL_families_55 ?_
          refine sx_istore_n dL_families_56 (by decide) ?_
          refine sx_iload_n dL_families_57 rfl ?_
          refine sx_aload_n dL_families_58 rfl ?_
          refine sx_iload dL_families_59 rfl ?_
          refine sx_iconst dL_families_61 ?_
          refine sx_callVi dL_families_62 ml_L_9 mv2_familyOf (pq_familyOf hP _ _ (by first | exact ⟨by decide, by decide⟩ | exact ⟨by omega, by omega⟩ | assumption | (with_reducible exact gfam_R hR hM _ _) | (with_reducible exact gword_R hR hM _ _)) (by first | exact ⟨by decide, by decide⟩ | exact ⟨by omega, by omega⟩ | assumption | (with_reducible exact gfam_R hR hM _ _) | (with_reducible exact gword_R hR hM _ _))) rfl am_obG rfl (Nat.le_of_ble_eq_true rfl) (Nat.le_of_ble_eq_true rfl) ?_
          refine sx_iadd dL_families_65 ?_
          refine sx_istore_n dL_families_66 (by decide) ?_
          refine sx_iload_n dL_families_67 rfl ?_
          refine sx_aload_n dL_families_68 rfl ?_
          refine sx_iload dL_families_69 rfl ?_
          refine sx_iconst dL_families_71 ?_
          refine sx_callVi dL_families_72 ml_L_9 mv2_familyOf (pq_familyOf hP _ _ (by first | exact ⟨by decide, by decide⟩ | exact ⟨by omega, by omega⟩ | assumption | (with_reducible exact gfam_R hR hM _ _) | (with_reducible exact gword_R hR hM _ _)) (by first | exact ⟨by decide, by decide⟩ | exact ⟨by omega, by omega⟩ | assumption | (with_reducible exact gfam_R hR hM _ _) | (with_reducible exact gword_R hR hM _ _))) rfl am_obG rfl (Nat.le_of_ble_eq_true rfl) (Nat.le_of_ble_eq_true rfl) ?_
          refine sx_iadd dL_families_75 ?_
          refine sx_istore_n dL_families_76 (by decide) ?_
          refine sx_aload_n dL_families_77 rfl ?_
          refine sx_iload dL_families_78 rfl ?_
          refine sx_iconst dL_families_80 ?_
          refine sx_callVi dL_families_81 ml_L_9 mv2_familyOf (pq_familyOf hP _ _ (by first | exact ⟨by decide, by decide⟩ | exact ⟨by omega, by omega⟩ | assumption | (with_reducible exact gfam_R hR hM _ _) | (with_reducible exact gword_R hR hM _ _)) (by first | exact ⟨by decide, by decide⟩ | exact ⟨by omega, by omega⟩ | assumption | (with_reducible exact gfam_R hR hM _ _) | (with_reducible exact gword_R hR hM _ _))) rfl am_obG rfl (Nat.le_of_ble_eq_true rfl) (Nat.le_of_ble_eq_true rfl) ?_
          refine sx_istore dL_families_84 (by decide) ?_
          refine sx_iconst dL_families_86 ?_
          refine sx_istore dL_families_87 (by decide) ?_
          refine fam_c ?_
          refine sx_iload dL_families_114 rfl ?_
          refine sx_if_lt (tgt := 171) dL_families_116 (by decide) (by first | (with_reducible first | exact gfam_R hR hM _ _ | exact gchip_R hR hM _ _ | exact gword_R hR hM _ _ | exact gread_R hR _ | exact grow_R hR _ _ | exact hN _ | exact am_R_and _ _ | exact am_R_or _ _ | exact am_R_xor _ _ | exact aSum_R _ _ _ _) | assumption | exact ⟨by decide, by decide⟩ | exact ⟨by omega, by omega⟩) (fun c116 => ?_) (fun c116 => ?_)
          · -- 116t
            exfalso; omega
          · -- 116f
            refine sx_iload dL_families_119 rfl ?_
            refine sx_iload dL_families_121 rfl ?_
            refine sx_ishr dL_families_123 ?_
            refine sx_iconst dL_families_124 ?_
            refine sx_iand dL_families_125 ?_
            refine sx_iconst dL_families_126 ?_
            refine sx_icmp_ne (tgt := 243) dL_families_127 (by decide) (by first | (with_reducible first | exact gfam_R hR hM _ _ | exact gchip_R hR hM _ _ | exact gword_R hR hM _ _ | exact gread_R hR _ | exact grow_R hR _ _ | exact hN _ | exact am_R_and _ _ | exact am_R_or _ _ | exact am_R_xor _ _ | exact aSum_R _ _ _ _) | assumption | exact ⟨by decide, by decide⟩ | exact ⟨by omega, by omega⟩) ⟨by decide, by decide⟩ (fun c127 => ?_) (fun c127 => ?_)
            · -- 127t
              exact absurd (a2 (by omega)).1.1 c127
            · -- 127f
              refine sx_aload_n dL_families_130 rfl ?_
              refine sx_iload dL_families_131 rfl ?_
              refine sx_iconst dL_families_133 ?_
              refine sx_callVi dL_families_134 ml_L_15 mv2_chipOf (pq_chipOf hP _ _ (by first | exact ⟨by decide, by decide⟩ | exact ⟨by omega, by omega⟩ | assumption | (with_reducible exact gfam_R hR hM _ _) | (with_reducible exact gword_R hR hM _ _)) (by first | exact ⟨by decide, by decide⟩ | exact ⟨by omega, by omega⟩ | assumption | (with_reducible exact gfam_R hR hM _ _) | (with_reducible exact gword_R hR hM _ _))) rfl am_obG rfl (Nat.le_of_ble_eq_true rfl) (Nat.le_of_ble_eq_true rfl) ?_
              refine sx_iconst dL_families_137 ?_
              refine sx_icmp_ne (tgt := 243) dL_families_138 (by decide) (by first | (with_reducible first | exact gfam_R hR hM _ _ | exact gchip_R hR hM _ _ | exact gword_R hR hM _ _ | exact gread_R hR _ | exact grow_R hR _ _ | exact hN _ | exact am_R_and _ _ | exact am_R_or _ _ | exact am_R_xor _ _ | exact aSum_R _ _ _ _) | assumption | exact ⟨by decide, by decide⟩ | exact ⟨by omega, by omega⟩) ⟨by decide, by decide⟩ (fun c138 => ?_) (fun c138 => ?_)
              · -- 138t
                exact absurd (a2 (by omega)).1.2.1 c138
              · -- 138f
                refine sx_aload_n dL_families_141 rfl ?_
                refine sx_iload dL_families_142 rfl ?_
                refine sx_iconst dL_families_144 ?_
                refine sx_callVi dL_families_145 ml_L_15 mv2_chipOf (pq_chipOf hP _ _ (by first | exact ⟨by decide, by decide⟩ | exact ⟨by omega, by omega⟩ | assumption | (with_reducible exact gfam_R hR hM _ _) | (with_reducible exact gword_R hR hM _ _)) (by first | exact ⟨by decide, by decide⟩ | exact ⟨by omega, by omega⟩ | assumption | (with_reducible exact gfam_R hR hM _ _) | (with_reducible exact gword_R hR hM _ _))) rfl am_obG rfl (Nat.le_of_ble_eq_true rfl) (Nat.le_of_ble_eq_true rfl) ?_
                refine sx_if_ne (tgt := 243) dL_families_148 (by decide) (by first | (with_reducible first | exact gfam_R hR hM _ _ | exact gchip_R hR hM _ _ | exact gword_R hR hM _ _ | exact gread_R hR _ | exact grow_R hR _ _ | exact hN _ | exact am_R_and _ _ | exact am_R_or _ _ | exact am_R_xor _ _ | exact aSum_R _ _ _ _) | assumption | exact ⟨by decide, by decide⟩ | exact ⟨by omega, by omega⟩) (fun c148 => ?_) (fun c148 => ?_)
                · -- 148t
                  exact absurd (a2 (by omega)).1.2.2.1 c148
                · -- 148f
                  refine sx_iload dL_families_151 rfl ?_
                  refine sx_bipush dL_families_153 rfl ?_
                  refine sx_aload_n dL_families_155 rfl ?_
                  refine sx_iload dL_families_156 rfl ?_
                  refine sx_iconst dL_families_158 ?_
                  refine sx_callVi dL_families_159 ml_L_15 mv2_chipOf (pq_chipOf hP _ _ (by first | exact ⟨by decide, by decide⟩ | exact ⟨by omega, by omega⟩ | assumption | (with_reducible exact gfam_R hR hM _ _) | (with_reducible exact gword_R hR hM _ _)) (by first | exact ⟨by decide, by decide⟩ | exact ⟨by omega, by omega⟩ | assumption | (with_reducible exact gfam_R hR hM _ _) | (with_reducible exact gword_R hR hM _ _))) rfl am_obG rfl (Nat.le_of_ble_eq_true rfl) (Nat.le_of_ble_eq_true rfl) ?_
                  refine sx_iconst dL_families_162 ?_
                  refine sx_ixor dL_families_163 ?_
                  refine sx_iand dL_families_164 ?_
                  refine sx_icmp_ne (tgt := 243) dL_families_165 (by decide) (by first | (with_reducible first | exact gfam_R hR hM _ _ | exact gchip_R hR hM _ _ | exact gword_R hR hM _ _ | exact gread_R hR _ | exact grow_R hR _ _ | exact hN _ | exact am_R_and _ _ | exact am_R_or _ _ | exact am_R_xor _ _ | exact aSum_R _ _ _ _) | assumption | exact ⟨by decide, by decide⟩ | exact ⟨by omega, by omega⟩) (by first | (with_reducible first | exact gfam_R hR hM _ _ | exact gchip_R hR hM _ _ | exact gword_R hR hM _ _ | exact gread_R hR _ | exact grow_R hR _ _ | exact hN _ | exact am_R_and _ _ | exact am_R_or _ _ | exact am_R_xor _ _ | exact aSum_R _ _ _ _) | assumption | exact ⟨by decide, by decide⟩ | exact ⟨by omega, by omega⟩) (fun c165 => ?_) (fun c165 => ?_)
                  · -- 165t
                    exact absurd (a2 (by omega)).1.2.2.2 c165
                  · -- 165f
                    refine sx_goto (tgt := 186) dL_families_168 (by decide) ?_
                    refine sx_aload_n dL_families_186 rfl ?_
                    refine sx_iload dL_families_187 rfl ?_
                    refine sx_bipush dL_families_189 rfl ?_
                    refine sx_callVi dL_families_191 ml_L_9 mv2_familyOf (pq_familyOf hP _ _ (by first | exact ⟨by decide, by decide⟩ | exact ⟨by omega, by omega⟩ | assumption | (with_reducible exact gfam_R hR hM _ _) | (with_reducible exact gword_R hR hM _ _)) (by first | exact ⟨by decide, by decide⟩ | exact ⟨by omega, by omega⟩ | assumption | (with_reducible exact gfam_R hR hM _ _) | (with_reducible exact gword_R hR hM _ _))) rfl am_obG rfl (Nat.le_of_ble_eq_true rfl) (Nat.le_of_ble_eq_true rfl) ?_
                    refine sx_ldc dL_families_194 kc_L_18 ?_
                    refine sx_icmp_ne (tgt := 203) dL_families_196 (by decide) (by first | (with_reducible first | exact gfam_R hR hM _ _ | exact gchip_R hR hM _ _ | exact gword_R hR hM _ _ | exact gread_R hR _ | exact grow_R hR _ _ | exact hN _ | exact am_R_and _ _ | exact am_R_or _ _ | exact am_R_xor _ _ | exact aSum_R _ _ _ _) | assumption | exact ⟨by decide, by decide⟩ | exact ⟨by omega, by omega⟩) ⟨by decide, by decide⟩ (fun c196 => ?_) (fun c196 => ?_)
                    · -- 196t
                      refine sx_iconst dL_families_203 ?_
                      refine sx_aload_n dL_families_204 rfl ?_
                      refine sx_iload dL_families_205 rfl ?_
                      refine sx_iconst dL_families_207 ?_
                      refine sx_callVi dL_families_208 ml_L_9 mv2_familyOf (pq_familyOf hP _ _ (by first | exact ⟨by decide, by decide⟩ | exact ⟨by omega, by omega⟩ | assumption | (with_reducible exact gfam_R hR hM _ _) | (with_reducible exact gword_R hR hM _ _)) (by first | exact ⟨by decide, by decide⟩ | exact ⟨by omega, by omega⟩ | assumption | (with_reducible exact gfam_R hR hM _ _) | (with_reducible exact gword_R hR hM _ _))) rfl am_obG rfl (Nat.le_of_ble_eq_true rfl) (Nat.le_of_ble_eq_true rfl) ?_
                      refine sx_if_ne (tgt := 218) dL_families_211 (by decide) (by first | (with_reducible first | exact gfam_R hR hM _ _ | exact gchip_R hR hM _ _ | exact gword_R hR hM _ _ | exact gread_R hR _ | exact grow_R hR _ _ | exact hN _ | exact am_R_and _ _ | exact am_R_or _ _ | exact am_R_xor _ _ | exact aSum_R _ _ _ _) | assumption | exact ⟨by decide, by decide⟩ | exact ⟨by omega, by omega⟩) (fun c211 => ?_) (fun c211 => ?_)
                      · -- 211t
                        refine sx_iconst dL_families_218 ?_
                        refine sx_icmp_ne (tgt := 243) dL_families_219 (by decide) ⟨by decide, by decide⟩ ⟨by decide, by decide⟩ (fun q => absurd q (by decide)) (fun _ => ?_)
                        refine sx_aload_n dL_families_222 rfl ?_
                        refine sx_iload dL_families_223 rfl ?_
                        refine sx_iconst dL_families_225 ?_
                        refine sx_callVi dL_families_226 ml_L_9 mv2_familyOf (pq_familyOf hP _ _ (by first | exact ⟨by decide, by decide⟩ | exact ⟨by omega, by omega⟩ | assumption | (with_reducible exact gfam_R hR hM _ _) | (with_reducible exact gword_R hR hM _ _)) (by first | exact ⟨by decide, by decide⟩ | exact ⟨by omega, by omega⟩ | assumption | (with_reducible exact gfam_R hR hM _ _) | (with_reducible exact gword_R hR hM _ _))) rfl am_obG rfl (Nat.le_of_ble_eq_true rfl) (Nat.le_of_ble_eq_true rfl) ?_
                        refine sx_aload_n dL_families_229 rfl ?_
                        refine sx_iload dL_families_230 rfl ?_
                        refine sx_iconst dL_families_232 ?_
                        refine sx_callVi dL_families_233 ml_L_9 mv2_familyOf (pq_familyOf hP _ _ (by first | exact ⟨by decide, by decide⟩ | exact ⟨by omega, by omega⟩ | assumption | (with_reducible exact gfam_R hR hM _ _) | (with_reducible exact gword_R hR hM _ _)) (by first | exact ⟨by decide, by decide⟩ | exact ⟨by omega, by omega⟩ | assumption | (with_reducible exact gfam_R hR hM _ _) | (with_reducible exact gword_R hR hM _ _))) rfl am_obG rfl (Nat.le_of_ble_eq_true rfl) (Nat.le_of_ble_eq_true rfl) ?_
                        refine sx_icmp_gt (tgt := 243) dL_families_236 (by decide) (by first | (with_reducible first | exact gfam_R hR hM _ _ | exact gchip_R hR hM _ _ | exact gword_R hR hM _ _ | exact gread_R hR _ | exact grow_R hR _ _ | exact hN _ | exact am_R_and _ _ | exact am_R_or _ _ | exact am_R_xor _ _ | exact aSum_R _ _ _ _) | assumption | exact ⟨by decide, by decide⟩ | exact ⟨by omega, by omega⟩) (by first | (with_reducible first | exact gfam_R hR hM _ _ | exact gchip_R hR hM _ _ | exact gword_R hR hM _ _ | exact gread_R hR _ | exact grow_R hR _ _ | exact hN _ | exact am_R_and _ _ | exact am_R_or _ _ | exact am_R_xor _ _ | exact aSum_R _ _ _ _) | assumption | exact ⟨by decide, by decide⟩ | exact ⟨by omega, by omega⟩) (fun c236 => ?_) (fun c236 => ?_)
                        · -- 236t
                          exfalso; omega
                        · -- 236f
                          refine sx_iconst dL_families_239 ?_
                          refine sx_goto (tgt := 244) dL_families_240 (by decide) ?_
                          refine sx_istore dL_families_244 (by decide) ?_
                          refine sx_iconst dL_families_246 ?_
                          refine sx_istore dL_families_247 (by decide) ?_
                          refine fam_r hP hf ?_
                          refine sx_iinc dL_families_425 rfl (by decide) ?_
                          refine sx_goto (tgt := 15) dL_families_428 (by decide) ?_
                          exact ih15 _ (by omega) _ _ _ _ (f + 1) rfl (by omega) (by simp only [aHd, if_pos c18, if_neg (Int.not_le.mpr c18), if_pos c47, if_neg (Int.not_lt.mpr c47), if_pos c116, if_neg (Int.not_lt.mpr c116), if_pos c127, if_pos c138, if_pos c148, if_pos c165, if_neg c196, if_neg c211, if_pos c236, if_neg (Int.not_lt.mpr c236)]) (by simp only [sumW]) (by simp only [sumW]) (by simp only [sumW])
                      · -- 211f
                        refine sx_iconst dL_families_214 ?_
                        refine sx_goto (tgt := 219) dL_families_215 (by decide) ?_
                        refine sx_icmp_ne (tgt := 243) dL_families_219 (by decide) ⟨by decide, by decide⟩ ⟨by decide, by decide⟩ (fun _ => ?_) (fun q => absurd q (by decide))
                        (exfalso; first | omega | exact c196 (a3.mpr (by assumption)) | exact absurd (a3.mp c196) (by assumption))
                    · -- 196f
                      refine sx_iconst dL_families_199 ?_
                      refine sx_goto (tgt := 204) dL_families_200 (by decide) ?_
                      refine sx_aload_n dL_families_204 rfl ?_
                      refine sx_iload dL_families_205 rfl ?_
                      refine sx_iconst dL_families_207 ?_
                      refine sx_callVi dL_families_208 ml_L_9 mv2_familyOf (pq_familyOf hP _ _ (by first | exact ⟨by decide, by decide⟩ | exact ⟨by omega, by omega⟩ | assumption | (with_reducible exact gfam_R hR hM _ _) | (with_reducible exact gword_R hR hM _ _)) (by first | exact ⟨by decide, by decide⟩ | exact ⟨by omega, by omega⟩ | assumption | (with_reducible exact gfam_R hR hM _ _) | (with_reducible exact gword_R hR hM _ _))) rfl am_obG rfl (Nat.le_of_ble_eq_true rfl) (Nat.le_of_ble_eq_true rfl) ?_
                      refine sx_if_ne (tgt := 218) dL_families_211 (by decide) (by first | (with_reducible first | exact gfam_R hR hM _ _ | exact gchip_R hR hM _ _ | exact gword_R hR hM _ _ | exact gread_R hR _ | exact grow_R hR _ _ | exact hN _ | exact am_R_and _ _ | exact am_R_or _ _ | exact am_R_xor _ _ | exact aSum_R _ _ _ _) | assumption | exact ⟨by decide, by decide⟩ | exact ⟨by omega, by omega⟩) (fun c211 => ?_) (fun c211 => ?_)
                      · -- 211t
                        refine sx_iconst dL_families_218 ?_
                        refine sx_icmp_ne (tgt := 243) dL_families_219 (by decide) ⟨by decide, by decide⟩ ⟨by decide, by decide⟩ (fun _ => ?_) (fun q => absurd q (by decide))
                        (exfalso; first | omega | exact c196 (a3.mpr (by assumption)) | exact absurd (a3.mp c196) (by assumption))
                      · -- 211f
                        refine sx_iconst dL_families_214 ?_
                        refine sx_goto (tgt := 219) dL_families_215 (by decide) ?_
                        refine sx_icmp_ne (tgt := 243) dL_families_219 (by decide) ⟨by decide, by decide⟩ ⟨by decide, by decide⟩ (fun q => absurd q (by decide)) (fun _ => ?_)
                        refine sx_aload_n dL_families_222 rfl ?_
                        refine sx_iload dL_families_223 rfl ?_
                        refine sx_iconst dL_families_225 ?_
                        refine sx_callVi dL_families_226 ml_L_9 mv2_familyOf (pq_familyOf hP _ _ (by first | exact ⟨by decide, by decide⟩ | exact ⟨by omega, by omega⟩ | assumption | (with_reducible exact gfam_R hR hM _ _) | (with_reducible exact gword_R hR hM _ _)) (by first | exact ⟨by decide, by decide⟩ | exact ⟨by omega, by omega⟩ | assumption | (with_reducible exact gfam_R hR hM _ _) | (with_reducible exact gword_R hR hM _ _))) rfl am_obG rfl (Nat.le_of_ble_eq_true rfl) (Nat.le_of_ble_eq_true rfl) ?_
                        refine sx_aload_n dL_families_229 rfl ?_
                        refine sx_iload dL_families_230 rfl ?_
                        refine sx_iconst dL_families_232 ?_
                        refine sx_callVi dL_families_233 ml_L_9 mv2_familyOf (pq_familyOf hP _ _ (by first | exact ⟨by decide, by decide⟩ | exact ⟨by omega, by omega⟩ | assumption | (with_reducible exact gfam_R hR hM _ _) | (with_reducible exact gword_R hR hM _ _)) (by first | exact ⟨by decide, by decide⟩ | exact ⟨by omega, by omega⟩ | assumption | (with_reducible exact gfam_R hR hM _ _) | (with_reducible exact gword_R hR hM _ _))) rfl am_obG rfl (Nat.le_of_ble_eq_true rfl) (Nat.le_of_ble_eq_true rfl) ?_
                        refine sx_icmp_gt (tgt := 243) dL_families_236 (by decide) (by first | (with_reducible first | exact gfam_R hR hM _ _ | exact gchip_R hR hM _ _ | exact gword_R hR hM _ _ | exact gread_R hR _ | exact grow_R hR _ _ | exact hN _ | exact am_R_and _ _ | exact am_R_or _ _ | exact am_R_xor _ _ | exact aSum_R _ _ _ _) | assumption | exact ⟨by decide, by decide⟩ | exact ⟨by omega, by omega⟩) (by first | (with_reducible first | exact gfam_R hR hM _ _ | exact gchip_R hR hM _ _ | exact gword_R hR hM _ _ | exact gread_R hR _ | exact grow_R hR _ _ | exact hN _ | exact am_R_and _ _ | exact am_R_or _ _ | exact am_R_xor _ _ | exact aSum_R _ _ _ _) | assumption | exact ⟨by decide, by decide⟩ | exact ⟨by omega, by omega⟩) (fun c236 => ?_) (fun c236 => ?_)
                        · -- 236t
                          exfalso; omega
                        · -- 236f
                          refine sx_iconst dL_families_239 ?_
                          refine sx_goto (tgt := 244) dL_families_240 (by decide) ?_
                          refine sx_istore dL_families_244 (by decide) ?_
                          refine sx_iconst dL_families_246 ?_
                          refine sx_istore dL_families_247 (by decide) ?_
                          refine fam_r hP hf ?_
                          refine sx_iinc dL_families_425 rfl (by decide) ?_
                          refine sx_goto (tgt := 15) dL_families_428 (by decide) ?_
                          exact ih15 _ (by omega) _ _ _ _ (f + 1) rfl (by omega) (by simp only [aHd, if_pos c18, if_neg (Int.not_le.mpr c18), if_pos c47, if_neg (Int.not_lt.mpr c47), if_pos c116, if_neg (Int.not_lt.mpr c116), if_pos c127, if_pos c138, if_pos c148, if_pos c165, if_pos c196, if_pos c211, if_pos c236, if_neg (Int.not_lt.mpr c236)]) (by simp only [sumW]) (by simp only [sumW]) (by simp only [sumW])
  exact loop15 _ _ _ _ _ 0 rfl (by omega) rfl rfl rfl rfl
set_option maxHeartbeats 4000000 in
set_option maxRecDepth 100000 in
theorem pl_families {h : am_H} {S : Nat → Int} {n : Int} (hP : PH h S n)  : Ct 3 YL_families [.inr (6, 0)] (some (.inl 1)) h h := by
  refine Ct_of (by decide +kernel) (Nat.le_of_ble_eq_true rfl) ?_
  show Sx 3 YL_families h (some (.inl 1)) 0 [some (.inr (6, 0)), none, none, none, none, none, none, none, none, none, none, none, none, none, none] [] h
  refine sx_vh (fun hV => ?_)
  have hR : ∀ j k, am_R (gP h j k) := fun j k => hV.1 _ j k
  have hM := PH_WM hP
  have hN : ∀ k, am_R (gcnt (gP h) (h.1 6 0 4) (h.1 6 2 1) k) := fun k => gcnt_R hR hM (hV.1 6 0 4) (hV.1 6 2 1) k
  have h24 := hM.2.1
  have h8 := hM.1
  have n2 : (gcnt (gP h) (h.1 6 0 4) (h.1 6 2 1) 2) = gP h 0 2 := rfl
  have n0 : (gcnt (gP h) (h.1 6 0 4) (h.1 6 2 1) 0) = gP h 0 0 := rfl
  refine sx_iconst dL_families_0 ?_
  refine sx_istore_n dL_families_1 (by decide) ?_
  refine sx_iconst dL_families_2 ?_
  refine sx_istore_n dL_families_3 (by decide) ?_
  refine sx_iconst dL_families_4 ?_
  refine sx_istore_n dL_families_5 (by decide) ?_
  refine sx_iconst dL_families_6 ?_
  refine sx_istore dL_families_7 (by decide) ?_
  refine sx_iconst dL_families_9 ?_
  refine sx_istore dL_families_10 (by decide) ?_
  refine sx_iconst dL_families_12 ?_
  refine sx_istore dL_families_13 (by decide) ?_
  refine fam_f hP ?_
  obtain ⟨-, -, -, -, e5⟩ := FA_c hP.2 (h.1 6 0 4) (h.1 6 2 1)
  refine sx_iload dL_families_431 rfl ?_
  refine sx_if_eq (tgt := 503) dL_families_433 (by decide) ⟨by decide, by decide⟩ (fun q => absurd q (by decide)) (fun _ => ?_)
  refine sx_aload_n dL_families_436 rfl ?_
  refine sx_bipush dL_families_437 rfl ?_
  refine sx_callVi dL_families_439 ml_L_19 mv2_count (pq_count hP _ (by first | exact ⟨by decide, by decide⟩ | exact ⟨by omega, by omega⟩ | assumption | (with_reducible exact gfam_R hR hM _ _) | (with_reducible exact gword_R hR hM _ _))) rfl am_obG rfl (Nat.le_of_ble_eq_true rfl) (Nat.le_of_ble_eq_true rfl) ?_
  refine sx_iload_n dL_families_442 rfl ?_
  refine sx_icmp_ne (tgt := 503) dL_families_443 (by decide) (by first | (with_reducible first | exact gfam_R hR hM _ _ | exact gchip_R hR hM _ _ | exact gword_R hR hM _ _ | exact gread_R hR _ | exact grow_R hR _ _ | exact hN _ | exact am_R_and _ _ | exact am_R_or _ _ | exact am_R_xor _ _ | exact aSum_R _ _ _ _) | assumption | exact ⟨by decide, by decide⟩ | exact ⟨by omega, by omega⟩ | (rw [e5]; exact hN _)) (by first | (with_reducible first | exact gfam_R hR hM _ _ | exact gchip_R hR hM _ _ | exact gword_R hR hM _ _ | exact gread_R hR _ | exact grow_R hR _ _ | exact hN _ | exact am_R_and _ _ | exact am_R_or _ _ | exact am_R_xor _ _ | exact aSum_R _ _ _ _) | assumption | exact ⟨by decide, by decide⟩ | exact ⟨by omega, by omega⟩ | (rw [e5]; exact hN _)) (fun c443 => ?_) (fun c443 => ?_)
  · -- 443t
    exact absurd rfl c443
  · -- 443f
    refine sx_aload_n dL_families_446 rfl ?_
    refine sx_iconst dL_families_447 ?_
    refine sx_callVi dL_families_448 ml_L_19 mv2_count (pq_count hP _ (by first | exact ⟨by decide, by decide⟩ | exact ⟨by omega, by omega⟩ | assumption | (with_reducible exact gfam_R hR hM _ _) | (with_reducible exact gword_R hR hM _ _))) rfl am_obG rfl (Nat.le_of_ble_eq_true rfl) (Nat.le_of_ble_eq_true rfl) ?_
    refine sx_iload_n dL_families_451 rfl ?_
    refine sx_icmp_ne (tgt := 503) dL_families_452 (by decide) (by first | (with_reducible first | exact gfam_R hR hM _ _ | exact gchip_R hR hM _ _ | exact gword_R hR hM _ _ | exact gread_R hR _ | exact grow_R hR _ _ | exact hN _ | exact am_R_and _ _ | exact am_R_or _ _ | exact am_R_xor _ _ | exact aSum_R _ _ _ _) | assumption | exact ⟨by decide, by decide⟩ | exact ⟨by omega, by omega⟩ | (rw [e5]; exact hN _)) (by first | (with_reducible first | exact gfam_R hR hM _ _ | exact gchip_R hR hM _ _ | exact gword_R hR hM _ _ | exact gread_R hR _ | exact grow_R hR _ _ | exact hN _ | exact am_R_and _ _ | exact am_R_or _ _ | exact am_R_xor _ _ | exact aSum_R _ _ _ _) | assumption | exact ⟨by decide, by decide⟩ | exact ⟨by omega, by omega⟩ | (rw [e5]; exact hN _)) (fun c452 => ?_) (fun c452 => ?_)
    · -- 452t
      exact absurd rfl c452
    · -- 452f
      refine sx_aload_n dL_families_455 rfl ?_
      refine sx_iconst dL_families_456 ?_
      refine sx_callVi dL_families_457 ml_L_19 mv2_count (pq_count hP _ (by first | exact ⟨by decide, by decide⟩ | exact ⟨by omega, by omega⟩ | assumption | (with_reducible exact gfam_R hR hM _ _) | (with_reducible exact gword_R hR hM _ _))) rfl am_obG rfl (Nat.le_of_ble_eq_true rfl) (Nat.le_of_ble_eq_true rfl) ?_
      refine sx_iload_n dL_families_460 rfl ?_
      refine sx_icmp_ne (tgt := 503) dL_families_461 (by decide) (by first | (with_reducible first | exact gfam_R hR hM _ _ | exact gchip_R hR hM _ _ | exact gword_R hR hM _ _ | exact gread_R hR _ | exact grow_R hR _ _ | exact hN _ | exact am_R_and _ _ | exact am_R_or _ _ | exact am_R_xor _ _ | exact aSum_R _ _ _ _) | assumption | exact ⟨by decide, by decide⟩ | exact ⟨by omega, by omega⟩ | (rw [e5]; exact hN _)) (by first | (with_reducible first | exact gfam_R hR hM _ _ | exact gchip_R hR hM _ _ | exact gword_R hR hM _ _ | exact gread_R hR _ | exact grow_R hR _ _ | exact hN _ | exact am_R_and _ _ | exact am_R_or _ _ | exact am_R_xor _ _ | exact aSum_R _ _ _ _) | assumption | exact ⟨by decide, by decide⟩ | exact ⟨by omega, by omega⟩ | (rw [e5]; exact hN _)) (fun c461 => ?_) (fun c461 => ?_)
      · -- 461t
        exact absurd rfl c461
      · -- 461f
        refine sx_aload_n dL_families_464 rfl ?_
        refine sx_iconst dL_families_465 ?_
        refine sx_callVi dL_families_466 ml_L_19 mv2_count (pq_count hP _ (by first | exact ⟨by decide, by decide⟩ | exact ⟨by omega, by omega⟩ | assumption | (with_reducible exact gfam_R hR hM _ _) | (with_reducible exact gword_R hR hM _ _))) rfl am_obG rfl (Nat.le_of_ble_eq_true rfl) (Nat.le_of_ble_eq_true rfl) ?_
        refine sx_iload dL_families_469 rfl ?_
        refine sx_icmp_ne (tgt := 503) dL_families_471 (by decide) (by first | (with_reducible first | exact gfam_R hR hM _ _ | exact gchip_R hR hM _ _ | exact gword_R hR hM _ _ | exact gread_R hR _ | exact grow_R hR _ _ | exact hN _ | exact am_R_and _ _ | exact am_R_or _ _ | exact am_R_xor _ _ | exact aSum_R _ _ _ _) | assumption | exact ⟨by decide, by decide⟩ | exact ⟨by omega, by omega⟩ | (rw [e5]; exact hN _)) (by first | (with_reducible first | exact gfam_R hR hM _ _ | exact gchip_R hR hM _ _ | exact gword_R hR hM _ _ | exact gread_R hR _ | exact grow_R hR _ _ | exact hN _ | exact am_R_and _ _ | exact am_R_or _ _ | exact am_R_xor _ _ | exact aSum_R _ _ _ _) | assumption | exact ⟨by decide, by decide⟩ | exact ⟨by omega, by omega⟩ | (rw [e5]; exact hN _)) (fun c471 => ?_) (fun c471 => ?_)
        · -- 471t
          exact absurd rfl c471
        · -- 471f
          refine sx_aload_n dL_families_474 rfl ?_
          refine sx_iconst dL_families_475 ?_
          refine sx_callVi dL_families_476 ml_L_19 mv2_count (pq_count hP _ (by first | exact ⟨by decide, by decide⟩ | exact ⟨by omega, by omega⟩ | assumption | (with_reducible exact gfam_R hR hM _ _) | (with_reducible exact gword_R hR hM _ _))) rfl am_obG rfl (Nat.le_of_ble_eq_true rfl) (Nat.le_of_ble_eq_true rfl) ?_
          refine sx_aload_n dL_families_479 rfl ?_
          refine sx_iconst dL_families_480 ?_
          refine sx_callVi dL_families_481 ml_L_19 mv2_count (pq_count hP _ (by first | exact ⟨by decide, by decide⟩ | exact ⟨by omega, by omega⟩ | assumption | (with_reducible exact gfam_R hR hM _ _) | (with_reducible exact gword_R hR hM _ _))) rfl am_obG rfl (Nat.le_of_ble_eq_true rfl) (Nat.le_of_ble_eq_true rfl) ?_
          refine sx_iadd dL_families_484 ?_
          refine sx_aload_n dL_families_485 rfl ?_
          refine sx_iconst dL_families_486 ?_
          refine sx_callVi dL_families_487 ml_L_19 mv2_count (pq_count hP _ (by first | exact ⟨by decide, by decide⟩ | exact ⟨by omega, by omega⟩ | assumption | (with_reducible exact gfam_R hR hM _ _) | (with_reducible exact gword_R hR hM _ _))) rfl am_obG rfl (Nat.le_of_ble_eq_true rfl) (Nat.le_of_ble_eq_true rfl) ?_
          refine sx_iadd dL_families_490 ?_
          refine sx_aload_n dL_families_491 rfl ?_
          refine sx_iconst dL_families_492 ?_
          refine sx_callVi dL_families_493 ml_L_19 mv2_count (pq_count hP _ (by first | exact ⟨by decide, by decide⟩ | exact ⟨by omega, by omega⟩ | assumption | (with_reducible exact gfam_R hR hM _ _) | (with_reducible exact gword_R hR hM _ _))) rfl am_obG rfl (Nat.le_of_ble_eq_true rfl) (Nat.le_of_ble_eq_true rfl) ?_
          refine sx_icmp_ne (tgt := 503) dL_families_496 (by decide) (by first | (with_reducible first | exact gfam_R hR hM _ _ | exact gchip_R hR hM _ _ | exact gword_R hR hM _ _ | exact gread_R hR _ | exact grow_R hR _ _ | exact hN _ | exact am_R_and _ _ | exact am_R_or _ _ | exact am_R_xor _ _ | exact aSum_R _ _ _ _) | assumption | exact ⟨by decide, by decide⟩ | exact ⟨by omega, by omega⟩ | (rw [e5]; exact hN _)) (by first | (with_reducible first | exact gfam_R hR hM _ _ | exact gchip_R hR hM _ _ | exact gword_R hR hM _ _ | exact gread_R hR _ | exact grow_R hR _ _ | exact hN _ | exact am_R_and _ _ | exact am_R_or _ _ | exact am_R_xor _ _ | exact aSum_R _ _ _ _) | assumption | exact ⟨by decide, by decide⟩ | exact ⟨by omega, by omega⟩ | (rw [e5]; exact hN _)) (fun c496 => ?_) (fun c496 => ?_)
          · -- 496t
            exact absurd e5 c496
          · -- 496f
            refine sx_iconst dL_families_499 ?_
            refine sx_goto (tgt := 504) dL_families_500 (by decide) ?_
            exact sx_zret dL_families_504 rfl (by decide) rfl rfl
