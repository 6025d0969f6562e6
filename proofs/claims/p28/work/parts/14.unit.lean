/-! ===== the rows at one unit ===== -/
section SU
variable {d : Nat} {y : am_Y} {h1 : am_H} {r : Option am_V} {pc : Nat} {ls : List (Option am_V)} {st : List am_V} {h h0 : am_H}
theorem sx_callVi {y' : am_Y} {u j n ix d' : Nat} {as rest : List am_V} {x : Int} {h' : am_H} (hd : decode y.2.1 pc = .ok (.invokevirtual ix, 3)) (hl : am_ml y.1.cls ix y') (hm : am_mv y' n) (hc : Ct d' y' (.inr (u, j) :: as) (some (.inl x)) h h') (hst : st = as.reverse ++ .inr (u, j) :: rest) (hob : am_ob u j y'.1.cls) (hn : as.length = n) (hdd : d' + 1 ≤ d) (hroom : rest.length ≤ 8)
    (kk : Sx d y h1 r (pc + 3) ls (.inl x :: rest) h') : Sx d y h1 r pc ls st h := sx_callV hd hl hm hc hst hob hn hdd hroom kk
theorem sx_callVv {y' : am_Y} {u j n ix d' : Nat} {as rest : List am_V} {h' : am_H} (hd : decode y.2.1 pc = .ok (.invokevirtual ix, 3)) (hl : am_ml y.1.cls ix y') (hm : am_mv y' n) (hc : Ct d' y' (.inr (u, j) :: as) none h h') (hst : st = as.reverse ++ .inr (u, j) :: rest) (hob : am_ob u j y'.1.cls) (hn : as.length = n) (hdd : d' + 1 ≤ d) (hroom : rest.length ≤ 8)
    (kk : Sx d y h1 r (pc + 3) ls rest h') : Sx d y h1 r pc ls st h := sx_callV hd hl hm hc hst hob hn hdd hroom kk
theorem sx_callVr {y' : am_Y} {u j n ix d' : Nat} {as rest : List am_V} {q : Nat × Nat} {h' : am_H} (hd : decode y.2.1 pc = .ok (.invokevirtual ix, 3)) (hl : am_ml y.1.cls ix y') (hm : am_mv y' n) (hc : Ct d' y' (.inr (u, j) :: as) (some (.inr q)) h h') (hst : st = as.reverse ++ .inr (u, j) :: rest) (hob : am_ob u j y'.1.cls) (hn : as.length = n) (hdd : d' + 1 ≤ d) (hroom : rest.length ≤ 8)
    (kk : Sx d y h1 r (pc + 3) ls (.inr q :: rest) h') : Sx d y h1 r pc ls st h := sx_callV hd hl hm hc hst hob hn hdd hroom kk
theorem sx_callSi {y' : am_Y} {n ix d' : Nat} {as rest : List am_V} {x : Int} {h' : am_H} (hd : decode y.2.1 pc = .ok (.invokestatic ix, 3)) (hl : am_ml y.1.cls ix y') (hm : am_ms y' n) (hc : Ct d' y' as (some (.inl x)) h h') (hst : st = as.reverse ++ rest) (hn : as.length = n) (hdd : d' + 1 ≤ d) (hroom : rest.length ≤ 8)
    (kk : Sx d y h1 r (pc + 3) ls (.inl x :: rest) h') : Sx d y h1 r pc ls st h := sx_callS hd hl hm hc hst hn hdd hroom kk
theorem sx_callNi {y' : am_Y} {n ix d' : Nat} {host : String} {as rest : List am_V} {x : Int} {h' : am_H} (hd : decode y.2.1 pc = .ok (.invokestatic ix, 3)) (hl : Cond.methodLinkNest y.1.cls ix y'.1 host ∈ am_NW) (hm : am_ms y' n) (hc : Ct d' y' as (some (.inl x)) h h') (hst : st = as.reverse ++ rest) (hn : as.length = n) (hdd : d' + 1 ≤ d) (hroom : rest.length ≤ 8)
    (kk : Sx d y h1 r (pc + 3) ls (.inl x :: rest) h') : Sx d y h1 r pc ls st h := sx_callN hd hl hm hc hst hn hdd hroom kk
theorem am_R01 (p : Prop) [Decidable p] : am_R (if p then 1 else 0) := by
  split
  · exact ⟨by decide, by decide⟩
  · exact ⟨by decide, by decide⟩
theorem sx_ifB_eq {p : Prop} [Decidable p] {off : Int} {tgt : Nat} (hd : decode y.2.1 pc = .ok (.ifCond .eq off, 3)) (ht : (pc : Int) + off = (tgt : Int)) (kt : ¬ p → Sx d y h1 r tgt ls st h) (kf : p → Sx d y h1 r (pc + 3) ls st h) : Sx d y h1 r pc ls (.inl (if p then 1 else 0) :: st) h := by
  refine sx_if_eq hd ht (am_R01 p) (fun c => kt (fun hp => ?_)) (fun c => kf ?_)
  · rw [if_pos hp] at c; exact absurd c (by decide)
  · by_cases hp : p
    · exact hp
    · rw [if_neg hp] at c; exact absurd rfl c
theorem sx_ifB_ne {p : Prop} [Decidable p] {off : Int} {tgt : Nat} (hd : decode y.2.1 pc = .ok (.ifCond .ne off, 3)) (ht : (pc : Int) + off = (tgt : Int)) (kt : p → Sx d y h1 r tgt ls st h) (kf : ¬ p → Sx d y h1 r (pc + 3) ls st h) : Sx d y h1 r pc ls (.inl (if p then 1 else 0) :: st) h := by
  refine sx_if_ne hd ht (am_R01 p) (fun c => kt ?_) (fun c => kf (fun hp => ?_))
  · by_cases hp : p
    · exact hp
    · rw [if_neg hp] at c; exact absurd rfl c
  · rw [if_pos hp] at c; exact absurd c (by decide)
-- a state of the class: a unit u below 6
theorem mm_geti {M : am_M} {u ix k : Nat} (hu : u < 6) (hd : decode y.2.1 pc = .ok (.getfield ix, 3)) (hl : am_fl y.1.cls ix TX0 k) (hk : k < 5) (kk : am_R (M 0 k) → Sx d y h1 r (pc + 3) ls (.inl (M 0 k) :: st) (am_U h0 u M)) : Sx d y h1 r pc ls (.inr (u, 0) :: st) (am_U h0 u M) := by
  refine sx_vh (fun hV => ?_)
  have hR : am_R (M 0 k) := by have := hV.1 u 0 k; rwa [am_U_at] at this
  refine sx_get hd (am_inM u hu 0 (by decide)) rfl (k := k) (by unfold am_T; rw [if_pos hu]; exact hl) (by unfold am_nf; rw [if_pos hu]; omega) ?_ (kk hR)
  unfold am_f
  rw [if_pos hu, am_U_at]
  rcases (show k = 0 ∨ k = 1 ∨ k = 2 ∨ k = 3 ∨ k = 4 by omega) with rfl | rfl | rfl | rfl | rfl <;> rfl
theorem mm_getr {M : am_M} {u ix j : Nat} (hu : u < 6) (hd : decode y.2.1 pc = .ok (.getfield ix, 3)) (hl : am_fl y.1.cls ix TX0 (j + 4)) (hj : 1 ≤ j ∧ j < 14) (kk : Sx d y h1 r (pc + 3) ls (.inr (u, j) :: st) (am_U h0 u M)) : Sx d y h1 r pc ls (.inr (u, 0) :: st) (am_U h0 u M) := by
  refine sx_get hd (am_inM u hu 0 (by decide)) rfl (k := j + 4) (by unfold am_T; rw [if_pos hu]; exact hl) (by unfold am_nf; rw [if_pos hu]; omega) ?_ kk
  unfold am_f
  rw [if_pos hu]
  obtain ⟨c, rfl⟩ : ∃ c, j = c + 1 := ⟨j - 1, by omega⟩
  rfl
theorem mm_put {M : am_M} {u ix k : Nat} {x : Int} (hu : u < 6) (hd : decode y.2.1 pc = .ok (.putfield ix, 3)) (hl : am_fl y.1.cls ix TX0 k) (hk : k < 5) (hR : am_R x) (kk : Sx d y h1 r (pc + 3) ls st (am_U h0 u (am_u2 M 0 k x))) : Sx d y h1 r pc ls (.inl x :: .inr (u, 0) :: st) (am_U h0 u M) := by
  have e : am_U (am_U h0 u M) u (am_u2 ((am_U h0 u M).1 u) 0 k x) = am_U h0 u (am_u2 M 0 k x) := by rw [am_U_at, am_U_U]
  have hk5 : k = 0 ∨ k = 1 ∨ k = 2 ∨ k = 3 ∨ k = 4 := by omega
  refine sx_put hd (am_inM u hu 0 (by decide)) rfl (k := k) (by unfold am_T; rw [if_pos hu]; exact hl) (by unfold am_nf; rw [if_pos hu]; omega) ?_ ?_ ?_ ?_ hR (by rw [e]; exact kk)
  · unfold am_T; rw [if_pos hu]; rcases hk5 with rfl | rfl | rfl | rfl | rfl <;> rfl
  · unfold am_T; rw [if_pos hu]; rcases hk5 with rfl | rfl | rfl | rfl | rfl <;> rfl
  · intro w
    unfold am_f
    rw [if_pos hu, am_U_at, am_u2_at]
    rcases hk5 with rfl | rfl | rfl | rfl | rfl <;> simp [am_fM, am_u1_at]
  · intro w c hc hc9
    unfold am_f
    rw [if_pos hu, if_pos hu]
    rw [am_U_at, am_u2_at]
    unfold am_fM
    split <;> first | rfl | rw [am_u1_ne _ _ hc]
theorem am_kdM {u j : Nat} (hu : u < 6) (hj : 1 ≤ j) : am_kd u j = 1 := by
  unfold am_kd
  rw [if_neg (by omega), if_neg (by omega), if_neg (by omega)]
theorem mm_ild {M : am_M} {u j n m : Nat} {i : Int} (hu : u < 6) (hd : decode y.2.1 pc = .ok (.iaload, 1)) (hj : 1 ≤ j ∧ j < 14) (hn : am_lenM j = n) (hn9 : n ≤ 1000000) (hi0 : 0 ≤ i) (hi9 : i < n) (hm : i.toNat = m) (kk : am_R (M j m) → Sx d y h1 r (pc + 1) ls (.inl (M j m) :: st) (am_U h0 u M)) : Sx d y h1 r pc ls (.inl i :: .inr (u, j) :: st) (am_U h0 u M) := by
  subst hm
  refine sx_ild hd (am_inM u hu j hj.2) (am_kdM hu hj.1) (n := n) (by unfold am_len; rw [if_pos hu]; exact hn) hn9 hi0 hi9 ?_
  rw [am_U_at]
  exact kk
theorem mm_ist {M : am_M} {u j n m : Nat} {i x : Int} (hu : u < 6) (hd : decode y.2.1 pc = .ok (.iastore, 1)) (hj : 1 ≤ j ∧ j < 14) (hn : am_lenM j = n) (hn9 : n ≤ 1000000) (hi0 : 0 ≤ i) (hi9 : i < n) (hm : i.toNat = m) (hR : am_R x) (kk : Sx d y h1 r (pc + 1) ls st (am_U h0 u (am_u2 M j m x))) : Sx d y h1 r pc ls (.inl x :: .inl i :: .inr (u, j) :: st) (am_U h0 u M) := by
  subst hm
  refine sx_ist hd (am_inM u hu j hj.2) (am_kdM hu hj.1) (n := n) (by unfold am_len; rw [if_pos hu]; exact hn) hn9 hi0 hi9 hR ?_
  rw [am_U_at, am_U_U]
  exact kk
/-- System.arraycopy of a whole row from one state to another -/
theorem sx_copy {u v j n ix : Nat} {M : am_M} (hu : u < 6) (hv : v < 6) (huv : u ≠ v) (hd : decode y.2.1 pc = .ok (.invokestatic ix, 3)) (hl : Cond.methodLink y.1.cls ix arraycopyName ∈ am_GW) (hj : 1 ≤ j ∧ j < 14) (hn : am_lenM j = n) (hdd : 1 ≤ d) (hroom : st.length ≤ 8) (kk : Sx d y h1 r (pc + 3) ls st (am_U h0 u (am_u3 M j (h0.1 v j)))) : Sx d y h1 r pc ls (.inl n :: .inl 0 :: .inr (u, j) :: .inl 0 :: .inr (v, j) :: st) (am_U h0 u M) := by
  intro p l e s m args below meth c D K ad H locs lsr hS hV hP hH hl2
  obtain ⟨hx, hb, hml, hr, hlk, hown, hts, hK, hN, hA⟩ := id hS
  have hn48 : n ≤ 48 := by
    rw [← hn]
    have : ∀ j, j < 14 → am_lenM j ≤ 48 := by decide
    exact this j hj.2
  have he := am_ws_at (K := K) (ad := ad) (h := am_U h0 u M) (am_inM u hu j hj.2)
  have hf := am_ws_at (K := K) (ad := ad) (h := am_U h0 u M) (am_inM v hv j hj.2)
  rw [am_cell1 (am_kdM hu hj.1)] at he
  rw [am_cell1 (am_kdM hv hj.1)] at hf
  have hlu : am_len u j = n := by unfold am_len; rw [if_pos hu]; exact hn
  have hlv : am_len v j = n := by unfold am_len; rw [if_pos hv]; exact hn
  simp only [hlu] at he
  simp only [hlv] at hf
  have c0 : ((0 : Int32).toNatClampNeg) = 0 := rfl
  have cn : (Int32.ofInt (n : Int)).toNatClampNeg = n := by rw [am_clamp ⟨by omega, by omega⟩]; omega
  have ok : ∀ w ∈ am_GW, w.before args s = true := fun w hw => hts w (List.mem_cons_of_mem _ hw)
  refine va_copyi (a := ad u j) (a0 := ad v j) (sp := 0) (dp := 0) (n := Int32.ofInt (n : Int)) hx hb (hml.trans hl2.1.symm) hown (ok _ hl) (ok _ (am_GW_of 165 (by decide +kernel) (by decide +kernel))) (ok _ (am_GW_of 164 (by decide +kernel) (by decide +kernel))) (ok _ (by decide +kernel)) hK hP (am_D hA) hV (am_ix v j) (am_ix u j) 0 0 hf he rfl rfl rfl (by decide) (by decide) ?_ (by rw [c0, cn]; omega) (by rw [c0, cn]; omega) (fun i _ => rfl) hdd ?_ hd (fun H1 locs1 hP1 hD1 hS1 => ?_)
  · rw [show (0 : Int32) = Int32.ofInt 0 from rfl, am_lt ⟨by omega, by omega⟩ ⟨by decide, by decide⟩]; omega
  · rw [am_room]
    show st.length + (nativeFrameWords "java/lang/System" "arraycopy" 5 + 11) ≤ 33 * d
    have : nativeFrameWords "java/lang/System" "arraycopy" 5 ≤ 14 := by decide +kernel
    omega
  · rw [c0, cn] at hP1
    have hP2 : va_P D vwCl (am_ws K ad (am_U h0 u (am_u3 M j (fun k => if k < n then h0.1 v j k else M j k)))) H1 := by
      have e := am_ws_set (K := K) (ad := ad) (h := am_U h0 u M) (h' := am_U h0 u (am_u3 M j (fun k => if k < n then h0.1 v j k else M j k))) (q := (u, j)) (e := .inl (K.1, n, .inl (va_cpy (fun k => Int32.ofInt ((am_U h0 u M).1 v j k)) (fun k => Int32.ofInt ((am_U h0 u M).1 u j k)) 0 0 n))) (am_inM u hu j hj.2) ?_ ?_
      · rw [← e]; exact hP1
      · rw [am_cell1 (am_kdM hu hj.1), hlu]
        congr 3
        congr 1
        funext k
        simp only [am_U_at, am_U_ne _ _ (Ne.symm huv), am_u3, if_pos]
        unfold va_cpy
        by_cases hk : k < n <;> simp [hk]
      · intro q' _ hne
        refine am_cell_of ?_ rfl
        by_cases hq : q'.1 = u
        · rw [hq, am_U_at, am_U_at]
          have hj' : q'.2 ≠ j := fun hj => hne (Prod.ext hq hj)
          unfold am_u3
          rw [if_neg hj']
        · rw [am_U_ne _ _ hq, am_U_ne _ _ hq]
    have hR0 : ∀ a b c, a ≠ u → am_R (h0.1 a b c) := fun a b c hne => by have := hH.1 a b c; rwa [am_U_ne _ _ hne] at this
    have hRM : ∀ b c, am_R (M b c) := fun b c => by have := hH.1 u b c; rwa [am_U_at] at this
    have hVH : am_VH (am_U h0 u (am_u3 M j (h0.1 v j))) := by
      refine ⟨fun a b c => ?_, hH.2⟩
      by_cases ha : a = u
      · subst ha
        rw [am_U_at]
        unfold am_u3
        split
        · exact hR0 v j c (Ne.symm huv)
        · exact hRM b c
      · rw [am_U_ne _ _ ha]; exact hR0 a b c ha
    refine kk p l e s m args below meth c D K ad H1 locs1 lsr hS hS1 (am_agP (h := am_U h0 u (am_u3 M j (fun k => if k < n then h0.1 v j k else M j k))) (h2 := am_U h0 u (am_u3 M j (h0.1 v j))) ⟨rfl, ?_⟩ hP2) hVH hl2
    intro q hq k hk
    by_cases ha : q.1 = u
    · rw [ha, am_U_at, am_U_at]
      unfold am_u3
      by_cases hqj : q.2 = j
      · rw [if_pos hqj, if_pos hqj]
        have hkn : k < n := by
          rw [ha, hqj] at hk
          unfold am_wd at hk
          rwa [if_neg (by rw [am_kdM hu hj.1]; decide), hlu] at hk
        rw [if_pos hkn]
      · rw [if_neg hqj, if_neg hqj]
    · rw [am_U_ne _ _ ha, am_U_ne _ _ ha]
end SU
