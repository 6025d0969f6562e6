/-! ===== the class's changes ===== -/
section MO
variable {d : Nat} {y : am_Y} {h1 : am_H} {r : Option am_V} {pc : Nat} {ls : List (Option am_V)} {st : List am_V} {h h0 : am_H}
theorem mo_geti {M : am_M} {u v ix k : Nat} (hv : v < 6) (huv : u ≠ v) (hd : decode y.2.1 pc = .ok (.getfield ix, 3)) (hl : am_fl y.1.cls ix TX0 k) (hk : k < 5) (kk : am_R (h0.1 v 0 k) → Sx d y h1 r (pc + 3) ls (.inl (h0.1 v 0 k) :: st) (am_U h0 u M)) : Sx d y h1 r pc ls (.inr (v, 0) :: st) (am_U h0 u M) := by
  refine sx_vh (fun hV => ?_)
  have hR : am_R (h0.1 v 0 k) := by have := hV.1 v 0 k; rwa [am_U_ne _ _ (Ne.symm huv)] at this
  refine sx_get hd (am_inM v hv 0 (by decide)) rfl (k := k) (by unfold am_T; rw [if_pos hv]; exact hl) (by unfold am_nf; rw [if_pos hv]; omega) ?_ (kk hR)
  unfold am_f
  rw [if_pos hv, am_U_ne _ _ (Ne.symm huv)]
  rcases (show k = 0 ∨ k = 1 ∨ k = 2 ∨ k = 3 ∨ k = 4 by omega) with rfl | rfl | rfl | rfl | rfl <;> rfl
theorem mo_getr {M : am_M} {u v ix j : Nat} (hv : v < 6) (hd : decode y.2.1 pc = .ok (.getfield ix, 3)) (hl : am_fl y.1.cls ix TX0 (j + 4)) (hj : 1 ≤ j ∧ j < 14) (kk : Sx d y h1 r (pc + 3) ls (.inr (v, j) :: st) (am_U h0 u M)) : Sx d y h1 r pc ls (.inr (v, 0) :: st) (am_U h0 u M) := by
  refine sx_get hd (am_inM v hv 0 (by decide)) rfl (k := j + 4) (by unfold am_T; rw [if_pos hv]; exact hl) (by unfold am_nf; rw [if_pos hv]; omega) ?_ kk
  unfold am_f
  rw [if_pos hv]
  obtain ⟨c, rfl⟩ : ∃ c, j = c + 1 := ⟨j - 1, by omega⟩
  rfl
end MO
theorem ml_copy : Cond.methodLink RX0 73 arraycopyName ∈ am_GW := by decide +kernel
def yadR (M : am_M) (f sp : Int) : Int := if 0 ≤ f ∧ f ≤ 2 then (if sp < 0 then -1000001 else if sp ≤ 2 then (if M 0 0 < 8 then M 0 0 else -1000003) else -1000001) else -1000001
def yadM (M : am_M) (f sp : Int) : am_M := if 0 ≤ f ∧ f ≤ 2 then (if sp < 0 then M else if sp ≤ 2 then (if M 0 0 < 8 then wr (wr (am_u2 (am_u2 M 0 0 (M 0 0 + 1)) 0 1 (am_or (M 0 1) (am_shl 1 (M 0 0)))) 1 (M 0 0) f) 3 (M 0 0) sp else M) else M) else M
def yelM (M : am_M) (c : Int) : am_M := wr M 5 (rd M 1 c) c
def yelect (M : am_M) (c : Int) : Int × am_M := if 0 ≤ c ∧ c < M 0 0 then (if bit (M 0 1) c = 1 then (if rd M 5 (rd M 1 c) = -1 then (if ykb M c ≤ 0 then (ybc (ygd (yelM M c) (rd (yelM M c) 1 c)), yelM M c) else (-1000002, M)) else (-1000002, M)) else (-1000002, M)) else (-1000001, M)
def ypu1 (M : am_M) (v : Int) : am_M := wr (am_u2 M 0 2 (M 0 2 + 1)) 9 (M 0 2) v
def yput (M : am_M) (c v : Int) : Int × am_M := if 0 ≤ c ∧ c < M 0 0 then (if 0 ≤ v ∧ v ≤ 255 then (if yps M c = 0 then (-1000002, M) else (if M 0 2 < 24 then (M 0 2, ykal (ypu1 M v) (M 0 2) c) else (-1000003, M))) else (-1000001, M)) else (-1000001, M)
def ywrite (M : am_M) (w v : Int) : Int × am_M := if 0 ≤ w ∧ w < M 0 2 then (if 0 ≤ v ∧ v ≤ 255 then (if rd M 10 w = -1 then (-1000002, M) else (rd M 9 w, wr M 9 w v)) else (-1000001, M)) else (-1000001, M)
def ycarry (M : am_M) (w c : Int) : Int × am_M := if 0 ≤ w ∧ w < M 0 2 then (if 0 ≤ c ∧ c < M 0 0 then (if rd M 10 w = -1 then (-1000002, M) else if rd M 10 w = c then (-1000002, M) else if yps M c = 0 then (-1000002, M) else (rd (ykal (ytake M w) w c) 11 w, ykal (ytake M w) w c)) else (-1000001, M)) else (-1000001, M)
def yem (M : am_M) (c : Int) : Nat → am_M × Int × Bool
  | 0 => (M, 0, true)
  | n + 1 => if (yem M c n).2.2 = true then (if rd (yem M c n).1 4 (c * 6 + n) = -1 then yem M c n else if ychf (yem M c n).1 (rd (yem M c n).1 1 c) c = -1 then ((yem M c n).1, (yem M c n).2.1, false) else (ykal (ytake (yem M c n).1 (rd (yem M c n).1 4 (c * 6 + n))) (rd (yem M c n).1 4 (c * 6 + n)) (ychf (yem M c n).1 (rd (yem M c n).1 1 c) c), (yem M c n).2.1 + 1, true)) else yem M c n
def yempty (M : am_M) (c : Int) : Int × am_M := if 0 ≤ c ∧ c < M 0 0 then (if bit (M 0 1) c = 1 then (if rd M 5 (rd M 1 c) = c then (-1000002, M) else (if (yem M c 6).2.2 = true then (yem M c 6).2.1 else -1000002, (yem M c 6).1)) else (-1000002, M)) else (-1000001, M)
def yr1 (M : am_M) (f : Int) : am_M := wr M 6 (f * 6 + rd M 11 (rd M 7 (f * 6))) (-1)
def yr2 (M : am_M) (f : Int) : am_M := ykal (ylv (yr1 M f) (rd M 7 (f * 6))) (rd M 7 (f * 6)) (ychf (yr1 M f) f (-1))
def yr3 (M : am_M) (f : Int) : am_M := wr (yr2 M f) 13 (rd M 7 (f * 6)) (rd (yr2 M f) 13 (rd M 7 (f * 6)) + 1)
def yra (M : am_M) (f : Int) : am_M := if rd M 8 f = 0 then M else if ychf (yr1 M f) f (-1) = -1 then wr (yr1 M f) 6 (f * 6 + rd M 11 (rd M 7 (f * 6))) (rd M 7 (f * 6)) else am_u2 (yr3 M f) 0 4 (yr3 M f 0 4 + 1)
def yt1 (M : am_M) : am_M := yra (yra (yra M 0) 1) 2
def ytN : am_M → Nat → am_M
  | M, 0 => M
  | M, n + 1 => if yt1 M 0 4 = M 0 4 then yt1 M else ytN (yt1 M) n
def ytick (M : am_M) (t : Int) : Int × am_M := if t < 1 then (-1000001, M) else if t ≤ 100 then (if M 0 3 + t ≤ 100000 then (ytN (am_u2 M 0 3 (M 0 3 + t)) t.toNat 0 4 - M 0 4, ytN (am_u2 M 0 3 (M 0 3 + t)) t.toNat) else (-1000003, M)) else (-1000001, M)
/-- the first word of a queue, by its own numbers -/
def YRf (M : am_M) (f : Int) : Prop := rd M 8 f = 0 ∨ (((0 ≤ rd M 7 (f * 6) ∧ rd M 7 (f * 6) < 24) ∧ 0 ≤ rd M 11 (rd M 7 (f * 6)) ∧ rd M 11 (rd M 7 (f * 6)) ≤ 5) ∧ 1 ≤ rd M 8 (rd M 12 (rd M 7 (f * 6))) ∧ rd M 13 (rd M 7 (f * 6)) ≤ 2000000000 ∧ M 0 4 ≤ 2000000000)
theorem ysit_row {M : am_M} {w c r : Int} {j : Nat} (h4 : j ≠ 4) (h10 : j ≠ 10) (h11 : j ≠ 11) (h12 : j ≠ 12) : ysit M w c r j = M j := by
  unfold ysit
  rw [wr_row _ _ _ h12, wr_row _ _ _ h11, wr_row _ _ _ h10, wr_row _ _ _ h4]
theorem ykal_row {M : am_M} {w c : Int} {j : Nat} (h4 : j ≠ 4) (h10 : j ≠ 10) (h11 : j ≠ 11) (h12 : j ≠ 12) : ykal M w c j = M j := by
  unfold ykal
  split
  · exact ysit_row h4 h10 h11 h12
  · rfl
theorem ylow_0 (M : am_M) (c : Int) : 0 ≤ ylow M c ∧ ylow M c ≤ 6 := by
  have := fstW_b (fun r => bit (yps M c) r == 1) 0 6
  unfold ylow
  omega
theorem WM_kal {M : am_M} {w c : Int} (hW : WM M) (hw : 0 ≤ w) (hc : 0 ≤ c ∧ c < 8) : WM (ykal M w c) := by
  have hl := ylow_0 M c
  have hf := hW.2.2.1 c hc.1 hc.2
  unfold ykal
  split
  · unfold ysit
    refine WM_wr (WM_wr (WM_wr (WM_wr hW (by decide) (by decide) (by omega) (by omega) (by omega) (by omega)) (by decide) (by decide) (by omega) (by omega) (by omega) hw) (by decide) (by decide) (by omega) (by omega) (by omega) hw) (by decide) (by decide) (by omega) (by omega) (fun _ => ?_) hw
    rw [rd_wrj _ _ _ _ (by decide), rd_wrj _ _ _ _ (by decide), rd_wrj _ _ _ _ (by decide)]
    exact hf
  · exact hW
theorem WM_0 {M : am_M} {k : Nat} {x : Int} (hW : WM M) (h0 : k = 0 → 0 ≤ x ∧ x ≤ 8) (h2 : k = 2 → 0 ≤ x ∧ x ≤ 24) : WM (am_u2 M 0 k x) := by
  obtain ⟨w0, w2, w1, w5, w8, w12, wb⟩ := hW
  have e : ∀ j, j ≠ 0 → am_u2 M 0 k x j = M j := fun j hj => am_u2_ne _ _ _ hj
  refine ⟨?_, ?_, ?_⟩
  · by_cases hk : k = 0
    · subst hk; rw [am_u2_hit]; exact h0 rfl
    · rw [am_u2_rd _ _ (Or.inr (Ne.symm hk))]; exact w0
  · by_cases hk : k = 2
    · subst hk; rw [am_u2_hit]; exact h2 rfl
    · rw [am_u2_rd _ _ (Or.inr (Ne.symm hk))]; exact w2
  · unfold rd at *
    rw [e 1 (by decide), e 5 (by decide), e 8 (by decide), e 12 (by decide), e 11 (by decide), e 2 (by decide)]
    exact ⟨w1, w5, w8, w12, wb⟩
theorem WM_5 {M : am_M} {f x : Int} (hW : WM M) (hf : 0 ≤ f ∧ f ≤ 2) (hx : -1 ≤ x ∧ x < 8) : WM (wr M 5 f x) := by
  obtain ⟨w0, w2, w1, w5, w8, w12, wb⟩ := hW
  refine ⟨by rw [wr_row _ _ _ (by decide)]; exact w0, by rw [wr_row _ _ _ (by decide)]; exact w2, fun c h0 h9 => by rw [rd_wrj _ _ _ _ (by decide)]; exact w1 c h0 h9, fun g h0 h9 => ?_, fun g h0 h9 => by rw [rd_wrj _ _ _ _ (by decide)]; exact w8 g h0 h9, fun w h0 h9 => by rw [rd_wrj _ _ _ _ (by decide), rd_wrj _ _ _ _ (by decide)]; exact w12 w h0 h9, fun c h0 h9 => by rw [rd_wrj _ _ _ _ (by decide)]; exact wb c h0 h9⟩
  by_cases hg : g = f
  · subst hg; rw [rd_wr]; exact hx
  · rw [rd_wri _ _ _ hf.1 h0 hg]; exact w5 g h0 h9
theorem yps_lv {M : am_M} {c : Int} (h : yps M c ≠ 0) : bit (M 0 1) c ≠ 0 := by
  intro h0
  apply h
  unfold yps
  rw [if_pos h0]
theorem ychf_b (M : am_M) (f lo : Int) (hW : WM M) : -1 ≤ ychf M f lo ∧ ychf M f lo < 8 := by
  have h := (ybest_b M f lo (M 0 0).toNat).1
  have h0 := hW.1
  unfold ychf
  omega
theorem WM_em {M : am_M} {c : Int} (hW : WM M) (hs : ∀ n : Nat, n < 6 → (yem M c n).2.2 = true → rd (yem M c n).1 4 (c * 6 + n) ≠ -1 → YK (yem M c n).1 (rd (yem M c n).1 4 (c * 6 + n))) (n : Nat) (hn : n ≤ 6) : WM (yem M c n).1 := by
  induction n with
  | zero => exact hW
  | succ n ih =>
    have hw := ih (by omega)
    unfold yem
    split
    · rename_i hb
      split
      · exact hw
      · rename_i hne
        have hk := hs n (by omega) hb hne
        have hcf := ychf_b _ (rd (yem M c n).1 1 c) c hw
        split
        · exact hw
        · rename_i hne2
          exact WM_kal (WM_take hw hk) hk.1.1 (by omega)
    · exact hw
theorem WM_r1 {M : am_M} {f : Int} (hW : WM M) (hf : 0 ≤ f ∧ f ≤ 2) (h : 0 ≤ rd M 11 (rd M 7 (f * 6))) : WM (yr1 M f) := WM_wr hW (by decide) (by decide) (by omega) (by omega) (by omega) (by omega)
theorem WM_ra {M : am_M} {f : Int} (hW : WM M) (hf : 0 ≤ f ∧ f ≤ 2) (h : YRf M f) : WM (yra M f) := by
  unfold yra
  split
  · exact hW
  · rename_i h8
    rcases h with h | ⟨⟨h1, h2⟩, h3, h4, h5⟩
    · contradiction
    · have hw1 := WM_r1 hW hf h2.1
      split
      · exact WM_wr hw1 (by decide) (by decide) (by omega) (by omega) (by omega) (by omega)
      · rename_i hne
        have hcf := ychf_b (yr1 M f) f (-1) hw1
        have hw2 : WM (ylv (yr1 M f) (rd M 7 (f * 6))) := WM_lv hw1 h1 (by unfold yr1; rw [rd_wrj _ _ _ _ (by decide), rd_wrj _ _ _ _ (by decide)]; exact h3)
        have hw3 : WM (yr2 M f) := WM_kal hw2 h1.1 (by omega)
        exact WM_0 (WM_wr hw3 (by decide) (by decide) (by omega) (by omega) (by omega) h1.1) (by omega) (by omega)
theorem ytake_0 (M : am_M) (w : Int) : ytake M w 0 = M 0 := ytake_row (by decide) (by decide)
theorem yr3_0 (M : am_M) (f : Int) : yr3 M f 0 = M 0 := by
  unfold yr3 yr2 yr1
  rw [wr_row _ _ _ (by decide), ykal_row (by decide) (by decide) (by decide) (by decide), ylv_row (by decide) (by decide), wr_row _ _ _ (by decide)]
theorem yr2_13 (M : am_M) (f w : Int) : rd (yr2 M f) 13 w = rd M 13 w := by
  unfold yr2 yr1 rd
  rw [ykal_row (by decide) (by decide) (by decide) (by decide), ylv_row (by decide) (by decide), wr_row _ _ _ (by decide)]
def YR3 (M : am_M) : Prop := WM M ∧ YRf M 0 ∧ YRf (yra M 0) 1 ∧ YRf (yra (yra M 0) 1) 2
theorem ycp_ag {h0 : am_H} {u v : Nat} {N : am_M} (hr : ∀ j, 1 ≤ j → j < 14 → N j = h0.1 v j) (h5 : ∀ k, k < 5 → N 0 k = h0.1 v 0 k) (hu : u < 6) : am_ag (am_U h0 u N) (am_U h0 u (h0.1 v)) := by
  refine ⟨rfl, fun q hq k hk => ?_⟩
  by_cases hqu : q.1 = u
  · rw [hqu, am_U_at, am_U_at]
    have hj14 : ∀ q ∈ am_cs, q.2 < 14 := by decide +kernel
    have hj := hj14 q hq
    by_cases h0' : q.2 = 0
    · rw [h0']
      refine (h5 k ?_).symm
      rw [hqu, h0'] at hk
      unfold am_wd at hk
      rwa [if_pos (show am_kd u 0 = 0 from rfl), if_pos hu] at hk
    · rw [hr q.2 (by omega) hj]
  · rw [am_U_ne _ _ hqu, am_U_ne _ _ hqu]
theorem ycp_vh {h0 : am_H} {u v : Nat} {N : am_M} (huv : u ≠ v) (hV : am_VH (am_U h0 u N)) : am_VH (am_U h0 u (h0.1 v)) := by
  refine ⟨fun a j k => ?_, hV.2⟩
  by_cases ha : a = u
  · subst ha
    rw [am_U_at]
    have := hV.1 v j k
    rwa [am_U_ne _ _ (Ne.symm huv)] at this
  · rw [am_U_ne _ _ ha]
    have := hV.1 a j k
    rwa [am_U_ne _ _ ha] at this
