/-! ===== one word changes its fate ===== -/
/-- S2 is S but for the word w's own cells -/
def SW (S S2 : Nat → Int) (w : Int) : Prop := (∀ k : Nat, k < 40 → k ≠ 4 → S2 k = S k) ∧ ∀ v k : Int, 0 ≤ v → v ≠ w → 0 ≤ k → k < 7 → xwd S2 v k = xwd S v k
theorem SW_ch {S S2 : Nat → Int} {w c j : Int} (h : SW S S2 w) (hc : 0 ≤ c ∧ c < 8) (hj : 0 ≤ j ∧ j < 4) : xch S2 c j = xch S c j := h.1 _ (by omega) (by omega)
theorem SW_god {S S2 : Nat → Int} {w f : Int} (h : SW S S2 w) (hf : 0 ≤ f ∧ f ≤ 2) : xgod S2 f = xgod S f := h.1 _ (by omega) (by omega)
theorem CLn_SW {M M2 : am_M} {S S2 : Nat → Int} {w : Int} (h : CLn M S) (hS : SW S S2 w) (h0 : M2 0 = M 0) : CLn M2 S2 := by
  unfold CLn at h ⊢
  rw [h0, hS.1 0 (by decide) (by decide), hS.1 1 (by decide) (by decide), hS.1 2 (by decide) (by decide), hS.1 3 (by decide) (by decide)]
  exact h
theorem CLc_SW {M M2 : am_M} {S S2 : Nat → Int} {w : Int} (h : CLc M S) (hS : SW S S2 w) (h0 : M2 0 = M 0) (h1 : M2 1 = M 1) (h2 : M2 2 = M 2) (h3 : M2 3 = M 3) : CLc M2 S2 := by
  unfold CLc rd at h ⊢
  rw [h0, h1, h2, h3]
  refine ⟨h.1, fun c hc0 hc8 => ?_⟩
  rw [SW_ch hS ⟨hc0, hc8⟩ (by decide), SW_ch hS ⟨hc0, hc8⟩ (by decide), SW_ch hS ⟨hc0, hc8⟩ (by decide), SW_ch hS ⟨hc0, hc8⟩ (by decide), hS.1 0 (by decide) (by decide)]
  exact h.2 c hc0 hc8
theorem CLf_SW {M M2 : am_M} {S S2 : Nat → Int} {w : Int} (h : CLf M S) (hS : SW S S2 w) (h5 : M2 5 = M 5) : CLf M2 S2 := by
  unfold CLf rd at h ⊢
  rw [h5]
  intro f h0 h2
  rw [SW_god hS ⟨h0, h2⟩, hS.1 0 (by decide) (by decide)]
  exact h f h0 h2
theorem CLk_up {M M2 : am_M} {S S2 : Nat → Int} {w : Int} (h : CLk M S) (hS : SW S S2 w) (hw : 0 ≤ w ∧ w < S 1)
    (hM : ∀ c r : Int, (0 ≤ c ∧ c < 8) → (0 ≤ r ∧ r ≤ 5) → (kat S2 w c r → rd M2 4 (c * 6 + r) = w ∧ (rd M 4 (c * 6 + r) = -1 ∨ rd M 4 (c * 6 + r) = w)) ∧ (¬ kat S2 w c r → rd M2 4 (c * 6 + r) = if rd M 4 (c * 6 + r) = w then -1 else rd M 4 (c * 6 + r))) : CLk M2 S2 := by
  intro c r hc hr
  obtain ⟨h1, h2⟩ := h c r hc hr
  obtain ⟨m1, m2⟩ := hM c r hc hr
  have e1 : S2 1 = S 1 := hS.1 1 (by decide) (by decide)
  have hk : ∀ v : Int, 0 ≤ v → v ≠ w → (kat S2 v c r ↔ kat S v c r) := fun v v0 vn => by
    unfold kat
    rw [hS.2 v 1 v0 vn (by decide) (by decide), hS.2 v 2 v0 vn (by decide) (by decide), hS.2 v 3 v0 vn (by decide) (by decide)]
  rw [e1]
  by_cases q : kat S2 w c r
  · obtain ⟨a, b⟩ := m1 q
    rw [a]
    refine ⟨⟨by omega, hw.2⟩, fun v v0 v1 => ?_⟩
    by_cases vw : v = w
    · subst vw
      exact ⟨fun _ => rfl, fun _ => q⟩
    · rw [hk v v0 vw, h2 v v0 v1]
      constructor
      · intro z; omega
      · intro z; omega
  · have a := m2 q
    rw [a]
    by_cases z : rd M 4 (c * 6 + r) = w
    · rw [if_pos z]
      refine ⟨⟨by omega, by omega⟩, fun v v0 v1 => ?_⟩
      by_cases vw : v = w
      · subst vw
        exact ⟨fun y => absurd y q, fun y => by omega⟩
      · rw [hk v v0 vw, h2 v v0 v1]
        constructor
        · intro y; omega
        · intro y; omega
    · rw [if_neg z]
      refine ⟨h1, fun v v0 v1 => ?_⟩
      by_cases vw : v = w
      · subst vw
        exact ⟨fun y => absurd y q, fun y => absurd y z⟩
      · rw [hk v v0 vw, h2 v v0 v1]
theorem CLt_up {M M2 : am_M} {S S2 : Nat → Int} {w : Int} (h : CLt M S) (hS : SW S S2 w) (hw : 0 ≤ w ∧ w < S 1)
    (hM : ∀ f r : Int, (0 ≤ f ∧ f ≤ 2) → (0 ≤ r ∧ r ≤ 5) → (wat S2 w f r → rd M2 6 (f * 6 + r) = w ∧ (rd M 6 (f * 6 + r) = -1 ∨ rd M 6 (f * 6 + r) = w)) ∧ (¬ wat S2 w f r → rd M2 6 (f * 6 + r) = if rd M 6 (f * 6 + r) = w then -1 else rd M 6 (f * 6 + r))) : CLt M2 S2 := by
  intro c r hc hr
  obtain ⟨h1, h2⟩ := h c r hc hr
  obtain ⟨m1, m2⟩ := hM c r hc hr
  have e1 : S2 1 = S 1 := hS.1 1 (by decide) (by decide)
  have hk : ∀ v : Int, 0 ≤ v → v ≠ w → (wat S2 v c r ↔ wat S v c r) := fun v v0 vn => by
    unfold wat
    rw [hS.2 v 1 v0 vn (by decide) (by decide), hS.2 v 4 v0 vn (by decide) (by decide), hS.2 v 3 v0 vn (by decide) (by decide)]
  rw [e1]
  by_cases q : wat S2 w c r
  · obtain ⟨a, b⟩ := m1 q
    rw [a]
    refine ⟨⟨by omega, hw.2⟩, fun v v0 v1 => ?_⟩
    by_cases vw : v = w
    · subst vw
      exact ⟨fun _ => rfl, fun _ => q⟩
    · rw [hk v v0 vw, h2 v v0 v1]
      constructor
      · intro z; omega
      · intro z; omega
  · have a := m2 q
    rw [a]
    by_cases z : rd M 6 (c * 6 + r) = w
    · rw [if_pos z]
      refine ⟨⟨by omega, by omega⟩, fun v v0 v1 => ?_⟩
      by_cases vw : v = w
      · subst vw
        exact ⟨fun y => absurd y q, fun y => by omega⟩
      · rw [hk v v0 vw, h2 v v0 v1]
        constructor
        · intro y; omega
        · intro y; omega
    · rw [if_neg z]
      refine ⟨h1, fun v v0 v1 => ?_⟩
      by_cases vw : v = w
      · subst vw
        exact ⟨fun y => absurd y q, fun y => absurd y z⟩
      · rw [hk v v0 vw, h2 v v0 v1]
/-- nothing that waits is touched -/
theorem CLt_no {M M2 : am_M} {S S2 : Nat → Int} {w : Int} (h : CLt M S) (hS : SW S S2 w) (hw : 0 ≤ w ∧ w < S 1) (h1 : xwd S w 1 ≠ 1) (h2 : xwd S2 w 1 ≠ 1) (h6 : M2 6 = M 6) : CLt M2 S2 := by
  refine CLt_up h hS hw (fun f r hf hr => ⟨fun q => absurd q.1 h2, fun _ => ?_⟩)
  have e : rd M2 6 (f * 6 + r) = rd M 6 (f * 6 + r) := by unfold rd; rw [h6]
  rw [e, if_neg (fun z => h1 (((h f r hf hr).2 w hw.1 hw.2).mpr z).1)]
theorem CLq_no {M M2 : am_M} {S S2 : Nat → Int} {w : Int} (h : CLq M S) (hS : SW S S2 w) (h1 : xwd S w 1 ≠ 1) (h2 : xwd S2 w 1 ≠ 1) (h6 : M2 6 = M 6) (h7 : M2 7 = M 7) (h8 : M2 8 = M 8) : CLq M2 S2 := by
  have e1 : S2 1 = S 1 := hS.1 1 (by decide) (by decide)
  unfold CLq rd at h ⊢
  rw [h6, h7, h8, e1]
  intro f hf
  obtain ⟨a, b, c, d⟩ := h f hf
  have hv : ∀ i : Int, 0 ≤ i → i < M 8 f.toNat → 0 ≤ M 7 (f * 6 + i).toNat ∧ M 7 (f * 6 + i).toNat ≠ w := fun i i0 i9 => by
    obtain ⟨b1, b2, b3⟩ := b i i0 i9
    exact ⟨b1.1, fun q => h1 (by rw [q] at b2; exact b2)⟩
  refine ⟨a, fun i i0 i9 => ?_, fun v v0 v1 s1 s4 => ?_, fun i j i0 ij j9 => ?_⟩
  · obtain ⟨b1, b2, b3⟩ := b i i0 i9
    obtain ⟨n0, n1⟩ := hv i i0 i9
    rw [hS.2 _ 1 n0 n1 (by decide) (by decide), hS.2 _ 4 n0 n1 (by decide) (by decide)]
    exact ⟨b1, b2, b3⟩
  · have vn : v ≠ w := fun q => h2 (by rw [← q]; exact s1)
    rw [hS.2 _ 1 v0 vn (by decide) (by decide)] at s1
    rw [hS.2 _ 4 v0 vn (by decide) (by decide)] at s4
    exact c v v0 v1 s1 s4
  · obtain ⟨n0, n1⟩ := hv i i0 (by omega)
    obtain ⟨m0, m1⟩ := hv j (by omega) j9
    rw [hS.2 _ 5 n0 n1 (by decide) (by decide), hS.2 _ 5 m0 m1 (by decide) (by decide)]
    exact d i j i0 ij j9
theorem CLs_no {S S2 : Nat → Int} {w : Int} (h : CLs S) (hS : SW S S2 w) (h4 : S2 4 = S 4) (h2 : xwd S2 w 1 ≠ 1) : CLs S2 := by
  intro v v0 v1 s1
  have vn : v ≠ w := fun q => h2 (by rw [← q]; exact s1)
  rw [hS.1 1 (by decide) (by decide)] at v1
  rw [hS.2 _ 1 v0 vn (by decide) (by decide)] at s1
  rw [hS.2 _ 5 v0 vn (by decide) (by decide), h4]
  exact h v v0 v1 s1
theorem CLw_up {M M2 : am_M} {S S2 : Nat → Int} {w : Int} (h : CLw M S) (hS : SW S S2 w) (hw : 0 ≤ w ∧ w < S 1) (hj : ∀ v : Int, 0 ≤ v → v ≠ w → rd M2 9 v = rd M 9 v ∧ rd M2 10 v = rd M 10 v ∧ rd M2 11 v = rd M 11 v ∧ rd M2 12 v = rd M 12 v ∧ rd M2 13 v = rd M 13 v)
    (ho : xwd S2 w 1 = yfate M2 w ∧ (xwd S2 w 1 = 0 → rd M2 10 w = xwd S2 w 2 ∧ 0 ≤ xwd S2 w 2 ∧ xwd S2 w 2 < S 0) ∧ (xwd S2 w 1 ≠ 2 → rd M2 11 w = xwd S2 w 3 ∧ rd M2 12 w = xwd S2 w 4 ∧ rd M2 9 w = xwd S2 w 0) ∧ rd M2 13 w = xwd S2 w 6) : CLw M2 S2 := by
  have e1 : S2 1 = S 1 := hS.1 1 (by decide) (by decide)
  have e0 : S2 0 = S 0 := hS.1 0 (by decide) (by decide)
  unfold CLw
  rw [e1, e0]
  refine ⟨fun v v0 v1 => ?_, fun v v0 v1 => ?_⟩
  · by_cases vn : v = w
    · subst vn
      exact ho
    · obtain ⟨j9, j10, j11, j12, j13⟩ := hj v v0 vn
      have ef : yfate M2 v = yfate M v := by unfold yfate; rw [j10, j11]
      have x : ∀ k : Int, 0 ≤ k → k < 7 → xwd S2 v k = xwd S v k := fun k k0 k7 => hS.2 v k v0 vn k0 k7
      rw [ef, j9, j10, j11, j12, j13, x 0 (by decide) (by decide), x 1 (by decide) (by decide), x 2 (by decide) (by decide), x 3 (by decide) (by decide), x 4 (by decide) (by decide), x 6 (by decide) (by decide)]
      exact h.1 v v0 v1
  · rw [(hj v (by omega) (by omega)).2.2.2.2]
    exact h.2 v v0 v1
theorem SW_lay {S : Nat → Int} {w k v : Int} (hw : 0 ≤ w) (hk : 0 ≤ k ∧ k < 7) : SW S (xlay S w k v) w :=
  ⟨fun m hm _ => xlay_lo hw hk.1 hm, fun u j u0 un j0 j7 => xlay_ne ⟨hw, hk.1, hk.2⟩ ⟨u0, j0, j7⟩ (Or.inl un)⟩
theorem SW_trans {S S2 S3 : Nat → Int} {w : Int} (h : SW S S2 w) (h2 : SW S2 S3 w) : SW S S3 w :=
  ⟨fun k a b => (h2.1 k a b).trans (h.1 k a b), fun v k a b c d => (h2.2 v k a b c d).trans (h.2 v k a b c d)⟩
