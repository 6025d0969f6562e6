/-! ===== heaps of the small machine ===== -/
def am_u1 (f : Nat → Int) (k : Nat) (x : Int) : Nat → Int := fun c => if c = k then x else f c
def am_u2 (M : am_M) (j k : Nat) (x : Int) : am_M := fun b => if b = j then am_u1 (M j) k x else M b
def am_u3 (M : am_M) (j : Nat) (f : Nat → Int) : am_M := fun b => if b = j then f else M b
def am_U (h : am_H) (u : Nat) (M : am_M) : am_H := (fun a => if a = u then M else h.1 a, h.2)
def am_S (h : am_H) (n v : Nat) : am_H := (h.1, fun a => if a = n then v else h.2 a)
theorem am_U_at (h : am_H) (u : Nat) (M : am_M) : (am_U h u M).1 u = M := by simp [am_U]
theorem am_U_ne (h : am_H) {u v : Nat} (M : am_M) (hv : v ≠ u) : (am_U h u M).1 v = h.1 v := by simp [am_U, hv]
theorem am_U_U (h : am_H) (u : Nat) (M N : am_M) : am_U (am_U h u M) u N = am_U h u N := by
  unfold am_U
  congr 1
  funext a
  by_cases ha : a = u <;> simp [ha]
theorem am_U_id (h : am_H) (u : Nat) : am_U h u (h.1 u) = h := by
  unfold am_U
  apply Prod.ext
  · funext a
    by_cases ha : a = u
    · simp [ha]
    · simp [ha]
  · rfl
theorem am_U_2 (h : am_H) (u : Nat) (M : am_M) : (am_U h u M).2 = h.2 := rfl
theorem am_u1_at (f : Nat → Int) (k : Nat) (x : Int) : am_u1 f k x k = x := by simp [am_u1]
theorem am_u1_ne (f : Nat → Int) {k c : Nat} (x : Int) (h : c ≠ k) : am_u1 f k x c = f c := by simp [am_u1, h]
theorem am_u2_at (M : am_M) (j k : Nat) (x : Int) : am_u2 M j k x j = am_u1 (M j) k x := by simp [am_u2]
theorem am_u2_ne (M : am_M) {j b : Nat} (k : Nat) (x : Int) (h : b ≠ j) : am_u2 M j k x b = M b := by simp [am_u2, h]
theorem am_VH_U {h : am_H} {u : Nat} {M : am_M} (hV : am_VH h) (hM : ∀ j k, am_R (M j k)) : am_VH (am_U h u M) := by
  refine ⟨fun a j k => ?_, hV.2⟩
  by_cases ha : a = u
  · subst ha
    rw [am_U_at]
    exact hM j k
  · rw [am_U_ne h M ha]
    exact hV.1 a j k
theorem am_VH_u2 {h : am_H} {u j k : Nat} {x : Int} (hV : am_VH h) (hx : am_R x) : am_VH (am_U h u (am_u2 (h.1 u) j k x)) := by
  refine am_VH_U hV (fun b c => ?_)
  unfold am_u2
  by_cases hb : b = j
  · rw [if_pos hb]
    unfold am_u1
    by_cases hc : c = k
    · rw [if_pos hc]; exact hx
    · rw [if_neg hc]; exact hV.1 u j c
  · rw [if_neg hb]; exact hV.1 u b c
theorem am_f_of {h h' : am_H} {u j k : Nat} (h1 : h'.1 u j = h.1 u j) (h2 : h'.2 = h.2) : am_f h' u j k = am_f h u j k := by
  unfold am_f
  rw [h1, h2]
theorem am_cell_of {K : ClassId × ClassId × ClassId} {ad : Nat → Nat → Nat} {h h' : am_H} {q : Nat × Nat} (h1 : h'.1 q.1 q.2 = h.1 q.1 q.2) (h2 : h'.2 = h.2) : am_cell K ad h' q = am_cell K ad h q := by
  unfold am_cell am_obj
  simp only [am_f_of h1 h2, h1, h2]
theorem am_u2_cell {K : ClassId × ClassId × ClassId} {ad : Nat → Nat → Nat} {h : am_H} {u j k : Nat} {x : Int} : ∀ q' ∈ am_cs, q' ≠ (u, j) → am_cell K ad (am_U h u (am_u2 (h.1 u) j k x)) q' = am_cell K ad h q' := by
  intro q' _ hne
  refine am_cell_of ?_ rfl
  by_cases hu : q'.1 = u
  · rw [hu, am_U_at]
    refine congrFun (congrArg _ rfl) _ |>.trans ?_
    have hj : q'.2 ≠ j := fun hj => hne (Prod.ext hu hj)
    rw [am_u2_ne _ _ _ hj]
  · rw [am_U_ne _ _ hu]
def am_fl (own : String) (ix : Nat) (T : u_T) (k : Nat) : Prop := Cond.fieldLink own ix (T k).1 (T k).2.1 (T k).2.2.1 ∈ am_GW
def am_ml (own : String) (ix : Nat) (y : am_Y) : Prop := Cond.methodLink own ix y.1 ∈ am_GW
def am_mv (y : am_Y) (n : Nat) : Prop := (Cond.instanceMethod y.1 ∈ am_GW ∧ Cond.selects y.1.cls y.1 y.1 ∈ am_GW ∧ Cond.initialized y.1.cls ∈ am_GW ∧ Cond.code y.1 y.2.1 y.2.2.1 y.2.2.2 ∈ am_GW) ∧ (y.1.cls ≠ "java/lang/invoke/MethodHandle" ∧ y.1.cls ≠ "java/lang/invoke/VarHandle" ∧ (parseMethodDescriptor y.1.desc).map (fun d => d.parameters.length) = some n) ∧ y.2.2.1 ≤ 14
def am_ms (y : am_Y) (n : Nat) : Prop := (Cond.static y.1 ∈ am_GW ∧ Cond.initialized y.1.cls ∈ am_GW ∧ Cond.code y.1 y.2.1 y.2.2.1 y.2.2.2 ∈ am_GW) ∧ (y.1.cls ≠ "java/lang/invoke/MethodHandle" ∧ y.1.cls ≠ "java/lang/invoke/VarHandle" ∧ (parseMethodDescriptor y.1.desc).map (fun d => d.parameters.length) = some n) ∧ y.2.2.1 ≤ 14
theorem am_GW_good : ∀ w ∈ am_GW, (w.onTables && w.keeps) = true ∨ ∃ ty, w = .arrayClass ty := fun w hw => good_of_word (List.mem_filter.mp hw).2
theorem am_GW_of {w : Cond} (i : Nat) (h : lw_tbl[i]? = some w) (hg : goodWord w = true) : w ∈ am_GW := List.mem_filter.mpr ⟨List.mem_of_getElem? h, hg⟩
theorem am_good {y y' : am_Y} (hc : Cond.code y'.1 y'.2.1 y'.2.2.1 y'.2.2.2 ∈ am_GW) : GoodIn (am_w y) (am_w y') := by
  intro w hw
  rcases List.mem_cons.mp hw with rfl | hw
  · exact ⟨List.mem_cons_of_mem _ hc, am_GW_good _ hc⟩
  · exact ⟨List.mem_cons_of_mem _ hw, am_GW_good _ hw⟩
def am_T (u j : Nat) : u_T := if u < 6 then TX0 else if u = 6 then (if j = 0 then TX2 else TX1) else TX1
def am_C (u j : Nat) : String := if u < 6 then RX0 else if u = 6 then (if j = 0 then RX2 else RX1) else RX1
theorem am_cl : ∀ q ∈ am_cs, am_kd q.1 q.2 = 0 → vwCl[am_ci q.1 q.2]? = some (am_C q.1 q.2, am_T q.1 q.2, am_nf q.1 q.2) := by
  have hM : ∀ u j, u < 6 → vwCl[am_ci u j]? = some (am_C u j, am_T u j, am_nf u j) := by
    intro u j hu
    unfold am_ci am_C am_T am_nf
    rw [if_pos hu, if_pos hu, if_pos hu, if_pos hu]
    rfl
  have hs : ∀ q ∈ am_cs, q.1 < 6 ∨ q.1 = 6 := by decide +kernel
  intro q hq hk
  rcases hs q hq with h | h
  · exact hM _ _ h
  · obtain ⟨u, j⟩ := q
    cases h
    have hj : j = 0 ∨ j = 2 := by
      unfold am_kd at hk
      by_cases h0 : j = 0
      · exact Or.inl h0
      · rw [if_neg h0, if_pos rfl] at hk
        by_cases h1 : j = 1
        · rw [if_pos h1] at hk; cases hk
        · rw [if_neg h1] at hk
          by_cases h2 : j = 2
          · exact Or.inr h2
          · rw [if_neg h2] at hk; cases hk
    rcases hj with rfl | rfl <;> rfl
