/-! ===== a small machine over whole numbers: values, cells, the judgements ===== -/
abbrev am_V : Type := Int ⊕ (Nat × Nat)
abbrev am_M : Type := Nat → Nat → Int
abbrev am_H : Type := (Nat → am_M) × (Nat → Nat)
abbrev am_Y : Type := MethodName × ByteArray × Nat × Option FieldType
def am_GW : List Cond := lw_tbl.filter goodWord
def am_NW : List Cond := [.methodLinkNest "GodChips$Memory" 92 yX2_isFamily "GodChips", .methodLinkNest "GodChips$Memory" 121 yX2_isRow "GodChips", .methodLinkNest "GodChips$Memory" 128 yX2_isValue "GodChips", .methodLinkNest "GodChips" 18 yX1_init "GodChips"]
def am_w (y : am_Y) : List Cond := .code y.1 y.2.1 y.2.2.1 y.2.2.2 :: am_GW
def am_rm (d : Nat) : Room := { frames := d, cells := 0, slots := 0, locals := 33 * d }
def am_cv (ad : Nat → Nat → Nat) : am_V → Value
  | .inl x => .int (Int32.ofInt x)
  | .inr q => .ref (ad q.1 q.2)
def am_R (x : Int) : Prop := -2147483648 ≤ x ∧ x ≤ 2147483647
/-- the cells: units 0 to 5 are states of the class, 6 the class's other cells -/
def am_cs : List (Nat × Nat) := (List.range 84).map (fun k => (k / 14, k % 14)) ++ (List.range 4).map (fun k => (6, k))
def am_ix (u j : Nat) : Nat := if u < 6 then 14 * u + j else if u = 6 then 84 + j else 88 + j
/-- 0 an object, 1 ints, 2 chars, 3 references -/
def am_kd (u j : Nat) : Nat := if j = 0 then 0 else if u = 6 then (if j = 1 then 3 else if j = 2 then 0 else 2) else if u = 7 then (if j = 6 then 2 else 1) else 1
def am_ci (u j : Nat) : Nat := if u < 6 then 0 else if u = 6 then (if j = 0 then 2 else 1) else 1
def am_nf (u j : Nat) : Nat := if u < 6 then 18 else if u = 6 then (if j = 0 then 5 else 8) else 8
def am_lenM (j : Nat) : Nat := [0, 8, 8, 8, 48, 3, 18, 18, 3, 24, 24, 24, 24, 24].getD j 0
def am_lenX (j : Nat) : Nat := [0, 208, 832, 208, 208, 208, 60, 2].getD j 0
def am_len (u j : Nat) : Nat := if u < 6 then am_lenM j else if u = 6 then (if j = 1 then 4 else 60) else am_lenX j
def am_fM (w : Nat → Int) (u k : Nat) : am_V := match k with
  | 0 => .inl (w 0)
  | 1 => .inl (w 1)
  | 2 => .inl (w 2)
  | 3 => .inl (w 3)
  | 4 => .inl (w 4)
  | k + 5 => .inr (u, k + 1)
def am_fG (w : Nat → Int) (g : Nat → Nat) (u k : Nat) : am_V := match k with
  | 0 => .inr (u, 1)
  | 1 => .inr (u, 2)
  | 2 => .inr (g 0, 0)
  | 3 => .inr (g 1, 0)
  | _ => .inl (w 4)
def am_fO (w : Nat → Int) (u k : Nat) : am_V := match k with
  | 0 => .inr (u, 3)
  | k + 1 => .inl (w (k + 1))
def am_f (h : am_H) (u j k : Nat) : am_V := if u < 6 then am_fM (h.1 u j) u k else if u = 6 then (if j = 0 then am_fG (h.1 u j) h.2 u k else am_fO (h.1 u j) u k) else am_fO (h.1 u j) u k
def am_obj (ad : Nat → Nat → Nat) (h : am_H) (u j : Nat) : List Value := (List.range (am_nf u j)).map (fun k => am_cv ad (am_f h u j k))
def am_cell (K : ClassId × ClassId × ClassId) (ad : Nat → Nat → Nat) (h : am_H) (q : Nat × Nat) : va_E := match am_kd q.1 q.2 with
  | 0 => .inr (am_ci q.1 q.2, am_obj ad h q.1 q.2)
  | 1 => .inl (K.1, am_len q.1 q.2, .inl (fun k => Int32.ofInt (h.1 q.1 q.2 k)))
  | 2 => .inl (K.2.1, am_len q.1 q.2, .inl (fun k => Int32.ofInt (h.1 q.1 q.2 k)))
  | _ => .inl (K.2.2, am_len q.1 q.2, .inr (.inr (.inr (.inr (fun k => some (ad (h.2 (2 + k)) 0))))))
def am_ws (K : ClassId × ClassId × ClassId) (ad : Nat → Nat → Nat) (h : am_H) : va_W := am_cs.map (fun q => (ad q.1 q.2, am_cell K ad h q))
def am_ty (K : ClassId × ClassId × ClassId) : List (ClassId × FieldType) := [(K.1, .int), (K.2.1, .char), (K.2.2, .object RX0)]
def am_ad (ad : Nat → Nat → Nat) : Prop := ∀ q ∈ am_cs, ∀ q' ∈ am_cs, ad q.1 q.2 = ad q'.1 q'.2 → q = q'
def am_A (ad : Nat → Nat → Nat) : Nat → Prop := fun a => ∃ q ∈ am_cs, ad q.1 q.2 = a
def am_VH (h : am_H) : Prop := (∀ u j k, am_R (h.1 u j k)) ∧ ∀ n, h.2 n < 6
def am_Pre (D : va_G) (K : ClassId × ClassId × ClassId) (ad : Nat → Nat → Nat) (h : am_H) (U : State) : Prop := va_P D vwCl (am_ws K ad h) U.heap ∧ va_K D vwCl (am_ty K) U ∧ (∀ w ∈ am_NW, va_Nw w U) ∧ am_VH h ∧ am_ad ad
def am_Q (D : va_G) (K : ClassId × ClassId × ClassId) (ad : Nat → Nat → Nat) (h1 : am_H) (r : Option am_V) : Array Value → State → Outcome → State → Prop := fun _ st o t => o = .returned (r.map (am_cv ad)) ∧ va_P D vwCl (am_ws K ad h1) t.heap ∧ am_VH h1 ∧ va_F (am_A ad) st t
/-- a method's contract: called so over this heap, it returns this and leaves that heap -/
def Ct (d : Nat) (y : am_Y) (as : List am_V) (r : Option am_V) (h h1 : am_H) : Prop := ∀ (l : Launch) (D : va_G) (K : ClassId × ClassId × ClassId) (ad : Nat → Nat → Nat), Met l y.1 (am_w y) (am_rm d) (va_Pc (as.map (am_cv ad)) (am_Pre D K ad h)) (am_Q D K ad h1 r) 0 0 (am_A ad)
def am_St (p : Program) (s : State) (m : MethodId) (args : Array Value) (meth : Method) (c : Code) (y : am_Y) (D : va_G) (K : ClassId × ClassId × ClassId) (ad : Nat → Nat → Nat) : Prop :=
  p.tables.exec = Jvm.exec ∧ c.code = y.2.1 ∧ c.maxLocals = y.2.2.1 ∧ meth.sig.returnType = y.2.2.2 ∧ meth.locks = false ∧ s.vm.findClass y.1.cls = some m.cls ∧ (∀ w ∈ am_w y, w.before args s = true) ∧ va_K D vwCl (am_ty K) s ∧ (∀ w ∈ am_NW, va_Nw w s) ∧ am_ad ad
def am_lv (ad : Nat → Nat → Nat) (n : Nat) (ls : List (Option am_V)) (lsr : Array Slot) : Prop := lsr.size = n ∧ lv_wf lsr ∧ ∀ (i : Nat) (v : am_V), ls[i]? = some (some v) → lsr[i]? = some (Slot.val (am_cv ad v))
/-- the machine at this place comes to the method's end with that answer and that heap -/
def Sx (d : Nat) (y : am_Y) (h1 : am_H) (r : Option am_V) (pc : Nat) (ls : List (Option am_V)) (st : List am_V) (h : am_H) : Prop :=
  ∀ (p : Program) (l : Launch) (e : Env) (s : State) (m : MethodId) (args : Array Value) (below : List Frame) (meth : Method) (c : Code) (D : va_G) (K : ClassId × ClassId × ClassId) (ad : Nat → Nat → Nat) (H : Heap) (locs : List Loc) (lsr : Array Slot),
    am_St p s m args meth c y D K ad → va_S (am_A ad) s.heap H locs → va_P D vwCl (am_ws K ad h) H → am_VH h → am_lv ad y.2.2.1 ls lsr →
    W p l e (am_rm d) s m args below meth c H locs 0 0 (MQ below (am_Q D K ad h1 r) args s 0 0 (am_A ad)) (F0 m pc lsr (st.map (am_cv ad)))
theorem am_cs_ix : ∀ q ∈ am_cs, am_cs[am_ix q.1 q.2]? = some q := by decide +kernel
theorem am_ix_cs : ∀ k, k < 88 → ∀ q, am_cs[k]? = some q → am_ix q.1 q.2 = k := by
  have h : ∀ k, k < 88 → (am_cs[k]?.map (fun q => am_ix q.1 q.2)) = some k := by decide +kernel
  intro k hk q hq
  have h2 := h k hk
  rw [hq] at h2
  exact Option.some.inj h2
theorem am_cs_len : am_cs.length = 88 := by decide +kernel
theorem am_inM : ∀ u, u < 6 → ∀ j, j < 14 → (u, j) ∈ am_cs := by decide +kernel
theorem am_inG : ∀ j, j < 4 → (6, j) ∈ am_cs := by decide +kernel
theorem am_ws_at {K : ClassId × ClassId × ClassId} {ad : Nat → Nat → Nat} {h : am_H} {q : Nat × Nat} (hq : q ∈ am_cs) : (am_ws K ad h)[am_ix q.1 q.2]? = some (ad q.1 q.2, am_cell K ad h q) := by
  unfold am_ws
  rw [List.getElem?_map, am_cs_ix q hq]
  rfl
theorem am_ws_set {K : ClassId × ClassId × ClassId} {ad : Nat → Nat → Nat} {h h' : am_H} {q : Nat × Nat} {e : va_E} (hq : q ∈ am_cs) (he : am_cell K ad h' q = e) (ho : ∀ q' ∈ am_cs, q' ≠ q → am_cell K ad h' q' = am_cell K ad h q') :
    (am_ws K ad h).set (am_ix q.1 q.2) (ad q.1 q.2, e) = am_ws K ad h' := by
  subst he
  apply List.ext_getElem?
  intro k
  by_cases hk : k = am_ix q.1 q.2
  · subst hk
    rw [am_ws_at hq, List.getElem?_set_self]
    exact (List.getElem?_eq_some_iff.mp (am_ws_at (K := K) (ad := ad) (h := h) hq)).1
  · rw [List.getElem?_set_ne (Ne.symm hk)]
    unfold am_ws
    rw [List.getElem?_map, List.getElem?_map]
    cases hz : am_cs[k]? with
    | none => rfl
    | some q' =>
      have hm : q' ∈ am_cs := List.mem_of_getElem? hz
      have hkl : k < 88 := by rw [← am_cs_len]; exact (List.getElem?_eq_some_iff.mp hz).1
      have hne : q' ≠ q := by
        intro hqq
        subst hqq
        exact hk (am_ix_cs k hkl _ hz).symm
      simp only [Option.map_some]
      rw [ho q' hm hne]
theorem am_D {K : ClassId × ClassId × ClassId} {ad : Nat → Nat → Nat} {h : am_H} (hA : am_ad ad) : va_D (am_A ad) (am_ws K ad h) := by
  have key : ∀ (k : Nat) (p : Nat × va_E), (am_ws K ad h)[k]? = some p → ∃ q ∈ am_cs, am_cs[k]? = some q ∧ p.1 = ad q.1 q.2 := by
    intro k p hp
    unfold am_ws at hp
    rw [List.getElem?_map] at hp
    cases hz : am_cs[k]? with
    | none => rw [hz] at hp; cases hp
    | some q =>
      rw [hz] at hp
      cases hp
      exact ⟨q, List.mem_of_getElem? hz, rfl, rfl⟩
  refine ⟨fun i j a b hi hj hab => ?_, fun k p hp => ?_⟩
  · obtain ⟨q, m1, z1, e1⟩ := key i a hi
    obtain ⟨q', m2, z2, e2⟩ := key j b hj
    have hqq := hA q m1 q' m2 (by rw [← e1, ← e2]; exact hab)
    subst hqq
    have l1 : i < 88 := by rw [← am_cs_len]; exact (List.getElem?_eq_some_iff.mp z1).1
    have l2 : j < 88 := by rw [← am_cs_len]; exact (List.getElem?_eq_some_iff.mp z2).1
    exact (am_ix_cs i l1 _ z1).symm.trans (am_ix_cs j l2 _ z2)
  · obtain ⟨q, m1, -, e1⟩ := key k p hp
    exact ⟨q, m1, e1.symm⟩
theorem am_toInt {x : Int} (h : am_R x) : (Int32.ofInt x).toInt = x := Int32.toInt_ofInt_of_le (by have := h.1; omega) (by have := h.2; omega)
theorem am_eq {x y : Int} (hx : am_R x) (hy : am_R y) : Int32.ofInt x = Int32.ofInt y ↔ x = y := by
  constructor
  · intro h
    have := congrArg Int32.toInt h
    rwa [am_toInt hx, am_toInt hy] at this
  · intro h
    rw [h]
theorem am_lt {x y : Int} (hx : am_R x) (hy : am_R y) : Int32.ofInt x < Int32.ofInt y ↔ x < y := by
  rw [Int32.lt_iff_toInt_lt, am_toInt hx, am_toInt hy]
theorem am_le {x y : Int} (hx : am_R x) (hy : am_R y) : Int32.ofInt x ≤ Int32.ofInt y ↔ x ≤ y := by
  rw [Int32.le_iff_toInt_le, am_toInt hx, am_toInt hy]
theorem am_clamp {x : Int} (hx : am_R x) : (Int32.ofInt x).toNatClampNeg = x.toNat := by
  show (Int32.ofInt x).toInt.toNat = x.toNat
  rw [am_toInt hx]
theorem am_idx {x : Int} {n : Nat} (h0 : 0 ≤ x) (h1 : x < n) (hn : n ≤ 1000000) : vp_in (Int32.ofInt x) n ∧ (Int32.ofInt x).toNatClampNeg = x.toNat := by
  have hR : am_R x := ⟨by omega, by omega⟩
  refine ⟨?_, am_clamp hR⟩
  rintro (h | h)
  · rw [show (0 : Int32) = Int32.ofInt 0 from rfl, am_lt hR ⟨by decide, by decide⟩] at h
    omega
  · rw [am_clamp hR] at h
    omega
