/-! ===== what the rows stand on ===== -/
def am_and (x z : Int) : Int := (Int32.ofInt x &&& Int32.ofInt z).toInt
def am_or (x z : Int) : Int := (Int32.ofInt x ||| Int32.ofInt z).toInt
def am_xor (x z : Int) : Int := (Int32.ofInt x ^^^ Int32.ofInt z).toInt
def am_shl (x z : Int) : Int := (Int32.ofInt x <<< (Int32.ofInt z &&& 31)).toInt
def am_shr (x z : Int) : Int := (Int32.ofInt x >>> (Int32.ofInt z &&& 31)).toInt
def am_ushr (x z : Int) : Int := (((Int32.ofInt x).toUInt32 >>> ((Int32.ofInt z).toUInt32 &&& Int32.toUInt32 31)).toInt32).toInt
theorem am_cat (ad : Nat → Nat → Nat) (v : am_V) : (am_cv ad v).category = 1 := by
  cases v <;> rfl
theorem am_i2c {x : Int} (h0 : 0 ≤ x) (h9 : x ≤ 65535) : ((Int32.ofInt x).toUInt32 % 65536).toInt32 = Int32.ofInt x := by
  obtain ⟨n, rfl⟩ := Int.eq_ofNat_of_zero_le h0
  have hn : n ≤ 65535 := by omega
  apply Int32.toInt_inj.mp
  have h1 : (Int32.ofInt (n : Int)).toUInt32 = UInt32.ofNat n := by
    apply UInt32.toNat_inj.mp
    simp [Int32.ofInt, UInt32.toNat_ofNat]
  rw [h1]
  have h2 : UInt32.ofNat n % 65536 = UInt32.ofNat n := by
    apply UInt32.toNat_inj.mp
    rw [UInt32.toNat_mod, UInt32.toNat_ofNat]
    show n % 2 ^ 32 % 65536 = n % 2 ^ 32
    omega
  rw [h2, ← h1]
  rfl
theorem am_b_eq {x z : Int} (hx : am_R x) (hz : am_R z) (q : Int32.ofInt x = Int32.ofInt z) : x = z := (am_eq hx hz).mp q
theorem am_n_eq {x z : Int} (hx : am_R x) (hz : am_R z) (q : ¬ Int32.ofInt x = Int32.ofInt z) : ¬ x = z := fun w => q ((am_eq hx hz).mpr w)
theorem am_b_ne {x z : Int} (hx : am_R x) (hz : am_R z) (q : ¬ Int32.ofInt x = Int32.ofInt z) : ¬ x = z := fun w => q ((am_eq hx hz).mpr w)
theorem am_n_ne {x z : Int} (hx : am_R x) (hz : am_R z) (q : Int32.ofInt x = Int32.ofInt z) : x = z := (am_eq hx hz).mp q
theorem am_b_lt {x z : Int} (hx : am_R x) (hz : am_R z) (q : Int32.ofInt x < Int32.ofInt z) : x < z := (am_lt hx hz).mp q
theorem am_n_lt {x z : Int} (hx : am_R x) (hz : am_R z) (q : ¬ Int32.ofInt x < Int32.ofInt z) : z ≤ x := by rw [am_lt hx hz] at q; omega
theorem am_b_ge {x z : Int} (hx : am_R x) (hz : am_R z) (q : Int32.ofInt z ≤ Int32.ofInt x) : z ≤ x := (am_le hz hx).mp q
theorem am_n_ge {x z : Int} (hx : am_R x) (hz : am_R z) (q : ¬ Int32.ofInt z ≤ Int32.ofInt x) : x < z := by rw [am_le hz hx] at q; omega
theorem am_b_gt {x z : Int} (hx : am_R x) (hz : am_R z) (q : Int32.ofInt z < Int32.ofInt x) : z < x := (am_lt hz hx).mp q
theorem am_n_gt {x z : Int} (hx : am_R x) (hz : am_R z) (q : ¬ Int32.ofInt z < Int32.ofInt x) : x ≤ z := by rw [am_lt hz hx] at q; omega
theorem am_b_le {x z : Int} (hx : am_R x) (hz : am_R z) (q : Int32.ofInt x ≤ Int32.ofInt z) : x ≤ z := (am_le hx hz).mp q
theorem am_n_le {x z : Int} (hx : am_R x) (hz : am_R z) (q : ¬ Int32.ofInt x ≤ Int32.ofInt z) : z < x := by rw [am_le hx hz] at q; omega
def am_pairs (ad : Nat → Nat → Nat) (ls : List (Option am_V)) : List (Nat × Value) := (List.range ls.length).filterMap (fun i => match ls[i]? with
  | some (some v) => some (i, am_cv ad v)
  | _ => none)
theorem am_pairs_mem {ad : Nat → Nat → Nat} {ls : List (Option am_V)} {i : Nat} {v : am_V} (h : ls[i]? = some (some v)) : (i, am_cv ad v) ∈ am_pairs ad ls := by
  refine List.mem_filterMap.mpr ⟨i, List.mem_range.mpr (List.getElem?_eq_some_iff.mp h).1, ?_⟩
  rw [h]
theorem am_pairs_of {ad : Nat → Nat → Nat} {ls : List (Option am_V)} {q : Nat × Value} (h : q ∈ am_pairs ad ls) : ∃ v, ls[q.1]? = some (some v) ∧ q.2 = am_cv ad v := by
  obtain ⟨i, -, hi⟩ := List.mem_filterMap.mp h
  cases hz : ls[i]? with
  | none => rw [hz] at hi; cases hi
  | some o =>
    cases o with
    | none => rw [hz] at hi; cases hi
    | some v =>
      rw [hz] at hi
      cases hi
      exact ⟨v, hz, rfl⟩
theorem am_lv_has {ad : Nat → Nat → Nat} {n : Nat} {ls : List (Option am_V)} {lsr : Array Slot} (h : am_lv ad n ls lsr) : lv_has lsr n (am_pairs ad ls) := by
  refine ⟨h.1, h.2.1, fun q hq => ?_⟩
  obtain ⟨v, h1, h2⟩ := am_pairs_of hq
  rw [h2]
  exact h.2.2 _ _ h1
theorem am_lv_has1 {ad : Nat → Nat → Nat} {n : Nat} {ls : List (Option am_V)} {lsr : Array Slot} {i : Nat} {x : Int} (h : am_lv ad n ls lsr) (hg : ls[i]? = some (some (.inl x))) : lv_has lsr n ((i, .int (Int32.ofInt x)) :: am_pairs ad ls) := by
  refine ⟨h.1, h.2.1, fun q hq => ?_⟩
  rcases List.mem_cons.mp hq with rfl | hq
  · exact h.2.2 _ _ hg
  · exact (am_lv_has h).2.2 q hq
theorem am_keep {i j : Nat} {v : am_V} {ad : Nat → Nat → Nat} (hne : j ≠ i) : (!((j, am_cv ad v).1 == i) && !((j, am_cv ad v).1 + 1 == i && (j, am_cv ad v).2.category == 2)) = true := by
  have h2 : ((am_cv ad v).category == 2) = false := by rw [am_cat]; rfl
  simp [h2, hne]
theorem am_lv_set {ad : Nat → Nat → Nat} {n : Nat} {ls : List (Option am_V)} {lsr lsr' : Array Slot} {i : Nat} {v : am_V} (h : am_lv ad n ls lsr) (h' : lv_has lsr' n ((i, am_cv ad v) :: (am_pairs ad ls).filter (fun q => !(q.1 == i) && !(q.1 + 1 == i && q.2.category == 2)))) : am_lv ad n (ls.set i (some v)) lsr' := by
  refine ⟨h'.1, h'.2.1, fun j w hj => ?_⟩
  by_cases hji : j = i
  · subst hji
    have hlen : j < ls.length := by have := (List.getElem?_eq_some_iff.mp hj).1; simpa using this
    rw [List.getElem?_set_self hlen] at hj
    have hvw : v = w := Option.some.inj (Option.some.inj hj)
    subst hvw
    exact h'.2.2 (j, am_cv ad v) List.mem_cons_self
  · rw [List.getElem?_set_ne (Ne.symm hji)] at hj
    exact h'.2.2 (j, am_cv ad w) (List.mem_cons_of_mem _ (List.mem_filter.mpr ⟨am_pairs_mem hj, am_keep hji⟩))
theorem am_lv_set1 {ad : Nat → Nat → Nat} {n : Nat} {ls : List (Option am_V)} {lsr lsr' : Array Slot} {i : Nat} {x : Int} {v : am_V} (h : am_lv ad n ls lsr) (h' : lv_has lsr' n ((i, am_cv ad v) :: ((i, .int (Int32.ofInt x)) :: am_pairs ad ls).filter (fun q => !(q.1 == i) && !(q.1 + 1 == i && q.2.category == 2)))) : am_lv ad n (ls.set i (some v)) lsr' := by
  refine am_lv_set h ⟨h'.1, h'.2.1, fun q hq => h'.2.2 q ?_⟩
  rcases List.mem_cons.mp hq with rfl | hq
  · exact List.mem_cons_self
  · refine List.mem_cons_of_mem _ ?_
    obtain ⟨a, b⟩ := List.mem_filter.mp hq
    exact List.mem_filter.mpr ⟨List.mem_cons_of_mem _ a, b⟩
/-! ===== the rows of the small machine ===== -/
section SX
variable {d : Nat} {y : am_Y} {h1 : am_H} {r : Option am_V} {pc : Nat} {ls : List (Option am_V)} {st : List am_V} {h : am_H}
theorem sx_iconst {n : Int} (hd : decode y.2.1 pc = .ok (.iconst n, 1)) (k : Sx d y h1 r (pc + 1) ls (.inl n :: st) h) : Sx d y h1 r pc ls st h := by
  intro p l e s m args below meth c D K ad H locs lsr hS hV hP hH hl
  obtain ⟨hx, hb, hml, hr, hlk, hown, hts, hK, hN, hA⟩ := id hS
  have z := k p l e s m args below meth c D K ad H locs lsr hS hV hP hH hl
  exact lv_iconst hx hb hd rfl z
theorem sx_bipush {n : Int} (hd : decode y.2.1 pc = .ok (.bipush n, 2)) (hv : (Int8.ofInt n).toInt32 = Int32.ofInt n) (k : Sx d y h1 r (pc + 2) ls (.inl n :: st) h) : Sx d y h1 r pc ls st h := by
  intro p l e s m args below meth c D K ad H locs lsr hS hV hP hH hl
  obtain ⟨hx, hb, hml, hr, hlk, hown, hts, hK, hN, hA⟩ := id hS
  have z := k p l e s m args below meth c D K ad H locs lsr hS hV hP hH hl
  exact lv_bipush hx hb hd hv z
theorem sx_sipush {n : Int} (hd : decode y.2.1 pc = .ok (.sipush n, 3)) (hv : (Int16.ofInt n).toInt32 = Int32.ofInt n) (k : Sx d y h1 r (pc + 3) ls (.inl n :: st) h) : Sx d y h1 r pc ls st h := by
  intro p l e s m args below meth c D K ad H locs lsr hS hV hP hH hl
  obtain ⟨hx, hb, hml, hr, hlk, hown, hts, hK, hN, hA⟩ := id hS
  have z := k p l e s m args below meth c D K ad H locs lsr hS hV hP hH hl
  exact lv_sipush hx hb hd hv z
theorem sx_ldc {n : Int} {ix : Nat} (hd : decode y.2.1 pc = .ok (.ldc ix, 2)) (hc : Cond.constant y.1.cls ix (Int32.ofInt n) ∈ am_GW) (k : Sx d y h1 r (pc + 2) ls (.inl n :: st) h) : Sx d y h1 r pc ls st h := by
  intro p l e s m args below meth c D K ad H locs lsr hS hV hP hH hl
  obtain ⟨hx, hb, hml, hr, hlk, hown, hts, hK, hN, hA⟩ := id hS
  have z := k p l e s m args below meth c D K ad H locs lsr hS hV hP hH hl
  exact lv_ldc hx hb hown (hts _ (List.mem_cons_of_mem _ hc)) hd z
theorem sx_iload_n {x : Int} {kk : Fin 4} (hd : decode y.2.1 pc = .ok (.iload_n kk, 1)) (hg : ls[(kk : Nat)]? = some (some (.inl x))) (k : Sx d y h1 r (pc + 1) ls (.inl x :: st) h) : Sx d y h1 r pc ls st h := by
  intro p l e s m args below meth c D K ad H locs lsr hS hV hP hH hl
  obtain ⟨hx, hb, hml, hr, hlk, hown, hts, hK, hN, hA⟩ := id hS
  have z := k p l e s m args below meth c D K ad H locs lsr hS hV hP hH hl
  exact lv_iload_n hx hb hd rfl (hl.2.2 _ _ hg) z
theorem sx_iload {x : Int} {i : Nat} (hd : decode y.2.1 pc = .ok (.iload i, 2)) (hg : ls[i]? = some (some (.inl x))) (k : Sx d y h1 r (pc + 2) ls (.inl x :: st) h) : Sx d y h1 r pc ls st h := by
  intro p l e s m args below meth c D K ad H locs lsr hS hV hP hH hl
  obtain ⟨hx, hb, hml, hr, hlk, hown, hts, hK, hN, hA⟩ := id hS
  have z := k p l e s m args below meth c D K ad H locs lsr hS hV hP hH hl
  exact lv_iload hx hb hd (hl.2.2 _ _ hg) z
theorem sx_istore_n {x : Int} {kk : Fin 4} (hd : decode y.2.1 pc = .ok (.istore_n kk, 1)) (hn : (kk : Nat) < y.2.2.1) (k : Sx d y h1 r (pc + 1) (ls.set (kk : Nat) (some (.inl x))) st h) : Sx d y h1 r pc ls (.inl x :: st) h := by
  intro p l e s m args below meth c D K ad H locs lsr hS hV hP hH hl
  obtain ⟨hx, hb, hml, hr, hlk, hown, hts, hK, hN, hA⟩ := id hS
  refine lv_istore_n hx hb hd rfl (am_lv_has hl) hn rfl (fun ls' hl' => ?_)
  exact k p l e s m args below meth c D K ad H locs ls' hS hV hP hH (am_lv_set (v := (.inl x)) hl hl')
theorem sx_istore {x : Int} {i : Nat} (hd : decode y.2.1 pc = .ok (.istore i, 2)) (hn : i < y.2.2.1) (k : Sx d y h1 r (pc + 2) (ls.set i (some (.inl x))) st h) : Sx d y h1 r pc ls (.inl x :: st) h := by
  intro p l e s m args below meth c D K ad H locs lsr hS hV hP hH hl
  obtain ⟨hx, hb, hml, hr, hlk, hown, hts, hK, hN, hA⟩ := id hS
  refine lv_istore hx hb hd (am_lv_has hl) hn rfl (fun ls' hl' => ?_)
  exact k p l e s m args below meth c D K ad H locs ls' hS hV hP hH (am_lv_set (v := (.inl x)) hl hl')
theorem sx_aload_n {x : Nat × Nat} {kk : Fin 4} (hd : decode y.2.1 pc = .ok (.aload_n kk, 1)) (hg : ls[(kk : Nat)]? = some (some (.inr x))) (k : Sx d y h1 r (pc + 1) ls (.inr x :: st) h) : Sx d y h1 r pc ls st h := by
  intro p l e s m args below meth c D K ad H locs lsr hS hV hP hH hl
  obtain ⟨hx, hb, hml, hr, hlk, hown, hts, hK, hN, hA⟩ := id hS
  have z := k p l e s m args below meth c D K ad H locs lsr hS hV hP hH hl
  exact lv_aload_n hx hb hd rfl (hl.2.2 _ _ hg) z
theorem sx_aload {x : Nat × Nat} {i : Nat} (hd : decode y.2.1 pc = .ok (.aload i, 2)) (hg : ls[i]? = some (some (.inr x))) (k : Sx d y h1 r (pc + 2) ls (.inr x :: st) h) : Sx d y h1 r pc ls st h := by
  intro p l e s m args below meth c D K ad H locs lsr hS hV hP hH hl
  obtain ⟨hx, hb, hml, hr, hlk, hown, hts, hK, hN, hA⟩ := id hS
  have z := k p l e s m args below meth c D K ad H locs lsr hS hV hP hH hl
  exact lv_aload hx hb hd (hl.2.2 _ _ hg) z
theorem sx_astore_n {x : Nat × Nat} {kk : Fin 4} (hd : decode y.2.1 pc = .ok (.astore_n kk, 1)) (hn : (kk : Nat) < y.2.2.1) (k : Sx d y h1 r (pc + 1) (ls.set (kk : Nat) (some (.inr x))) st h) : Sx d y h1 r pc ls (.inr x :: st) h := by
  intro p l e s m args below meth c D K ad H locs lsr hS hV hP hH hl
  obtain ⟨hx, hb, hml, hr, hlk, hown, hts, hK, hN, hA⟩ := id hS
  refine lv_astore_n hx hb hd rfl (am_lv_has hl) hn rfl (fun ls' hl' => ?_)
  exact k p l e s m args below meth c D K ad H locs ls' hS hV hP hH (am_lv_set (v := (.inr x)) hl hl')
theorem sx_astore {x : Nat × Nat} {i : Nat} (hd : decode y.2.1 pc = .ok (.astore i, 2)) (hn : i < y.2.2.1) (k : Sx d y h1 r (pc + 2) (ls.set i (some (.inr x))) st h) : Sx d y h1 r pc ls (.inr x :: st) h := by
  intro p l e s m args below meth c D K ad H locs lsr hS hV hP hH hl
  obtain ⟨hx, hb, hml, hr, hlk, hown, hts, hK, hN, hA⟩ := id hS
  refine lv_astore hx hb hd (am_lv_has hl) hn rfl (fun ls' hl' => ?_)
  exact k p l e s m args below meth c D K ad H locs ls' hS hV hP hH (am_lv_set (v := (.inr x)) hl hl')
theorem sx_iinc {x : Int} {i : Nat} {n : Int} (hd : decode y.2.1 pc = .ok (.iinc i n, 3)) (hg : ls[i]? = some (some (.inl x))) (hn : i < y.2.2.1) (k : Sx d y h1 r (pc + 3) (ls.set i (some (.inl (x + n)))) st h) : Sx d y h1 r pc ls st h := by
  intro p l e s m args below meth c D K ad H locs lsr hS hV hP hH hl
  obtain ⟨hx, hb, hml, hr, hlk, hown, hts, hK, hN, hA⟩ := id hS
  refine lv_iinc (k := 0) hx hb hd (am_lv_has1 hl hg) rfl (Int32.ofInt_add x n).symm hn rfl (fun ls' hl' => ?_)
  exact k p l e s m args below meth c D K ad H locs ls' hS hV hP hH (am_lv_set1 (v := .inl (x + n)) hl hl')
theorem sx_iadd {x z : Int} (hd : decode y.2.1 pc = .ok (.iadd, 1)) (k : Sx d y h1 r (pc + 1) ls (.inl (x + z) :: st) h) : Sx d y h1 r pc ls (.inl z :: .inl x :: st) h := by
  intro p l e s m args below meth c D K ad H locs lsr hS hV hP hH hl
  obtain ⟨hx, hb, hml, hr, hlk, hown, hts, hK, hN, hA⟩ := id hS
  have zz := k p l e s m args below meth c D K ad H locs lsr hS hV hP hH hl
  simp only [List.map_cons, am_cv, Int32.ofInt_add] at zz
  exact lv_iadd hx hb hd zz
theorem sx_isub {x z : Int} (hd : decode y.2.1 pc = .ok (.isub, 1)) (k : Sx d y h1 r (pc + 1) ls (.inl (x - z) :: st) h) : Sx d y h1 r pc ls (.inl z :: .inl x :: st) h := by
  intro p l e s m args below meth c D K ad H locs lsr hS hV hP hH hl
  obtain ⟨hx, hb, hml, hr, hlk, hown, hts, hK, hN, hA⟩ := id hS
  have zz := k p l e s m args below meth c D K ad H locs lsr hS hV hP hH hl
  simp only [List.map_cons, am_cv, Int32.ofInt_sub] at zz
  exact lv_isub hx hb hd zz
theorem sx_imul {x z : Int} (hd : decode y.2.1 pc = .ok (.imul, 1)) (k : Sx d y h1 r (pc + 1) ls (.inl (x * z) :: st) h) : Sx d y h1 r pc ls (.inl z :: .inl x :: st) h := by
  intro p l e s m args below meth c D K ad H locs lsr hS hV hP hH hl
  obtain ⟨hx, hb, hml, hr, hlk, hown, hts, hK, hN, hA⟩ := id hS
  have zz := k p l e s m args below meth c D K ad H locs lsr hS hV hP hH hl
  simp only [List.map_cons, am_cv, Int32.ofInt_mul] at zz
  exact lv_imul hx hb hd zz
theorem sx_iand {x z : Int} (hd : decode y.2.1 pc = .ok (.iand, 1)) (k : Sx d y h1 r (pc + 1) ls (.inl (am_and x z) :: st) h) : Sx d y h1 r pc ls (.inl z :: .inl x :: st) h := by
  intro p l e s m args below meth c D K ad H locs lsr hS hV hP hH hl
  obtain ⟨hx, hb, hml, hr, hlk, hown, hts, hK, hN, hA⟩ := id hS
  have zz := k p l e s m args below meth c D K ad H locs lsr hS hV hP hH hl
  simp only [List.map_cons, am_cv, am_and, Int32.ofInt_toInt] at zz
  exact lv_iand hx hb hd zz
theorem sx_ior {x z : Int} (hd : decode y.2.1 pc = .ok (.ior, 1)) (k : Sx d y h1 r (pc + 1) ls (.inl (am_or x z) :: st) h) : Sx d y h1 r pc ls (.inl z :: .inl x :: st) h := by
  intro p l e s m args below meth c D K ad H locs lsr hS hV hP hH hl
  obtain ⟨hx, hb, hml, hr, hlk, hown, hts, hK, hN, hA⟩ := id hS
  have zz := k p l e s m args below meth c D K ad H locs lsr hS hV hP hH hl
  simp only [List.map_cons, am_cv, am_or, Int32.ofInt_toInt] at zz
  exact lv_ior hx hb hd zz
theorem sx_ixor {x z : Int} (hd : decode y.2.1 pc = .ok (.ixor, 1)) (k : Sx d y h1 r (pc + 1) ls (.inl (am_xor x z) :: st) h) : Sx d y h1 r pc ls (.inl z :: .inl x :: st) h := by
  intro p l e s m args below meth c D K ad H locs lsr hS hV hP hH hl
  obtain ⟨hx, hb, hml, hr, hlk, hown, hts, hK, hN, hA⟩ := id hS
  have zz := k p l e s m args below meth c D K ad H locs lsr hS hV hP hH hl
  simp only [List.map_cons, am_cv, am_xor, Int32.ofInt_toInt] at zz
  exact lv_ixor hx hb hd zz
theorem sx_ishl {x z : Int} (hd : decode y.2.1 pc = .ok (.ishl, 1)) (k : Sx d y h1 r (pc + 1) ls (.inl (am_shl x z) :: st) h) : Sx d y h1 r pc ls (.inl z :: .inl x :: st) h := by
  intro p l e s m args below meth c D K ad H locs lsr hS hV hP hH hl
  obtain ⟨hx, hb, hml, hr, hlk, hown, hts, hK, hN, hA⟩ := id hS
  have zz := k p l e s m args below meth c D K ad H locs lsr hS hV hP hH hl
  simp only [List.map_cons, am_cv, am_shl, Int32.ofInt_toInt] at zz
  exact lv_ishl hx hb hd zz
theorem sx_ishr {x z : Int} (hd : decode y.2.1 pc = .ok (.ishr, 1)) (k : Sx d y h1 r (pc + 1) ls (.inl (am_shr x z) :: st) h) : Sx d y h1 r pc ls (.inl z :: .inl x :: st) h := by
  intro p l e s m args below meth c D K ad H locs lsr hS hV hP hH hl
  obtain ⟨hx, hb, hml, hr, hlk, hown, hts, hK, hN, hA⟩ := id hS
  have zz := k p l e s m args below meth c D K ad H locs lsr hS hV hP hH hl
  simp only [List.map_cons, am_cv, am_shr, Int32.ofInt_toInt] at zz
  exact lv_ishr hx hb hd zz
theorem sx_iushr {x z : Int} (hd : decode y.2.1 pc = .ok (.iushr, 1)) (k : Sx d y h1 r (pc + 1) ls (.inl (am_ushr x z) :: st) h) : Sx d y h1 r pc ls (.inl z :: .inl x :: st) h := by
  intro p l e s m args below meth c D K ad H locs lsr hS hV hP hH hl
  obtain ⟨hx, hb, hml, hr, hlk, hown, hts, hK, hN, hA⟩ := id hS
  have zz := k p l e s m args below meth c D K ad H locs lsr hS hV hP hH hl
  simp only [List.map_cons, am_cv, am_ushr, Int32.ofInt_toInt] at zz
  exact lv_iushr hx hb hd rfl zz
theorem sx_i2c {x : Int} (hd : decode y.2.1 pc = .ok (.i2c, 1)) (h0 : 0 ≤ x) (h9 : x ≤ 65535) (k : Sx d y h1 r (pc + 1) ls (.inl x :: st) h) : Sx d y h1 r pc ls (.inl x :: st) h := by
  intro p l e s m args below meth c D K ad H locs lsr hS hV hP hH hl
  obtain ⟨hx, hb, hml, hr, hlk, hown, hts, hK, hN, hA⟩ := id hS
  have zz := k p l e s m args below meth c D K ad H locs lsr hS hV hP hH hl
  exact lv_i2c hx hb hd (am_i2c h0 h9) zz
theorem sx_dup {v : am_V} (hd : decode y.2.1 pc = .ok (.dup, 1)) (k : Sx d y h1 r (pc + 1) ls (v :: v :: st) h) : Sx d y h1 r pc ls (v :: st) h := by
  intro p l e s m args below meth c D K ad H locs lsr hS hV hP hH hl
  obtain ⟨hx, hb, hml, hr, hlk, hown, hts, hK, hN, hA⟩ := id hS
  have z := k p l e s m args below meth c D K ad H locs lsr hS hV hP hH hl
  exact lv_dup hx hb hd (am_cat _ _) z
theorem sx_dup2 {v w : am_V} (hd : decode y.2.1 pc = .ok (.dup2, 1)) (k : Sx d y h1 r (pc + 1) ls (v :: w :: v :: w :: st) h) : Sx d y h1 r pc ls (v :: w :: st) h := by
  intro p l e s m args below meth c D K ad H locs lsr hS hV hP hH hl
  obtain ⟨hx, hb, hml, hr, hlk, hown, hts, hK, hN, hA⟩ := id hS
  have z := k p l e s m args below meth c D K ad H locs lsr hS hV hP hH hl
  exact lv_dup2_11 hx hb hd (am_cat _ _) (am_cat _ _) z
theorem sx_pop {v : am_V} (hd : decode y.2.1 pc = .ok (.pop, 1)) (k : Sx d y h1 r (pc + 1) ls st h) : Sx d y h1 r pc ls (v :: st) h := by
  intro p l e s m args below meth c D K ad H locs lsr hS hV hP hH hl
  obtain ⟨hx, hb, hml, hr, hlk, hown, hts, hK, hN, hA⟩ := id hS
  have z := k p l e s m args below meth c D K ad H locs lsr hS hV hP hH hl
  exact lv_pop hx hb hd (am_cat _ _) z
theorem sx_goto {off : Int} {tgt : Nat} (hd : decode y.2.1 pc = .ok (.goto off, 3)) (ht : (pc : Int) + off = (tgt : Int)) (k : Sx d y h1 r tgt ls st h) : Sx d y h1 r pc ls st h := by
  intro p l e s m args below meth c D K ad H locs lsr hS hV hP hH hl
  obtain ⟨hx, hb, hml, hr, hlk, hown, hts, hK, hN, hA⟩ := id hS
  have z := k p l e s m args below meth c D K ad H locs lsr hS hV hP hH hl
  exact lv_goto hx hb hd ht z
theorem sx_icmp_eq {x z : Int} {off : Int} {tgt : Nat} (hd : decode y.2.1 pc = .ok (.if_icmp .eq off, 3)) (ht : (pc : Int) + off = (tgt : Int)) (hx0 : am_R x) (hz0 : am_R z) (kt : x = z → Sx d y h1 r tgt ls st h) (kf : ¬ x = z → Sx d y h1 r (pc + 3) ls st h) : Sx d y h1 r pc ls (.inl z :: .inl x :: st) h := by
  intro p l e s m args below meth c D K ad H locs lsr hS hV hP hH hl
  obtain ⟨hx, hb, hml, hr, hlk, hown, hts, hK, hN, hA⟩ := id hS
  refine lv_icmp_eq hx hb hd ht (fun q => ?_) (fun q => ?_)
  · exact kt (am_b_eq hx0 hz0 q) p l e s m args below meth c D K ad H locs lsr hS hV hP hH hl
  · exact kf (am_n_eq hx0 hz0 q) p l e s m args below meth c D K ad H locs lsr hS hV hP hH hl
theorem sx_if_eq {x : Int} {off : Int} {tgt : Nat} (hd : decode y.2.1 pc = .ok (.ifCond .eq off, 3)) (ht : (pc : Int) + off = (tgt : Int)) (hx0 : am_R x) (kt : x = 0 → Sx d y h1 r tgt ls st h) (kf : ¬ x = 0 → Sx d y h1 r (pc + 3) ls st h) : Sx d y h1 r pc ls (.inl x :: st) h := by
  intro p l e s m args below meth c D K ad H locs lsr hS hV hP hH hl
  obtain ⟨hx, hb, hml, hr, hlk, hown, hts, hK, hN, hA⟩ := id hS
  have hz0 : am_R 0 := ⟨by decide, by decide⟩
  refine lv_if_eq hx hb hd ht (fun q => ?_) (fun q => ?_)
  · exact kt (am_b_eq hx0 hz0 q) p l e s m args below meth c D K ad H locs lsr hS hV hP hH hl
  · exact kf (am_n_eq hx0 hz0 q) p l e s m args below meth c D K ad H locs lsr hS hV hP hH hl
theorem sx_icmp_ne {x z : Int} {off : Int} {tgt : Nat} (hd : decode y.2.1 pc = .ok (.if_icmp .ne off, 3)) (ht : (pc : Int) + off = (tgt : Int)) (hx0 : am_R x) (hz0 : am_R z) (kt : ¬ x = z → Sx d y h1 r tgt ls st h) (kf : x = z → Sx d y h1 r (pc + 3) ls st h) : Sx d y h1 r pc ls (.inl z :: .inl x :: st) h := by
  intro p l e s m args below meth c D K ad H locs lsr hS hV hP hH hl
  obtain ⟨hx, hb, hml, hr, hlk, hown, hts, hK, hN, hA⟩ := id hS
  refine lv_icmp_ne hx hb hd ht (fun q => ?_) (fun q => ?_)
  · exact kt (am_b_ne hx0 hz0 q) p l e s m args below meth c D K ad H locs lsr hS hV hP hH hl
  · exact kf (am_n_ne hx0 hz0 q) p l e s m args below meth c D K ad H locs lsr hS hV hP hH hl
theorem sx_if_ne {x : Int} {off : Int} {tgt : Nat} (hd : decode y.2.1 pc = .ok (.ifCond .ne off, 3)) (ht : (pc : Int) + off = (tgt : Int)) (hx0 : am_R x) (kt : ¬ x = 0 → Sx d y h1 r tgt ls st h) (kf : x = 0 → Sx d y h1 r (pc + 3) ls st h) : Sx d y h1 r pc ls (.inl x :: st) h := by
  intro p l e s m args below meth c D K ad H locs lsr hS hV hP hH hl
  obtain ⟨hx, hb, hml, hr, hlk, hown, hts, hK, hN, hA⟩ := id hS
  have hz0 : am_R 0 := ⟨by decide, by decide⟩
  refine lv_if_ne hx hb hd ht (fun q => ?_) (fun q => ?_)
  · exact kt (am_b_ne hx0 hz0 q) p l e s m args below meth c D K ad H locs lsr hS hV hP hH hl
  · exact kf (am_n_ne hx0 hz0 q) p l e s m args below meth c D K ad H locs lsr hS hV hP hH hl
theorem sx_icmp_lt {x z : Int} {off : Int} {tgt : Nat} (hd : decode y.2.1 pc = .ok (.if_icmp .lt off, 3)) (ht : (pc : Int) + off = (tgt : Int)) (hx0 : am_R x) (hz0 : am_R z) (kt : x < z → Sx d y h1 r tgt ls st h) (kf : z ≤ x → Sx d y h1 r (pc + 3) ls st h) : Sx d y h1 r pc ls (.inl z :: .inl x :: st) h := by
  intro p l e s m args below meth c D K ad H locs lsr hS hV hP hH hl
  obtain ⟨hx, hb, hml, hr, hlk, hown, hts, hK, hN, hA⟩ := id hS
  refine lv_icmp_lt hx hb hd ht (fun q => ?_) (fun q => ?_)
  · exact kt (am_b_lt hx0 hz0 q) p l e s m args below meth c D K ad H locs lsr hS hV hP hH hl
  · exact kf (am_n_lt hx0 hz0 q) p l e s m args below meth c D K ad H locs lsr hS hV hP hH hl
theorem sx_if_lt {x : Int} {off : Int} {tgt : Nat} (hd : decode y.2.1 pc = .ok (.ifCond .lt off, 3)) (ht : (pc : Int) + off = (tgt : Int)) (hx0 : am_R x) (kt : x < 0 → Sx d y h1 r tgt ls st h) (kf : 0 ≤ x → Sx d y h1 r (pc + 3) ls st h) : Sx d y h1 r pc ls (.inl x :: st) h := by
  intro p l e s m args below meth c D K ad H locs lsr hS hV hP hH hl
  obtain ⟨hx, hb, hml, hr, hlk, hown, hts, hK, hN, hA⟩ := id hS
  have hz0 : am_R 0 := ⟨by decide, by decide⟩
  refine lv_if_lt hx hb hd ht (fun q => ?_) (fun q => ?_)
  · exact kt (am_b_lt hx0 hz0 q) p l e s m args below meth c D K ad H locs lsr hS hV hP hH hl
  · exact kf (am_n_lt hx0 hz0 q) p l e s m args below meth c D K ad H locs lsr hS hV hP hH hl
theorem sx_icmp_ge {x z : Int} {off : Int} {tgt : Nat} (hd : decode y.2.1 pc = .ok (.if_icmp .ge off, 3)) (ht : (pc : Int) + off = (tgt : Int)) (hx0 : am_R x) (hz0 : am_R z) (kt : z ≤ x → Sx d y h1 r tgt ls st h) (kf : x < z → Sx d y h1 r (pc + 3) ls st h) : Sx d y h1 r pc ls (.inl z :: .inl x :: st) h := by
  intro p l e s m args below meth c D K ad H locs lsr hS hV hP hH hl
  obtain ⟨hx, hb, hml, hr, hlk, hown, hts, hK, hN, hA⟩ := id hS
  refine lv_icmp_ge hx hb hd ht (fun q => ?_) (fun q => ?_)
  · exact kt (am_b_ge hx0 hz0 q) p l e s m args below meth c D K ad H locs lsr hS hV hP hH hl
  · exact kf (am_n_ge hx0 hz0 q) p l e s m args below meth c D K ad H locs lsr hS hV hP hH hl
theorem sx_if_ge {x : Int} {off : Int} {tgt : Nat} (hd : decode y.2.1 pc = .ok (.ifCond .ge off, 3)) (ht : (pc : Int) + off = (tgt : Int)) (hx0 : am_R x) (kt : 0 ≤ x → Sx d y h1 r tgt ls st h) (kf : x < 0 → Sx d y h1 r (pc + 3) ls st h) : Sx d y h1 r pc ls (.inl x :: st) h := by
  intro p l e s m args below meth c D K ad H locs lsr hS hV hP hH hl
  obtain ⟨hx, hb, hml, hr, hlk, hown, hts, hK, hN, hA⟩ := id hS
  have hz0 : am_R 0 := ⟨by decide, by decide⟩
  refine lv_if_ge hx hb hd ht (fun q => ?_) (fun q => ?_)
  · exact kt (am_b_ge hx0 hz0 q) p l e s m args below meth c D K ad H locs lsr hS hV hP hH hl
  · exact kf (am_n_ge hx0 hz0 q) p l e s m args below meth c D K ad H locs lsr hS hV hP hH hl
theorem sx_icmp_gt {x z : Int} {off : Int} {tgt : Nat} (hd : decode y.2.1 pc = .ok (.if_icmp .gt off, 3)) (ht : (pc : Int) + off = (tgt : Int)) (hx0 : am_R x) (hz0 : am_R z) (kt : z < x → Sx d y h1 r tgt ls st h) (kf : x ≤ z → Sx d y h1 r (pc + 3) ls st h) : Sx d y h1 r pc ls (.inl z :: .inl x :: st) h := by
  intro p l e s m args below meth c D K ad H locs lsr hS hV hP hH hl
  obtain ⟨hx, hb, hml, hr, hlk, hown, hts, hK, hN, hA⟩ := id hS
  refine lv_icmp_gt hx hb hd ht (fun q => ?_) (fun q => ?_)
  · exact kt (am_b_gt hx0 hz0 q) p l e s m args below meth c D K ad H locs lsr hS hV hP hH hl
  · exact kf (am_n_gt hx0 hz0 q) p l e s m args below meth c D K ad H locs lsr hS hV hP hH hl
theorem sx_if_gt {x : Int} {off : Int} {tgt : Nat} (hd : decode y.2.1 pc = .ok (.ifCond .gt off, 3)) (ht : (pc : Int) + off = (tgt : Int)) (hx0 : am_R x) (kt : 0 < x → Sx d y h1 r tgt ls st h) (kf : x ≤ 0 → Sx d y h1 r (pc + 3) ls st h) : Sx d y h1 r pc ls (.inl x :: st) h := by
  intro p l e s m args below meth c D K ad H locs lsr hS hV hP hH hl
  obtain ⟨hx, hb, hml, hr, hlk, hown, hts, hK, hN, hA⟩ := id hS
  have hz0 : am_R 0 := ⟨by decide, by decide⟩
  refine lv_if_gt hx hb hd ht (fun q => ?_) (fun q => ?_)
  · exact kt (am_b_gt hx0 hz0 q) p l e s m args below meth c D K ad H locs lsr hS hV hP hH hl
  · exact kf (am_n_gt hx0 hz0 q) p l e s m args below meth c D K ad H locs lsr hS hV hP hH hl
theorem sx_icmp_le {x z : Int} {off : Int} {tgt : Nat} (hd : decode y.2.1 pc = .ok (.if_icmp .le off, 3)) (ht : (pc : Int) + off = (tgt : Int)) (hx0 : am_R x) (hz0 : am_R z) (kt : x ≤ z → Sx d y h1 r tgt ls st h) (kf : z < x → Sx d y h1 r (pc + 3) ls st h) : Sx d y h1 r pc ls (.inl z :: .inl x :: st) h := by
  intro p l e s m args below meth c D K ad H locs lsr hS hV hP hH hl
  obtain ⟨hx, hb, hml, hr, hlk, hown, hts, hK, hN, hA⟩ := id hS
  refine lv_icmp_le hx hb hd ht (fun q => ?_) (fun q => ?_)
  · exact kt (am_b_le hx0 hz0 q) p l e s m args below meth c D K ad H locs lsr hS hV hP hH hl
  · exact kf (am_n_le hx0 hz0 q) p l e s m args below meth c D K ad H locs lsr hS hV hP hH hl
theorem sx_if_le {x : Int} {off : Int} {tgt : Nat} (hd : decode y.2.1 pc = .ok (.ifCond .le off, 3)) (ht : (pc : Int) + off = (tgt : Int)) (hx0 : am_R x) (kt : x ≤ 0 → Sx d y h1 r tgt ls st h) (kf : 0 < x → Sx d y h1 r (pc + 3) ls st h) : Sx d y h1 r pc ls (.inl x :: st) h := by
  intro p l e s m args below meth c D K ad H locs lsr hS hV hP hH hl
  obtain ⟨hx, hb, hml, hr, hlk, hown, hts, hK, hN, hA⟩ := id hS
  have hz0 : am_R 0 := ⟨by decide, by decide⟩
  refine lv_if_le hx hb hd ht (fun q => ?_) (fun q => ?_)
  · exact kt (am_b_le hx0 hz0 q) p l e s m args below meth c D K ad H locs lsr hS hV hP hH hl
  · exact kf (am_n_le hx0 hz0 q) p l e s m args below meth c D K ad H locs lsr hS hV hP hH hl
theorem sx_tableOut {dflt lo hi : Int} {offs : Array Int} {len : Nat} {x : Int} {tgt : Nat} (hd : decode y.2.1 pc = .ok (.tableswitch dflt lo hi offs, len)) (hx0 : am_R x) (hq : x < lo ∨ hi < x) (ht : (pc : Int) + dflt = (tgt : Int)) (k : Sx d y h1 r tgt ls st h) : Sx d y h1 r pc ls (.inl x :: st) h := by
  intro p l e s m args below meth c D K ad H locs lsr hS hV hP hH hl
  obtain ⟨hx, hb, -⟩ := id hS
  have z := k p l e s m args below meth c D K ad H locs lsr hS hV hP hH hl
  exact lv_tableOut hx hb hd (by rw [am_toInt hx0]; exact hq) ht z
theorem sx_tableIn {dflt lo hi : Int} {offs : Array Int} {len : Nat} {x off : Int} {tgt : Nat} (hd : decode y.2.1 pc = .ok (.tableswitch dflt lo hi offs, len)) (hx0 : am_R x) (h1' : ¬ x < lo) (h2' : ¬ hi < x) (ho : offs[(x - lo).toNat]? = some off) (ht : (pc : Int) + off = (tgt : Int)) (k : Sx d y h1 r tgt ls st h) : Sx d y h1 r pc ls (.inl x :: st) h := by
  intro p l e s m args below meth c D K ad H locs lsr hS hV hP hH hl
  obtain ⟨hx, hb, -⟩ := id hS
  have z := k p l e s m args below meth c D K ad H locs lsr hS hV hP hH hl
  exact lv_tableIn hx hb hd (by rw [am_toInt hx0]; exact h1') (by rw [am_toInt hx0]; exact h2') (by rw [am_toInt hx0]; exact ho) ht z
theorem sx_lookup {dflt : Int} {ps : Array (Int × Int)} {len : Nat} {x off : Int} {tgt : Nat} (hd : decode y.2.1 pc = .ok (.lookupswitch dflt ps, len)) (hx0 : am_R x) (hp : (ps.toList.zip (ps.toList.drop 1)).all (fun (a, next) => a.1 < next.1) = true) (ho : Op.lookupswitch.offset ps.toList dflt x = off) (ht : (pc : Int) + off = (tgt : Int)) (k : Sx d y h1 r tgt ls st h) : Sx d y h1 r pc ls (.inl x :: st) h := by
  intro p l e s m args below meth c D K ad H locs lsr hS hV hP hH hl
  obtain ⟨hx, hb, -⟩ := id hS
  have z := k p l e s m args below meth c D K ad H locs lsr hS hV hP hH hl
  exact lv_lookup hx hb hd hp (by rw [am_toInt hx0]; exact ho) ht z
end SX
