/-! The reference: streets measured, stands, what doors save -/
def anyN (p : Nat → Bool) : Nat → Bool
  | 0 => false
  | n + 1 => anyN p n || p n
def allN (p : Nat → Bool) : Nat → Bool
  | 0 => true
  | n + 1 => allN p n && p n
theorem anyN_i {p : Nat → Bool} : ∀ n, anyN p n = true ↔ ∃ j, j < n ∧ p j = true
  | 0 => ⟨fun h => (by cases h), fun ⟨j, h, _⟩ => (by omega)⟩
  | n + 1 => by
    rw [anyN, Bool.or_eq_true, anyN_i n]
    constructor
    · rintro (⟨j, h1, h2⟩ | h)
      · exact ⟨j, by omega, h2⟩
      · exact ⟨n, by omega, h⟩
    · rintro ⟨j, h1, h2⟩
      by_cases e : j = n
      · rw [e] at h2; exact Or.inr h2
      · exact Or.inl ⟨j, by omega, h2⟩
theorem allN_i {p : Nat → Bool} : ∀ n, allN p n = true ↔ ∀ j, j < n → p j = true
  | 0 => ⟨fun _ j h => by omega, fun _ => rfl⟩
  | n + 1 => by
    rw [allN, Bool.and_eq_true, allN_i n]
    constructor
    · rintro ⟨h1, h2⟩ j hj
      by_cases e : j = n
      · rw [e]; exact h2
      · exact h1 j (by omega)
    · intro h
      exact ⟨fun j hj => h j (by omega), h n (by omega)⟩
section RLAY
variable {ad : Nat → Nat} {M0 : Mm} {b a : Nat} {T : Tw} {oa : Int32 × Int32 × Int32} {rd : Value} {oq : Yr × Yq} {A : Ar} {P : Option Value → Mm → Prop}
theorem y_lay_b {N t c0 : Nat} (hy : aY M0 b (oa, (.ref a, rd), oq) A) (hN : N ≤ 7) (ht : t < 7) (hc0 : c0 < 7) {F : Nat → Int32} (k : ∀ M L4 L5, M = up M0 (b + 15) (.inl (0, 49, .inl (flB c0 t N F))) → Ev ad 0 (rX13_laysStreets ad) (156, [some (.ref b), some (.int (nI N)), some (.int (nI t)), some (.int (nI c0)), L4, L5], [], M) P) : ∀ (n c : Nat) (M : Mm) (L5 : Option Value), c + n = N → M = up M0 (b + 15) (.inl (0, 49, .inl (flB c0 t c F))) → Ev ad 0 (rX13_laysStreets ad) (87, [some (.ref b), some (.int (nI N)), some (.int (nI t)), some (.int (nI c0)), some (.int (nI c)), L5], [], M) P := by
  intro n
  induction n with
  | zero =>
    intro c M L5 hc e
    have h0 := (hy.ar (k := 15) e (by omega)).1
    repeat (first | refine es rfl rfl rfl ?_ | refine eg rfl (by assumption) rfl ?_ | refine eanE rfl (by assumption) (by with_reducible first | exact rfl | exact Int32.zero_add _ | exact ix8 _ | exact ix12 _ | exact ix7r _ _ | exact n7 | exact n0 | exact n1) (by assumption) rfl ?_ | refine eal rfl (by assumption) (by assumption) rfl ?_ | refine eri rfl ?_ | refine erv rfl ?_ | refine erl rfl ?_ | refine era rfl ?_ | refine erz0 rfl ?_ | refine erz1 rfl ?_)
    try dsimp only [set1, set2, kilP, List.set_cons_zero, List.set_cons_succ, List.getElem?_cons_zero, List.getElem?_cons_succ, List.nil_append, List.cons_append, Option.toList_some, Option.toList_none]
    refine ei _ rfl rfl (fun q => ?_) (fun q => ?_)
    · rw [show c = N by omega] at e ⊢
      exact k M _ _ e
    · exact absurd (nI_le (by omega) (by omega)) q
  | succ n ih =>
    intro c M L5 hc e
    have hy2 := hy.ar (k := 15) e (by omega)
    have h0 := hy2.1
    have h15 : M.1 (b + 15) = ints 49 (flB c0 t c F) := hy2.c.2.2.2.2.2.2.2.2.2.2.2.2.2.2
    have i1 : 7 * c0 + t < 49 := by omega
    have i2 : 7 * t + c < 49 := by omega
    have i3 : 7 * c0 + c < 49 := by omega
    repeat (first | refine es rfl rfl rfl ?_ | refine eg rfl (by assumption) rfl ?_ | refine eanE rfl (by assumption) (by with_reducible first | exact rfl | exact Int32.zero_add _ | exact ix8 _ | exact ix12 _ | exact ix7r _ _ | exact n7 | exact n0 | exact n1) (by assumption) rfl ?_ | refine eal rfl (by assumption) (by assumption) rfl ?_ | refine eri rfl ?_ | refine erv rfl ?_ | refine erl rfl ?_ | refine era rfl ?_ | refine erz0 rfl ?_ | refine erz1 rfl ?_)
    try dsimp only [set1, set2, kilP, List.set_cons_zero, List.set_cons_succ, List.getElem?_cons_zero, List.getElem?_cons_succ, List.nil_append, List.cons_append, Option.toList_some, Option.toList_none]
    refine ei _ rfl rfl (fun q => ?_) (fun q => ?_)
    · exact absurd q (nI_ge (by omega) (by omega))
    repeat (first | refine es rfl rfl rfl ?_ | refine eg rfl (by assumption) rfl ?_ | refine eanE rfl (by assumption) (by with_reducible first | exact rfl | exact Int32.zero_add _ | exact ix8 _ | exact ix12 _ | exact ix7r _ _ | exact n7 | exact n0 | exact n1) (by assumption) rfl ?_ | refine eal rfl (by assumption) (by assumption) rfl ?_ | refine eri rfl ?_ | refine erv rfl ?_ | refine erl rfl ?_ | refine era rfl ?_ | refine erz0 rfl ?_ | refine erz1 rfl ?_)
    try dsimp only [set1, set2, kilP, List.set_cons_zero, List.set_cons_succ, List.getElem?_cons_zero, List.getElem?_cons_succ, List.nil_append, List.cons_append, Option.toList_some, Option.toList_none]
    refine ei _ rfl rfl (fun q2 => ?_) (fun q2 => ?_)
    · repeat (refine ng 87 rfl ?_; first | refine es rfl rfl rfl ?_ | refine eg rfl (by assumption) rfl ?_ | refine eanE rfl (by assumption) (by with_reducible first | exact rfl | exact Int32.zero_add _ | exact ix8 _ | exact ix12 _ | exact ix7r _ _ | exact n7 | exact n0 | exact n1) (by assumption) rfl ?_ | refine eal rfl (by assumption) (by assumption) rfl ?_ | refine eri rfl ?_ | refine erv rfl ?_ | refine erl rfl ?_ | refine era rfl ?_ | refine erz0 rfl ?_ | refine erz1 rfl ?_)
      try dsimp only [set1, set2, kilP, List.set_cons_zero, List.set_cons_succ, List.getElem?_cons_zero, List.getElem?_cons_succ, List.nil_append, List.cons_append, Option.toList_some, Option.toList_none]
      rw [nI_1]
      refine ih (c + 1) M _ (by omega) ?_
      rw [flB]
      unfold flS
      rw [if_neg (Int32.not_lt.mpr q2)]
      exact e
    · repeat (first | refine es rfl rfl rfl ?_ | refine eg rfl (by assumption) rfl ?_ | refine eanE rfl (by assumption) (by with_reducible first | exact rfl | exact Int32.zero_add _ | exact ix8 _ | exact ix12 _ | exact ix7r _ _ | exact n7 | exact n0 | exact n1) (by assumption) rfl ?_ | refine eal rfl (by assumption) (by assumption) rfl ?_ | refine eri rfl ?_ | refine erv rfl ?_ | refine erl rfl ?_ | refine era rfl ?_ | refine erz0 rfl ?_ | refine erz1 rfl ?_)
      try dsimp only [set1, set2, kilP, List.set_cons_zero, List.set_cons_succ, List.getElem?_cons_zero, List.getElem?_cons_succ, List.nil_append, List.cons_append, Option.toList_some, Option.toList_none]
      rw [ix7r]
      refine etM rfl h15 i3 rfl (fun M2 eM => ?_)
      repeat (refine ng 87 rfl ?_; first | refine es rfl rfl rfl ?_ | refine eg rfl (by assumption) rfl ?_ | refine eanE rfl (by assumption) (by with_reducible first | exact rfl | exact Int32.zero_add _ | exact ix8 _ | exact ix12 _ | exact ix7r _ _ | exact n7 | exact n0 | exact n1) (by assumption) rfl ?_ | refine eal rfl (by assumption) (by assumption) rfl ?_ | refine eri rfl ?_ | refine erv rfl ?_ | refine erl rfl ?_ | refine era rfl ?_ | refine erz0 rfl ?_ | refine erz1 rfl ?_)
      try dsimp only [set1, set2, kilP, List.set_cons_zero, List.set_cons_succ, List.getElem?_cons_zero, List.getElem?_cons_succ, List.nil_append, List.cons_append, Option.toList_some, Option.toList_none]
      rw [nI_1]
      refine ih (c + 1) M2 _ (by omega) ?_
      rw [eM, e, up_up, flB]
      unfold flS
      rw [if_pos (Int32.not_le.mp q2)]
theorem y_lay_a {N t : Nat} (hy : aY M0 b (oa, (.ref a, rd), oq) A) (hN : N ≤ 7) (ht : t < 7) {F : Nat → Int32} (k : ∀ M L3 L4 L5, M = up M0 (b + 15) (.inl (0, 49, .inl (flA N t N F))) → Ev ad 0 (rX13_laysStreets ad) (162, [some (.ref b), some (.int (nI N)), some (.int (nI t)), L3, L4, L5], [], M) P) : ∀ (n c : Nat) (M : Mm) (L4 L5 : Option Value), c + n = N → M = up M0 (b + 15) (.inl (0, 49, .inl (flA N t c F))) → Ev ad 0 (rX13_laysStreets ad) (79, [some (.ref b), some (.int (nI N)), some (.int (nI t)), some (.int (nI c)), L4, L5], [], M) P := by
  intro n
  induction n with
  | zero =>
    intro c M L4 L5 hc e
    have h0 := (hy.ar (k := 15) e (by omega)).1
    repeat (first | refine es rfl rfl rfl ?_ | refine eg rfl (by assumption) rfl ?_ | refine eanE rfl (by assumption) (by with_reducible first | exact rfl | exact Int32.zero_add _ | exact ix8 _ | exact ix12 _ | exact ix7r _ _ | exact n7 | exact n0 | exact n1) (by assumption) rfl ?_ | refine eal rfl (by assumption) (by assumption) rfl ?_ | refine eri rfl ?_ | refine erv rfl ?_ | refine erl rfl ?_ | refine era rfl ?_ | refine erz0 rfl ?_ | refine erz1 rfl ?_)
    try dsimp only [set1, set2, kilP, List.set_cons_zero, List.set_cons_succ, List.getElem?_cons_zero, List.getElem?_cons_succ, List.nil_append, List.cons_append, Option.toList_some, Option.toList_none]
    refine ei _ rfl rfl (fun q => ?_) (fun q => ?_)
    · rw [show c = N by omega] at e ⊢
      exact k M _ _ _ e
    · exact absurd (nI_le (by omega) (by omega)) q
  | succ n ih =>
    intro c M L4 L5 hc e
    have h0 := (hy.ar (k := 15) e (by omega)).1
    repeat (first | refine es rfl rfl rfl ?_ | refine eg rfl (by assumption) rfl ?_ | refine eanE rfl (by assumption) (by with_reducible first | exact rfl | exact Int32.zero_add _ | exact ix8 _ | exact ix12 _ | exact ix7r _ _ | exact n7 | exact n0 | exact n1) (by assumption) rfl ?_ | refine eal rfl (by assumption) (by assumption) rfl ?_ | refine eri rfl ?_ | refine erv rfl ?_ | refine erl rfl ?_ | refine era rfl ?_ | refine erz0 rfl ?_ | refine erz1 rfl ?_)
    try dsimp only [set1, set2, kilP, List.set_cons_zero, List.set_cons_succ, List.getElem?_cons_zero, List.getElem?_cons_succ, List.nil_append, List.cons_append, Option.toList_some, Option.toList_none]
    refine ei _ rfl rfl (fun q => ?_) (fun q => ?_)
    · exact absurd q (nI_ge (by omega) (by omega))
    repeat (refine ng 87 rfl ?_; first | refine es rfl rfl rfl ?_ | refine eg rfl (by assumption) rfl ?_ | refine eanE rfl (by assumption) (by with_reducible first | exact rfl | exact Int32.zero_add _ | exact ix8 _ | exact ix12 _ | exact ix7r _ _ | exact n7 | exact n0 | exact n1) (by assumption) rfl ?_ | refine eal rfl (by assumption) (by assumption) rfl ?_ | refine eri rfl ?_ | refine erv rfl ?_ | refine erl rfl ?_ | refine era rfl ?_ | refine erz0 rfl ?_ | refine erz1 rfl ?_)
    try dsimp only [set1, set2, kilP, List.set_cons_zero, List.set_cons_succ, List.getElem?_cons_zero, List.getElem?_cons_succ, List.nil_append, List.cons_append, Option.toList_some, Option.toList_none]
    refine y_lay_b (F := flA N t c F) hy hN ht (by omega) (fun M2 L4 L5 e2 => ?_) N 0 M _ (by omega) e
    repeat (refine ng 79 rfl ?_; first | refine es rfl rfl rfl ?_ | refine eg rfl (by assumption) rfl ?_ | refine eanE rfl (by assumption) (by with_reducible first | exact rfl | exact Int32.zero_add _ | exact ix8 _ | exact ix12 _ | exact ix7r _ _ | exact n7 | exact n0 | exact n1) (by assumption) rfl ?_ | refine eal rfl (by assumption) (by assumption) rfl ?_ | refine eri rfl ?_ | refine erv rfl ?_ | refine erl rfl ?_ | refine era rfl ?_ | refine erz0 rfl ?_ | refine erz1 rfl ?_)
    try dsimp only [set1, set2, kilP, List.set_cons_zero, List.set_cons_succ, List.getElem?_cons_zero, List.getElem?_cons_succ, List.nil_append, List.cons_append, Option.toList_some, Option.toList_none]
    rw [nI_1]
    exact ih (c + 1) M2 _ _ (by omega) e2
theorem y_lay_y {N : Nat} (hy : aY M0 b (oa, (.ref a, rd), oq) A) (hN : N ≤ 7) {F : Nat → Int32} (k : ∀ M, M = up M0 (b + 15) (.inl (0, 49, .inl (flY N N F))) → P none M) : ∀ (n c : Nat) (M : Mm) (L3 L4 L5 : Option Value), c + n = N → M = up M0 (b + 15) (.inl (0, 49, .inl (flY N c F))) → Ev ad 0 (rX13_laysStreets ad) (72, [some (.ref b), some (.int (nI N)), some (.int (nI c)), L3, L4, L5], [], M) P := by
  intro n
  induction n with
  | zero =>
    intro c M L3 L4 L5 hc e
    have h0 := (hy.ar (k := 15) e (by omega)).1
    repeat (first | refine es rfl rfl rfl ?_ | refine eg rfl (by assumption) rfl ?_ | refine eanE rfl (by assumption) (by with_reducible first | exact rfl | exact Int32.zero_add _ | exact ix8 _ | exact ix12 _ | exact ix7r _ _ | exact n7 | exact n0 | exact n1) (by assumption) rfl ?_ | refine eal rfl (by assumption) (by assumption) rfl ?_ | refine eri rfl ?_ | refine erv rfl ?_ | refine erl rfl ?_ | refine era rfl ?_ | refine erz0 rfl ?_ | refine erz1 rfl ?_)
    try dsimp only [set1, set2, kilP, List.set_cons_zero, List.set_cons_succ, List.getElem?_cons_zero, List.getElem?_cons_succ, List.nil_append, List.cons_append, Option.toList_some, Option.toList_none]
    refine ei _ rfl rfl (fun q => ?_) (fun q => ?_)
    · repeat (first | refine es rfl rfl rfl ?_ | refine eg rfl (by assumption) rfl ?_ | refine eanE rfl (by assumption) (by with_reducible first | exact rfl | exact Int32.zero_add _ | exact ix8 _ | exact ix12 _ | exact ix7r _ _ | exact n7 | exact n0 | exact n1) (by assumption) rfl ?_ | refine eal rfl (by assumption) (by assumption) rfl ?_ | refine eri rfl ?_ | refine erv rfl ?_ | refine erl rfl ?_ | refine era rfl ?_ | refine erz0 rfl ?_ | refine erz1 rfl ?_)
      try dsimp only [set1, set2, kilP, List.set_cons_zero, List.set_cons_succ, List.getElem?_cons_zero, List.getElem?_cons_succ, List.nil_append, List.cons_append, Option.toList_some, Option.toList_none]
      rw [show c = N by omega] at e
      exact k M e
    · exact absurd (nI_le (by omega) (by omega)) q
  | succ n ih =>
    intro c M L3 L4 L5 hc e
    have h0 := (hy.ar (k := 15) e (by omega)).1
    repeat (first | refine es rfl rfl rfl ?_ | refine eg rfl (by assumption) rfl ?_ | refine eanE rfl (by assumption) (by with_reducible first | exact rfl | exact Int32.zero_add _ | exact ix8 _ | exact ix12 _ | exact ix7r _ _ | exact n7 | exact n0 | exact n1) (by assumption) rfl ?_ | refine eal rfl (by assumption) (by assumption) rfl ?_ | refine eri rfl ?_ | refine erv rfl ?_ | refine erl rfl ?_ | refine era rfl ?_ | refine erz0 rfl ?_ | refine erz1 rfl ?_)
    try dsimp only [set1, set2, kilP, List.set_cons_zero, List.set_cons_succ, List.getElem?_cons_zero, List.getElem?_cons_succ, List.nil_append, List.cons_append, Option.toList_some, Option.toList_none]
    refine ei _ rfl rfl (fun q => ?_) (fun q => ?_)
    · exact absurd q (nI_ge (by omega) (by omega))
    repeat (refine ng 79 rfl ?_; first | refine es rfl rfl rfl ?_ | refine eg rfl (by assumption) rfl ?_ | refine eanE rfl (by assumption) (by with_reducible first | exact rfl | exact Int32.zero_add _ | exact ix8 _ | exact ix12 _ | exact ix7r _ _ | exact n7 | exact n0 | exact n1) (by assumption) rfl ?_ | refine eal rfl (by assumption) (by assumption) rfl ?_ | refine eri rfl ?_ | refine erv rfl ?_ | refine erl rfl ?_ | refine era rfl ?_ | refine erz0 rfl ?_ | refine erz1 rfl ?_)
    try dsimp only [set1, set2, kilP, List.set_cons_zero, List.set_cons_succ, List.getElem?_cons_zero, List.getElem?_cons_succ, List.nil_append, List.cons_append, Option.toList_some, Option.toList_none]
    refine y_lay_a (F := flY N c F) hy hN (by omega) (fun M2 L3 L4 L5 e2 => ?_) N 0 M _ _ (by omega) e
    repeat (refine ng 72 rfl ?_; first | refine es rfl rfl rfl ?_ | refine eg rfl (by assumption) rfl ?_ | refine eanE rfl (by assumption) (by with_reducible first | exact rfl | exact Int32.zero_add _ | exact ix8 _ | exact ix12 _ | exact ix7r _ _ | exact n7 | exact n0 | exact n1) (by assumption) rfl ?_ | refine eal rfl (by assumption) (by assumption) rfl ?_ | refine eri rfl ?_ | refine erv rfl ?_ | refine erl rfl ?_ | refine era rfl ?_ | refine erz0 rfl ?_ | refine erz1 rfl ?_)
    try dsimp only [set1, set2, kilP, List.set_cons_zero, List.set_cons_succ, List.getElem?_cons_zero, List.getElem?_cons_succ, List.nil_append, List.cons_append, Option.toList_some, Option.toList_none]
    rw [nI_1]
    exact ih (c + 1) M2 _ _ _ (by omega) e2
theorem y_lay_0 {x1 : Int32} (hy : aY M0 b (oa, (.ref a, rd), oq) A) (ha : b + 16 ≤ a) (hM : aMt M0 a T) (k : ∀ M F L2, (∀ j, j < 49 → F j = fl0 T.ss.mi j) → M = up M0 (b + 15) (.inl (0, 49, .inl F)) → Ev ad 0 (rX13_laysStreets ad) (70, [some (.ref b), some (.int x1), L2, none, none, none], [], M) P) : ∀ (n i : Nat) (M : Mm) (F : Nat → Int32), i + n = 49 → (∀ j, j < i → F j = fl0 T.ss.mi j) → M = up M0 (b + 15) (.inl (0, 49, .inl F)) → Ev ad 0 (rX13_laysStreets ad) (10, [some (.ref b), some (.int x1), some (.int (nI i)), none, none, none], [], M) P := by
  intro n
  induction n with
  | zero =>
    intro i M F hi hF e
    have h0 := (hy.ar (k := 15) e (by omega)).1
    repeat (first | refine es rfl rfl rfl ?_ | refine eg rfl (by assumption) rfl ?_ | refine eanE rfl (by assumption) (by with_reducible first | exact rfl | exact Int32.zero_add _ | exact ix8 _ | exact ix12 _ | exact ix7r _ _ | exact n7 | exact n0 | exact n1) (by assumption) rfl ?_ | refine eal rfl (by assumption) (by assumption) rfl ?_ | refine eri rfl ?_ | refine erv rfl ?_ | refine erl rfl ?_ | refine era rfl ?_ | refine erz0 rfl ?_ | refine erz1 rfl ?_)
    try dsimp only [set1, set2, kilP, List.set_cons_zero, List.set_cons_succ, List.getElem?_cons_zero, List.getElem?_cons_succ, List.nil_append, List.cons_append, Option.toList_some, Option.toList_none]
    refine ei _ rfl rfl (fun q => ?_) (fun q => ?_)
    · exact k M F _ (fun j hj => hF j (by omega)) e
    · exact absurd (show (49 : Int32) ≤ nI i from nI_le (a := 49) (by omega) (by omega)) q
  | succ n ih =>
    intro i M F hi hF e
    have hy2 := hy.ar (k := 15) e (by omega)
    have h0 := hy2.1
    have h15 : M.1 (b + 15) = ints 49 F := hy2.c.2.2.2.2.2.2.2.2.2.2.2.2.2.2
    obtain ⟨kn, Am, Bm, m0, mc, mH, mS, -⟩ := hM.fr ((Fr.rf b 16 M0).up e (by omega) (by omega)) (by omega)
    have m8 := mc.2.2.2.2.2.2.2.1
    have hi49 : i < 49 := by omega
    have hnext : ∀ (M2 : Mm) (x : Int32), x = fl0 T.ss.mi i → M2 = up M (b + 15) (.inl (0, 49, .inl (upd F i x))) → Ev ad 0 (rX13_laysStreets ad) (10, [some (.ref b), some (.int x1), some (.int (nI (i + 1))), none, none, none], [], M2) P := by
      intro M2 x ex eM
      refine ih (i + 1) M2 (upd F i x) (by omega) (fun j hj => ?_) (by rw [eM, e, up_up])
      by_cases q : j = i
      · rw [q, pk_us, ex]
      · rw [pk_un q]; exact hF j (by omega)
    repeat (first | refine es rfl rfl rfl ?_ | refine eg rfl (by assumption) rfl ?_ | refine eanE rfl (by assumption) (by with_reducible first | exact rfl | exact Int32.zero_add _ | exact ix8 _ | exact ix12 _ | exact ix7r _ _ | exact n7 | exact n0 | exact n1) (by assumption) rfl ?_ | refine eal rfl (by assumption) (by assumption) rfl ?_ | refine eri rfl ?_ | refine erv rfl ?_ | refine erl rfl ?_ | refine era rfl ?_ | refine erz0 rfl ?_ | refine erz1 rfl ?_)
    try dsimp only [set1, set2, kilP, List.set_cons_zero, List.set_cons_succ, List.getElem?_cons_zero, List.getElem?_cons_succ, List.nil_append, List.cons_append, Option.toList_some, Option.toList_none]
    refine ei _ rfl rfl (fun q => ?_) (fun q => ?_)
    · exact absurd q (nI_ge (b := 49) (by omega) (by omega))
    repeat (first | refine es rfl rfl rfl ?_ | refine eg rfl (by assumption) rfl ?_ | refine eanE rfl (by assumption) (by with_reducible first | exact rfl | exact Int32.zero_add _ | exact ix8 _ | exact ix12 _ | exact ix7r _ _ | exact n7 | exact n0 | exact n1) (by assumption) rfl ?_ | refine eal rfl (by assumption) (by assumption) rfl ?_ | refine eri rfl ?_ | refine erv rfl ?_ | refine erl rfl ?_ | refine era rfl ?_ | refine erz0 rfl ?_ | refine erz1 rfl ?_)
    try dsimp only [set1, set2, kilP, List.set_cons_zero, List.set_cons_succ, List.getElem?_cons_zero, List.getElem?_cons_succ, List.nil_append, List.cons_append, Option.toList_some, Option.toList_none]
    rw [show nI i - nI i / 7 * 7 = nI (i % 7) from pk_rem (d := 7) (by omega) (by omega) (by omega), show nI i / 7 = nI (i / 7) from pk_div (d := 7) (by omega) (by omega) (by omega)]
    refine ei _ rfl rfl (fun q1 => ?_) (fun q1 => ?_)
    · have q1' : ¬ i / 7 = i % 7 := fun z => q1 (by rw [z])
      repeat (first | refine es rfl rfl rfl ?_ | refine eg rfl (by assumption) rfl ?_ | refine eanE rfl (by assumption) (by with_reducible first | exact rfl | exact Int32.zero_add _ | exact ix8 _ | exact ix12 _ | exact ix7r _ _ | exact n7 | exact n0 | exact n1) (by assumption) rfl ?_ | refine eal rfl (by assumption) (by assumption) rfl ?_ | refine eri rfl ?_ | refine erv rfl ?_ | refine erl rfl ?_ | refine era rfl ?_ | refine erz0 rfl ?_ | refine erz1 rfl ?_)
      try dsimp only [set1, set2, kilP, List.set_cons_zero, List.set_cons_succ, List.getElem?_cons_zero, List.getElem?_cons_succ, List.nil_append, List.cons_append, Option.toList_some, Option.toList_none]
      rw [mS i hi49]
      refine ei _ rfl rfl (fun q2 => ?_) (fun q2 => ?_)
      · repeat (first | refine es rfl rfl rfl ?_ | refine eg rfl (by assumption) rfl ?_ | refine eanE rfl (by assumption) (by with_reducible first | exact rfl | exact Int32.zero_add _ | exact ix8 _ | exact ix12 _ | exact ix7r _ _ | exact n7 | exact n0 | exact n1) (by assumption) rfl ?_ | refine eal rfl (by assumption) (by assumption) rfl ?_ | refine eri rfl ?_ | refine erv rfl ?_ | refine erl rfl ?_ | refine era rfl ?_ | refine erz0 rfl ?_ | refine erz1 rfl ?_)
        try dsimp only [set1, set2, kilP, List.set_cons_zero, List.set_cons_succ, List.getElem?_cons_zero, List.getElem?_cons_succ, List.nil_append, List.cons_append, Option.toList_some, Option.toList_none]
        refine etM rfl h15 hi49 rfl (fun M2 eM => ?_)
        repeat (refine ng 10 rfl ?_; first | refine es rfl rfl rfl ?_ | refine eg rfl (by assumption) rfl ?_ | refine eanE rfl (by assumption) (by with_reducible first | exact rfl | exact Int32.zero_add _ | exact ix8 _ | exact ix12 _ | exact ix7r _ _ | exact n7 | exact n0 | exact n1) (by assumption) rfl ?_ | refine eal rfl (by assumption) (by assumption) rfl ?_ | refine eri rfl ?_ | refine erv rfl ?_ | refine erl rfl ?_ | refine era rfl ?_ | refine erz0 rfl ?_ | refine erz1 rfl ?_)
        try dsimp only [set1, set2, kilP, List.set_cons_zero, List.set_cons_succ, List.getElem?_cons_zero, List.getElem?_cons_succ, List.nil_append, List.cons_append, Option.toList_some, Option.toList_none]
        rw [nI_1]
        refine hnext M2 _ ?_ eM
        unfold fl0
        rw [if_neg q1', if_neg (Int32.not_lt.mpr q2)]
      · repeat (first | refine es rfl rfl rfl ?_ | refine eg rfl (by assumption) rfl ?_ | refine eanE rfl (by assumption) (by with_reducible first | exact rfl | exact Int32.zero_add _ | exact ix8 _ | exact ix12 _ | exact ix7r _ _ | exact n7 | exact n0 | exact n1) (by assumption) rfl ?_ | refine eal rfl (by assumption) (by assumption) rfl ?_ | refine eri rfl ?_ | refine erv rfl ?_ | refine erl rfl ?_ | refine era rfl ?_ | refine erz0 rfl ?_ | refine erz1 rfl ?_)
        try dsimp only [set1, set2, kilP, List.set_cons_zero, List.set_cons_succ, List.getElem?_cons_zero, List.getElem?_cons_succ, List.nil_append, List.cons_append, Option.toList_some, Option.toList_none]
        refine etM rfl h15 hi49 rfl (fun M2 eM => ?_)
        repeat (refine ng 10 rfl ?_; first | refine es rfl rfl rfl ?_ | refine eg rfl (by assumption) rfl ?_ | refine eanE rfl (by assumption) (by with_reducible first | exact rfl | exact Int32.zero_add _ | exact ix8 _ | exact ix12 _ | exact ix7r _ _ | exact n7 | exact n0 | exact n1) (by assumption) rfl ?_ | refine eal rfl (by assumption) (by assumption) rfl ?_ | refine eri rfl ?_ | refine erv rfl ?_ | refine erl rfl ?_ | refine era rfl ?_ | refine erz0 rfl ?_ | refine erz1 rfl ?_)
        try dsimp only [set1, set2, kilP, List.set_cons_zero, List.set_cons_succ, List.getElem?_cons_zero, List.getElem?_cons_succ, List.nil_append, List.cons_append, Option.toList_some, Option.toList_none]
        rw [nI_1]
        refine hnext M2 _ ?_ eM
        unfold fl0
        rw [if_neg q1', if_pos (Int32.not_le.mp q2), mS i hi49]
    · have q1' : i / 7 = i % 7 := (nI_eq (by omega) (by omega)).mp (Decidable.not_not.mp q1)
      repeat (first | refine es rfl rfl rfl ?_ | refine eg rfl (by assumption) rfl ?_ | refine eanE rfl (by assumption) (by with_reducible first | exact rfl | exact Int32.zero_add _ | exact ix8 _ | exact ix12 _ | exact ix7r _ _ | exact n7 | exact n0 | exact n1) (by assumption) rfl ?_ | refine eal rfl (by assumption) (by assumption) rfl ?_ | refine eri rfl ?_ | refine erv rfl ?_ | refine erl rfl ?_ | refine era rfl ?_ | refine erz0 rfl ?_ | refine erz1 rfl ?_)
      try dsimp only [set1, set2, kilP, List.set_cons_zero, List.set_cons_succ, List.getElem?_cons_zero, List.getElem?_cons_succ, List.nil_append, List.cons_append, Option.toList_some, Option.toList_none]
      refine etM rfl h15 hi49 rfl (fun M2 eM => ?_)
      repeat (refine ng 10 rfl ?_; first | refine es rfl rfl rfl ?_ | refine eg rfl (by assumption) rfl ?_ | refine eanE rfl (by assumption) (by with_reducible first | exact rfl | exact Int32.zero_add _ | exact ix8 _ | exact ix12 _ | exact ix7r _ _ | exact n7 | exact n0 | exact n1) (by assumption) rfl ?_ | refine eal rfl (by assumption) (by assumption) rfl ?_ | refine eri rfl ?_ | refine erv rfl ?_ | refine erl rfl ?_ | refine era rfl ?_ | refine erz0 rfl ?_ | refine erz1 rfl ?_)
      try dsimp only [set1, set2, kilP, List.set_cons_zero, List.set_cons_succ, List.getElem?_cons_zero, List.getElem?_cons_succ, List.nil_append, List.cons_append, Option.toList_some, Option.toList_none]
      rw [nI_1]
      refine hnext M2 _ ?_ eM
      unfold fl0
      rw [if_pos q1']
theorem y_lay (hy : aY M0 b (oa, (.ref a, rd), oq) A) (ha : b + 16 ≤ a) (hM : aMt M0 a T) (hn7 : T.hs.n ≤ 7) : EvM ad 0 (iX13_laysStreets ad) [.ref b] M0 (fun v' M' => v' = none ∧ ∃ fa, farR fa T ∧ M' = up M0 (b + 15) (.inl (0, 49, .inl fa))) := by
  have h0 := hy.1
  have h15 : M0.1 (b + 15) = ints 49 (A 15) := hy.c.2.2.2.2.2.2.2.2.2.2.2.2.2.2
  obtain ⟨kn, Am, Bm, m0, -⟩ := id hM
  refine ⟨Nat.le_of_ble_eq_true rfl, ?_⟩
  show Ev ad _ (rX13_laysStreets ad) (0, [some (.ref b), none, none, none, none, none], [], M0) _
  repeat (refine ng 10 rfl ?_; first | refine es rfl rfl rfl ?_ | refine eg rfl (by assumption) rfl ?_ | refine eanE rfl (by assumption) (by with_reducible first | exact rfl | exact Int32.zero_add _ | exact ix8 _ | exact ix12 _ | exact ix7r _ _ | exact n7 | exact n0 | exact n1) (by assumption) rfl ?_ | refine eal rfl (by assumption) (by assumption) rfl ?_ | refine eri rfl ?_ | refine erv rfl ?_ | refine erl rfl ?_ | refine era rfl ?_ | refine erz0 rfl ?_ | refine erz1 rfl ?_)
  try dsimp only [set1, set2, kilP, List.set_cons_zero, List.set_cons_succ, List.getElem?_cons_zero, List.getElem?_cons_succ, List.nil_append, List.cons_append, Option.toList_some, Option.toList_none]
  refine y_lay_0 hy ha hM (fun M F L2 hF e => ?_) 49 0 M0 (A 15) rfl (fun j hj => absurd hj (by omega)) (up_id h15).symm
  repeat (refine ng 72 rfl ?_; first | refine es rfl rfl rfl ?_ | refine eg rfl (by assumption) rfl ?_ | refine eanE rfl (by assumption) (by with_reducible first | exact rfl | exact Int32.zero_add _ | exact ix8 _ | exact ix12 _ | exact ix7r _ _ | exact n7 | exact n0 | exact n1) (by assumption) rfl ?_ | refine eal rfl (by assumption) (by assumption) rfl ?_ | refine eri rfl ?_ | refine erv rfl ?_ | refine erl rfl ?_ | refine era rfl ?_ | refine erz0 rfl ?_ | refine erz1 rfl ?_)
  try dsimp only [set1, set2, kilP, List.set_cons_zero, List.set_cons_succ, List.getElem?_cons_zero, List.getElem?_cons_succ, List.nil_append, List.cons_append, Option.toList_some, Option.toList_none]
  exact y_lay_y (F := F) hy hn7 (fun M2 e2 => ⟨rfl, _, ⟨F, hF, rfl⟩, e2⟩) T.hs.n 0 M _ _ _ (by omega) e
end RLAY
section RSTD
variable {ad : Nat → Nat} {M : Mm} {b : Nat} {σ : Sg} {C : Nat} {a : Nat} {oa : Int32 × Int32 × Int32} {rd : Value} {oq : Yr × Yq} {A : Ar}
/-- by a house of the set, in time -/
abbrev stP (fa : Nat → Int32) (k : Nat) (z : Int32) (h g : Nat) : Bool := k.testBit g && decide (fa (7 * g + h) ≤ z)
theorem y_std_in {k h : Nat} {z : Int32} {P : Option Value → Mm → Prop} (hW : yW M b a σ oa rd oq A) (hn : σ.T.hs.n ≤ 7) (hk : k < 128) (hh : h < 7) (K : ∀ L5, Ev ad 1 (rX13_isStand ad) (74, [some (.ref b), some (.int (nI k)), some (.int z), some (.int (nI h)), some (.int (if anyN (stP (A 15) k z h) σ.T.hs.n then 1 else 0)), L5], [], M) P) : ∀ (n g : Nat), g + n = σ.T.hs.n → Ev ad 1 (rX13_isStand ad) (19, [some (.ref b), some (.int (nI k)), some (.int z), some (.int (nI h)), some (.int (if anyN (stP (A 15) k z h) g then 1 else 0)), some (.int (nI g))], [], M) P := by
  obtain ⟨hy, ha, ⟨kn, Am, Bm, m0, -⟩, hv⟩ := id hW
  have h0 := hy.1
  have h15 : M.1 (b + 15) = ints 49 (A 15) := hy.c.2.2.2.2.2.2.2.2.2.2.2.2.2.2
  intro n
  induction n with
  | zero =>
    intro g hg
    repeat (first | refine es rfl rfl rfl ?_ | refine eg rfl (by assumption) rfl ?_ | refine eanE rfl (by assumption) (by with_reducible first | exact rfl | exact Int32.zero_add _ | exact ix8 _ | exact ix12 _ | exact ix7r _ _ | exact n7 | exact n0 | exact n1) (by assumption) rfl ?_ | refine eal rfl (by assumption) (by assumption) rfl ?_ | refine eri rfl ?_ | refine erv rfl ?_ | refine erl rfl ?_ | refine era rfl ?_ | refine erz0 rfl ?_ | refine erz1 rfl ?_)
    try dsimp only [set1, set2, kilP, List.set_cons_zero, List.set_cons_succ, List.getElem?_cons_zero, List.getElem?_cons_succ, List.nil_append, List.cons_append, Option.toList_some, Option.toList_none]
    refine ei _ rfl rfl (fun c => ?_) (fun c => ?_)
    · rw [show g = σ.T.hs.n by omega]
      exact K _
    · exact absurd (nI_le (by omega) (by omega)) c
  | succ n ih =>
    intro g hg
    have hi := ih (g + 1) (by omega)
    rw [anyN] at hi
    have i1 : 7 * g + h < 49 := by omega
    repeat (first | refine es rfl rfl rfl ?_ | refine eg rfl (by assumption) rfl ?_ | refine eanE rfl (by assumption) (by with_reducible first | exact rfl | exact Int32.zero_add _ | exact ix8 _ | exact ix12 _ | exact ix7r _ _ | exact n7 | exact n0 | exact n1) (by assumption) rfl ?_ | refine eal rfl (by assumption) (by assumption) rfl ?_ | refine eri rfl ?_ | refine erv rfl ?_ | refine erl rfl ?_ | refine era rfl ?_ | refine erz0 rfl ?_ | refine erz1 rfl ?_)
    try dsimp only [set1, set2, kilP, List.set_cons_zero, List.set_cons_succ, List.getElem?_cons_zero, List.getElem?_cons_succ, List.nil_append, List.cons_append, Option.toList_some, Option.toList_none]
    refine ei _ rfl rfl (fun c => ?_) (fun c => ?_)
    · exact absurd c (nI_ge (by omega) (by omega))
    repeat (first | refine es rfl rfl rfl ?_ | refine eg rfl (by assumption) rfl ?_ | refine eanE rfl (by assumption) (by with_reducible first | exact rfl | exact Int32.zero_add _ | exact ix8 _ | exact ix12 _ | exact ix7r _ _ | exact n7 | exact n0 | exact n1) (by assumption) rfl ?_ | refine eal rfl (by assumption) (by assumption) rfl ?_ | refine eri rfl ?_ | refine erv rfl ?_ | refine erl rfl ?_ | refine era rfl ?_ | refine erz0 rfl ?_ | refine erz1 rfl ?_)
    try dsimp only [set1, set2, kilP, List.set_cons_zero, List.set_cons_succ, List.getElem?_cons_zero, List.getElem?_cons_succ, List.nil_append, List.cons_append, Option.toList_some, Option.toList_none]
    cases q : anyN (stP (A 15) k z h) g with
    | true =>
      rw [q] at hi
      repeat (refine ng 19 rfl ?_; first | refine es rfl rfl rfl ?_ | refine eg rfl (by assumption) rfl ?_ | refine eanE rfl (by assumption) (by with_reducible first | exact rfl | exact Int32.zero_add _ | exact ix8 _ | exact ix12 _ | exact ix7r _ _ | exact n7 | exact n0 | exact n1) (by assumption) rfl ?_ | refine eal rfl (by assumption) (by assumption) rfl ?_ | refine eri rfl ?_ | refine erv rfl ?_ | refine erl rfl ?_ | refine era rfl ?_ | refine erz0 rfl ?_ | refine erz1 rfl ?_)
      try dsimp only [set1, set2, kilP, List.set_cons_zero, List.set_cons_succ, List.getElem?_cons_zero, List.getElem?_cons_succ, List.nil_append, List.cons_append, Option.toList_some, Option.toList_none]
      rw [nI_1]
      exact hi
    | false =>
      rw [q] at hi
      repeat (first | refine es rfl rfl rfl ?_ | refine eg rfl (by assumption) rfl ?_ | refine eanE rfl (by assumption) (by with_reducible first | exact rfl | exact Int32.zero_add _ | exact ix8 _ | exact ix12 _ | exact ix7r _ _ | exact n7 | exact n0 | exact n1) (by assumption) rfl ?_ | refine eal rfl (by assumption) (by assumption) rfl ?_ | refine eri rfl ?_ | refine erv rfl ?_ | refine erl rfl ?_ | refine era rfl ?_ | refine erz0 rfl ?_ | refine erz1 rfl ?_)
      try dsimp only [set1, set2, kilP, List.set_cons_zero, List.set_cons_succ, List.getElem?_cons_zero, List.getElem?_cons_succ, List.nil_append, List.cons_append, Option.toList_some, Option.toList_none]
      refine ecsr rfl rfl rfl rfl rfl rfl (y_bit) (by first | rfl | exact Nat.blt_eq.mpr (by omega)) rfl ?_
      by_cases c1 : shutI (nI k) g = 1
      · rw [show bI (shutI (nI k) g = 1) = 1 from if_pos c1]
        have t1 := (shutI_bit k hk g (by omega)).mp c1
        repeat (first | refine es rfl rfl rfl ?_ | refine eg rfl (by assumption) rfl ?_ | refine eanE rfl (by assumption) (by with_reducible first | exact rfl | exact Int32.zero_add _ | exact ix8 _ | exact ix12 _ | exact ix7r _ _ | exact n7 | exact n0 | exact n1) (by assumption) rfl ?_ | refine eal rfl (by assumption) (by assumption) rfl ?_ | refine eri rfl ?_ | refine erv rfl ?_ | refine erl rfl ?_ | refine era rfl ?_ | refine erz0 rfl ?_ | refine erz1 rfl ?_)
        try dsimp only [set1, set2, kilP, List.set_cons_zero, List.set_cons_succ, List.getElem?_cons_zero, List.getElem?_cons_succ, List.nil_append, List.cons_append, Option.toList_some, Option.toList_none]
        refine ei _ rfl rfl (fun c2 => ?_) (fun c2 => ?_)
        · rw [show stP (A 15) k z h g = false by unfold stP; rw [t1, decide_eq_false (Int32.not_le.mpr c2)]; rfl] at hi
          repeat (refine ng 19 rfl ?_; first | refine es rfl rfl rfl ?_ | refine eg rfl (by assumption) rfl ?_ | refine eanE rfl (by assumption) (by with_reducible first | exact rfl | exact Int32.zero_add _ | exact ix8 _ | exact ix12 _ | exact ix7r _ _ | exact n7 | exact n0 | exact n1) (by assumption) rfl ?_ | refine eal rfl (by assumption) (by assumption) rfl ?_ | refine eri rfl ?_ | refine erv rfl ?_ | refine erl rfl ?_ | refine era rfl ?_ | refine erz0 rfl ?_ | refine erz1 rfl ?_)
          try dsimp only [set1, set2, kilP, List.set_cons_zero, List.set_cons_succ, List.getElem?_cons_zero, List.getElem?_cons_succ, List.nil_append, List.cons_append, Option.toList_some, Option.toList_none]
          rw [nI_1]
          exact hi
        · rw [show stP (A 15) k z h g = true by unfold stP; rw [t1, decide_eq_true (Int32.not_lt.mp c2)]; rfl] at hi
          repeat (refine ng 19 rfl ?_; first | refine es rfl rfl rfl ?_ | refine eg rfl (by assumption) rfl ?_ | refine eanE rfl (by assumption) (by with_reducible first | exact rfl | exact Int32.zero_add _ | exact ix8 _ | exact ix12 _ | exact ix7r _ _ | exact n7 | exact n0 | exact n1) (by assumption) rfl ?_ | refine eal rfl (by assumption) (by assumption) rfl ?_ | refine eri rfl ?_ | refine erv rfl ?_ | refine erl rfl ?_ | refine era rfl ?_ | refine erz0 rfl ?_ | refine erz1 rfl ?_)
          try dsimp only [set1, set2, kilP, List.set_cons_zero, List.set_cons_succ, List.getElem?_cons_zero, List.getElem?_cons_succ, List.nil_append, List.cons_append, Option.toList_some, Option.toList_none]
          rw [nI_1]
          exact hi
      · rw [show bI (shutI (nI k) g = 1) = 0 from if_neg c1]
        have t1 : k.testBit g = false := Bool.eq_false_iff.mpr (fun w => c1 ((shutI_bit k hk g (by omega)).mpr w))
        rw [show stP (A 15) k z h g = false by unfold stP; rw [t1]; rfl] at hi
        repeat (refine ng 19 rfl ?_; first | refine es rfl rfl rfl ?_ | refine eg rfl (by assumption) rfl ?_ | refine eanE rfl (by assumption) (by with_reducible first | exact rfl | exact Int32.zero_add _ | exact ix8 _ | exact ix12 _ | exact ix7r _ _ | exact n7 | exact n0 | exact n1) (by assumption) rfl ?_ | refine eal rfl (by assumption) (by assumption) rfl ?_ | refine eri rfl ?_ | refine erv rfl ?_ | refine erl rfl ?_ | refine era rfl ?_ | refine erz0 rfl ?_ | refine erz1 rfl ?_)
        try dsimp only [set1, set2, kilP, List.set_cons_zero, List.set_cons_succ, List.getElem?_cons_zero, List.getElem?_cons_succ, List.nil_append, List.cons_append, Option.toList_some, Option.toList_none]
        rw [nI_1]
        exact hi
theorem y_std_out {k : Nat} {z : Int32} (hW : yW M b a σ oa rd oq A) (hn : σ.T.hs.n ≤ 7) (hk : k < 128) : ∀ (n h : Nat) (L4 L5 : Option Value), h + n = σ.T.hs.n → allN (fun h => anyN (stP (A 15) k z h) σ.T.hs.n) h = true → Ev ad 1 (rX13_isStand ad) (2, [some (.ref b), some (.int (nI k)), some (.int z), some (.int (nI h)), L4, L5], [], M) (fun v' M' => v' = some (.int (if allN (fun h => anyN (stP (A 15) k z h) σ.T.hs.n) σ.T.hs.n then 1 else 0)) ∧ M' = M) := by
  obtain ⟨hy, ha, ⟨kn, Am, Bm, m0, -⟩, hv⟩ := id hW
  have h0 := hy.1
  intro n
  induction n with
  | zero =>
    intro h L4 L5 hh hq
    repeat (first | refine es rfl rfl rfl ?_ | refine eg rfl (by assumption) rfl ?_ | refine eanE rfl (by assumption) (by with_reducible first | exact rfl | exact Int32.zero_add _ | exact ix8 _ | exact ix12 _ | exact ix7r _ _ | exact n7 | exact n0 | exact n1) (by assumption) rfl ?_ | refine eal rfl (by assumption) (by assumption) rfl ?_ | refine eri rfl ?_ | refine erv rfl ?_ | refine erl rfl ?_ | refine era rfl ?_ | refine erz0 rfl ?_ | refine erz1 rfl ?_)
    try dsimp only [set1, set2, kilP, List.set_cons_zero, List.set_cons_succ, List.getElem?_cons_zero, List.getElem?_cons_succ, List.nil_append, List.cons_append, Option.toList_some, Option.toList_none]
    refine ei _ rfl rfl (fun c => ?_) (fun c => ?_)
    · repeat (first | refine es rfl rfl rfl ?_ | refine eg rfl (by assumption) rfl ?_ | refine eanE rfl (by assumption) (by with_reducible first | exact rfl | exact Int32.zero_add _ | exact ix8 _ | exact ix12 _ | exact ix7r _ _ | exact n7 | exact n0 | exact n1) (by assumption) rfl ?_ | refine eal rfl (by assumption) (by assumption) rfl ?_ | refine eri rfl ?_ | refine erv rfl ?_ | refine erl rfl ?_ | refine era rfl ?_ | refine erz0 rfl ?_ | refine erz1 rfl ?_)
      try dsimp only [set1, set2, kilP, List.set_cons_zero, List.set_cons_succ, List.getElem?_cons_zero, List.getElem?_cons_succ, List.nil_append, List.cons_append, Option.toList_some, Option.toList_none]
      have e : h = σ.T.hs.n := by omega
      subst e
      rw [hq]
      exact ⟨rfl, rfl⟩
    · exact absurd (nI_le (by omega) (by omega)) c
  | succ n ih =>
    intro h L4 L5 hh hq
    repeat (first | refine es rfl rfl rfl ?_ | refine eg rfl (by assumption) rfl ?_ | refine eanE rfl (by assumption) (by with_reducible first | exact rfl | exact Int32.zero_add _ | exact ix8 _ | exact ix12 _ | exact ix7r _ _ | exact n7 | exact n0 | exact n1) (by assumption) rfl ?_ | refine eal rfl (by assumption) (by assumption) rfl ?_ | refine eri rfl ?_ | refine erv rfl ?_ | refine erl rfl ?_ | refine era rfl ?_ | refine erz0 rfl ?_ | refine erz1 rfl ?_)
    try dsimp only [set1, set2, kilP, List.set_cons_zero, List.set_cons_succ, List.getElem?_cons_zero, List.getElem?_cons_succ, List.nil_append, List.cons_append, Option.toList_some, Option.toList_none]
    refine ei _ rfl rfl (fun c => ?_) (fun c => ?_)
    · exact absurd c (nI_ge (by omega) (by omega))
    repeat (refine ng 19 rfl ?_; first | refine es rfl rfl rfl ?_ | refine eg rfl (by assumption) rfl ?_ | refine eanE rfl (by assumption) (by with_reducible first | exact rfl | exact Int32.zero_add _ | exact ix8 _ | exact ix12 _ | exact ix7r _ _ | exact n7 | exact n0 | exact n1) (by assumption) rfl ?_ | refine eal rfl (by assumption) (by assumption) rfl ?_ | refine eri rfl ?_ | refine erv rfl ?_ | refine erl rfl ?_ | refine era rfl ?_ | refine erz0 rfl ?_ | refine erz1 rfl ?_)
    try dsimp only [set1, set2, kilP, List.set_cons_zero, List.set_cons_succ, List.getElem?_cons_zero, List.getElem?_cons_succ, List.nil_append, List.cons_append, Option.toList_some, Option.toList_none]
    refine y_std_in hW hn hk (by omega) (fun L5 => ?_) σ.T.hs.n 0 (by omega)
    cases q : anyN (stP (A 15) k z h) σ.T.hs.n with
    | true =>
      repeat (refine ng 2 rfl ?_; first | refine es rfl rfl rfl ?_ | refine eg rfl (by assumption) rfl ?_ | refine eanE rfl (by assumption) (by with_reducible first | exact rfl | exact Int32.zero_add _ | exact ix8 _ | exact ix12 _ | exact ix7r _ _ | exact n7 | exact n0 | exact n1) (by assumption) rfl ?_ | refine eal rfl (by assumption) (by assumption) rfl ?_ | refine eri rfl ?_ | refine erv rfl ?_ | refine erl rfl ?_ | refine era rfl ?_ | refine erz0 rfl ?_ | refine erz1 rfl ?_)
      try dsimp only [set1, set2, kilP, List.set_cons_zero, List.set_cons_succ, List.getElem?_cons_zero, List.getElem?_cons_succ, List.nil_append, List.cons_append, Option.toList_some, Option.toList_none]
      rw [nI_1]
      refine ih (h + 1) _ _ (by omega) ?_
      rw [allN, hq, q]
      rfl
    | false =>
      repeat (first | refine es rfl rfl rfl ?_ | refine eg rfl (by assumption) rfl ?_ | refine eanE rfl (by assumption) (by with_reducible first | exact rfl | exact Int32.zero_add _ | exact ix8 _ | exact ix12 _ | exact ix7r _ _ | exact n7 | exact n0 | exact n1) (by assumption) rfl ?_ | refine eal rfl (by assumption) (by assumption) rfl ?_ | refine eri rfl ?_ | refine erv rfl ?_ | refine erl rfl ?_ | refine era rfl ?_ | refine erz0 rfl ?_ | refine erz1 rfl ?_)
      try dsimp only [set1, set2, kilP, List.set_cons_zero, List.set_cons_succ, List.getElem?_cons_zero, List.getElem?_cons_succ, List.nil_append, List.cons_append, Option.toList_some, Option.toList_none]
      have e : allN (fun h => anyN (stP (A 15) k z h) σ.T.hs.n) σ.T.hs.n = false := by
        apply Bool.eq_false_iff.mpr
        intro w
        have := (allN_i σ.T.hs.n).mp w h (by omega)
        rw [q] at this
        cases this
      rw [e]
      exact ⟨rfl, rfl⟩
theorem y_isStand {k : Nat} {z : Int32} (hW : yW M b a σ oa rd oq A) (hn : σ.T.hs.n ≤ 7) (hk : k < 128) : Rd ad 1 (iX13_isStand ad) [.ref b, .int (nI k), .int z] M (some (.int (if allN (fun h => anyN (stP (A 15) k z h) σ.T.hs.n) σ.T.hs.n then 1 else 0))) := by
  refine ⟨Nat.le_of_ble_eq_true rfl, ?_⟩
  show Ev ad _ (rX13_isStand ad) (0, [some (.ref b), some (.int (nI k)), some (.int z), none, none, none], [], M) _
  repeat (refine ng 2 rfl ?_; first | refine es rfl rfl rfl ?_ | refine eg rfl (by assumption) rfl ?_ | refine eanE rfl (by assumption) (by with_reducible first | exact rfl | exact Int32.zero_add _ | exact ix8 _ | exact ix12 _ | exact ix7r _ _ | exact n7 | exact n0 | exact n1) (by assumption) rfl ?_ | refine eal rfl (by assumption) (by assumption) rfl ?_ | refine eri rfl ?_ | refine erv rfl ?_ | refine erl rfl ?_ | refine era rfl ?_ | refine erz0 rfl ?_ | refine erz1 rfl ?_)
  try dsimp only [set1, set2, kilP, List.set_cons_zero, List.set_cons_succ, List.getElem?_cons_zero, List.getElem?_cons_succ, List.nil_append, List.cons_append, Option.toList_some, Option.toList_none]
  exact y_std_out hW hn hk σ.T.hs.n 0 _ _ (by omega) rfl
/-- the first of the smallest sets, without a first guess -/
def rsdC (k : Nat) : Option Nat → Bool
  | none => true
  | some q => decide (popc k < popc q)
def rsdF (ok : Nat → Bool) : Nat → Nat → Option Nat → Option Nat
  | 0, _, z => z
  | n + 1, k, z => rsdF ok n (k + 1) (if (rsdC k z && ok k) = true then some k else z)
theorem pop_all : ∀ N, N ≤ 7 → ∀ k, k < 2 ^ N - 1 → popc k < popc (2 ^ N - 1) := by decide +kernel
theorem rsd_std {ok : Nat → Bool} {okP : Nat → Prop} [DecidablePred okP] {N : Nat} (hN : N ≤ 7) (h1 : 1 ≤ N) (hok : ∀ k, k < 2 ^ N → (ok k = true ↔ okP k)) (hall : ok (2 ^ N - 1) = true) : ∀ n k z, k + n = 2 ^ N - 1 → (∀ q, z = some q → q < 2 ^ N - 1) → rsdF ok (n + 1) k z = some (stdF okP n k (z.getD (2 ^ N - 1)))
  | 0, k, z, hk, hz => by
    have e : k = 2 ^ N - 1 := by omega
    rw [rsdF, rsdF, stdF, e, hall]
    cases z with
    | none => rfl
    | some q =>
      have := pop_all N hN q (hz q rfl)
      show (if (decide (popc (2 ^ N - 1) < popc q) && true) = true then some (2 ^ N - 1) else some q) = some q
      rw [decide_eq_false (by omega)]
      rfl
  | n + 1, k, z, hk, hz => by
    have h2 : 1 ≤ 2 ^ N := Nat.one_le_two_pow
    rw [rsdF, stdF]
    have hk2 := pop_all N hN k (by omega)
    have ho := hok k (by omega)
    cases z with
    | none =>
      show rsdF ok (n + 1) (k + 1) (if ok k = true then some k else none) = some (stdF okP n (k + 1) (if popc k < popc (2 ^ N - 1) ∧ okP k then k else 2 ^ N - 1))
      by_cases c : ok k = true
      · rw [if_pos c, if_pos ⟨hk2, ho.mp c⟩]
        exact rsd_std hN h1 hok hall n (k + 1) (some k) (by omega) (fun q e => by injection e with e; omega)
      · rw [if_neg c, if_neg (fun w => c (ho.mpr w.2))]
        exact rsd_std hN h1 hok hall n (k + 1) none (by omega) (fun q e => by cases e)
    | some q =>
      show rsdF ok (n + 1) (k + 1) (if (decide (popc k < popc q) && ok k) = true then some k else some q) = some (stdF okP n (k + 1) (if popc k < popc q ∧ okP k then k else q))
      by_cases c : popc k < popc q ∧ okP k
      · rw [if_pos c, if_pos (by rw [decide_eq_true c.1, ho.mpr c.2]; rfl)]
        exact rsd_std hN h1 hok hall n (k + 1) (some k) (by omega) (fun q e => by injection e with e; omega)
      · rw [if_neg c, if_neg (fun w => by rw [Bool.and_eq_true, decide_eq_true_eq] at w; exact c ⟨w.1, ho.mp w.2⟩)]
        exact rsd_std hN h1 hok hall n (k + 1) (some q) (by omega) hz
abbrev oJ (z : Option Nat) : Int32 := match z with
  | none => -1
  | some k => nI k
theorem y_std_loop {z : Int32} {M0 : Mm} (hY : YR M b σ) (hW : yW M b a σ oa rd oq A) (hn : σ.T.hs.n ≤ 7) (hF : Fr b 16 M0 M) : ∀ (n k : Nat) (w : Option Nat), 1 ≤ k → k + n = 2 ^ σ.T.hs.n → (∀ q, w = some q → q < 128) → Ev ad 3 (rX13_stands ad) (39, [some (.ref b), some (.int z), some (.int (oJ w)), some (.int (nI k))], [], M) (Pq b M0 (an σ (oJ (rsdF (fun k => allN (fun h => anyN (stP (A 15) k z h) σ.T.hs.n) σ.T.hs.n) n k w)))) := by
  obtain ⟨hy, ha, ⟨kn, Am, Bm, m0, -⟩, hv⟩ := id hW
  have h0 := hy.1
  have hp : 2 ^ σ.T.hs.n ≤ 128 := p2_le hn
  intro n
  induction n with
  | zero =>
    intro k w h1 hk hw
    repeat (first | refine es rfl rfl rfl ?_ | refine eg rfl (by assumption) rfl ?_ | refine eanE rfl (by assumption) (by with_reducible first | exact rfl | exact Int32.zero_add _ | exact ix8 _ | exact ix12 _ | exact ix7r _ _ | exact n7 | exact n0 | exact n1) (by assumption) rfl ?_ | refine eal rfl (by assumption) (by assumption) rfl ?_ | refine eri rfl ?_ | refine erv rfl ?_ | refine erl rfl ?_ | refine era rfl ?_ | refine erz0 rfl ?_ | refine erz1 rfl ?_)
    try dsimp only [set1, set2, kilP, List.set_cons_zero, List.set_cons_succ, List.getElem?_cons_zero, List.getElem?_cons_succ, List.nil_append, List.cons_append, Option.toList_some, Option.toList_none]
    rw [shl_n _ (by omega)]
    refine ei _ rfl rfl (fun c => ?_) (fun c => ?_)
    · rw [rsdF]
      repeat (first | refine es rfl rfl rfl ?_ | refine eg rfl (by assumption) rfl ?_ | refine eanE rfl (by assumption) (by with_reducible first | exact rfl | exact Int32.zero_add _ | exact ix8 _ | exact ix12 _ | exact ix7r _ _ | exact n7 | exact n0 | exact n1) (by assumption) rfl ?_ | refine eal rfl (by assumption) (by assumption) rfl ?_ | refine eri rfl ?_ | refine erv rfl ?_ | refine erl rfl ?_ | refine era rfl ?_ | refine erz0 rfl ?_ | refine erz1 rfl ?_)
      try dsimp only [set1, set2, kilP, List.set_cons_zero, List.set_cons_succ, List.getElem?_cons_zero, List.getElem?_cons_succ, List.nil_append, List.cons_append, Option.toList_some, Option.toList_none]
      refine ecv rfl rfl (by assumption) rfl rfl rfl (y_good hY) (by first | rfl | exact Nat.blt_eq.mpr (by omega)) ?_
      rintro v M9 ⟨rfl, hY9, hF9⟩
      try dsimp only [set1, set2, kilP, List.set_cons_zero, List.set_cons_succ, List.getElem?_cons_zero, List.getElem?_cons_succ, List.nil_append, List.cons_append, Option.toList_some, Option.toList_none]
      repeat (first | refine es rfl rfl rfl ?_ | refine eg rfl (by assumption) rfl ?_ | refine eanE rfl (by assumption) (by with_reducible first | exact rfl | exact Int32.zero_add _ | exact ix8 _ | exact ix12 _ | exact ix7r _ _ | exact n7 | exact n0 | exact n1) (by assumption) rfl ?_ | refine eal rfl (by assumption) (by assumption) rfl ?_ | refine eri rfl ?_ | refine erv rfl ?_ | refine erl rfl ?_ | refine era rfl ?_ | refine erz0 rfl ?_ | refine erz1 rfl ?_)
      try dsimp only [set1, set2, kilP, List.set_cons_zero, List.set_cons_succ, List.getElem?_cons_zero, List.getElem?_cons_succ, List.nil_append, List.cons_append, Option.toList_some, Option.toList_none]
      exact Pq.an hY9 (hF.tr (hF9.wide (lo2 := b) (n2 := 16) (by omega) (by omega)) (by omega) (by omega))
    · exact absurd (nI_le (by omega) (by omega)) c
  | succ n ih =>
    intro k w h1 hk hw
    have hk128 : k < 128 := by omega
    repeat (first | refine es rfl rfl rfl ?_ | refine eg rfl (by assumption) rfl ?_ | refine eanE rfl (by assumption) (by with_reducible first | exact rfl | exact Int32.zero_add _ | exact ix8 _ | exact ix12 _ | exact ix7r _ _ | exact n7 | exact n0 | exact n1) (by assumption) rfl ?_ | refine eal rfl (by assumption) (by assumption) rfl ?_ | refine eri rfl ?_ | refine erv rfl ?_ | refine erl rfl ?_ | refine era rfl ?_ | refine erz0 rfl ?_ | refine erz1 rfl ?_)
    try dsimp only [set1, set2, kilP, List.set_cons_zero, List.set_cons_succ, List.getElem?_cons_zero, List.getElem?_cons_succ, List.nil_append, List.cons_append, Option.toList_some, Option.toList_none]
    rw [shl_n _ (by omega)]
    refine ei _ rfl rfl (fun c => ?_) (fun c => ?_)
    · exact absurd c (nI_ge (by omega) (by omega))
    rw [rsdF]
    have hstep : ∀ (cnd : Bool), rsdC k w = cnd → cnd = true → Ev ad 3 (rX13_stands ad) (68, [some (.ref b), some (.int z), some (.int (oJ w)), some (.int (nI k))], [], M) (Pq b M0 (an σ (oJ (rsdF (fun k => allN (fun h => anyN (stP (A 15) k z h) σ.T.hs.n) σ.T.hs.n) n (k + 1) (if (rsdC k w && allN (fun h => anyN (stP (A 15) k z h) σ.T.hs.n) σ.T.hs.n) = true then some k else w))))) := by
      intro cnd e1 e2
      rw [e1, e2, Bool.true_and]
      repeat (first | refine es rfl rfl rfl ?_ | refine eg rfl (by assumption) rfl ?_ | refine eanE rfl (by assumption) (by with_reducible first | exact rfl | exact Int32.zero_add _ | exact ix8 _ | exact ix12 _ | exact ix7r _ _ | exact n7 | exact n0 | exact n1) (by assumption) rfl ?_ | refine eal rfl (by assumption) (by assumption) rfl ?_ | refine eri rfl ?_ | refine erv rfl ?_ | refine erl rfl ?_ | refine era rfl ?_ | refine erz0 rfl ?_ | refine erz1 rfl ?_)
      try dsimp only [set1, set2, kilP, List.set_cons_zero, List.set_cons_succ, List.getElem?_cons_zero, List.getElem?_cons_succ, List.nil_append, List.cons_append, Option.toList_some, Option.toList_none]
      refine ecr rfl rfl (by assumption) rfl rfl rfl (y_isStand hW hn hk128) (by first | rfl | exact Nat.blt_eq.mpr (by omega)) rfl ?_
      cases q : allN (fun h => anyN (stP (A 15) k z h) σ.T.hs.n) σ.T.hs.n with
      | true =>
        repeat (refine ng 39 rfl ?_; first | refine es rfl rfl rfl ?_ | refine eg rfl (by assumption) rfl ?_ | refine eanE rfl (by assumption) (by with_reducible first | exact rfl | exact Int32.zero_add _ | exact ix8 _ | exact ix12 _ | exact ix7r _ _ | exact n7 | exact n0 | exact n1) (by assumption) rfl ?_ | refine eal rfl (by assumption) (by assumption) rfl ?_ | refine eri rfl ?_ | refine erv rfl ?_ | refine erl rfl ?_ | refine era rfl ?_ | refine erz0 rfl ?_ | refine erz1 rfl ?_)
        try dsimp only [set1, set2, kilP, List.set_cons_zero, List.set_cons_succ, List.getElem?_cons_zero, List.getElem?_cons_succ, List.nil_append, List.cons_append, Option.toList_some, Option.toList_none]
        rw [nI_1]
        exact ih (k + 1) (some k) (by omega) (by omega) (fun q e => by injection e with e; omega)
      | false =>
        repeat (refine ng 39 rfl ?_; first | refine es rfl rfl rfl ?_ | refine eg rfl (by assumption) rfl ?_ | refine eanE rfl (by assumption) (by with_reducible first | exact rfl | exact Int32.zero_add _ | exact ix8 _ | exact ix12 _ | exact ix7r _ _ | exact n7 | exact n0 | exact n1) (by assumption) rfl ?_ | refine eal rfl (by assumption) (by assumption) rfl ?_ | refine eri rfl ?_ | refine erv rfl ?_ | refine erl rfl ?_ | refine era rfl ?_ | refine erz0 rfl ?_ | refine erz1 rfl ?_)
        try dsimp only [set1, set2, kilP, List.set_cons_zero, List.set_cons_succ, List.getElem?_cons_zero, List.getElem?_cons_succ, List.nil_append, List.cons_append, Option.toList_some, Option.toList_none]
        rw [nI_1]
        exact ih (k + 1) w (by omega) (by omega) hw
    cases w with
    | none =>
      repeat (refine ng 68 rfl ?_; first | refine es rfl rfl rfl ?_ | refine eg rfl (by assumption) rfl ?_ | refine eanE rfl (by assumption) (by with_reducible first | exact rfl | exact Int32.zero_add _ | exact ix8 _ | exact ix12 _ | exact ix7r _ _ | exact n7 | exact n0 | exact n1) (by assumption) rfl ?_ | refine eal rfl (by assumption) (by assumption) rfl ?_ | refine eri rfl ?_ | refine erv rfl ?_ | refine erl rfl ?_ | refine era rfl ?_ | refine erz0 rfl ?_ | refine erz1 rfl ?_)
      try dsimp only [set1, set2, kilP, List.set_cons_zero, List.set_cons_succ, List.getElem?_cons_zero, List.getElem?_cons_succ, List.nil_append, List.cons_append, Option.toList_some, Option.toList_none]
      exact hstep true rfl rfl
    | some q =>
      have hq := hw q rfl
      have p1 := popc_7 k
      have p2 := popc_7 q
      repeat (first | refine es rfl rfl rfl ?_ | refine eg rfl (by assumption) rfl ?_ | refine eanE rfl (by assumption) (by with_reducible first | exact rfl | exact Int32.zero_add _ | exact ix8 _ | exact ix12 _ | exact ix7r _ _ | exact n7 | exact n0 | exact n1) (by assumption) rfl ?_ | refine eal rfl (by assumption) (by assumption) rfl ?_ | refine eri rfl ?_ | refine erv rfl ?_ | refine erl rfl ?_ | refine era rfl ?_ | refine erz0 rfl ?_ | refine erz1 rfl ?_)
      try dsimp only [set1, set2, kilP, List.set_cons_zero, List.set_cons_succ, List.getElem?_cons_zero, List.getElem?_cons_succ, List.nil_append, List.cons_append, Option.toList_some, Option.toList_none]
      refine ei _ rfl rfl (fun c1 => ?_) (fun c1 => ?_)
      · exact absurd c1 (nI_n1 (by omega))
      repeat (first | refine es rfl rfl rfl ?_ | refine eg rfl (by assumption) rfl ?_ | refine eanE rfl (by assumption) (by with_reducible first | exact rfl | exact Int32.zero_add _ | exact ix8 _ | exact ix12 _ | exact ix7r _ _ | exact n7 | exact n0 | exact n1) (by assumption) rfl ?_ | refine eal rfl (by assumption) (by assumption) rfl ?_ | refine eri rfl ?_ | refine erv rfl ?_ | refine erl rfl ?_ | refine era rfl ?_ | refine erz0 rfl ?_ | refine erz1 rfl ?_)
      try dsimp only [set1, set2, kilP, List.set_cons_zero, List.set_cons_succ, List.getElem?_cons_zero, List.getElem?_cons_succ, List.nil_append, List.cons_append, Option.toList_some, Option.toList_none]
      refine ecsr rfl rfl rfl rfl rfl rfl (y_bits hk128) (by first | rfl | exact Nat.blt_eq.mpr (by omega)) rfl ?_
      repeat (first | refine es rfl rfl rfl ?_ | refine eg rfl (by assumption) rfl ?_ | refine eanE rfl (by assumption) (by with_reducible first | exact rfl | exact Int32.zero_add _ | exact ix8 _ | exact ix12 _ | exact ix7r _ _ | exact n7 | exact n0 | exact n1) (by assumption) rfl ?_ | refine eal rfl (by assumption) (by assumption) rfl ?_ | refine eri rfl ?_ | refine erv rfl ?_ | refine erl rfl ?_ | refine era rfl ?_ | refine erz0 rfl ?_ | refine erz1 rfl ?_)
      try dsimp only [set1, set2, kilP, List.set_cons_zero, List.set_cons_succ, List.getElem?_cons_zero, List.getElem?_cons_succ, List.nil_append, List.cons_append, Option.toList_some, Option.toList_none]
      refine ecsr rfl rfl rfl rfl rfl rfl (y_bits hq) (by first | rfl | exact Nat.blt_eq.mpr (by omega)) rfl ?_
      refine ei _ rfl rfl (fun c2 => ?_) (fun c2 => ?_)
      · have c2' := (nI_leI (by omega) (by omega)).mp c2
        repeat (refine ng 39 rfl ?_; first | refine es rfl rfl rfl ?_ | refine eg rfl (by assumption) rfl ?_ | refine eanE rfl (by assumption) (by with_reducible first | exact rfl | exact Int32.zero_add _ | exact ix8 _ | exact ix12 _ | exact ix7r _ _ | exact n7 | exact n0 | exact n1) (by assumption) rfl ?_ | refine eal rfl (by assumption) (by assumption) rfl ?_ | refine eri rfl ?_ | refine erv rfl ?_ | refine erl rfl ?_ | refine era rfl ?_ | refine erz0 rfl ?_ | refine erz1 rfl ?_)
        try dsimp only [set1, set2, kilP, List.set_cons_zero, List.set_cons_succ, List.getElem?_cons_zero, List.getElem?_cons_succ, List.nil_append, List.cons_append, Option.toList_some, Option.toList_none]
        rw [nI_1]
        have e : (rsdC k (some q) && allN (fun h => anyN (stP (A 15) k z h) σ.T.hs.n) σ.T.hs.n) = false := by
          show (decide (popc k < popc q) && _) = false
          rw [decide_eq_false (by omega)]
          rfl
        rw [e]
        exact ih (k + 1) (some q) (by omega) (by omega) hw
      · have c2' : popc k < popc q := by
          rcases Nat.lt_or_ge (popc k) (popc q) with w | w
          · exact w
          · exact absurd (nI_le w (by omega)) c2
        exact hstep true (decide_eq_true c2') rfl
end RSTD
