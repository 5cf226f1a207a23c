/-! The reference's town: the rows are laid -/
section RTWN
variable {ad : Nat → Nat} {a b : Nat} {A : Ar} {oa : Int32 × Int32 × Int32} {ow : Value × Value} {oq : Yr × Yq} {rd : Value} {M0 : Mm} {T : Tw} {n : Int32} {P : Option Value → Mm → Prop}
theorem y_tw1 {o : Yo} (k : ∀ M p, aY M b o (sA A 2 p) → Fr b 16 M0 M → (∀ j, j < 16 → p j = 0) → ∀ L, Ev ad 9 (rX13_town ad) (118, [some (.ref b), some (.int n), L], [], M) P) : ∀ (m i : Nat) (M : Mm) (p : Nat → Int32), aY M b o (sA A 2 p) → Fr b 16 M0 M → i + m = 16 → (∀ j, j < i → p j = 0) → Ev ad 9 (rX13_town ad) (99, [some (.ref b), some (.int n), some (.int (nI i))], [], M) P := by
  intro m
  induction m with
  | zero =>
    intro i M p hy hF hi q1
    have h0 := hy.1
    repeat (first | refine es rfl rfl rfl ?_ | refine eg rfl (by assumption) rfl ?_ | refine eanE rfl (by assumption) (by with_reducible first | exact rfl | exact Int32.zero_add _ | exact ix8 _ | exact ix12 _ | exact ix7r _ _ | exact n7 | exact n0 | exact n1) (by assumption) rfl ?_ | refine eal rfl (by assumption) (by assumption) rfl ?_ | refine eri rfl ?_ | refine erv rfl ?_ | refine erl rfl ?_ | refine era rfl ?_ | refine erz0 rfl ?_ | refine erz1 rfl ?_)
    try dsimp only [set1, set2, kilP, List.set_cons_zero, List.set_cons_succ, List.getElem?_cons_zero, List.getElem?_cons_succ, List.nil_append, List.cons_append, Option.toList_some, Option.toList_none]
    refine ei _ rfl rfl (fun c => ?_) (fun c => ?_)
    · exact k M p hy hF (fun j hj => q1 j (by omega)) _
    · exact absurd (show (16 : Int32) ≤ nI i from nI_le (a := 16) (by omega) (by omega)) c
  | succ m ih =>
    intro i M p hy hF hi q1
    have h0 := hy.1
    have h2 : M.1 (b + 2) = ints 16 p := hy.c.2.1
    have hi1 : i < 16 := by omega
    repeat (first | refine es rfl rfl rfl ?_ | refine eg rfl (by assumption) rfl ?_ | refine eanE rfl (by assumption) (by with_reducible first | exact rfl | exact Int32.zero_add _ | exact ix8 _ | exact ix12 _ | exact ix7r _ _ | exact n7 | exact n0 | exact n1) (by assumption) rfl ?_ | refine eal rfl (by assumption) (by assumption) rfl ?_ | refine eri rfl ?_ | refine erv rfl ?_ | refine erl rfl ?_ | refine era rfl ?_ | refine erz0 rfl ?_ | refine erz1 rfl ?_)
    try dsimp only [set1, set2, kilP, List.set_cons_zero, List.set_cons_succ, List.getElem?_cons_zero, List.getElem?_cons_succ, List.nil_append, List.cons_append, Option.toList_some, Option.toList_none]
    refine ei _ rfl rfl (fun c => ?_) (fun c => ?_)
    · exact absurd c (nI_ge (b := 16) (by omega) (by omega))
    · repeat (first | refine es rfl rfl rfl ?_ | refine eg rfl (by assumption) rfl ?_ | refine eanE rfl (by assumption) (by with_reducible first | exact rfl | exact Int32.zero_add _ | exact ix8 _ | exact ix12 _ | exact ix7r _ _ | exact n7 | exact n0 | exact n1) (by assumption) rfl ?_ | refine eal rfl (by assumption) (by assumption) rfl ?_ | refine eri rfl ?_ | refine erv rfl ?_ | refine erl rfl ?_ | refine era rfl ?_ | refine erz0 rfl ?_ | refine erz1 rfl ?_)
      try dsimp only [set1, set2, kilP, List.set_cons_zero, List.set_cons_succ, List.getElem?_cons_zero, List.getElem?_cons_succ, List.nil_append, List.cons_append, Option.toList_some, Option.toList_none]
      refine etM rfl h2 hi1 rfl (fun M2 eM => ?_)
      repeat (refine ng 99 rfl ?_; first | refine es rfl rfl rfl ?_ | refine eg rfl (by assumption) rfl ?_ | refine eanE rfl (by assumption) (by with_reducible first | exact rfl | exact Int32.zero_add _ | exact ix8 _ | exact ix12 _ | exact ix7r _ _ | exact n7 | exact n0 | exact n1) (by assumption) rfl ?_ | refine eal rfl (by assumption) (by assumption) rfl ?_ | refine eri rfl ?_ | refine erv rfl ?_ | refine erl rfl ?_ | refine era rfl ?_ | refine erz0 rfl ?_ | refine erz1 rfl ?_)
      try dsimp only [set1, set2, kilP, List.set_cons_zero, List.set_cons_succ, List.getElem?_cons_zero, List.getElem?_cons_succ, List.nil_append, List.cons_append, Option.toList_some, Option.toList_none]
      rw [nI_1]
      refine ih (i + 1) M2 _ (hy.ar2 (k := 2) eM (by omega)) (hF.up eM (by omega) (by omega)) (by omega) (fun j hj => ?_)
      by_cases e : j = i
      · rw [e, pk_us]
      · rw [pk_un (by omega)]; exact q1 j (by omega)
theorem y_tw2 (ha : b + 16 ≤ a) (hM : aMt M0 a T) (hn7 : T.hs.n ≤ 7) (hC : tC T) (k : ∀ M p, aY M b (oa, (.ref a, rd), oq) (sA A 2 p) → Fr b 16 M0 M → (∀ j, j < 7 → p j = T.hs.to j) → (∀ j, 7 ≤ j → j < 16 → p j = 0) → ∀ L, Ev ad 9 (rX13_town ad) (165, [some (.ref b), some (.int n), L], [], M) P) : ∀ (m i : Nat) (M : Mm) (p : Nat → Int32), aY M b (oa, (.ref a, rd), oq) (sA A 2 p) → Fr b 16 M0 M → i + m = 7 → (∀ j, j < i → p j = T.hs.to j) → (∀ j, 7 ≤ j → j < 16 → p j = 0) → Ev ad 9 (rX13_town ad) (120, [some (.ref b), some (.int n), some (.int (nI i))], [], M) P := by
  intro m
  induction m with
  | zero =>
    intro i M p hy hF hi q1 q2
    have h0 := hy.1
    repeat (first | refine es rfl rfl rfl ?_ | refine eg rfl (by assumption) rfl ?_ | refine eanE rfl (by assumption) (by with_reducible first | exact rfl | exact Int32.zero_add _ | exact ix8 _ | exact ix12 _ | exact ix7r _ _ | exact n7 | exact n0 | exact n1) (by assumption) rfl ?_ | refine eal rfl (by assumption) (by assumption) rfl ?_ | refine eri rfl ?_ | refine erv rfl ?_ | refine erl rfl ?_ | refine era rfl ?_ | refine erz0 rfl ?_ | refine erz1 rfl ?_)
    try dsimp only [set1, set2, kilP, List.set_cons_zero, List.set_cons_succ, List.getElem?_cons_zero, List.getElem?_cons_succ, List.nil_append, List.cons_append, Option.toList_some, Option.toList_none]
    refine ei _ rfl rfl (fun c => ?_) (fun c => ?_)
    · exact k M p hy hF (fun j hj => q1 j (by omega)) q2 _
    · exact absurd (show (7 : Int32) ≤ nI i from nI_le (a := 7) (by omega) (by omega)) c
  | succ m ih =>
    intro i M p hy hF hi q1 q2
    have h0 := hy.1
    have h2 : M.1 (b + 2) = ints 16 p := hy.c.2.1
    have hi1 : i < 16 := by omega
    have hi7 : i < 7 := by omega
    obtain ⟨kn, Am, Bm, m0, mc, mH, mS, mP, mC, mN⟩ := hM.fr hF (by omega)
    have m4 : M.1 (a + 4) = ints 7 (Am 4) := mc.2.2.2.1
    have fin : ∀ x : Int32, x = T.hs.to i → Ev ad 9 (rX13_town ad) (158, [some (.ref b), some (.int n), some (.int (nI i))], [.int x, .int (nI i), .ref (b + 2)], M) P := by
      intro x hx
      refine etM rfl h2 hi1 rfl (fun M2 eM => ?_)
      repeat (refine ng 120 rfl ?_; first | refine es rfl rfl rfl ?_ | refine eg rfl (by assumption) rfl ?_ | refine eanE rfl (by assumption) (by with_reducible first | exact rfl | exact Int32.zero_add _ | exact ix8 _ | exact ix12 _ | exact ix7r _ _ | exact n7 | exact n0 | exact n1) (by assumption) rfl ?_ | refine eal rfl (by assumption) (by assumption) rfl ?_ | refine eri rfl ?_ | refine erv rfl ?_ | refine erl rfl ?_ | refine era rfl ?_ | refine erz0 rfl ?_ | refine erz1 rfl ?_)
      try dsimp only [set1, set2, kilP, List.set_cons_zero, List.set_cons_succ, List.getElem?_cons_zero, List.getElem?_cons_succ, List.nil_append, List.cons_append, Option.toList_some, Option.toList_none]
      rw [nI_1]
      refine ih (i + 1) M2 _ (hy.ar2 (k := 2) eM (by omega)) (hF.up eM (by omega) (by omega)) (by omega) (fun j hj => ?_) (fun j j1 j2 => ?_)
      · by_cases e : j = i
        · rw [e, pk_us]; exact hx
        · rw [pk_un (by omega)]; exact q1 j (by omega)
      · rw [pk_un (by omega)]; exact q2 j j1 j2
    repeat (first | refine es rfl rfl rfl ?_ | refine eg rfl (by assumption) rfl ?_ | refine eanE rfl (by assumption) (by with_reducible first | exact rfl | exact Int32.zero_add _ | exact ix8 _ | exact ix12 _ | exact ix7r _ _ | exact n7 | exact n0 | exact n1) (by assumption) rfl ?_ | refine eal rfl (by assumption) (by assumption) rfl ?_ | refine eri rfl ?_ | refine erv rfl ?_ | refine erl rfl ?_ | refine era rfl ?_ | refine erz0 rfl ?_ | refine erz1 rfl ?_)
    try dsimp only [set1, set2, kilP, List.set_cons_zero, List.set_cons_succ, List.getElem?_cons_zero, List.getElem?_cons_succ, List.nil_append, List.cons_append, Option.toList_some, Option.toList_none]
    refine ei _ rfl rfl (fun c => ?_) (fun c => ?_)
    · exact absurd c (nI_ge (b := 7) (by omega) (by omega))
    repeat (first | refine es rfl rfl rfl ?_ | refine eg rfl (by assumption) rfl ?_ | refine eanE rfl (by assumption) (by with_reducible first | exact rfl | exact Int32.zero_add _ | exact ix8 _ | exact ix12 _ | exact ix7r _ _ | exact n7 | exact n0 | exact n1) (by assumption) rfl ?_ | refine eal rfl (by assumption) (by assumption) rfl ?_ | refine eri rfl ?_ | refine erv rfl ?_ | refine erl rfl ?_ | refine era rfl ?_ | refine erz0 rfl ?_ | refine erz1 rfl ?_)
    try dsimp only [set1, set2, kilP, List.set_cons_zero, List.set_cons_succ, List.getElem?_cons_zero, List.getElem?_cons_succ, List.nil_append, List.cons_append, Option.toList_some, Option.toList_none]
    rw [Int32.zero_add]
    by_cases c2 : i < T.hs.n
    · refine ei _ rfl rfl (fun c3 => ?_) (fun c3 => ?_)
      · exact absurd c3 (nI_ge c2 (by omega))
      repeat (refine ng 158 rfl ?_; first | refine es rfl rfl rfl ?_ | refine eg rfl (by assumption) rfl ?_ | refine eanE rfl (by assumption) (by with_reducible first | exact rfl | exact Int32.zero_add _ | exact ix8 _ | exact ix12 _ | exact ix7r _ _ | exact n7 | exact n0 | exact n1) (by assumption) rfl ?_ | refine eal rfl (by assumption) (by assumption) rfl ?_ | refine eri rfl ?_ | refine erv rfl ?_ | refine erl rfl ?_ | refine era rfl ?_ | refine erz0 rfl ?_ | refine erz1 rfl ?_)
      try dsimp only [set1, set2, kilP, List.set_cons_zero, List.set_cons_succ, List.getElem?_cons_zero, List.getElem?_cons_succ, List.nil_append, List.cons_append, Option.toList_some, Option.toList_none]
      exact fin _ (mH i c2).2.2.2.1
    · refine ei _ rfl rfl (fun c3 => ?_) (fun c3 => ?_)
      rotate_left
      · exact absurd (nI_le (by omega) (by omega)) c3
      repeat (refine ng 158 rfl ?_; first | refine es rfl rfl rfl ?_ | refine eg rfl (by assumption) rfl ?_ | refine eanE rfl (by assumption) (by with_reducible first | exact rfl | exact Int32.zero_add _ | exact ix8 _ | exact ix12 _ | exact ix7r _ _ | exact n7 | exact n0 | exact n1) (by assumption) rfl ?_ | refine eal rfl (by assumption) (by assumption) rfl ?_ | refine eri rfl ?_ | refine erv rfl ?_ | refine erl rfl ?_ | refine era rfl ?_ | refine erz0 rfl ?_ | refine erz1 rfl ?_)
      try dsimp only [set1, set2, kilP, List.set_cons_zero, List.set_cons_succ, List.getElem?_cons_zero, List.getElem?_cons_succ, List.nil_append, List.cons_append, Option.toList_some, Option.toList_none]
      refine fin _ ?_
      rcases hC i hi7 with q | ⟨q, _⟩
      · exact q.symm
      · exact absurd q c2
theorem y_tw3 (ha : b + 16 ≤ a) (hM : aMt M0 a T) (hp4 : T.np ≤ 4) (k : ∀ M p, aY M b (oa, (.ref a, rd), oq) (sA A 2 p) → Fr b 16 M0 M → rowB T p → ∀ L, Ev ad 9 (rX13_town ad) (202, [some (.ref b), some (.int n), L], [], M) P) : ∀ (m i : Nat) (M : Mm) (p : Nat → Int32), aY M b (oa, (.ref a, rd), oq) (sA A 2 p) → Fr b 16 M0 M → i + m = T.np → (∀ j, j < 7 → p j = T.hs.to j) → p 7 = 0 → (∀ j, j < i → p (8 + j) = T.pl j) → (∀ j, 8 + i ≤ j → j < 16 → p j = 0) → Ev ad 9 (rX13_town ad) (167, [some (.ref b), some (.int n), some (.int (nI i))], [], M) P := by
  intro m
  induction m with
  | zero =>
    intro i M p hy hF hi q1 q2 q3 q4
    have h0 := hy.1
    obtain ⟨kn, Am, Bm, m0, mc, mH, mS, mP, mC, mN⟩ := hM.fr hF (by omega)
    repeat (first | refine es rfl rfl rfl ?_ | refine eg rfl (by assumption) rfl ?_ | refine eanE rfl (by assumption) (by with_reducible first | exact rfl | exact Int32.zero_add _ | exact ix8 _ | exact ix12 _ | exact ix7r _ _ | exact n7 | exact n0 | exact n1) (by assumption) rfl ?_ | refine eal rfl (by assumption) (by assumption) rfl ?_ | refine eri rfl ?_ | refine erv rfl ?_ | refine erl rfl ?_ | refine era rfl ?_ | refine erz0 rfl ?_ | refine erz1 rfl ?_)
    try dsimp only [set1, set2, kilP, List.set_cons_zero, List.set_cons_succ, List.getElem?_cons_zero, List.getElem?_cons_succ, List.nil_append, List.cons_append, Option.toList_some, Option.toList_none]
    refine ei _ rfl rfl (fun c => ?_) (fun c => ?_)
    · refine k M p hy hF ⟨q1, q2, fun j hj => ⟨?_, q4 _ (by omega) (by omega)⟩⟩ _
      by_cases e : j < T.np
      · rw [if_pos e]; exact q3 j (by omega)
      · rw [if_neg e]; exact q4 _ (by omega) (by omega)
    · exact absurd (nI_le (by omega) (by omega)) c
  | succ m ih =>
    intro i M p hy hF hi q1 q2 q3 q4
    have h0 := hy.1
    have h2 : M.1 (b + 2) = ints 16 p := hy.c.2.1
    have hi4 : i < 4 := by omega
    have hi8 : 8 + i < 16 := by omega
    obtain ⟨kn, Am, Bm, m0, mc, mH, mS, mP, mC, mN⟩ := hM.fr hF (by omega)
    have m10 : M.1 (a + 10) = ints 4 (Am 10) := mc.2.2.2.2.2.2.2.2.2.1
    repeat (first | refine es rfl rfl rfl ?_ | refine eg rfl (by assumption) rfl ?_ | refine eanE rfl (by assumption) (by with_reducible first | exact rfl | exact Int32.zero_add _ | exact ix8 _ | exact ix12 _ | exact ix7r _ _ | exact n7 | exact n0 | exact n1) (by assumption) rfl ?_ | refine eal rfl (by assumption) (by assumption) rfl ?_ | refine eri rfl ?_ | refine erv rfl ?_ | refine erl rfl ?_ | refine era rfl ?_ | refine erz0 rfl ?_ | refine erz1 rfl ?_)
    try dsimp only [set1, set2, kilP, List.set_cons_zero, List.set_cons_succ, List.getElem?_cons_zero, List.getElem?_cons_succ, List.nil_append, List.cons_append, Option.toList_some, Option.toList_none]
    refine ei _ rfl rfl (fun c => ?_) (fun c => ?_)
    · exact absurd c (nI_ge (by omega) (by omega))
    repeat (first | refine es rfl rfl rfl ?_ | refine eg rfl (by assumption) rfl ?_ | refine eanE rfl (by assumption) (by with_reducible first | exact rfl | exact Int32.zero_add _ | exact ix8 _ | exact ix12 _ | exact ix7r _ _ | exact n7 | exact n0 | exact n1) (by assumption) rfl ?_ | refine eal rfl (by assumption) (by assumption) rfl ?_ | refine eri rfl ?_ | refine erv rfl ?_ | refine erl rfl ?_ | refine era rfl ?_ | refine erz0 rfl ?_ | refine erz1 rfl ?_)
    try dsimp only [set1, set2, kilP, List.set_cons_zero, List.set_cons_succ, List.getElem?_cons_zero, List.getElem?_cons_succ, List.nil_append, List.cons_append, Option.toList_some, Option.toList_none]
    rw [show (8 : Int32) + nI i = nI (8 + i) from nI_add 8 i]
    refine etM rfl h2 hi8 rfl (fun M2 eM => ?_)
    repeat (refine ng 167 rfl ?_; first | refine es rfl rfl rfl ?_ | refine eg rfl (by assumption) rfl ?_ | refine eanE rfl (by assumption) (by with_reducible first | exact rfl | exact Int32.zero_add _ | exact ix8 _ | exact ix12 _ | exact ix7r _ _ | exact n7 | exact n0 | exact n1) (by assumption) rfl ?_ | refine eal rfl (by assumption) (by assumption) rfl ?_ | refine eri rfl ?_ | refine erv rfl ?_ | refine erl rfl ?_ | refine era rfl ?_ | refine erz0 rfl ?_ | refine erz1 rfl ?_)
    try dsimp only [set1, set2, kilP, List.set_cons_zero, List.set_cons_succ, List.getElem?_cons_zero, List.getElem?_cons_succ, List.nil_append, List.cons_append, Option.toList_some, Option.toList_none]
    rw [nI_1]
    refine ih (i + 1) M2 _ (hy.ar2 (k := 2) eM (by omega)) (hF.up eM (by omega) (by omega)) (by omega) (fun j hj => ?_) ?_ (fun j hj => ?_) (fun j j1 j2 => ?_)
    · rw [pk_un (by omega)]; exact q1 j hj
    · rw [pk_un (by omega)]; exact q2
    · by_cases e : j = i
      · rw [e, pk_us]; exact (mP i (by omega)).2
      · rw [pk_un (by omega)]; exact q3 j (by omega)
    · rw [pk_un (by omega)]; exact q4 j (by omega) j2
end RTWN
