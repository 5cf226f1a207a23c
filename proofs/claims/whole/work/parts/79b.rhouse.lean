/-! The reference reads: a fresh name, a told house -/
section RHOUSE
variable {ad : Nat → Nat} {a b lo0 : Nat} {tp : Nat → Int32} {sc : Nat → Int64} {le : Nat} {A : Ar} {oa : Int32 × Int32 × Int32} {oq : Yq} {tw : Value} {M : Mm} {s : Except Er Nat} {T : Tw}
theorem y_fresh (h : yP M b oa tw (.ref a) oq A tp le s) (hM : aMt M a T) (ha : b + 16 ≤ a) (hN : T.hs.n + T.np ≤ 11) (hA : tpR A tp) (hl : le ≤ 1100) (hS : aSt ad lo0 M) (hc : ∀ j, j < 8 → sc j = sC j) : EvM ad 3 (iX13_readFresh ad) [.ref b] M (fun v' M' => (∃ w, v' = some (.long w) ∧ ∀ x, Except.bind s (pNew tp sc le T) = .ok x → w = x.1) ∧ Fr b 1 M M' ∧ yP M' b oa tw (.ref a) oq A tp le (nxt (Except.bind s (pNew tp sc le T)))) := by
  have key2 : ∀ M1 e, Fr b 1 M M1 → yP M1 b oa tw (.ref a) oq A tp le (.error e) → Ev ad 3 (rX13_readFresh ad) (32, [some (.ref b), none, none], [], M1) (fun v' M' => (∃ w, v' = some (.long w) ∧ ∀ x, (.error e : Except Er (Int64 × Nat)) = .ok x → w = x.1) ∧ Fr b 1 M M' ∧ yP M' b oa tw (.ref a) oq A tp le (.error e)) := by
    intro M1 e hF1 h1
    obtain ⟨⟨ta, sz, sp, so, pl, nu, fa, wa, wo⟩, hy, e1, e2, hs⟩ := id h1
    have h0 := hy.1
    repeat (first | refine es rfl rfl rfl ?_ | refine eg rfl (by assumption) rfl ?_ | refine eanE rfl (by assumption) (by with_reducible first | exact rfl | exact Int32.zero_add _ | exact ix8 _ | exact ix12 _ | exact ix7r _ _ | exact n7 | exact n0 | exact n1) (by assumption) rfl ?_ | refine eal rfl (by assumption) (by assumption) rfl ?_ | refine eri rfl ?_ | refine erv rfl ?_ | refine erl rfl ?_ | refine era rfl ?_ | refine erz0 rfl ?_ | refine erz1 rfl ?_)
    try dsimp only [set1, set2, kilP, List.set_cons_zero, List.set_cons_succ, List.getElem?_cons_zero, List.getElem?_cons_succ, List.nil_append, List.cons_append, Option.toList_some, Option.toList_none]
    refine ecv rfl rfl (by assumption) rfl rfl rfl (y_goesOn hA hl h1.er) (by first | rfl | exact Nat.blt_eq.mpr (by omega)) ?_
    rintro v M2 ⟨rfl, hF2, h2⟩
    try dsimp only [set1, set2, kilP, List.set_cons_zero, List.set_cons_succ, List.getElem?_cons_zero, List.getElem?_cons_succ, List.nil_append, List.cons_append, Option.toList_some, Option.toList_none]
    repeat (first | refine es rfl rfl rfl ?_ | refine eg rfl (by assumption) rfl ?_ | refine eanE rfl (by assumption) (by with_reducible first | exact rfl | exact Int32.zero_add _ | exact ix8 _ | exact ix12 _ | exact ix7r _ _ | exact n7 | exact n0 | exact n1) (by assumption) rfl ?_ | refine eal rfl (by assumption) (by assumption) rfl ?_ | refine eri rfl ?_ | refine erv rfl ?_ | refine erl rfl ?_ | refine era rfl ?_ | refine erz0 rfl ?_ | refine erz1 rfl ?_)
    try dsimp only [set1, set2, kilP, List.set_cons_zero, List.set_cons_succ, List.getElem?_cons_zero, List.getElem?_cons_succ, List.nil_append, List.cons_append, Option.toList_some, Option.toList_none]
    exact ⟨⟨wo, rfl, fun x hx => by cases hx⟩, hF1.tr hF2 (by omega) (by omega), h2⟩
  have key : ∀ M1 e, Fr b 1 M M1 → yP M1 b oa tw (.ref a) oq A tp le (.error e) → Ev ad 3 (rX13_readFresh ad) (12, [some (.ref b), none, none], [], M1) (fun v' M' => (∃ w, v' = some (.long w) ∧ ∀ x, (.error e : Except Er (Int64 × Nat)) = .ok x → w = x.1) ∧ Fr b 1 M M' ∧ yP M' b oa tw (.ref a) oq A tp le (.error e)) := by
    intro M1 e hF1 h1
    obtain ⟨⟨ta, sz, sp, so, pl, nu, fa, wa, wo⟩, hy, e1, e2, hs⟩ := id h1
    have h0 := hy.1
    obtain ⟨kn, Am, Bm, m0, mc, mH, mS, mP, mC, mN⟩ := hM.fr hF1 (by omega)
    have m15 : M1.1 (a + 15) = lngs 11 (Bm 15) := mc.2.2.2.2.2.2.2.2.2.2.2.2.2.2.1
    repeat (first | refine es rfl rfl rfl ?_ | refine eg rfl (by assumption) rfl ?_ | refine eanE rfl (by assumption) (by with_reducible first | exact rfl | exact Int32.zero_add _ | exact ix8 _ | exact ix12 _ | exact ix7r _ _ | exact n7 | exact n0 | exact n1) (by assumption) rfl ?_ | refine eal rfl (by assumption) (by assumption) rfl ?_ | refine eri rfl ?_ | refine erv rfl ?_ | refine erl rfl ?_ | refine era rfl ?_ | refine erz0 rfl ?_ | refine erz1 rfl ?_)
    try dsimp only [set1, set2, kilP, List.set_cons_zero, List.set_cons_succ, List.getElem?_cons_zero, List.getElem?_cons_succ, List.nil_append, List.cons_append, Option.toList_some, Option.toList_none]
    refine ecr rfl rfl (by assumption) rfl rfl rfl (y_find m0 m15 hN) (by first | rfl | exact Nat.blt_eq.mpr (by omega)) rfl ?_
    repeat (first | refine es rfl rfl rfl ?_ | refine eg rfl (by assumption) rfl ?_ | refine eanE rfl (by assumption) (by with_reducible first | exact rfl | exact Int32.zero_add _ | exact ix8 _ | exact ix12 _ | exact ix7r _ _ | exact n7 | exact n0 | exact n1) (by assumption) rfl ?_ | refine eal rfl (by assumption) (by assumption) rfl ?_ | refine eri rfl ?_ | refine erv rfl ?_ | refine erl rfl ?_ | refine era rfl ?_ | refine erz0 rfl ?_ | refine erz1 rfl ?_)
    try dsimp only [set1, set2, kilP, List.set_cons_zero, List.set_cons_succ, List.getElem?_cons_zero, List.getElem?_cons_succ, List.nil_append, List.cons_append, Option.toList_some, Option.toList_none]
    refine ei _ rfl rfl (fun c => ?_) (fun c => ?_)
    · exact key2 M1 e hF1 h1
    · repeat (first | refine es rfl rfl rfl ?_ | refine eg rfl (by assumption) rfl ?_ | refine eanE rfl (by assumption) (by with_reducible first | exact rfl | exact Int32.zero_add _ | exact ix8 _ | exact ix12 _ | exact ix7r _ _ | exact n7 | exact n0 | exact n1) (by assumption) rfl ?_ | refine eal rfl (by assumption) (by assumption) rfl ?_ | refine eri rfl ?_ | refine erv rfl ?_ | refine erl rfl ?_ | refine era rfl ?_ | refine erz0 rfl ?_ | refine erz1 rfl ?_)
      try dsimp only [set1, set2, kilP, List.set_cons_zero, List.set_cons_succ, List.getElem?_cons_zero, List.getElem?_cons_succ, List.nil_append, List.cons_append, Option.toList_some, Option.toList_none]
      refine ecv rfl rfl (by assumption) rfl rfl rfl (y_flaw (n := 3) rfl h1) (by first | rfl | exact Nat.blt_eq.mpr (by omega)) ?_
      rintro v M2 ⟨rfl, hF2, h2⟩
      try dsimp only [set1, set2, kilP, List.set_cons_zero, List.set_cons_succ, List.getElem?_cons_zero, List.getElem?_cons_succ, List.nil_append, List.cons_append, Option.toList_some, Option.toList_none]
      exact key2 M2 e (hF1.tr hF2 (by omega) (by omega)) h2
  have h' := h
  obtain ⟨⟨ta, sz, sp, so, pl, nu, fa, wa, wo⟩, hy, e1, e2, hs⟩ := h
  have h0 := hy.1
  refine ⟨Nat.le_of_ble_eq_true rfl, ?_⟩
  show Ev ad _ (rX13_readFresh ad) (0, [some (.ref b), none, none], [], M) _
  repeat (first | refine es rfl rfl rfl ?_ | refine eg rfl (by assumption) rfl ?_ | refine eanE rfl (by assumption) (by with_reducible first | exact rfl | exact Int32.zero_add _ | exact ix8 _ | exact ix12 _ | exact ix7r _ _ | exact n7 | exact n0 | exact n1) (by assumption) rfl ?_ | refine eal rfl (by assumption) (by assumption) rfl ?_ | refine eri rfl ?_ | refine erv rfl ?_ | refine erl rfl ?_ | refine era rfl ?_ | refine erz0 rfl ?_ | refine erz1 rfl ?_)
  try dsimp only [set1, set2, kilP, List.set_cons_zero, List.set_cons_succ, List.getElem?_cons_zero, List.getElem?_cons_succ, List.nil_append, List.cons_append, Option.toList_some, Option.toList_none]
  refine ecr rfl rfl (by assumption) rfl rfl rfl (y_isName h' hS hc) (by first | rfl | exact Nat.blt_eq.mpr (by omega)) rfl ?_
  match s, hs, h' with
  | .error e, hs, h' =>
    show Ev _ _ _ (_, _, [.int 0], _) _
    repeat (first | refine es rfl rfl rfl ?_ | refine eg rfl (by assumption) rfl ?_ | refine eanE rfl (by assumption) (by with_reducible first | exact rfl | exact Int32.zero_add _ | exact ix8 _ | exact ix12 _ | exact ix7r _ _ | exact n7 | exact n0 | exact n1) (by assumption) rfl ?_ | refine eal rfl (by assumption) (by assumption) rfl ?_ | refine eri rfl ?_ | refine erv rfl ?_ | refine erl rfl ?_ | refine era rfl ?_ | refine erz0 rfl ?_ | refine erz1 rfl ?_)
    try dsimp only [set1, set2, kilP, List.set_cons_zero, List.set_cons_succ, List.getElem?_cons_zero, List.getElem?_cons_succ, List.nil_append, List.cons_append, Option.toList_some, Option.toList_none]
    refine ecv rfl rfl (by assumption) rfl rfl rfl (y_flaw (n := 1) rfl h') (by first | rfl | exact Nat.blt_eq.mpr (by omega)) ?_
    rintro v M1 ⟨rfl, hF1, h1⟩
    try dsimp only [set1, set2, kilP, List.set_cons_zero, List.set_cons_succ, List.getElem?_cons_zero, List.getElem?_cons_succ, List.nil_append, List.cons_append, Option.toList_some, Option.toList_none]
    exact key M1 e hF1 h1
  | .ok p, hs, h' =>
    obtain ⟨q0, q1, q2, q3, q4, q5, q6⟩ := hs
    replace q4 : (tk tp le p).2.2.1 = 1 → wo = (tk tp le p).2.2.2.1 := q4
    by_cases k : (tk tp le p).2.2.1 = 1 ∧ sorF sc (tk tp le p).2.2.2.1 8 0 = -1
    rotate_left
    · rw [show nmV tp sc le (.ok p) = 0 from if_neg k, show Except.bind (.ok p) (pNew tp sc le T) = .error (1, (tk tp le p).1) from if_neg k]
      repeat (first | refine es rfl rfl rfl ?_ | refine eg rfl (by assumption) rfl ?_ | refine eanE rfl (by assumption) (by with_reducible first | exact rfl | exact Int32.zero_add _ | exact ix8 _ | exact ix12 _ | exact ix7r _ _ | exact n7 | exact n0 | exact n1) (by assumption) rfl ?_ | refine eal rfl (by assumption) (by assumption) rfl ?_ | refine eri rfl ?_ | refine erv rfl ?_ | refine erl rfl ?_ | refine era rfl ?_ | refine erz0 rfl ?_ | refine erz1 rfl ?_)
      try dsimp only [set1, set2, kilP, List.set_cons_zero, List.set_cons_succ, List.getElem?_cons_zero, List.getElem?_cons_succ, List.nil_append, List.cons_append, Option.toList_some, Option.toList_none]
      refine ecv rfl rfl (by assumption) rfl rfl rfl (y_flaw (n := 1) rfl h') (by first | rfl | exact Nat.blt_eq.mpr (by omega)) ?_
      rintro v M1 ⟨rfl, hF1, h1⟩
      try dsimp only [set1, set2, kilP, List.set_cons_zero, List.set_cons_succ, List.getElem?_cons_zero, List.getElem?_cons_succ, List.nil_append, List.cons_append, Option.toList_some, Option.toList_none]
      exact key M1 _ hF1 h1
    rw [show nmV tp sc le (.ok p) = 1 from if_pos k]
    have q7 := q4 k.1
    subst q7
    obtain ⟨kn, Am, Bm, m0, mc, mH, mS, mP, mC, mN⟩ := id hM
    have m15 : M.1 (a + 15) = lngs 11 (Bm 15) := mc.2.2.2.2.2.2.2.2.2.2.2.2.2.2.1
    repeat (first | refine es rfl rfl rfl ?_ | refine eg rfl (by assumption) rfl ?_ | refine eanE rfl (by assumption) (by with_reducible first | exact rfl | exact Int32.zero_add _ | exact ix8 _ | exact ix12 _ | exact ix7r _ _ | exact n7 | exact n0 | exact n1) (by assumption) rfl ?_ | refine eal rfl (by assumption) (by assumption) rfl ?_ | refine eri rfl ?_ | refine erv rfl ?_ | refine erl rfl ?_ | refine era rfl ?_ | refine erz0 rfl ?_ | refine erz1 rfl ?_)
    try dsimp only [set1, set2, kilP, List.set_cons_zero, List.set_cons_succ, List.getElem?_cons_zero, List.getElem?_cons_succ, List.nil_append, List.cons_append, Option.toList_some, Option.toList_none]
    refine ecr rfl rfl (by assumption) rfl rfl rfl (y_find m0 m15 hN) (by first | rfl | exact Nat.blt_eq.mpr (by omega)) rfl ?_
    repeat (first | refine es rfl rfl rfl ?_ | refine eg rfl (by assumption) rfl ?_ | refine eanE rfl (by assumption) (by with_reducible first | exact rfl | exact Int32.zero_add _ | exact ix8 _ | exact ix12 _ | exact ix7r _ _ | exact n7 | exact n0 | exact n1) (by assumption) rfl ?_ | refine eal rfl (by assumption) (by assumption) rfl ?_ | refine eri rfl ?_ | refine erv rfl ?_ | refine erl rfl ?_ | refine era rfl ?_ | refine erz0 rfl ?_ | refine erz1 rfl ?_)
    try dsimp only [set1, set2, kilP, List.set_cons_zero, List.set_cons_succ, List.getElem?_cons_zero, List.getElem?_cons_succ, List.nil_append, List.cons_append, Option.toList_some, Option.toList_none]
    by_cases t : tldP T (tk tp le p).2.2.2.1
    · rw [show Except.bind (.ok p) (pNew tp sc le T) = .error (3, (tk tp le p).1) from (if_pos k).trans (if_pos t)]
      refine ei _ rfl rfl (fun c => ?_) (fun c => ?_)
      · exact absurd t ((mN.nw hN).mp c)
      repeat (first | refine es rfl rfl rfl ?_ | refine eg rfl (by assumption) rfl ?_ | refine eanE rfl (by assumption) (by with_reducible first | exact rfl | exact Int32.zero_add _ | exact ix8 _ | exact ix12 _ | exact ix7r _ _ | exact n7 | exact n0 | exact n1) (by assumption) rfl ?_ | refine eal rfl (by assumption) (by assumption) rfl ?_ | refine eri rfl ?_ | refine erv rfl ?_ | refine erl rfl ?_ | refine era rfl ?_ | refine erz0 rfl ?_ | refine erz1 rfl ?_)
      try dsimp only [set1, set2, kilP, List.set_cons_zero, List.set_cons_succ, List.getElem?_cons_zero, List.getElem?_cons_succ, List.nil_append, List.cons_append, Option.toList_some, Option.toList_none]
      refine ecv rfl rfl (by assumption) rfl rfl rfl (y_flaw (n := 3) rfl h') (by first | rfl | exact Nat.blt_eq.mpr (by omega)) ?_
      rintro v M1 ⟨rfl, hF1, h1⟩
      try dsimp only [set1, set2, kilP, List.set_cons_zero, List.set_cons_succ, List.getElem?_cons_zero, List.getElem?_cons_succ, List.nil_append, List.cons_append, Option.toList_some, Option.toList_none]
      exact key2 M1 _ hF1 h1
    · rw [show Except.bind (.ok p) (pNew tp sc le T) = .ok ((tk tp le p).2.2.2.1, (tk tp le p).2.1) from (if_pos k).trans (if_neg t)]
      refine ei _ rfl rfl (fun c => ?_) (fun c => ?_)
      rotate_left
      · exact absurd ((mN.nw hN).mpr t) c
      repeat (first | refine es rfl rfl rfl ?_ | refine eg rfl (by assumption) rfl ?_ | refine eanE rfl (by assumption) (by with_reducible first | exact rfl | exact Int32.zero_add _ | exact ix8 _ | exact ix12 _ | exact ix7r _ _ | exact n7 | exact n0 | exact n1) (by assumption) rfl ?_ | refine eal rfl (by assumption) (by assumption) rfl ?_ | refine eri rfl ?_ | refine erv rfl ?_ | refine erl rfl ?_ | refine era rfl ?_ | refine erz0 rfl ?_ | refine erz1 rfl ?_)
      try dsimp only [set1, set2, kilP, List.set_cons_zero, List.set_cons_succ, List.getElem?_cons_zero, List.getElem?_cons_succ, List.nil_append, List.cons_append, Option.toList_some, Option.toList_none]
      refine ecv rfl rfl (by assumption) rfl rfl rfl (y_goesOn hA hl (h'.nx (by omega))) (by first | rfl | exact Nat.blt_eq.mpr (by omega)) ?_
      rintro v M2 ⟨rfl, hF2, h2⟩
      try dsimp only [set1, set2, kilP, List.set_cons_zero, List.set_cons_succ, List.getElem?_cons_zero, List.getElem?_cons_succ, List.nil_append, List.cons_append, Option.toList_some, Option.toList_none]
      repeat (first | refine es rfl rfl rfl ?_ | refine eg rfl (by assumption) rfl ?_ | refine eanE rfl (by assumption) (by with_reducible first | exact rfl | exact Int32.zero_add _ | exact ix8 _ | exact ix12 _ | exact ix7r _ _ | exact n7 | exact n0 | exact n1) (by assumption) rfl ?_ | refine eal rfl (by assumption) (by assumption) rfl ?_ | refine eri rfl ?_ | refine erv rfl ?_ | refine erl rfl ?_ | refine era rfl ?_ | refine erz0 rfl ?_ | refine erz1 rfl ?_)
      try dsimp only [set1, set2, kilP, List.set_cons_zero, List.set_cons_succ, List.getElem?_cons_zero, List.getElem?_cons_succ, List.nil_append, List.cons_append, Option.toList_some, Option.toList_none]
      exact ⟨⟨_, rfl, fun x hx => by injection hx with hx; rw [← hx]⟩, hF2, h2⟩
def khS (s : Except Er Nat) : Except Er (Nat × Nat) → Except Er Nat
  | .ok _ => s
  | .error e => .error e
theorem y_known' (h : yP M b oa tw (.ref a) oq A tp le s) (hM : aMt M a T) (ha : b + 16 ≤ a) (hN : T.hs.n + T.np ≤ 11) (hK : tK T) (hS : aSt ad lo0 M) (hc : ∀ j, j < 8 → sc j = sC j) : EvM ad 3 (iX13_knownHouse ad) [.ref b] M (fun v' M' => v' = some (.int (nI (wV 0 (Except.bind s (pHou tp sc le T))))) ∧ Fr b 1 M M' ∧ yP M' b oa tw (.ref a) oq A tp le (khS s (Except.bind s (pHou tp sc le T)))) := by
  have key2 : ∀ M1 e L, Fr b 1 M M1 → yP M1 b oa tw (.ref a) oq A tp le (.error e) → Ev ad 3 (rX13_knownHouse ad) (46, [some (.ref b), L], [], M1) (fun v' M' => v' = some (.int (nI 0)) ∧ Fr b 1 M M' ∧ yP M' b oa tw (.ref a) oq A tp le (.error e)) := by
    intro M1 e L hF1 h1
    obtain ⟨⟨ta, sz, sp, so, pl, nu, fa, wa, wo⟩, hy, e1, e2, hs⟩ := id h1
    replace hs : so = 5 := hs.1
    subst hs
    have h0 := hy.1
    repeat (first | refine es rfl rfl rfl ?_ | refine eg rfl (by assumption) rfl ?_ | refine eanE rfl (by assumption) (by with_reducible first | exact rfl | exact Int32.zero_add _ | exact ix8 _ | exact ix12 _ | exact ix7r _ _ | exact n7 | exact n0 | exact n1) (by assumption) rfl ?_ | refine eal rfl (by assumption) (by assumption) rfl ?_ | refine eri rfl ?_ | refine erv rfl ?_ | refine erl rfl ?_ | refine era rfl ?_ | refine erz0 rfl ?_ | refine erz1 rfl ?_)
    try dsimp only [set1, set2, kilP, List.set_cons_zero, List.set_cons_succ, List.getElem?_cons_zero, List.getElem?_cons_succ, List.nil_append, List.cons_append, Option.toList_some, Option.toList_none]
    exact ⟨rfl, hF1, h1⟩
  have key : ∀ M1 e, Fr b 1 M M1 → yP M1 b oa tw (.ref a) oq A tp le (.error e) → Ev ad 3 (rX13_knownHouse ad) (12, [some (.ref b), none], [], M1) (fun v' M' => v' = some (.int (nI 0)) ∧ Fr b 1 M M' ∧ yP M' b oa tw (.ref a) oq A tp le (.error e)) := by
    intro M1 e hF1 h1
    obtain ⟨⟨ta, sz, sp, so, pl, nu, fa, wa, wo⟩, hy, e1, e2, hs⟩ := id h1
    have h0 := hy.1
    obtain ⟨kn, Am, Bm, m0, mc, mH, mS, mP, mC, mN⟩ := hM.fr hF1 (by omega)
    have m15 : M1.1 (a + 15) = lngs 11 (Bm 15) := mc.2.2.2.2.2.2.2.2.2.2.2.2.2.2.1
    have m16 : M1.1 (a + 16) = ints 11 (Am 16) := mc.2.2.2.2.2.2.2.2.2.2.2.2.2.2.2.1
    have fl : ∀ L, Ev ad 3 (rX13_knownHouse ad) (41, [some (.ref b), L], [], M1) (fun v' M' => v' = some (.int (nI 0)) ∧ Fr b 1 M M' ∧ yP M' b oa tw (.ref a) oq A tp le (.error e)) := by
      intro L
      repeat (first | refine es rfl rfl rfl ?_ | refine eg rfl (by assumption) rfl ?_ | refine eanE rfl (by assumption) (by with_reducible first | exact rfl | exact Int32.zero_add _ | exact ix8 _ | exact ix12 _ | exact ix7r _ _ | exact n7 | exact n0 | exact n1) (by assumption) rfl ?_ | refine eal rfl (by assumption) (by assumption) rfl ?_ | refine eri rfl ?_ | refine erv rfl ?_ | refine erl rfl ?_ | refine era rfl ?_ | refine erz0 rfl ?_ | refine erz1 rfl ?_)
      try dsimp only [set1, set2, kilP, List.set_cons_zero, List.set_cons_succ, List.getElem?_cons_zero, List.getElem?_cons_succ, List.nil_append, List.cons_append, Option.toList_some, Option.toList_none]
      refine ecv rfl rfl (by assumption) rfl rfl rfl (y_flaw (n := 2) rfl h1) (by first | rfl | exact Nat.blt_eq.mpr (by omega)) ?_
      rintro v M2 ⟨rfl, hF2, h2⟩
      try dsimp only [set1, set2, kilP, List.set_cons_zero, List.set_cons_succ, List.getElem?_cons_zero, List.getElem?_cons_succ, List.nil_append, List.cons_append, Option.toList_some, Option.toList_none]
      exact key2 M2 e _ (hF1.tr hF2 (by omega) (by omega)) h2
    repeat (first | refine es rfl rfl rfl ?_ | refine eg rfl (by assumption) rfl ?_ | refine eanE rfl (by assumption) (by with_reducible first | exact rfl | exact Int32.zero_add _ | exact ix8 _ | exact ix12 _ | exact ix7r _ _ | exact n7 | exact n0 | exact n1) (by assumption) rfl ?_ | refine eal rfl (by assumption) (by assumption) rfl ?_ | refine eri rfl ?_ | refine erv rfl ?_ | refine erl rfl ?_ | refine era rfl ?_ | refine erz0 rfl ?_ | refine erz1 rfl ?_)
    try dsimp only [set1, set2, kilP, List.set_cons_zero, List.set_cons_succ, List.getElem?_cons_zero, List.getElem?_cons_succ, List.nil_append, List.cons_append, Option.toList_some, Option.toList_none]
    refine ecr rfl rfl (by assumption) rfl rfl rfl (y_find m0 m15 hN) (by first | rfl | exact Nat.blt_eq.mpr (by omega)) rfl ?_
    repeat (first | refine es rfl rfl rfl ?_ | refine eg rfl (by assumption) rfl ?_ | refine eanE rfl (by assumption) (by with_reducible first | exact rfl | exact Int32.zero_add _ | exact ix8 _ | exact ix12 _ | exact ix7r _ _ | exact n7 | exact n0 | exact n1) (by assumption) rfl ?_ | refine eal rfl (by assumption) (by assumption) rfl ?_ | refine eri rfl ?_ | refine erv rfl ?_ | refine erl rfl ?_ | refine era rfl ?_ | refine erz0 rfl ?_ | refine erz1 rfl ?_)
    try dsimp only [set1, set2, kilP, List.set_cons_zero, List.set_cons_succ, List.getElem?_cons_zero, List.getElem?_cons_succ, List.nil_append, List.cons_append, Option.toList_some, Option.toList_none]
    refine ei _ rfl rfl (fun c => ?_) (fun c => ?_)
    · exact fl _
    rcases mN.ho (w := wo) hK hN with ⟨q, _⟩ | ⟨k, k1, k2, _⟩
    · exact absurd q c
    rw [k2]
    have hk : k < 11 := by omega
    repeat (first | refine es rfl rfl rfl ?_ | refine eg rfl (by assumption) rfl ?_ | refine eanE rfl (by assumption) (by with_reducible first | exact rfl | exact Int32.zero_add _ | exact ix8 _ | exact ix12 _ | exact ix7r _ _ | exact n7 | exact n0 | exact n1) (by assumption) rfl ?_ | refine eal rfl (by assumption) (by assumption) rfl ?_ | refine eri rfl ?_ | refine erv rfl ?_ | refine erl rfl ?_ | refine era rfl ?_ | refine erz0 rfl ?_ | refine erz1 rfl ?_)
    try dsimp only [set1, set2, kilP, List.set_cons_zero, List.set_cons_succ, List.getElem?_cons_zero, List.getElem?_cons_succ, List.nil_append, List.cons_append, Option.toList_some, Option.toList_none]
    refine ei _ rfl rfl (fun c2 => ?_) (fun c2 => ?_)
    · exact key2 M1 e _ hF1 h1
    · exact fl _
  have h' := h
  obtain ⟨⟨ta, sz, sp, so, pl, nu, fa, wa, wo⟩, hy, e1, e2, hs⟩ := h
  have h0 := hy.1
  refine ⟨Nat.le_of_ble_eq_true rfl, ?_⟩
  show Ev ad _ (rX13_knownHouse ad) (0, [some (.ref b), none], [], M) _
  repeat (first | refine es rfl rfl rfl ?_ | refine eg rfl (by assumption) rfl ?_ | refine eanE rfl (by assumption) (by with_reducible first | exact rfl | exact Int32.zero_add _ | exact ix8 _ | exact ix12 _ | exact ix7r _ _ | exact n7 | exact n0 | exact n1) (by assumption) rfl ?_ | refine eal rfl (by assumption) (by assumption) rfl ?_ | refine eri rfl ?_ | refine erv rfl ?_ | refine erl rfl ?_ | refine era rfl ?_ | refine erz0 rfl ?_ | refine erz1 rfl ?_)
  try dsimp only [set1, set2, kilP, List.set_cons_zero, List.set_cons_succ, List.getElem?_cons_zero, List.getElem?_cons_succ, List.nil_append, List.cons_append, Option.toList_some, Option.toList_none]
  refine ecr rfl rfl (by assumption) rfl rfl rfl (y_isName h' hS hc) (by first | rfl | exact Nat.blt_eq.mpr (by omega)) rfl ?_
  match s, hs, h' with
  | .error e, hs, h' =>
    show Ev _ _ _ (_, _, [.int 0], _) _
    repeat (first | refine es rfl rfl rfl ?_ | refine eg rfl (by assumption) rfl ?_ | refine eanE rfl (by assumption) (by with_reducible first | exact rfl | exact Int32.zero_add _ | exact ix8 _ | exact ix12 _ | exact ix7r _ _ | exact n7 | exact n0 | exact n1) (by assumption) rfl ?_ | refine eal rfl (by assumption) (by assumption) rfl ?_ | refine eri rfl ?_ | refine erv rfl ?_ | refine erl rfl ?_ | refine era rfl ?_ | refine erz0 rfl ?_ | refine erz1 rfl ?_)
    try dsimp only [set1, set2, kilP, List.set_cons_zero, List.set_cons_succ, List.getElem?_cons_zero, List.getElem?_cons_succ, List.nil_append, List.cons_append, Option.toList_some, Option.toList_none]
    refine ecv rfl rfl (by assumption) rfl rfl rfl (y_flaw (n := 1) rfl h') (by first | rfl | exact Nat.blt_eq.mpr (by omega)) ?_
    rintro v M1 ⟨rfl, hF1, h1⟩
    try dsimp only [set1, set2, kilP, List.set_cons_zero, List.set_cons_succ, List.getElem?_cons_zero, List.getElem?_cons_succ, List.nil_append, List.cons_append, Option.toList_some, Option.toList_none]
    exact key M1 e hF1 h1
  | .ok p, hs, h' =>
    obtain ⟨q0, q1, q2, q3, q4, q5, q6⟩ := hs
    replace q1 : so = kR (tk tp le p).2.2.1 := q1
    replace q4 : (tk tp le p).2.2.1 = 1 → wo = (tk tp le p).2.2.2.1 := q4
    by_cases k : (tk tp le p).2.2.1 = 1 ∧ sorF sc (tk tp le p).2.2.2.1 8 0 = -1
    rotate_left
    · rw [show nmV tp sc le (.ok p) = 0 from if_neg k, show Except.bind (.ok p) (pHou tp sc le T) = .error (1, (tk tp le p).1) from if_neg k]
      repeat (first | refine es rfl rfl rfl ?_ | refine eg rfl (by assumption) rfl ?_ | refine eanE rfl (by assumption) (by with_reducible first | exact rfl | exact Int32.zero_add _ | exact ix8 _ | exact ix12 _ | exact ix7r _ _ | exact n7 | exact n0 | exact n1) (by assumption) rfl ?_ | refine eal rfl (by assumption) (by assumption) rfl ?_ | refine eri rfl ?_ | refine erv rfl ?_ | refine erl rfl ?_ | refine era rfl ?_ | refine erz0 rfl ?_ | refine erz1 rfl ?_)
      try dsimp only [set1, set2, kilP, List.set_cons_zero, List.set_cons_succ, List.getElem?_cons_zero, List.getElem?_cons_succ, List.nil_append, List.cons_append, Option.toList_some, Option.toList_none]
      refine ecv rfl rfl (by assumption) rfl rfl rfl (y_flaw (n := 1) rfl h') (by first | rfl | exact Nat.blt_eq.mpr (by omega)) ?_
      rintro v M1 ⟨rfl, hF1, h1⟩
      try dsimp only [set1, set2, kilP, List.set_cons_zero, List.set_cons_succ, List.getElem?_cons_zero, List.getElem?_cons_succ, List.nil_append, List.cons_append, Option.toList_some, Option.toList_none]
      exact key M1 _ hF1 h1
    rw [show nmV tp sc le (.ok p) = 1 from if_pos k]
    have q7 := q4 k.1
    subst q7
    rw [k.1] at q1
    replace q1 : so = 2 := q1
    subst q1
    obtain ⟨kn, Am, Bm, m0, mc, mH, mS, mP, mC, mN⟩ := id hM
    have m15 : M.1 (a + 15) = lngs 11 (Bm 15) := mc.2.2.2.2.2.2.2.2.2.2.2.2.2.2.1
    have m16 : M.1 (a + 16) = ints 11 (Am 16) := mc.2.2.2.2.2.2.2.2.2.2.2.2.2.2.2.1
    have m17 : M.1 (a + 17) = ints 11 (Am 17) := mc.2.2.2.2.2.2.2.2.2.2.2.2.2.2.2.2
    repeat (first | refine es rfl rfl rfl ?_ | refine eg rfl (by assumption) rfl ?_ | refine eanE rfl (by assumption) (by with_reducible first | exact rfl | exact Int32.zero_add _ | exact ix8 _ | exact ix12 _ | exact ix7r _ _ | exact n7 | exact n0 | exact n1) (by assumption) rfl ?_ | refine eal rfl (by assumption) (by assumption) rfl ?_ | refine eri rfl ?_ | refine erv rfl ?_ | refine erl rfl ?_ | refine era rfl ?_ | refine erz0 rfl ?_ | refine erz1 rfl ?_)
    try dsimp only [set1, set2, kilP, List.set_cons_zero, List.set_cons_succ, List.getElem?_cons_zero, List.getElem?_cons_succ, List.nil_append, List.cons_append, Option.toList_some, Option.toList_none]
    refine ecr rfl rfl (by assumption) rfl rfl rfl (y_find m0 m15 hN) (by first | rfl | exact Nat.blt_eq.mpr (by omega)) rfl ?_
    repeat (first | refine es rfl rfl rfl ?_ | refine eg rfl (by assumption) rfl ?_ | refine eanE rfl (by assumption) (by with_reducible first | exact rfl | exact Int32.zero_add _ | exact ix8 _ | exact ix12 _ | exact ix7r _ _ | exact n7 | exact n0 | exact n1) (by assumption) rfl ?_ | refine eal rfl (by assumption) (by assumption) rfl ?_ | refine eri rfl ?_ | refine erv rfl ?_ | refine erl rfl ?_ | refine era rfl ?_ | refine erz0 rfl ?_ | refine erz1 rfl ?_)
    try dsimp only [set1, set2, kilP, List.set_cons_zero, List.set_cons_succ, List.getElem?_cons_zero, List.getElem?_cons_succ, List.nil_append, List.cons_append, Option.toList_some, Option.toList_none]
    have bad : calF T.hs.nm (tk tp le p).2.2.2.1 T.hs.n 0 = -1 → ∀ L, Ev ad 3 (rX13_knownHouse ad) (41, [some (.ref b), L], [], M) (fun v' M' => v' = some (.int (nI (wV 0 (Except.bind (.ok p) (pHou tp sc le T))))) ∧ Fr b 1 M M' ∧ yP M' b oa tw (.ref a) oq A tp le (khS (.ok p) (Except.bind (.ok p) (pHou tp sc le T)))) := by
      intro q L
      rw [show Except.bind (.ok p) (pHou tp sc le T) = .error (2, (tk tp le p).1) from (if_pos k).trans (if_pos q)]
      repeat (first | refine es rfl rfl rfl ?_ | refine eg rfl (by assumption) rfl ?_ | refine eanE rfl (by assumption) (by with_reducible first | exact rfl | exact Int32.zero_add _ | exact ix8 _ | exact ix12 _ | exact ix7r _ _ | exact n7 | exact n0 | exact n1) (by assumption) rfl ?_ | refine eal rfl (by assumption) (by assumption) rfl ?_ | refine eri rfl ?_ | refine erv rfl ?_ | refine erl rfl ?_ | refine era rfl ?_ | refine erz0 rfl ?_ | refine erz1 rfl ?_)
      try dsimp only [set1, set2, kilP, List.set_cons_zero, List.set_cons_succ, List.getElem?_cons_zero, List.getElem?_cons_succ, List.nil_append, List.cons_append, Option.toList_some, Option.toList_none]
      refine ecv rfl rfl (by assumption) rfl rfl rfl (y_flaw (n := 2) rfl h') (by first | rfl | exact Nat.blt_eq.mpr (by omega)) ?_
      rintro v M2 ⟨rfl, hF2, h2⟩
      try dsimp only [set1, set2, kilP, List.set_cons_zero, List.set_cons_succ, List.getElem?_cons_zero, List.getElem?_cons_succ, List.nil_append, List.cons_append, Option.toList_some, Option.toList_none]
      exact key2 M2 _ _ hF2 h2
    rcases mN.ho (w := (tk tp le p).2.2.2.1) hK hN with ⟨q, q2⟩ | ⟨j, k1, k2, ⟨x0, x, x1, x2, x3⟩ | ⟨x0, x1⟩⟩
    · refine ei _ rfl rfl (fun c => ?_) (fun c => ?_)
      · exact bad q2 _
      · exact absurd q c
    · have hj : j < 11 := by omega
      rw [k2]
      have hne : ¬ nI j = -1 := by
        intro h
        have h9 := congrArg Int32.toInt h
        rw [nI_toInt (by omega)] at h9
        have h8 : (-1 : Int32).toInt = -1 := by decide
        omega
      have hnx : ¬ calF T.hs.nm (tk tp le p).2.2.2.1 T.hs.n 0 = -1 := by
        rw [x3]
        intro h
        have h9 := congrArg Int32.toInt h
        rw [nI_toInt (by omega)] at h9
        have h8 : (-1 : Int32).toInt = -1 := by decide
        omega
      rw [show Except.bind (.ok p) (pHou tp sc le T) = .ok (x, (tk tp le p).2.1) from (if_pos k).trans ((if_neg hnx).trans (by rw [x3, nI_clamp (by omega)]))]
      refine ei _ rfl rfl (fun c => ?_) (fun c => ?_)
      · exact absurd c hne
      repeat (first | refine es rfl rfl rfl ?_ | refine eg rfl (by assumption) rfl ?_ | refine eanE rfl (by assumption) (by with_reducible first | exact rfl | exact Int32.zero_add _ | exact ix8 _ | exact ix12 _ | exact ix7r _ _ | exact n7 | exact n0 | exact n1) (by assumption) rfl ?_ | refine eal rfl (by assumption) (by assumption) rfl ?_ | refine eri rfl ?_ | refine erv rfl ?_ | refine erl rfl ?_ | refine era rfl ?_ | refine erz0 rfl ?_ | refine erz1 rfl ?_)
      try dsimp only [set1, set2, kilP, List.set_cons_zero, List.set_cons_succ, List.getElem?_cons_zero, List.getElem?_cons_succ, List.nil_append, List.cons_append, Option.toList_some, Option.toList_none]
      rw [x0]
      repeat (first | refine es rfl rfl rfl ?_ | refine eg rfl (by assumption) rfl ?_ | refine eanE rfl (by assumption) (by with_reducible first | exact rfl | exact Int32.zero_add _ | exact ix8 _ | exact ix12 _ | exact ix7r _ _ | exact n7 | exact n0 | exact n1) (by assumption) rfl ?_ | refine eal rfl (by assumption) (by assumption) rfl ?_ | refine eri rfl ?_ | refine erv rfl ?_ | refine erl rfl ?_ | refine era rfl ?_ | refine erz0 rfl ?_ | refine erz1 rfl ?_)
      try dsimp only [set1, set2, kilP, List.set_cons_zero, List.set_cons_succ, List.getElem?_cons_zero, List.getElem?_cons_succ, List.nil_append, List.cons_append, Option.toList_some, Option.toList_none]
      rw [x2]
      exact ⟨rfl, Fr.rf b 1 M, h'⟩
    · have hj : j < 11 := by omega
      rw [k2]
      refine ei _ rfl rfl (fun c => ?_) (fun c => ?_)
      · exact bad x1 _
      repeat (first | refine es rfl rfl rfl ?_ | refine eg rfl (by assumption) rfl ?_ | refine eanE rfl (by assumption) (by with_reducible first | exact rfl | exact Int32.zero_add _ | exact ix8 _ | exact ix12 _ | exact ix7r _ _ | exact n7 | exact n0 | exact n1) (by assumption) rfl ?_ | refine eal rfl (by assumption) (by assumption) rfl ?_ | refine eri rfl ?_ | refine erv rfl ?_ | refine erl rfl ?_ | refine era rfl ?_ | refine erz0 rfl ?_ | refine erz1 rfl ?_)
      try dsimp only [set1, set2, kilP, List.set_cons_zero, List.set_cons_succ, List.getElem?_cons_zero, List.getElem?_cons_succ, List.nil_append, List.cons_append, Option.toList_some, Option.toList_none]
      rw [x0]
      repeat (refine ng 41 rfl ?_; first | refine es rfl rfl rfl ?_ | refine eg rfl (by assumption) rfl ?_ | refine eanE rfl (by assumption) (by with_reducible first | exact rfl | exact Int32.zero_add _ | exact ix8 _ | exact ix12 _ | exact ix7r _ _ | exact n7 | exact n0 | exact n1) (by assumption) rfl ?_ | refine eal rfl (by assumption) (by assumption) rfl ?_ | refine eri rfl ?_ | refine erv rfl ?_ | refine erl rfl ?_ | refine era rfl ?_ | refine erz0 rfl ?_ | refine erz1 rfl ?_)
      try dsimp only [set1, set2, kilP, List.set_cons_zero, List.set_cons_succ, List.getElem?_cons_zero, List.getElem?_cons_succ, List.nil_append, List.cons_append, Option.toList_some, Option.toList_none]
      exact bad x1 _
theorem khS_nx {T : Tw} (h : yP M b oa tw (.ref a) oq A tp le (khS s (Except.bind s (pHou tp sc le T)))) : yN M b oa tw (.ref a) oq A le (nxt (Except.bind s (pHou tp sc le T))) := by
  match s, h with
  | .error e, h => exact h.er
  | .ok p, h =>
    revert h
    rw [show Except.bind (.ok p) (pHou tp sc le T) = pHou tp sc le T p from rfl]
    unfold pHou
    split
    · rename_i k
      split
      · exact fun h => h.er
      · exact fun h => yP.nx (p := p) h (by omega)
    · exact fun h => h.er
theorem y_rHouse (h : yP M b oa tw (.ref a) oq A tp le s) (hM : aMt M a T) (ha : b + 16 ≤ a) (hN : T.hs.n + T.np ≤ 11) (hK : tK T) (hA : tpR A tp) (hl : le ≤ 1100) (hS : aSt ad lo0 M) (hc : ∀ j, j < 8 → sc j = sC j) : EvM ad 4 (iX13_readHouse ad) [.ref b] M (fun v' M' => v' = some (.int (nI (wV 0 (Except.bind s (pHou tp sc le T))))) ∧ Fr b 1 M M' ∧ yP M' b oa tw (.ref a) oq A tp le (nxt (Except.bind s (pHou tp sc le T)))) := by
  have ⟨r, hy, _⟩ := id h
  have h0 := hy.1
  refine ⟨Nat.le_of_ble_eq_true rfl, ?_⟩
  show Ev ad _ (rX13_readHouse ad) (0, [some (.ref b), none], [], M) _
  repeat (first | refine es rfl rfl rfl ?_ | refine eg rfl (by assumption) rfl ?_ | refine eanE rfl (by assumption) (by with_reducible first | exact rfl | exact Int32.zero_add _ | exact ix8 _ | exact ix12 _ | exact ix7r _ _ | exact n7 | exact n0 | exact n1) (by assumption) rfl ?_ | refine eal rfl (by assumption) (by assumption) rfl ?_ | refine eri rfl ?_ | refine erv rfl ?_ | refine erl rfl ?_ | refine era rfl ?_ | refine erz0 rfl ?_ | refine erz1 rfl ?_)
  try dsimp only [set1, set2, kilP, List.set_cons_zero, List.set_cons_succ, List.getElem?_cons_zero, List.getElem?_cons_succ, List.nil_append, List.cons_append, Option.toList_some, Option.toList_none]
  refine ecv rfl rfl (by assumption) rfl rfl rfl (y_known' h hM ha hN hK hS hc) (by first | rfl | exact Nat.blt_eq.mpr (by omega)) ?_
  rintro v M1 ⟨rfl, hF1, h1⟩
  have ⟨r1, hy1, _⟩ := id h1
  have k0 := hy1.1
  try dsimp only [set1, set2, kilP, List.set_cons_zero, List.set_cons_succ, List.getElem?_cons_zero, List.getElem?_cons_succ, List.nil_append, List.cons_append, Option.toList_some, Option.toList_none]
  repeat (first | refine es rfl rfl rfl ?_ | refine eg rfl (by assumption) rfl ?_ | refine eanE rfl (by assumption) (by with_reducible first | exact rfl | exact Int32.zero_add _ | exact ix8 _ | exact ix12 _ | exact ix7r _ _ | exact n7 | exact n0 | exact n1) (by assumption) rfl ?_ | refine eal rfl (by assumption) (by assumption) rfl ?_ | refine eri rfl ?_ | refine erv rfl ?_ | refine erl rfl ?_ | refine era rfl ?_ | refine erz0 rfl ?_ | refine erz1 rfl ?_)
  try dsimp only [set1, set2, kilP, List.set_cons_zero, List.set_cons_succ, List.getElem?_cons_zero, List.getElem?_cons_succ, List.nil_append, List.cons_append, Option.toList_some, Option.toList_none]
  refine ecv rfl rfl (by assumption) rfl rfl rfl (y_goesOn hA hl (khS_nx h1)) (by first | rfl | exact Nat.blt_eq.mpr (by omega)) ?_
  rintro v M2 ⟨rfl, hF2, h2⟩
  try dsimp only [set1, set2, kilP, List.set_cons_zero, List.set_cons_succ, List.getElem?_cons_zero, List.getElem?_cons_succ, List.nil_append, List.cons_append, Option.toList_some, Option.toList_none]
  repeat (first | refine es rfl rfl rfl ?_ | refine eg rfl (by assumption) rfl ?_ | refine eanE rfl (by assumption) (by with_reducible first | exact rfl | exact Int32.zero_add _ | exact ix8 _ | exact ix12 _ | exact ix7r _ _ | exact n7 | exact n0 | exact n1) (by assumption) rfl ?_ | refine eal rfl (by assumption) (by assumption) rfl ?_ | refine eri rfl ?_ | refine erv rfl ?_ | refine erl rfl ?_ | refine era rfl ?_ | refine erz0 rfl ?_ | refine erz1 rfl ?_)
  try dsimp only [set1, set2, kilP, List.set_cons_zero, List.set_cons_succ, List.getElem?_cons_zero, List.getElem?_cons_succ, List.nil_append, List.cons_append, Option.toList_some, Option.toList_none]
  exact ⟨rfl, hF1.tr hF2 (by omega) (by omega), h2⟩
theorem y_pHouse {i : Nat} (h : yP M b oa tw (.ref a) oq A tp le s) (hM : aMt M a T) (ha : b + 16 ≤ a) (hN : T.hs.n + T.np ≤ 11) (hK : tK T) (hA : tpR A tp) (hl : le ≤ 1100) (hS : aSt ad lo0 M) (hb : lo0 ≤ b) (hi : i < 20) (hc : ∀ j, j < 8 → sc j = sC j) : EvM ad 5 (iX13_readPartHouse ad) [.ref b, .ref (ad i)] M (fun v' M' => v' = some (.int (nI (wV 0 (Except.bind (Except.bind s (pThis tp le i)) (pHou tp sc le T))))) ∧ Fr b 1 M M' ∧ yP M' b oa tw (.ref a) oq A tp le (nxt (Except.bind (Except.bind s (pThis tp le i)) (pHou tp sc le T)))) := by
  have ⟨r, hy, _⟩ := id h
  have h0 := hy.1
  refine ⟨Nat.le_of_ble_eq_true rfl, ?_⟩
  show Ev ad _ (rX13_readPartHouse ad) (0, [some (.ref b), some (.ref (ad i))], [], M) _
  repeat (first | refine es rfl rfl rfl ?_ | refine eg rfl (by assumption) rfl ?_ | refine eanE rfl (by assumption) (by with_reducible first | exact rfl | exact Int32.zero_add _ | exact ix8 _ | exact ix12 _ | exact ix7r _ _ | exact n7 | exact n0 | exact n1) (by assumption) rfl ?_ | refine eal rfl (by assumption) (by assumption) rfl ?_ | refine eri rfl ?_ | refine erv rfl ?_ | refine erl rfl ?_ | refine era rfl ?_ | refine erz0 rfl ?_ | refine erz1 rfl ?_)
  try dsimp only [set1, set2, kilP, List.set_cons_zero, List.set_cons_succ, List.getElem?_cons_zero, List.getElem?_cons_succ, List.nil_append, List.cons_append, Option.toList_some, Option.toList_none]
  refine ecv rfl rfl (by assumption) rfl rfl rfl (y_needs h hA hl hS hi) (by first | rfl | exact Nat.blt_eq.mpr (by omega)) ?_
  rintro v M1 ⟨rfl, hF1, h1⟩
  have ⟨r1, hy1, _⟩ := id h1
  have k0 := hy1.1
  try dsimp only [set1, set2, kilP, List.set_cons_zero, List.set_cons_succ, List.getElem?_cons_zero, List.getElem?_cons_succ, List.nil_append, List.cons_append, Option.toList_some, Option.toList_none]
  repeat (first | refine es rfl rfl rfl ?_ | refine eg rfl (by assumption) rfl ?_ | refine eanE rfl (by assumption) (by with_reducible first | exact rfl | exact Int32.zero_add _ | exact ix8 _ | exact ix12 _ | exact ix7r _ _ | exact n7 | exact n0 | exact n1) (by assumption) rfl ?_ | refine eal rfl (by assumption) (by assumption) rfl ?_ | refine eri rfl ?_ | refine erv rfl ?_ | refine erl rfl ?_ | refine era rfl ?_ | refine erz0 rfl ?_ | refine erz1 rfl ?_)
  try dsimp only [set1, set2, kilP, List.set_cons_zero, List.set_cons_succ, List.getElem?_cons_zero, List.getElem?_cons_succ, List.nil_append, List.cons_append, Option.toList_some, Option.toList_none]
  refine ecv rfl rfl (by assumption) rfl rfl rfl (y_rHouse h1 (hM.fr hF1 (by omega)) ha hN hK hA hl (hS.fr hF1 hb) hc) (by first | rfl | exact Nat.blt_eq.mpr (by omega)) ?_
  rintro v M2 ⟨rfl, hF2, h2⟩
  try dsimp only [set1, set2, kilP, List.set_cons_zero, List.set_cons_succ, List.getElem?_cons_zero, List.getElem?_cons_succ, List.nil_append, List.cons_append, Option.toList_some, Option.toList_none]
  repeat (first | refine es rfl rfl rfl ?_ | refine eg rfl (by assumption) rfl ?_ | refine eanE rfl (by assumption) (by with_reducible first | exact rfl | exact Int32.zero_add _ | exact ix8 _ | exact ix12 _ | exact ix7r _ _ | exact n7 | exact n0 | exact n1) (by assumption) rfl ?_ | refine eal rfl (by assumption) (by assumption) rfl ?_ | refine eri rfl ?_ | refine erv rfl ?_ | refine erl rfl ?_ | refine era rfl ?_ | refine erz0 rfl ?_ | refine erz1 rfl ?_)
  try dsimp only [set1, set2, kilP, List.set_cons_zero, List.set_cons_succ, List.getElem?_cons_zero, List.getElem?_cons_succ, List.nil_append, List.cons_append, Option.toList_some, Option.toList_none]
  exact ⟨rfl, hF1.tr hF2 (by omega) (by omega), h2⟩
end RHOUSE
