/-! The reference reads: all lines -/
section RALL
variable {ad : Nat → Nat} {a b lo0 : Nat} {tp : Nat → Int32} {sc : Nat → Int64} {le : Nat} {A : Ar} {oa : Int32 × Int32 × Int32} {oq : Yq} {tw : Value} {M M0 : Mm} {T : Tw}
def alQ (M0 : Mm) (b a : Nat) (oa : Int32 × Int32 × Int32) (tw : Value) (oq : Yq) (A : Ar) (tp : Nat → Int32) (le : Nat) (R : Except Er (Tw × Nat)) (v' : Option Value) (M' : Mm) : Prop := v' = none ∧ FY b a M0 M' ∧ match R with
  | .ok x => if x.1.hs.n < 2 then yP M' b oa tw (.ref a) oq A tp le (.error (6, x.2)) else (∃ q, yP M' b oa tw (.ref a) oq A tp le (.ok q)) ∧ aMt M' a x.1
  | .error e => yP M' b oa tw (.ref a) oq A tp le (.error e)
theorem y_all_over {e : Er} {L : Option Value} (h : yP M b oa tw (.ref a) oq A tp le (.error e)) (hM : aMt M a T) (ha : b + 16 ≤ a) (hG : FY b a M0 M) : Ev ad 8 (rX13_readAll ad) (18, [some (.ref b), L], [], M) (alQ M0 b a oa tw oq A tp le (.error e)) := by
  obtain ⟨⟨ta, sz, sp, so, pl, nu, fa, wa, wo⟩, hy9, e1, e2, q9, _⟩ := id h
  replace q9 : so = 5 := q9
  subst q9
  have k9 := hy9.1
  repeat (first | refine es rfl rfl rfl ?_ | refine eg rfl (by assumption) rfl ?_ | refine eanE rfl (by assumption) (by with_reducible first | exact rfl | exact Int32.zero_add _ | exact ix8 _ | exact ix12 _ | exact ix7r _ _ | exact n7 | exact n0 | exact n1) (by assumption) rfl ?_ | refine eal rfl (by assumption) (by assumption) rfl ?_ | refine eri rfl ?_ | refine erv rfl ?_ | refine erl rfl ?_ | refine era rfl ?_ | refine erz0 rfl ?_ | refine erz1 rfl ?_)
  try dsimp only [set1, set2, kilP, List.set_cons_zero, List.set_cons_succ, List.getElem?_cons_zero, List.getElem?_cons_succ, List.nil_append, List.cons_append, Option.toList_some, Option.toList_none]
  refine ecv rfl rfl (by assumption) rfl rfl rfl (y_flaw (n := 1) rfl h) (by first | rfl | exact Nat.blt_eq.mpr (by omega)) ?_
  rintro v M1 ⟨rfl, hF1, h1⟩
  obtain ⟨⟨ta1, sz1, sp1, so1, pl1, nu1, fa1, wa1, wo1⟩, hy1, _⟩ := id h1
  have j1 := hy1.1
  obtain ⟨kn, Am, Bm, m0, mc, _⟩ := hM.fr hF1 (by omega)
  try dsimp only [set1, set2, kilP, List.set_cons_zero, List.set_cons_succ, List.getElem?_cons_zero, List.getElem?_cons_succ, List.nil_append, List.cons_append, Option.toList_some, Option.toList_none]
  repeat (first | refine es rfl rfl rfl ?_ | refine eg rfl (by assumption) rfl ?_ | refine eanE rfl (by assumption) (by with_reducible first | exact rfl | exact Int32.zero_add _ | exact ix8 _ | exact ix12 _ | exact ix7r _ _ | exact n7 | exact n0 | exact n1) (by assumption) rfl ?_ | refine eal rfl (by assumption) (by assumption) rfl ?_ | refine eri rfl ?_ | refine erv rfl ?_ | refine erl rfl ?_ | refine era rfl ?_ | refine erz0 rfl ?_ | refine erz1 rfl ?_)
  try dsimp only [set1, set2, kilP, List.set_cons_zero, List.set_cons_succ, List.getElem?_cons_zero, List.getElem?_cons_succ, List.nil_append, List.cons_append, Option.toList_some, Option.toList_none]
  refine ei _ rfl rfl (fun c => ?_) (fun c => ?_)
  · repeat (first | refine es rfl rfl rfl ?_ | refine eg rfl (by assumption) rfl ?_ | refine eanE rfl (by assumption) (by with_reducible first | exact rfl | exact Int32.zero_add _ | exact ix8 _ | exact ix12 _ | exact ix7r _ _ | exact n7 | exact n0 | exact n1) (by assumption) rfl ?_ | refine eal rfl (by assumption) (by assumption) rfl ?_ | refine eri rfl ?_ | refine erv rfl ?_ | refine erl rfl ?_ | refine era rfl ?_ | refine erz0 rfl ?_ | refine erz1 rfl ?_)
    try dsimp only [set1, set2, kilP, List.set_cons_zero, List.set_cons_succ, List.getElem?_cons_zero, List.getElem?_cons_succ, List.nil_append, List.cons_append, Option.toList_some, Option.toList_none]
    exact ⟨rfl, hG.w hF1, h1⟩
  · repeat (first | refine es rfl rfl rfl ?_ | refine eg rfl (by assumption) rfl ?_ | refine eanE rfl (by assumption) (by with_reducible first | exact rfl | exact Int32.zero_add _ | exact ix8 _ | exact ix12 _ | exact ix7r _ _ | exact n7 | exact n0 | exact n1) (by assumption) rfl ?_ | refine eal rfl (by assumption) (by assumption) rfl ?_ | refine eri rfl ?_ | refine erv rfl ?_ | refine erl rfl ?_ | refine era rfl ?_ | refine erz0 rfl ?_ | refine erz1 rfl ?_)
    try dsimp only [set1, set2, kilP, List.set_cons_zero, List.set_cons_succ, List.getElem?_cons_zero, List.getElem?_cons_succ, List.nil_append, List.cons_append, Option.toList_some, Option.toList_none]
    refine ecv rfl rfl (by assumption) rfl rfl rfl (y_flaw (n := 6) rfl h1) (by first | rfl | exact Nat.blt_eq.mpr (by omega)) ?_
    rintro v M2 ⟨rfl, hF2, h2⟩
    try dsimp only [set1, set2, kilP, List.set_cons_zero, List.set_cons_succ, List.getElem?_cons_zero, List.getElem?_cons_succ, List.nil_append, List.cons_append, Option.toList_some, Option.toList_none]
    repeat (first | refine es rfl rfl rfl ?_ | refine eg rfl (by assumption) rfl ?_ | refine eanE rfl (by assumption) (by with_reducible first | exact rfl | exact Int32.zero_add _ | exact ix8 _ | exact ix12 _ | exact ix7r _ _ | exact n7 | exact n0 | exact n1) (by assumption) rfl ?_ | refine eal rfl (by assumption) (by assumption) rfl ?_ | refine eri rfl ?_ | refine erv rfl ?_ | refine erl rfl ?_ | refine era rfl ?_ | refine erz0 rfl ?_ | refine erz1 rfl ?_)
    try dsimp only [set1, set2, kilP, List.set_cons_zero, List.set_cons_succ, List.getElem?_cons_zero, List.getElem?_cons_succ, List.nil_append, List.cons_append, Option.toList_some, Option.toList_none]
    exact ⟨rfl, (hG.w hF1).w hF2, h2⟩
theorem y_all_end {p : Nat} {L : Option Value} (h : yP M b oa tw (.ref a) oq A tp le (.ok p)) (hk : ¬ (tk tp le p).2.2.1 = 3) (hM : aMt M a T) (hT : T.hs.n ≤ 7) (ha : b + 16 ≤ a) (hG : FY b a M0 M) {n : Nat} (hn : 0 < n) : Ev ad 8 (rX13_readAll ad) (18, [some (.ref b), L], [], M) (alQ M0 b a oa tw oq A tp le (pLoop tp sc le n T (tk tp le p).2.2.1 (tk tp le p).2.1 (tk tp le p).1)) := by
  obtain ⟨⟨ta, sz, sp, so, pl, nu, fa, wa, wo⟩, hy9, e1, e2, q8, q9, _⟩ := id h
  replace q9 : so = kR (tk tp le p).2.2.1 := q9
  have k9 := hy9.1
  obtain ⟨n, rfl⟩ : ∃ m, n = m + 1 := ⟨n - 1, by omega⟩
  by_cases k0 : (tk tp le p).2.2.1 = 0
  · rw [show pLoop tp sc le (n + 1) T (tk tp le p).2.2.1 (tk tp le p).2.1 (tk tp le p).1 = .ok (T, (tk tp le p).1) by rw [pLoop, if_pos k0]]
    rw [k0] at q9
    replace q9 : so = 1 := q9
    subst q9
    obtain ⟨kn, Am, Bm, m0, mc, _⟩ := id hM
    repeat (first | refine es rfl rfl rfl ?_ | refine eg rfl (by assumption) rfl ?_ | refine eanE rfl (by assumption) (by with_reducible first | exact rfl | exact Int32.zero_add _ | exact ix8 _ | exact ix12 _ | exact ix7r _ _ | exact n7 | exact n0 | exact n1) (by assumption) rfl ?_ | refine eal rfl (by assumption) (by assumption) rfl ?_ | refine eri rfl ?_ | refine erv rfl ?_ | refine erl rfl ?_ | refine era rfl ?_ | refine erz0 rfl ?_ | refine erz1 rfl ?_)
    try dsimp only [set1, set2, kilP, List.set_cons_zero, List.set_cons_succ, List.getElem?_cons_zero, List.getElem?_cons_succ, List.nil_append, List.cons_append, Option.toList_some, Option.toList_none]
    refine ei _ rfl rfl (fun c => ?_) (fun c => ?_)
    · have h2 : ¬ T.hs.n < 2 := fun q => absurd c (nI_ge (b := 2) q (by omega))
      repeat (first | refine es rfl rfl rfl ?_ | refine eg rfl (by assumption) rfl ?_ | refine eanE rfl (by assumption) (by with_reducible first | exact rfl | exact Int32.zero_add _ | exact ix8 _ | exact ix12 _ | exact ix7r _ _ | exact n7 | exact n0 | exact n1) (by assumption) rfl ?_ | refine eal rfl (by assumption) (by assumption) rfl ?_ | refine eri rfl ?_ | refine erv rfl ?_ | refine erl rfl ?_ | refine era rfl ?_ | refine erz0 rfl ?_ | refine erz1 rfl ?_)
      try dsimp only [set1, set2, kilP, List.set_cons_zero, List.set_cons_succ, List.getElem?_cons_zero, List.getElem?_cons_succ, List.nil_append, List.cons_append, Option.toList_some, Option.toList_none]
      refine ⟨rfl, hG, ?_⟩
      show if T.hs.n < 2 then _ else _
      rw [if_neg h2]
      exact ⟨⟨p, h⟩, hM⟩
    · have h2 : T.hs.n < 2 := Decidable.byContradiction fun q => c (nI_le (a := 2) (by omega) (by omega))
      repeat (first | refine es rfl rfl rfl ?_ | refine eg rfl (by assumption) rfl ?_ | refine eanE rfl (by assumption) (by with_reducible first | exact rfl | exact Int32.zero_add _ | exact ix8 _ | exact ix12 _ | exact ix7r _ _ | exact n7 | exact n0 | exact n1) (by assumption) rfl ?_ | refine eal rfl (by assumption) (by assumption) rfl ?_ | refine eri rfl ?_ | refine erv rfl ?_ | refine erl rfl ?_ | refine era rfl ?_ | refine erz0 rfl ?_ | refine erz1 rfl ?_)
      try dsimp only [set1, set2, kilP, List.set_cons_zero, List.set_cons_succ, List.getElem?_cons_zero, List.getElem?_cons_succ, List.nil_append, List.cons_append, Option.toList_some, Option.toList_none]
      refine ecv rfl rfl (by assumption) rfl rfl rfl (y_flaw (n := 6) rfl h) (by first | rfl | exact Nat.blt_eq.mpr (by omega)) ?_
      rintro v M2 ⟨rfl, hF2, h3⟩
      try dsimp only [set1, set2, kilP, List.set_cons_zero, List.set_cons_succ, List.getElem?_cons_zero, List.getElem?_cons_succ, List.nil_append, List.cons_append, Option.toList_some, Option.toList_none]
      repeat (first | refine es rfl rfl rfl ?_ | refine eg rfl (by assumption) rfl ?_ | refine eanE rfl (by assumption) (by with_reducible first | exact rfl | exact Int32.zero_add _ | exact ix8 _ | exact ix12 _ | exact ix7r _ _ | exact n7 | exact n0 | exact n1) (by assumption) rfl ?_ | refine eal rfl (by assumption) (by assumption) rfl ?_ | refine eri rfl ?_ | refine erv rfl ?_ | refine erl rfl ?_ | refine era rfl ?_ | refine erz0 rfl ?_ | refine erz1 rfl ?_)
      try dsimp only [set1, set2, kilP, List.set_cons_zero, List.set_cons_succ, List.getElem?_cons_zero, List.getElem?_cons_succ, List.nil_append, List.cons_append, Option.toList_some, Option.toList_none]
      refine ⟨rfl, hG.w hF2, ?_⟩
      show if T.hs.n < 2 then _ else _
      rw [if_pos h2]
      exact h3
  · rw [show pLoop tp sc le (n + 1) T (tk tp le p).2.2.1 (tk tp le p).2.1 (tk tp le p).1 = .error (1, (tk tp le p).1) by rw [pLoop, if_neg k0, if_pos hk]]
    repeat (first | refine es rfl rfl rfl ?_ | refine eg rfl (by assumption) rfl ?_ | refine eanE rfl (by assumption) (by with_reducible first | exact rfl | exact Int32.zero_add _ | exact ix8 _ | exact ix12 _ | exact ix7r _ _ | exact n7 | exact n0 | exact n1) (by assumption) rfl ?_ | refine eal rfl (by assumption) (by assumption) rfl ?_ | refine eri rfl ?_ | refine erv rfl ?_ | refine erl rfl ?_ | refine era rfl ?_ | refine erz0 rfl ?_ | refine erz1 rfl ?_)
    try dsimp only [set1, set2, kilP, List.set_cons_zero, List.set_cons_succ, List.getElem?_cons_zero, List.getElem?_cons_succ, List.nil_append, List.cons_append, Option.toList_some, Option.toList_none]
    refine ei _ rfl rfl (fun c => ?_) (fun c => ?_)
    · exact absurd ((kR_1 _).mp (q9.symm.trans c)) k0
    repeat (first | refine es rfl rfl rfl ?_ | refine eg rfl (by assumption) rfl ?_ | refine eanE rfl (by assumption) (by with_reducible first | exact rfl | exact Int32.zero_add _ | exact ix8 _ | exact ix12 _ | exact ix7r _ _ | exact n7 | exact n0 | exact n1) (by assumption) rfl ?_ | refine eal rfl (by assumption) (by assumption) rfl ?_ | refine eri rfl ?_ | refine erv rfl ?_ | refine erl rfl ?_ | refine era rfl ?_ | refine erz0 rfl ?_ | refine erz1 rfl ?_)
    try dsimp only [set1, set2, kilP, List.set_cons_zero, List.set_cons_succ, List.getElem?_cons_zero, List.getElem?_cons_succ, List.nil_append, List.cons_append, Option.toList_some, Option.toList_none]
    refine ecv rfl rfl (by assumption) rfl rfl rfl (y_flaw (n := 1) rfl h) (by first | rfl | exact Nat.blt_eq.mpr (by omega)) ?_
    rintro v M1 ⟨rfl, hF1, h1⟩
    obtain ⟨⟨ta1, sz1, sp1, so1, pl1, nu1, fa1, wa1, wo1⟩, hy1, _⟩ := id h1
    have j1 := hy1.1
    obtain ⟨kn, Am, Bm, m0, mc, _⟩ := hM.fr hF1 (by omega)
    try dsimp only [set1, set2, kilP, List.set_cons_zero, List.set_cons_succ, List.getElem?_cons_zero, List.getElem?_cons_succ, List.nil_append, List.cons_append, Option.toList_some, Option.toList_none]
    repeat (first | refine es rfl rfl rfl ?_ | refine eg rfl (by assumption) rfl ?_ | refine eanE rfl (by assumption) (by with_reducible first | exact rfl | exact Int32.zero_add _ | exact ix8 _ | exact ix12 _ | exact ix7r _ _ | exact n7 | exact n0 | exact n1) (by assumption) rfl ?_ | refine eal rfl (by assumption) (by assumption) rfl ?_ | refine eri rfl ?_ | refine erv rfl ?_ | refine erl rfl ?_ | refine era rfl ?_ | refine erz0 rfl ?_ | refine erz1 rfl ?_)
    try dsimp only [set1, set2, kilP, List.set_cons_zero, List.set_cons_succ, List.getElem?_cons_zero, List.getElem?_cons_succ, List.nil_append, List.cons_append, Option.toList_some, Option.toList_none]
    refine ei _ rfl rfl (fun c2 => ?_) (fun c2 => ?_)
    · repeat (first | refine es rfl rfl rfl ?_ | refine eg rfl (by assumption) rfl ?_ | refine eanE rfl (by assumption) (by with_reducible first | exact rfl | exact Int32.zero_add _ | exact ix8 _ | exact ix12 _ | exact ix7r _ _ | exact n7 | exact n0 | exact n1) (by assumption) rfl ?_ | refine eal rfl (by assumption) (by assumption) rfl ?_ | refine eri rfl ?_ | refine erv rfl ?_ | refine erl rfl ?_ | refine era rfl ?_ | refine erz0 rfl ?_ | refine erz1 rfl ?_)
      try dsimp only [set1, set2, kilP, List.set_cons_zero, List.set_cons_succ, List.getElem?_cons_zero, List.getElem?_cons_succ, List.nil_append, List.cons_append, Option.toList_some, Option.toList_none]
      exact ⟨rfl, hG.w hF1, h1⟩
    · repeat (first | refine es rfl rfl rfl ?_ | refine eg rfl (by assumption) rfl ?_ | refine eanE rfl (by assumption) (by with_reducible first | exact rfl | exact Int32.zero_add _ | exact ix8 _ | exact ix12 _ | exact ix7r _ _ | exact n7 | exact n0 | exact n1) (by assumption) rfl ?_ | refine eal rfl (by assumption) (by assumption) rfl ?_ | refine eri rfl ?_ | refine erv rfl ?_ | refine erl rfl ?_ | refine era rfl ?_ | refine erz0 rfl ?_ | refine erz1 rfl ?_)
      try dsimp only [set1, set2, kilP, List.set_cons_zero, List.set_cons_succ, List.getElem?_cons_zero, List.getElem?_cons_succ, List.nil_append, List.cons_append, Option.toList_some, Option.toList_none]
      refine ecv rfl rfl (by assumption) rfl rfl rfl (y_flaw (n := 6) rfl h1) (by first | rfl | exact Nat.blt_eq.mpr (by omega)) ?_
      rintro v M2 ⟨rfl, hF2, h2⟩
      try dsimp only [set1, set2, kilP, List.set_cons_zero, List.set_cons_succ, List.getElem?_cons_zero, List.getElem?_cons_succ, List.nil_append, List.cons_append, Option.toList_some, Option.toList_none]
      repeat (first | refine es rfl rfl rfl ?_ | refine eg rfl (by assumption) rfl ?_ | refine eanE rfl (by assumption) (by with_reducible first | exact rfl | exact Int32.zero_add _ | exact ix8 _ | exact ix12 _ | exact ix7r _ _ | exact n7 | exact n0 | exact n1) (by assumption) rfl ?_ | refine eal rfl (by assumption) (by assumption) rfl ?_ | refine eri rfl ?_ | refine erv rfl ?_ | refine erl rfl ?_ | refine era rfl ?_ | refine erz0 rfl ?_ | refine erz1 rfl ?_)
      try dsimp only [set1, set2, kilP, List.set_cons_zero, List.set_cons_succ, List.getElem?_cons_zero, List.getElem?_cons_succ, List.nil_append, List.cons_append, Option.toList_some, Option.toList_none]
      exact ⟨rfl, (hG.w hF1).w hF2, h2⟩
theorem y_all_loop (ha : b + 16 ≤ a) (hA : tpR A tp) (hl : le ≤ 1100) (hb : lo0 ≤ b) (hc : ∀ j, j < 8 → sc j = sC j) : ∀ (n p st : Nat) (M : Mm) (T : Tw), yP M b oa tw (.ref a) oq A tp le (.ok p) → aMt M a T → tI T → aSt ad lo0 M → FY b a M0 M → le + 1 ≤ n + p → Ev ad 8 (rX13_readAll ad) (2, [some (.ref b), some (.int 1)], [], M) (alQ M0 b a oa tw oq A tp le (pLoop tp sc le n T 3 p st)) := by
  intro n
  induction n with
  | zero =>
    intro p st M T h hM hI hS hG hn
    obtain ⟨_, _, _, _, q, _⟩ := h
    omega
  | succ n ih =>
    intro p st M T h hM hI hS hG hn
    have ⟨r0, hy0, _⟩ := id h
    have h0 := hy0.1
    have hp : p ≤ le := by obtain ⟨_, _, _, _, q, _⟩ := h; exact q
    repeat (first | refine es rfl rfl rfl ?_ | refine eg rfl (by assumption) rfl ?_ | refine eanE rfl (by assumption) (by with_reducible first | exact rfl | exact Int32.zero_add _ | exact ix8 _ | exact ix12 _ | exact ix7r _ _ | exact n7 | exact n0 | exact n1) (by assumption) rfl ?_ | refine eal rfl (by assumption) (by assumption) rfl ?_ | refine eri rfl ?_ | refine erv rfl ?_ | refine erl rfl ?_ | refine era rfl ?_ | refine erz0 rfl ?_ | refine erz1 rfl ?_)
    try dsimp only [set1, set2, kilP, List.set_cons_zero, List.set_cons_succ, List.getElem?_cons_zero, List.getElem?_cons_succ, List.nil_append, List.cons_append, Option.toList_some, Option.toList_none]
    refine ecv rfl rfl (by assumption) rfl rfl rfl (y_line h hM ha hI hA hl hS hb hc) (by first | rfl | exact Nat.blt_eq.mpr (by omega)) ?_
    rintro v M1 ⟨rfl, hG1, hq⟩
    have hS1 := hG1.st hS hb (by omega)
    replace hG := hG.tr hG1
    rcases c : pLn tp sc le T p with e | ⟨T', p'⟩
    · rw [c] at hq
      obtain ⟨h1, hM1⟩ := hq
      replace h1 : yP M1 b oa tw (.ref a) oq A tp le (.error e) := h1
      rw [show pLoop tp sc le (n + 1) T 3 p st = .error e by rw [pLoop, if_neg (by omega), if_neg (by omega), c]]
      obtain ⟨⟨ta1, sz1, sp1, so1, pl1, nu1, fa1, wa1, wo1⟩, hy1, _⟩ := id h1
      have j1 := hy1.1
      try dsimp only [set1, set2, kilP, List.set_cons_zero, List.set_cons_succ, List.getElem?_cons_zero, List.getElem?_cons_succ, List.nil_append, List.cons_append, Option.toList_some, Option.toList_none]
      repeat (first | refine es rfl rfl rfl ?_ | refine eg rfl (by assumption) rfl ?_ | refine eanE rfl (by assumption) (by with_reducible first | exact rfl | exact Int32.zero_add _ | exact ix8 _ | exact ix12 _ | exact ix7r _ _ | exact n7 | exact n0 | exact n1) (by assumption) rfl ?_ | refine eal rfl (by assumption) (by assumption) rfl ?_ | refine eri rfl ?_ | refine erv rfl ?_ | refine erl rfl ?_ | refine era rfl ?_ | refine erz0 rfl ?_ | refine erz1 rfl ?_)
      try dsimp only [set1, set2, kilP, List.set_cons_zero, List.set_cons_succ, List.getElem?_cons_zero, List.getElem?_cons_succ, List.nil_append, List.cons_append, Option.toList_some, Option.toList_none]
      refine ecv rfl rfl (by assumption) rfl rfl rfl (y_eats h1 hA hl) (by first | rfl | exact Nat.blt_eq.mpr (by omega)) ?_
      rintro v M2 ⟨hF2, rfl, rfl⟩
      try dsimp only [set1, set2, kilP, List.set_cons_zero, List.set_cons_succ, List.getElem?_cons_zero, List.getElem?_cons_succ, List.nil_append, List.cons_append, Option.toList_some, Option.toList_none]
      repeat (refine ng 18 rfl ?_; first | refine es rfl rfl rfl ?_ | refine eg rfl (by assumption) rfl ?_ | refine eanE rfl (by assumption) (by with_reducible first | exact rfl | exact Int32.zero_add _ | exact ix8 _ | exact ix12 _ | exact ix7r _ _ | exact n7 | exact n0 | exact n1) (by assumption) rfl ?_ | refine eal rfl (by assumption) (by assumption) rfl ?_ | refine eri rfl ?_ | refine erv rfl ?_ | refine erl rfl ?_ | refine era rfl ?_ | refine erz0 rfl ?_ | refine erz1 rfl ?_)
      try dsimp only [set1, set2, kilP, List.set_cons_zero, List.set_cons_succ, List.getElem?_cons_zero, List.getElem?_cons_succ, List.nil_append, List.cons_append, Option.toList_some, Option.toList_none]
      exact y_all_over h1 hM1 ha hG
    · rw [c] at hq
      obtain ⟨h1, hM1⟩ := hq
      replace h1 : yP M1 b oa tw (.ref a) oq A tp le (.ok p') := h1
      replace hM1 : aMt M1 a T' := hM1
      obtain ⟨hI', hp1, hp2⟩ := tI_Ln hI hp c
      rw [show pLoop tp sc le (n + 1) T 3 p st = pLoop tp sc le n T' (tk tp le p').2.2.1 (tk tp le p').2.1 (tk tp le p').1 by rw [pLoop, if_neg (by omega), if_neg (by omega), c]]
      obtain ⟨⟨ta1, sz1, sp1, so1, pl1, nu1, fa1, wa1, wo1⟩, hy1, _⟩ := id h1
      have j1 := hy1.1
      try dsimp only [set1, set2, kilP, List.set_cons_zero, List.set_cons_succ, List.getElem?_cons_zero, List.getElem?_cons_succ, List.nil_append, List.cons_append, Option.toList_some, Option.toList_none]
      repeat (first | refine es rfl rfl rfl ?_ | refine eg rfl (by assumption) rfl ?_ | refine eanE rfl (by assumption) (by with_reducible first | exact rfl | exact Int32.zero_add _ | exact ix8 _ | exact ix12 _ | exact ix7r _ _ | exact n7 | exact n0 | exact n1) (by assumption) rfl ?_ | refine eal rfl (by assumption) (by assumption) rfl ?_ | refine eri rfl ?_ | refine erv rfl ?_ | refine erl rfl ?_ | refine era rfl ?_ | refine erz0 rfl ?_ | refine erz1 rfl ?_)
      try dsimp only [set1, set2, kilP, List.set_cons_zero, List.set_cons_succ, List.getElem?_cons_zero, List.getElem?_cons_succ, List.nil_append, List.cons_append, Option.toList_some, Option.toList_none]
      refine ecv rfl rfl (by assumption) rfl rfl rfl (y_eats h1 hA hl) (by first | rfl | exact Nat.blt_eq.mpr (by omega)) ?_
      rintro v M2 ⟨hF2, hq2⟩
      by_cases k3 : (tk tp le p').2.2.1 = 3
      · replace hq2 : if (tk tp le p').2.2.1 = 3 then v = some (.int 1) ∧ yP M2 b oa tw (.ref a) oq A tp le (.ok (tk tp le p').2.1) else v = some (.int 0) ∧ M2 = M1 := hq2
        rw [if_pos k3] at hq2
        obtain ⟨rfl, h2⟩ := hq2
        try dsimp only [set1, set2, kilP, List.set_cons_zero, List.set_cons_succ, List.getElem?_cons_zero, List.getElem?_cons_succ, List.nil_append, List.cons_append, Option.toList_some, Option.toList_none]
        repeat (refine ng 2 rfl ?_; first | refine es rfl rfl rfl ?_ | refine eg rfl (by assumption) rfl ?_ | refine eanE rfl (by assumption) (by with_reducible first | exact rfl | exact Int32.zero_add _ | exact ix8 _ | exact ix12 _ | exact ix7r _ _ | exact n7 | exact n0 | exact n1) (by assumption) rfl ?_ | refine eal rfl (by assumption) (by assumption) rfl ?_ | refine eri rfl ?_ | refine erv rfl ?_ | refine erl rfl ?_ | refine era rfl ?_ | refine erz0 rfl ?_ | refine erz1 rfl ?_)
        try dsimp only [set1, set2, kilP, List.set_cons_zero, List.set_cons_succ, List.getElem?_cons_zero, List.getElem?_cons_succ, List.nil_append, List.cons_append, Option.toList_some, Option.toList_none]
        rw [k3]
        refine ih _ _ M2 T' h2 (hM1.fr hF2 (by omega)) hI' (hS1.fr hF2 hb) (hG.w hF2) ?_
        have := (tok_at tp (0, 0, 0, le, p', 0, 0, 0, 0, 0) hp2).1
        have h9 : p' ≤ (tk tp le p').2.1 := this
        omega
      · replace hq2 : if (tk tp le p').2.2.1 = 3 then v = some (.int 1) ∧ yP M2 b oa tw (.ref a) oq A tp le (.ok (tk tp le p').2.1) else v = some (.int 0) ∧ M2 = M1 := hq2
        rw [if_neg k3] at hq2
        obtain ⟨rfl, rfl⟩ := hq2
        try dsimp only [set1, set2, kilP, List.set_cons_zero, List.set_cons_succ, List.getElem?_cons_zero, List.getElem?_cons_succ, List.nil_append, List.cons_append, Option.toList_some, Option.toList_none]
        repeat (refine ng 18 rfl ?_; first | refine es rfl rfl rfl ?_ | refine eg rfl (by assumption) rfl ?_ | refine eanE rfl (by assumption) (by with_reducible first | exact rfl | exact Int32.zero_add _ | exact ix8 _ | exact ix12 _ | exact ix7r _ _ | exact n7 | exact n0 | exact n1) (by assumption) rfl ?_ | refine eal rfl (by assumption) (by assumption) rfl ?_ | refine eri rfl ?_ | refine erv rfl ?_ | refine erl rfl ?_ | refine era rfl ?_ | refine erz0 rfl ?_ | refine erz1 rfl ?_)
        try dsimp only [set1, set2, kilP, List.set_cons_zero, List.set_cons_succ, List.getElem?_cons_zero, List.getElem?_cons_succ, List.nil_append, List.cons_append, Option.toList_some, Option.toList_none]
        have h7 : T'.hs.n ≤ 7 := hI'.1.1.1
        exact y_all_end h1 k3 hM1 h7 ha hG (by omega)
theorem aMt.sh {f g : Nat → Int32} (h : aMt M a T) : aMt M a (T.1, T.hs, (T.ss.n, T.ss.mi, f, g), T.cs) := by
  obtain ⟨kn, Am, Bm, m0, mc, mH, mS, mP, mC, mN⟩ := h
  exact ⟨kn, Am, Bm, m0, mc, mH, mS, mP, mC, mN⟩
theorem y_all (h : yP M b oa tw (.ref a) oq A tp le (.ok 0)) (hM : aMt M a T) (hI : tI T) (hS : aSt ad lo0 M) (ha : b + 16 ≤ a) (hA : tpR A tp) (hl : le ≤ 1100) (hb : lo0 ≤ b) (hc : ∀ j, j < 8 → sc j = sC j) : EvM ad 8 (iX13_readAll ad) [.ref b] M (fun v' M' => v' = none ∧ FY b a M M' ∧ match pTown tp sc le T with
    | .ok T' => (∃ q, yP M' b oa tw (.ref a) oq A tp le (.ok q)) ∧ aMt M' a T'
    | .error e => yP M' b oa tw (.ref a) oq A tp le (.error e)) := by
  refine ⟨Nat.le_of_ble_eq_true rfl, ?_⟩
  show Ev ad _ (rX13_readAll ad) (0, [some (.ref b), none], [], M) _
  repeat (refine ng 2 rfl ?_; first | refine es rfl rfl rfl ?_ | refine eg rfl (by assumption) rfl ?_ | refine eanE rfl (by assumption) (by with_reducible first | exact rfl | exact Int32.zero_add _ | exact ix8 _ | exact ix12 _ | exact ix7r _ _ | exact n7 | exact n0 | exact n1) (by assumption) rfl ?_ | refine eal rfl (by assumption) (by assumption) rfl ?_ | refine eri rfl ?_ | refine erv rfl ?_ | refine erl rfl ?_ | refine era rfl ?_ | refine erz0 rfl ?_ | refine erz1 rfl ?_)
  try dsimp only [set1, set2, kilP, List.set_cons_zero, List.set_cons_succ, List.getElem?_cons_zero, List.getElem?_cons_succ, List.nil_append, List.cons_append, Option.toList_some, Option.toList_none]
  refine (y_all_loop ha hA hl hb hc (le + 1) 0 0 M T h hM hI hS (FY.rf b a M) (by omega)).im (fun v M' ⟨e, hG, hq⟩ => ⟨e, hG, ?_⟩)
  unfold pTown
  rcases c : pLoop tp sc le (le + 1) T 3 0 0 with e | ⟨T', q⟩
  · rw [c] at hq
    exact hq
  · rw [c] at hq
    dsimp only at hq ⊢
    by_cases h2 : T'.hs.n < 2
    · rw [if_pos h2] at hq ⊢
      exact hq
    · rw [if_neg h2] at hq ⊢
      exact ⟨hq.1, hq.2.sh⟩
end RALL
