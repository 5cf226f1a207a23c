/-! The reference reads: streets, wrong rooms -/
section RLINESD
variable {ad : Nat → Nat} {a b lo0 : Nat} {tp : Nat → Int32} {sc : Nat → Int64} {le : Nat} {A : Ar} {oa : Int32 × Int32 × Int32} {oq : Yq} {tw : Value} {M : Mm} {T : Tw} {R : Except Er (Tw × Nat)} {p : Nat}
def lnStreet2 (tp : Nat → Int32) (le : Nat) (T : Tw) (f g a2 : Nat) : Except Er (Tw × Nat) :=
  match pThis tp le 17 a2 with
  | .error e => .error e
  | .ok a3 =>
  match pWh tp le 1 99 a3 with
  | .error e => .error e
  | .ok (m, a4) =>
  .ok ((T.1, T.hs, (T.ss.n + 1, upd (upd T.ss.mi (f * 7 + g) (nI m)) (g * 7 + f) (nI m), T.ss.sh, T.ss.ne), T.cs), a4)
theorem y_lnStreet (h : yP M b oa tw (.ref a) oq A tp le (.ok p)) (k : (tk tp le p).2.2.1 = 1) (hM : aMt M a T) (ha : b + 16 ≤ a) (hI : tI T) (hA : tpR A tp) (hl : le ≤ 1100) (hS : aSt ad lo0 M) (hb : lo0 ≤ b) (hc : ∀ j, j < 8 → sc j = sC j) (hR : R = if T.dr = 0 then .error (6, (tk tp le p).1) else if 10 ≤ T.ss.n then .error (5, (tk tp le p).1) else lnStreet tp sc le T (tk tp le p).2.1) : EvM ad 6 (iX13_readStreet ad) [.ref b] M (lnQ M b a oa tw oq A tp le T R) := by
  have hrd := hI.1.1
  unfold rdW at hrd
  have hN : T.hs.n + T.np ≤ 11 := by omega
  have hn7 : T.hs.n ≤ 7 := by omega
  have hK : tK T := hI.2.2.2.2.2.2.2.2.2
  have hzr := hI.1.2.2
  have hp : p ≤ le := by obtain ⟨_, _, _, _, q, _⟩ := h; exact q
  have hp0 : (tk tp le p).2.1 ≤ le := tk_le hp
  have hG := FY.rf b a M
  obtain ⟨kn0, _, _, m0, _⟩ := id hM
  have ⟨r0, hy0, _⟩ := id h
  have h0 := hy0.1
  refine ⟨Nat.le_of_ble_eq_true rfl, ?_⟩
  show Ev ad _ (rX13_readStreet ad) (0, [some (.ref b), none, none, none], [], M) _
  repeat (first | refine es rfl rfl rfl ?_ | refine eg rfl (by assumption) rfl ?_ | refine eanE rfl (by assumption) (by with_reducible first | exact rfl | exact Int32.zero_add _ | exact ix8 _ | exact ix12 _ | exact ix7r _ _ | exact n7 | exact n0 | exact n1) (by assumption) rfl ?_ | refine eal rfl (by assumption) (by assumption) rfl ?_ | refine eri rfl ?_ | refine erv rfl ?_ | refine erl rfl ?_ | refine era rfl ?_ | refine erz0 rfl ?_ | refine erz1 rfl ?_)
  try dsimp only [set1, set2, kilP, List.set_cons_zero, List.set_cons_succ, List.getElem?_cons_zero, List.getElem?_cons_succ, List.nil_append, List.cons_append, Option.toList_some, Option.toList_none]
  refine ecv rfl rfl (by assumption) rfl rfl rfl (y_begins h k hM ha (by omega) hA hl) (by first | rfl | exact Nat.blt_eq.mpr (by omega)) ?_
  rintro v M1 ⟨rfl, hF1, h1⟩
  obtain ⟨s1, eqS, hs1⟩ := beg_or (T := T) (c := T.ss.n) (m := 10) (y := 10) (a1 := (tk tp le p).2.1) rfl rfl (by omega) (by omega) (by omega) (fun q => (hzr q).2.2.1) hR
  rw [eqS] at h1
  replace hM := hM.fr hF1 (by omega)
  replace hS := hS.fr hF1 hb
  replace hG := hG.w hF1
  obtain ⟨⟨ta1, sz1, sp1, so1, pl1, nu1, fa1, wa1, wo1⟩, hy1, _⟩ := id h1
  have j1 := hy1.1
  try dsimp only [set1, set2, kilP, List.set_cons_zero, List.set_cons_succ, List.getElem?_cons_zero, List.getElem?_cons_succ, List.nil_append, List.cons_append, Option.toList_some, Option.toList_none]
  have cont : ∀ M4 s4 x0 y0, FY b a M M4 → yP M4 b oa tw (.ref a) oq A tp le s4 → aMt M4 a T → aSt ad lo0 M4 → ((∃ e, s4 = .error e ∧ R = .error e) ∨ (∃ x y a3, s4 = .ok a3 ∧ x0 = nI x ∧ y0 = nI y ∧ x < T.hs.n ∧ y < T.hs.n ∧ R = lnStreet2 tp le T x y a3)) → Ev ad 6 (rX13_readStreet ad) (62, [some (.ref b), some (.int x0), some (.int y0), none], [], M4) (lnQ M b a oa tw oq A tp le T R) := by
    intro M4 s4 x0 y0 hG h4 hM hS hs4
    obtain ⟨⟨ta4, sz4, sp4, so4, pl4, nu4, fa4, wa4, wo4⟩, hy4, _⟩ := id h4
    have j4 := hy4.1
    repeat (first | refine es rfl rfl rfl ?_ | refine eg rfl (by assumption) rfl ?_ | refine eanE rfl (by assumption) (by with_reducible first | exact rfl | exact Int32.zero_add _ | exact ix8 _ | exact ix12 _ | exact ix7r _ _ | exact n7 | exact n0 | exact n1) (by assumption) rfl ?_ | refine eal rfl (by assumption) (by assumption) rfl ?_ | refine eri rfl ?_ | refine erv rfl ?_ | refine erl rfl ?_ | refine era rfl ?_ | refine erz0 rfl ?_ | refine erz1 rfl ?_)
    try dsimp only [set1, set2, kilP, List.set_cons_zero, List.set_cons_succ, List.getElem?_cons_zero, List.getElem?_cons_succ, List.nil_append, List.cons_append, Option.toList_some, Option.toList_none]
    have H5 := y_part (ad := ad) (i := 17) (lo := 1) (hi := 99) h4 hA hl hS hb (by omega) (by omega) (by omega)
    refine ecv rfl rfl (by assumption) rfl rfl rfl (H5) (by first | rfl | exact Nat.blt_eq.mpr (by omega)) ?_
    rintro v M5 ⟨rfl, hF5, h5⟩
    replace hM := hM.fr hF5 (by omega)
    replace hS := hS.fr hF5 hb
    replace hG := hG.w hF5
    obtain ⟨⟨ta5, sz5, sp5, so5, pl5, nu5, fa5, wa5, wo5⟩, hy5, _⟩ := id h5
    have j5 := hy5.1
    try dsimp only [set1, set2, kilP, List.set_cons_zero, List.set_cons_succ, List.getElem?_cons_zero, List.getElem?_cons_succ, List.nil_append, List.cons_append, Option.toList_some, Option.toList_none]
    repeat (refine ng 73 rfl ?_; first | refine es rfl rfl rfl ?_ | refine eg rfl (by assumption) rfl ?_ | refine eanE rfl (by assumption) (by with_reducible first | exact rfl | exact Int32.zero_add _ | exact ix8 _ | exact ix12 _ | exact ix7r _ _ | exact n7 | exact n0 | exact n1) (by assumption) rfl ?_ | refine eal rfl (by assumption) (by assumption) rfl ?_ | refine eri rfl ?_ | refine erv rfl ?_ | refine erl rfl ?_ | refine era rfl ?_ | refine erz0 rfl ?_ | refine erz1 rfl ?_)
    try dsimp only [set1, set2, kilP, List.set_cons_zero, List.set_cons_succ, List.getElem?_cons_zero, List.getElem?_cons_succ, List.nil_append, List.cons_append, Option.toList_some, Option.toList_none]
    rcases hs4 with ⟨e, rfl, rfl⟩ | ⟨x, y, a3, rfl, rfl, rfl, hx, hy, rfl⟩
    · replace h5 : yP M5 b oa tw (.ref a) oq A tp le (.error e) := h5
      obtain ⟨⟨ta, sz, sp, so, pl, nu, fa, wa, wo⟩, hy9, e1, e2, q9, _⟩ := id h5
      replace q9 : so = 5 := q9
      subst q9
      have k9 := hy9.1
      repeat (first | refine es rfl rfl rfl ?_ | refine eg rfl (by assumption) rfl ?_ | refine eanE rfl (by assumption) (by with_reducible first | exact rfl | exact Int32.zero_add _ | exact ix8 _ | exact ix12 _ | exact ix7r _ _ | exact n7 | exact n0 | exact n1) (by assumption) rfl ?_ | refine eal rfl (by assumption) (by assumption) rfl ?_ | refine eri rfl ?_ | refine erv rfl ?_ | refine erl rfl ?_ | refine era rfl ?_ | refine erz0 rfl ?_ | refine erz1 rfl ?_)
      try dsimp only [set1, set2, kilP, List.set_cons_zero, List.set_cons_succ, List.getElem?_cons_zero, List.getElem?_cons_succ, List.nil_append, List.cons_append, Option.toList_some, Option.toList_none]
      exact ⟨rfl, hG, h5, hM⟩
    replace h5 : yP M5 b oa tw (.ref a) oq A tp le (nxt (Except.bind (pThis tp le 17 a3) (pWh tp le 1 99))) := h5
    rcases c1 : pThis tp le 17 a3 with e | a4
    · rw [c1] at h5
      rw [show lnStreet2 tp le T x y a3 = .error e by unfold lnStreet2; rw [c1]]
      replace h5 : yP M5 b oa tw (.ref a) oq A tp le (.error e) := h5
      obtain ⟨⟨ta, sz, sp, so, pl, nu, fa, wa, wo⟩, hy9, e1, e2, q9, _⟩ := id h5
      replace q9 : so = 5 := q9
      subst q9
      have k9 := hy9.1
      repeat (first | refine es rfl rfl rfl ?_ | refine eg rfl (by assumption) rfl ?_ | refine eanE rfl (by assumption) (by with_reducible first | exact rfl | exact Int32.zero_add _ | exact ix8 _ | exact ix12 _ | exact ix7r _ _ | exact n7 | exact n0 | exact n1) (by assumption) rfl ?_ | refine eal rfl (by assumption) (by assumption) rfl ?_ | refine eri rfl ?_ | refine erv rfl ?_ | refine erl rfl ?_ | refine era rfl ?_ | refine erz0 rfl ?_ | refine erz1 rfl ?_)
      try dsimp only [set1, set2, kilP, List.set_cons_zero, List.set_cons_succ, List.getElem?_cons_zero, List.getElem?_cons_succ, List.nil_append, List.cons_append, Option.toList_some, Option.toList_none]
      exact ⟨rfl, hG, h5, hM⟩
    rw [c1] at h5
    replace h5 : yP M5 b oa tw (.ref a) oq A tp le (nxt (pWh tp le 1 99 a4)) := h5
    rcases c2 : pWh tp le 1 99 a4 with e | ⟨m, a5⟩
    · rw [c2] at h5
      rw [show lnStreet2 tp le T x y a3 = .error e by unfold lnStreet2; rw [c1]; dsimp only; rw [c2]]
      replace h5 : yP M5 b oa tw (.ref a) oq A tp le (.error e) := h5
      obtain ⟨⟨ta, sz, sp, so, pl, nu, fa, wa, wo⟩, hy9, e1, e2, q9, _⟩ := id h5
      replace q9 : so = 5 := q9
      subst q9
      have k9 := hy9.1
      repeat (first | refine es rfl rfl rfl ?_ | refine eg rfl (by assumption) rfl ?_ | refine eanE rfl (by assumption) (by with_reducible first | exact rfl | exact Int32.zero_add _ | exact ix8 _ | exact ix12 _ | exact ix7r _ _ | exact n7 | exact n0 | exact n1) (by assumption) rfl ?_ | refine eal rfl (by assumption) (by assumption) rfl ?_ | refine eri rfl ?_ | refine erv rfl ?_ | refine erl rfl ?_ | refine era rfl ?_ | refine erz0 rfl ?_ | refine erz1 rfl ?_)
      try dsimp only [set1, set2, kilP, List.set_cons_zero, List.set_cons_succ, List.getElem?_cons_zero, List.getElem?_cons_succ, List.nil_append, List.cons_append, Option.toList_some, Option.toList_none]
      exact ⟨rfl, hG, h5, hM⟩
    rw [c2] at h5
    replace h5 : yP M5 b oa tw (.ref a) oq A tp le (.ok a5) := h5
    rw [show lnStreet2 tp le T x y a3 = .ok ((T.1, T.hs, (T.ss.n + 1, upd (upd T.ss.mi (x * 7 + y) (nI m)) (y * 7 + x) (nI m), T.ss.sh, T.ss.ne), T.cs), a5) by unfold lnStreet2; rw [c1]; dsimp only; rw [c2]]
    try rw [show Except.bind (.ok a3) (pThis tp le 17) = .ok a4 from c1]
    try rw [show Except.bind (.ok a4) (pWh tp le 1 99) = .ok (m, a5) from c2]
    rw [show wV 1 (.ok (m, a5)) = m from rfl]
    have i49 : 7 * x + y < 49 := by omega
    have j49 : 7 * y + x < 49 := by omega
    obtain ⟨⟨ta, sz, sp, so, pl, nu, fa, wa, wo⟩, hy9, hE9⟩ := id h5
    obtain ⟨e1, e2, q8, q9, _⟩ := id hE9
    have k9 := hy9.1
    obtain ⟨kn, Am, Bm, m0, mc, mH, mS, mP, mC, mN⟩ := id hM
    have hz : tZ M5 a (mtO a T kn) Am Bm := ⟨m0, mc.to⟩
    repeat (first | refine es rfl rfl rfl ?_ | refine eg rfl (by assumption) rfl ?_ | refine eanE rfl (by assumption) (by with_reducible first | exact rfl | exact Int32.zero_add _ | exact ix8 _ | exact ix12 _ | exact ix7r _ _ | exact n7 | exact n0 | exact n1) (by assumption) rfl ?_ | refine eal rfl (by assumption) (by assumption) rfl ?_ | refine eri rfl ?_ | refine erv rfl ?_ | refine erl rfl ?_ | refine era rfl ?_ | refine erz0 rfl ?_ | refine erz1 rfl ?_)
    try dsimp only [set1, set2, kilP, List.set_cons_zero, List.set_cons_succ, List.getElem?_cons_zero, List.getElem?_cons_succ, List.nil_append, List.cons_append, Option.toList_some, Option.toList_none]
    refine ei _ rfl rfl (fun c9 => ?_) (fun c9 => ?_)
    rotate_left
    · exact absurd (q9.symm.trans (Decidable.not_not.mp c9)) (kR_5 _)
    have c6 : M5.1 (a + 8) = ints 49 (Am 8) := hz.2 8 (by omega) (by omega)
    repeat (first | refine es rfl rfl rfl ?_ | refine eg rfl (by assumption) rfl ?_ | refine eanE rfl (by assumption) (by with_reducible first | exact rfl | exact Int32.zero_add _ | exact ix8 _ | exact ix12 _ | exact ix7r _ _ | exact n7 | exact n0 | exact n1) (by assumption) rfl ?_ | refine eal rfl (by assumption) (by assumption) rfl ?_ | refine eri rfl ?_ | refine erv rfl ?_ | refine erl rfl ?_ | refine era rfl ?_ | refine erz0 rfl ?_ | refine erz1 rfl ?_)
    try dsimp only [set1, set2, kilP, List.set_cons_zero, List.set_cons_succ, List.getElem?_cons_zero, List.getElem?_cons_succ, List.nil_append, List.cons_append, Option.toList_some, Option.toList_none]
    rw [ix7r x y]
    refine etM rfl c6 i49 rfl (fun M6 e6 => ?_)
    have hz6 := hz.i (k := 8) e6 (by omega) rfl
    replace hG := hG.u e6 (by omega) (by omega)
    have h6 := h5.fo e6 (by omega)
    have g6 := hz6.1
    obtain ⟨r6, y6, _⟩ := id h6
    have i6 := y6.1
    have c7 : M6.1 (a + 8) = ints 49 (upd (Am 8) (7 * x + y) (nI m)) := hz6.2 8 (by omega) (by omega)
    repeat (first | refine es rfl rfl rfl ?_ | refine eg rfl (by assumption) rfl ?_ | refine eanE rfl (by assumption) (by with_reducible first | exact rfl | exact Int32.zero_add _ | exact ix8 _ | exact ix12 _ | exact ix7r _ _ | exact n7 | exact n0 | exact n1) (by assumption) rfl ?_ | refine eal rfl (by assumption) (by assumption) rfl ?_ | refine eri rfl ?_ | refine erv rfl ?_ | refine erl rfl ?_ | refine era rfl ?_ | refine erz0 rfl ?_ | refine erz1 rfl ?_)
    try dsimp only [set1, set2, kilP, List.set_cons_zero, List.set_cons_succ, List.getElem?_cons_zero, List.getElem?_cons_succ, List.nil_append, List.cons_append, Option.toList_some, Option.toList_none]
    rw [ix7r y x]
    refine etM rfl c7 j49 rfl (fun M7 e7 => ?_)
    have hz7 := hz6.i (k := 8) e7 (by omega) rfl
    replace hG := hG.u e7 (by omega) (by omega)
    have h7 := h6.fo e7 (by omega)
    have g7 := hz7.1
    obtain ⟨r7, y7, _⟩ := id h7
    have i7 := y7.1
    repeat (first | refine es rfl rfl rfl ?_ | refine eg rfl (by assumption) rfl ?_ | refine eanE rfl (by assumption) (by with_reducible first | exact rfl | exact Int32.zero_add _ | exact ix8 _ | exact ix12 _ | exact ix7r _ _ | exact n7 | exact n0 | exact n1) (by assumption) rfl ?_ | refine eal rfl (by assumption) (by assumption) rfl ?_ | refine eri rfl ?_ | refine erv rfl ?_ | refine erl rfl ?_ | refine era rfl ?_ | refine erz0 rfl ?_ | refine erz1 rfl ?_)
    try dsimp only [set1, set2, kilP, List.set_cons_zero, List.set_cons_succ, List.getElem?_cons_zero, List.getElem?_cons_succ, List.nil_append, List.cons_append, Option.toList_some, Option.toList_none]
    refine epM (fs' := mtL a (nI T.dr) (nI T.lk) (nI T.hs.n) kn (nI (fb_ct0 (fun j => !(T.hs.fr j == -2)) T.hs.n)) (nI T.ss.n + 1) (nI T.np) (nI T.cs.sg) (nI T.cs.nz) (nI (T.hs.n + T.np))) rfl hz7.1 rfl rfl rfl (fun M8 e8 => ?_)
    have hz8 := hz7.o e8
    replace hG := hG.u e8 (by omega) (by omega)
    have h8 := h7.fo e8 (by omega)
    have g8 := hz8.1
    obtain ⟨r8, y8, _⟩ := id h8
    have i8 := y8.1
    repeat (first | refine es rfl rfl rfl ?_ | refine eg rfl (by assumption) rfl ?_ | refine eanE rfl (by assumption) (by with_reducible first | exact rfl | exact Int32.zero_add _ | exact ix8 _ | exact ix12 _ | exact ix7r _ _ | exact n7 | exact n0 | exact n1) (by assumption) rfl ?_ | refine eal rfl (by assumption) (by assumption) rfl ?_ | refine eri rfl ?_ | refine erv rfl ?_ | refine erl rfl ?_ | refine era rfl ?_ | refine erz0 rfl ?_ | refine erz1 rfl ?_)
    try dsimp only [set1, set2, kilP, List.set_cons_zero, List.set_cons_succ, List.getElem?_cons_zero, List.getElem?_cons_succ, List.nil_append, List.cons_append, Option.toList_some, Option.toList_none]
    refine ⟨rfl, hG, h8, kn, _, _, hz8.1.trans (by rw [nI_1]; rfl), hz8.mc, mH, fun j hj => ?_, mP, mC, mN⟩
    show upd (upd (Am 8) (7 * x + y) (nI m)) (7 * y + x) (nI m) j = upd (upd T.ss.mi (x * 7 + y) (nI m)) (y * 7 + x) (nI m) j
    rw [Nat.mul_comm 7 x, Nat.mul_comm 7 y]
    by_cases e : j = y * 7 + x
    · rw [e, pk_us, pk_us]
    rw [pk_un e, pk_un e]
    by_cases e2 : j = x * 7 + y
    · rw [e2, pk_us, pk_us]
    rw [pk_un e2, pk_un e2]
    exact mS j hj
  repeat (first | refine es rfl rfl rfl ?_ | refine eg rfl (by assumption) rfl ?_ | refine eanE rfl (by assumption) (by with_reducible first | exact rfl | exact Int32.zero_add _ | exact ix8 _ | exact ix12 _ | exact ix7r _ _ | exact n7 | exact n0 | exact n1) (by assumption) rfl ?_ | refine eal rfl (by assumption) (by assumption) rfl ?_ | refine eri rfl ?_ | refine erv rfl ?_ | refine erl rfl ?_ | refine era rfl ?_ | refine erz0 rfl ?_ | refine erz1 rfl ?_)
  try dsimp only [set1, set2, kilP, List.set_cons_zero, List.set_cons_succ, List.getElem?_cons_zero, List.getElem?_cons_succ, List.nil_append, List.cons_append, Option.toList_some, Option.toList_none]
  have H2 := y_rHouse (ad := ad) h1 hM ha hN hK hA hl hS hc
  refine ecv rfl rfl (by assumption) rfl rfl rfl (H2) (by first | rfl | exact Nat.blt_eq.mpr (by omega)) ?_
  rintro v M2 ⟨rfl, hF2, h2⟩
  replace hM := hM.fr hF2 (by omega)
  replace hS := hS.fr hF2 hb
  replace hG := hG.w hF2
  obtain ⟨⟨ta2, sz2, sp2, so2, pl2, nu2, fa2, wa2, wo2⟩, hy2, _⟩ := id h2
  have j2 := hy2.1
  try dsimp only [set1, set2, kilP, List.set_cons_zero, List.set_cons_succ, List.getElem?_cons_zero, List.getElem?_cons_succ, List.nil_append, List.cons_append, Option.toList_some, Option.toList_none]
  repeat (first | refine es rfl rfl rfl ?_ | refine eg rfl (by assumption) rfl ?_ | refine eanE rfl (by assumption) (by with_reducible first | exact rfl | exact Int32.zero_add _ | exact ix8 _ | exact ix12 _ | exact ix7r _ _ | exact n7 | exact n0 | exact n1) (by assumption) rfl ?_ | refine eal rfl (by assumption) (by assumption) rfl ?_ | refine eri rfl ?_ | refine erv rfl ?_ | refine erl rfl ?_ | refine era rfl ?_ | refine erz0 rfl ?_ | refine erz1 rfl ?_)
  try dsimp only [set1, set2, kilP, List.set_cons_zero, List.set_cons_succ, List.getElem?_cons_zero, List.getElem?_cons_succ, List.nil_append, List.cons_append, Option.toList_some, Option.toList_none]
  have H3 := y_known' (ad := ad) h2 hM ha hN hK hS hc
  refine ecv rfl rfl (by assumption) rfl rfl rfl (H3) (by first | rfl | exact Nat.blt_eq.mpr (by omega)) ?_
  rintro v M3 ⟨rfl, hF3, h3⟩
  replace hM := hM.fr hF3 (by omega)
  replace hS := hS.fr hF3 hb
  replace hG := hG.w hF3
  obtain ⟨⟨ta3, sz3, sp3, so3, pl3, nu3, fa3, wa3, wo3⟩, hy3, _⟩ := id h3
  have j3 := hy3.1
  try dsimp only [set1, set2, kilP, List.set_cons_zero, List.set_cons_succ, List.getElem?_cons_zero, List.getElem?_cons_succ, List.nil_append, List.cons_append, Option.toList_some, Option.toList_none]
  repeat (refine ng 23 rfl ?_; first | refine es rfl rfl rfl ?_ | refine eg rfl (by assumption) rfl ?_ | refine eanE rfl (by assumption) (by with_reducible first | exact rfl | exact Int32.zero_add _ | exact ix8 _ | exact ix12 _ | exact ix7r _ _ | exact n7 | exact n0 | exact n1) (by assumption) rfl ?_ | refine eal rfl (by assumption) (by assumption) rfl ?_ | refine eri rfl ?_ | refine erv rfl ?_ | refine erl rfl ?_ | refine era rfl ?_ | refine erz0 rfl ?_ | refine erz1 rfl ?_)
  try dsimp only [set1, set2, kilP, List.set_cons_zero, List.set_cons_succ, List.getElem?_cons_zero, List.getElem?_cons_succ, List.nil_append, List.cons_append, Option.toList_some, Option.toList_none]
  rcases hs1 with ⟨e, rfl, rfl⟩ | ⟨rfl, hd, hlt, rfl⟩
  · replace h3 : yP M3 b oa tw (.ref a) oq A tp le (.error e) := h3
    obtain ⟨⟨ta, sz, sp, so, pl, nu, fa, wa, wo⟩, hy9, e1, e2, q9, _⟩ := id h3
    replace q9 : so = 5 := q9
    subst q9
    have k9 := hy9.1
    repeat (first | refine es rfl rfl rfl ?_ | refine eg rfl (by assumption) rfl ?_ | refine eanE rfl (by assumption) (by with_reducible first | exact rfl | exact Int32.zero_add _ | exact ix8 _ | exact ix12 _ | exact ix7r _ _ | exact n7 | exact n0 | exact n1) (by assumption) rfl ?_ | refine eal rfl (by assumption) (by assumption) rfl ?_ | refine eri rfl ?_ | refine erv rfl ?_ | refine erl rfl ?_ | refine era rfl ?_ | refine erz0 rfl ?_ | refine erz1 rfl ?_)
    try dsimp only [set1, set2, kilP, List.set_cons_zero, List.set_cons_succ, List.getElem?_cons_zero, List.getElem?_cons_succ, List.nil_append, List.cons_append, Option.toList_some, Option.toList_none]
    refine ecv rfl rfl (by assumption) rfl rfl rfl (y_goesOn hA hl h3.er) (by first | rfl | exact Nat.blt_eq.mpr (by omega)) ?_
    rintro v M4 ⟨rfl, hF4, h4⟩
    try dsimp only [set1, set2, kilP, List.set_cons_zero, List.set_cons_succ, List.getElem?_cons_zero, List.getElem?_cons_succ, List.nil_append, List.cons_append, Option.toList_some, Option.toList_none]
    exact cont M4 _ _ _ (hG.w hF4) h4 (hM.fr hF4 (by omega)) (hS.fr hF4 hb) (Or.inl ⟨_, rfl, rfl⟩)
  replace h3 : yP M3 b oa tw (.ref a) oq A tp le (khS (nxt (pHou tp sc le T (tk tp le p).2.1)) (Except.bind (nxt (pHou tp sc le T (tk tp le p).2.1)) (pHou tp sc le T))) := h3
  rcases c1 : pHou tp sc le T (tk tp le p).2.1 with e | ⟨x, a2⟩
  · rw [c1] at h3
    replace h3 : yP M3 b oa tw (.ref a) oq A tp le (.error e) := h3
    obtain ⟨⟨ta, sz, sp, so, pl, nu, fa, wa, wo⟩, hy9, e1, e2, q9, _⟩ := id h3
    replace q9 : so = 5 := q9
    subst q9
    have k9 := hy9.1
    repeat (first | refine es rfl rfl rfl ?_ | refine eg rfl (by assumption) rfl ?_ | refine eanE rfl (by assumption) (by with_reducible first | exact rfl | exact Int32.zero_add _ | exact ix8 _ | exact ix12 _ | exact ix7r _ _ | exact n7 | exact n0 | exact n1) (by assumption) rfl ?_ | refine eal rfl (by assumption) (by assumption) rfl ?_ | refine eri rfl ?_ | refine erv rfl ?_ | refine erl rfl ?_ | refine era rfl ?_ | refine erz0 rfl ?_ | refine erz1 rfl ?_)
    try dsimp only [set1, set2, kilP, List.set_cons_zero, List.set_cons_succ, List.getElem?_cons_zero, List.getElem?_cons_succ, List.nil_append, List.cons_append, Option.toList_some, Option.toList_none]
    refine ecv rfl rfl (by assumption) rfl rfl rfl (y_goesOn hA hl h3.er) (by first | rfl | exact Nat.blt_eq.mpr (by omega)) ?_
    rintro v M4 ⟨rfl, hF4, h4⟩
    try dsimp only [set1, set2, kilP, List.set_cons_zero, List.set_cons_succ, List.getElem?_cons_zero, List.getElem?_cons_succ, List.nil_append, List.cons_append, Option.toList_some, Option.toList_none]
    exact cont M4 _ _ _ (hG.w hF4) h4 (hM.fr hF4 (by omega)) (hS.fr hF4 hb) (Or.inl ⟨_, rfl, by unfold lnStreet; rw [c1]⟩)
  rw [c1] at h3
  replace h3 : yP M3 b oa tw (.ref a) oq A tp le (khS (.ok a2) (pHou tp sc le T a2)) := h3
  have hx := (pHou_b hn7 hp0 c1).2
  have hp2 := (pHou_b hn7 hp0 c1).1.2
  rcases c2 : pHou tp sc le T a2 with e | ⟨y, a3⟩
  · rw [c2] at h3
    replace h3 : yP M3 b oa tw (.ref a) oq A tp le (.error e) := h3
    obtain ⟨⟨ta, sz, sp, so, pl, nu, fa, wa, wo⟩, hy9, e1, e2, q9, _⟩ := id h3
    replace q9 : so = 5 := q9
    subst q9
    have k9 := hy9.1
    repeat (first | refine es rfl rfl rfl ?_ | refine eg rfl (by assumption) rfl ?_ | refine eanE rfl (by assumption) (by with_reducible first | exact rfl | exact Int32.zero_add _ | exact ix8 _ | exact ix12 _ | exact ix7r _ _ | exact n7 | exact n0 | exact n1) (by assumption) rfl ?_ | refine eal rfl (by assumption) (by assumption) rfl ?_ | refine eri rfl ?_ | refine erv rfl ?_ | refine erl rfl ?_ | refine era rfl ?_ | refine erz0 rfl ?_ | refine erz1 rfl ?_)
    try dsimp only [set1, set2, kilP, List.set_cons_zero, List.set_cons_succ, List.getElem?_cons_zero, List.getElem?_cons_succ, List.nil_append, List.cons_append, Option.toList_some, Option.toList_none]
    refine ecv rfl rfl (by assumption) rfl rfl rfl (y_goesOn hA hl h3.er) (by first | rfl | exact Nat.blt_eq.mpr (by omega)) ?_
    rintro v M4 ⟨rfl, hF4, h4⟩
    try dsimp only [set1, set2, kilP, List.set_cons_zero, List.set_cons_succ, List.getElem?_cons_zero, List.getElem?_cons_succ, List.nil_append, List.cons_append, Option.toList_some, Option.toList_none]
    exact cont M4 _ _ _ (hG.w hF4) h4 (hM.fr hF4 (by omega)) (hS.fr hF4 hb) (Or.inl ⟨_, rfl, by unfold lnStreet; rw [c1]; dsimp only; rw [c2]⟩)
  rw [c2] at h3
  replace h3 : yP M3 b oa tw (.ref a) oq A tp le (.ok a2) := h3
  obtain ⟨kk, ea⟩ := pHou_k c2
  have hy := (pHou_b hn7 hp2 c2).2
  rw [show Except.bind (.ok (tk tp le p).2.1) (pHou tp sc le T) = .ok (x, a2) from c1]
  rw [show Except.bind (nxt (.ok (x, a2))) (pHou tp sc le T) = .ok (y, a3) from c2]
  rw [show wV 0 (.ok (x, a2)) = x from rfl, show wV 0 (.ok (y, a3)) = y from rfl]
  have i49 : 7 * x + y < 49 := by omega
  obtain ⟨⟨ta, sz, sp, so, pl, nu, fa, wa, wo⟩, hy9, e1, e3, q8, q9, _⟩ := id h3
  replace q9 : so = kR (tk tp le a2).2.2.1 := q9
  rw [kk] at q9
  replace q9 : so = 2 := q9
  subst q9
  have k9 := hy9.1
  obtain ⟨kn, Am, Bm, m0, mc, mH, mS, mP, mC, mN⟩ := id hM
  have m8 : M3.1 (a + 8) = ints 49 (Am 8) := mc.2.2.2.2.2.2.2.1
  have hmi : Am 8 (7 * x + y) = T.ss.mi (x * 7 + y) := by rw [mS _ i49, Nat.mul_comm 7 x]
  repeat (first | refine es rfl rfl rfl ?_ | refine eg rfl (by assumption) rfl ?_ | refine eanE rfl (by assumption) (by with_reducible first | exact rfl | exact Int32.zero_add _ | exact ix8 _ | exact ix12 _ | exact ix7r _ _ | exact n7 | exact n0 | exact n1) (by assumption) rfl ?_ | refine eal rfl (by assumption) (by assumption) rfl ?_ | refine eri rfl ?_ | refine erv rfl ?_ | refine erl rfl ?_ | refine era rfl ?_ | refine erz0 rfl ?_ | refine erz1 rfl ?_)
  try dsimp only [set1, set2, kilP, List.set_cons_zero, List.set_cons_succ, List.getElem?_cons_zero, List.getElem?_cons_succ, List.nil_append, List.cons_append, Option.toList_some, Option.toList_none]
  refine ei _ rfl rfl (fun c3 => ?_) (fun c3 => ?_)
  · have hyx : y = x := (nI_eq (by omega) (by omega)).mp c3
    repeat (first | refine es rfl rfl rfl ?_ | refine eg rfl (by assumption) rfl ?_ | refine eanE rfl (by assumption) (by with_reducible first | exact rfl | exact Int32.zero_add _ | exact ix8 _ | exact ix12 _ | exact ix7r _ _ | exact n7 | exact n0 | exact n1) (by assumption) rfl ?_ | refine eal rfl (by assumption) (by assumption) rfl ?_ | refine eri rfl ?_ | refine erv rfl ?_ | refine erl rfl ?_ | refine era rfl ?_ | refine erz0 rfl ?_ | refine erz1 rfl ?_)
    try dsimp only [set1, set2, kilP, List.set_cons_zero, List.set_cons_succ, List.getElem?_cons_zero, List.getElem?_cons_succ, List.nil_append, List.cons_append, Option.toList_some, Option.toList_none]
    refine ecv rfl rfl (by assumption) rfl rfl rfl (y_flaw (n := 3) rfl h3) (by first | rfl | exact Nat.blt_eq.mpr (by omega)) ?_
    rintro v M4 ⟨rfl, hF4, h4⟩
    obtain ⟨⟨ta33, sz33, sp33, so33, pl33, nu33, fa33, wa33, wo33⟩, hy33, _⟩ := id h4
    have j33 := hy33.1
    try dsimp only [set1, set2, kilP, List.set_cons_zero, List.set_cons_succ, List.getElem?_cons_zero, List.getElem?_cons_succ, List.nil_append, List.cons_append, Option.toList_some, Option.toList_none]
    repeat (first | refine es rfl rfl rfl ?_ | refine eg rfl (by assumption) rfl ?_ | refine eanE rfl (by assumption) (by with_reducible first | exact rfl | exact Int32.zero_add _ | exact ix8 _ | exact ix12 _ | exact ix7r _ _ | exact n7 | exact n0 | exact n1) (by assumption) rfl ?_ | refine eal rfl (by assumption) (by assumption) rfl ?_ | refine eri rfl ?_ | refine erv rfl ?_ | refine erl rfl ?_ | refine era rfl ?_ | refine erz0 rfl ?_ | refine erz1 rfl ?_)
    try dsimp only [set1, set2, kilP, List.set_cons_zero, List.set_cons_succ, List.getElem?_cons_zero, List.getElem?_cons_succ, List.nil_append, List.cons_append, Option.toList_some, Option.toList_none]
    refine ecv rfl rfl (by assumption) rfl rfl rfl (y_goesOn hA hl h4.er) (by first | rfl | exact Nat.blt_eq.mpr (by omega)) ?_
    rintro v M5 ⟨rfl, hF5, h5⟩
    try dsimp only [set1, set2, kilP, List.set_cons_zero, List.set_cons_succ, List.getElem?_cons_zero, List.getElem?_cons_succ, List.nil_append, List.cons_append, Option.toList_some, Option.toList_none]
    have hF := hF4.tr hF5 (by omega) (by omega)
    exact cont M5 _ _ _ (hG.w hF) h5 (hM.fr hF (by omega)) (hS.fr hF hb) (Or.inl ⟨_, rfl, by unfold lnStreet; rw [c1]; dsimp only; rw [c2]; dsimp only; rw [if_pos (Or.inl hyx)]⟩)
  have hyx : ¬ y = x := fun q => c3 (by rw [q])
  repeat (first | refine es rfl rfl rfl ?_ | refine eg rfl (by assumption) rfl ?_ | refine eanE rfl (by assumption) (by with_reducible first | exact rfl | exact Int32.zero_add _ | exact ix8 _ | exact ix12 _ | exact ix7r _ _ | exact n7 | exact n0 | exact n1) (by assumption) rfl ?_ | refine eal rfl (by assumption) (by assumption) rfl ?_ | refine eri rfl ?_ | refine erv rfl ?_ | refine erl rfl ?_ | refine era rfl ?_ | refine erz0 rfl ?_ | refine erz1 rfl ?_)
  try dsimp only [set1, set2, kilP, List.set_cons_zero, List.set_cons_succ, List.getElem?_cons_zero, List.getElem?_cons_succ, List.nil_append, List.cons_append, Option.toList_some, Option.toList_none]
  rw [hmi]
  refine ei _ rfl rfl (fun c4 => ?_) (fun c4 => ?_)
  rotate_left
  · repeat (first | refine es rfl rfl rfl ?_ | refine eg rfl (by assumption) rfl ?_ | refine eanE rfl (by assumption) (by with_reducible first | exact rfl | exact Int32.zero_add _ | exact ix8 _ | exact ix12 _ | exact ix7r _ _ | exact n7 | exact n0 | exact n1) (by assumption) rfl ?_ | refine eal rfl (by assumption) (by assumption) rfl ?_ | refine eri rfl ?_ | refine erv rfl ?_ | refine erl rfl ?_ | refine era rfl ?_ | refine erz0 rfl ?_ | refine erz1 rfl ?_)
    try dsimp only [set1, set2, kilP, List.set_cons_zero, List.set_cons_succ, List.getElem?_cons_zero, List.getElem?_cons_succ, List.nil_append, List.cons_append, Option.toList_some, Option.toList_none]
    refine ecv rfl rfl (by assumption) rfl rfl rfl (y_flaw (n := 3) rfl h3) (by first | rfl | exact Nat.blt_eq.mpr (by omega)) ?_
    rintro v M4 ⟨rfl, hF4, h4⟩
    obtain ⟨⟨ta33, sz33, sp33, so33, pl33, nu33, fa33, wa33, wo33⟩, hy33, _⟩ := id h4
    have j33 := hy33.1
    try dsimp only [set1, set2, kilP, List.set_cons_zero, List.set_cons_succ, List.getElem?_cons_zero, List.getElem?_cons_succ, List.nil_append, List.cons_append, Option.toList_some, Option.toList_none]
    repeat (first | refine es rfl rfl rfl ?_ | refine eg rfl (by assumption) rfl ?_ | refine eanE rfl (by assumption) (by with_reducible first | exact rfl | exact Int32.zero_add _ | exact ix8 _ | exact ix12 _ | exact ix7r _ _ | exact n7 | exact n0 | exact n1) (by assumption) rfl ?_ | refine eal rfl (by assumption) (by assumption) rfl ?_ | refine eri rfl ?_ | refine erv rfl ?_ | refine erl rfl ?_ | refine era rfl ?_ | refine erz0 rfl ?_ | refine erz1 rfl ?_)
    try dsimp only [set1, set2, kilP, List.set_cons_zero, List.set_cons_succ, List.getElem?_cons_zero, List.getElem?_cons_succ, List.nil_append, List.cons_append, Option.toList_some, Option.toList_none]
    refine ecv rfl rfl (by assumption) rfl rfl rfl (y_goesOn hA hl h4.er) (by first | rfl | exact Nat.blt_eq.mpr (by omega)) ?_
    rintro v M5 ⟨rfl, hF5, h5⟩
    try dsimp only [set1, set2, kilP, List.set_cons_zero, List.set_cons_succ, List.getElem?_cons_zero, List.getElem?_cons_succ, List.nil_append, List.cons_append, Option.toList_some, Option.toList_none]
    have hF := hF4.tr hF5 (by omega) (by omega)
    exact cont M5 _ _ _ (hG.w hF) h5 (hM.fr hF (by omega)) (hS.fr hF hb) (Or.inl ⟨_, rfl, by unfold lnStreet; rw [c1]; dsimp only; rw [c2]; dsimp only; rw [if_pos (Or.inr (Int32.not_le.mp c4))]⟩)
  repeat (first | refine es rfl rfl rfl ?_ | refine eg rfl (by assumption) rfl ?_ | refine eanE rfl (by assumption) (by with_reducible first | exact rfl | exact Int32.zero_add _ | exact ix8 _ | exact ix12 _ | exact ix7r _ _ | exact n7 | exact n0 | exact n1) (by assumption) rfl ?_ | refine eal rfl (by assumption) (by assumption) rfl ?_ | refine eri rfl ?_ | refine erv rfl ?_ | refine erl rfl ?_ | refine era rfl ?_ | refine erz0 rfl ?_ | refine erz1 rfl ?_)
  try dsimp only [set1, set2, kilP, List.set_cons_zero, List.set_cons_succ, List.getElem?_cons_zero, List.getElem?_cons_succ, List.nil_append, List.cons_append, Option.toList_some, Option.toList_none]
  refine ecv rfl rfl (by assumption) rfl rfl rfl (y_goesOn hA hl (h3.nx (by omega))) (by first | rfl | exact Nat.blt_eq.mpr (by omega)) ?_
  rintro v M4 ⟨rfl, hF4, h4⟩
  try dsimp only [set1, set2, kilP, List.set_cons_zero, List.set_cons_succ, List.getElem?_cons_zero, List.getElem?_cons_succ, List.nil_append, List.cons_append, Option.toList_some, Option.toList_none]
  refine cont M4 _ _ _ (hG.w hF4) h4 (hM.fr hF4 (by omega)) (hS.fr hF4 hb) (Or.inr ⟨x, y, _, rfl, rfl, rfl, hx, hy, ?_⟩)
  unfold lnStreet lnStreet2
  rw [c1]
  dsimp only
  rw [c2]
  dsimp only
  rw [if_neg (fun q => q.elim hyx (Int32.not_lt.mpr c4)), ea]
  rfl
def lnWrong2 (tp : Nat → Int32) (sc : Nat → Int64) (le : Nat) (T : Tw) (f a1 : Nat) : Except Er (Tw × Nat) :=
  match pThis tp le 14 a1 with
  | .error e => .error e
  | .ok a2 =>
  match pHou tp sc le T a2 with
  | .error e => .error e
  | .ok (g, a3) =>
  if g = f ∨ isoF T.hs.to (nI g) T.hs.n 0 = 1 then .error (3, (tk tp le a2).1) else
  .ok ((T.1, (T.hs.n, T.hs.nm, T.hs.ro, T.hs.re, T.hs.bi, T.hs.sm, upd T.hs.to f (nI g), T.hs.fr, T.hs.tt), T.ss, T.cs), a3)
theorem isoF_zo {f : Nat → Int32} {x : Int32} : ∀ n i, isoF f x n i = 0 ∨ isoF f x n i = 1
  | 0, _ => Or.inl rfl
  | n + 1, i => by
    rw [isoF]
    split
    · exact Or.inr rfl
    · exact isoF_zo n (i + 1)
theorem y_lnWrong (h : yP M b oa tw (.ref a) oq A tp le (.ok p)) (k : (tk tp le p).2.2.1 = 1) (hM : aMt M a T) (ha : b + 16 ≤ a) (hI : tI T) (hA : tpR A tp) (hl : le ≤ 1100) (hS : aSt ad lo0 M) (hb : lo0 ≤ b) (hc : ∀ j, j < 8 → sc j = sC j) (hR : R = if T.dr = 0 then .error (6, (tk tp le p).1) else if 1 ≤ 0 then .error (5, (tk tp le p).1) else lnWrong tp sc le T (tk tp le p).2.1) : EvM ad 6 (iX13_readWrong ad) [.ref b] M (lnQ M b a oa tw oq A tp le T R) := by
  have hrd := hI.1.1
  unfold rdW at hrd
  have hN : T.hs.n + T.np ≤ 11 := by omega
  have hn7 : T.hs.n ≤ 7 := by omega
  have hK : tK T := hI.2.2.2.2.2.2.2.2.2
  have hzr := hI.1.2.2
  have hp : p ≤ le := by obtain ⟨_, _, _, _, q, _⟩ := h; exact q
  have hp0 : (tk tp le p).2.1 ≤ le := tk_le hp
  have hG := FY.rf b a M
  obtain ⟨kn0, _, _, m0, _⟩ := id hM
  have ⟨r0, hy0, _⟩ := id h
  have h0 := hy0.1
  refine ⟨Nat.le_of_ble_eq_true rfl, ?_⟩
  show Ev ad _ (rX13_readWrong ad) (0, [some (.ref b), none, none], [], M) _
  repeat (first | refine es rfl rfl rfl ?_ | refine eg rfl (by assumption) rfl ?_ | refine eanE rfl (by assumption) (by with_reducible first | exact rfl | exact Int32.zero_add _ | exact ix8 _ | exact ix12 _ | exact ix7r _ _ | exact n7 | exact n0 | exact n1) (by assumption) rfl ?_ | refine eal rfl (by assumption) (by assumption) rfl ?_ | refine eri rfl ?_ | refine erv rfl ?_ | refine erl rfl ?_ | refine era rfl ?_ | refine erz0 rfl ?_ | refine erz1 rfl ?_)
  try dsimp only [set1, set2, kilP, List.set_cons_zero, List.set_cons_succ, List.getElem?_cons_zero, List.getElem?_cons_succ, List.nil_append, List.cons_append, Option.toList_some, Option.toList_none]
  refine ecv rfl rfl (by assumption) rfl rfl rfl (y_begins h k hM ha (by omega) hA hl) (by first | rfl | exact Nat.blt_eq.mpr (by omega)) ?_
  rintro v M1 ⟨rfl, hF1, h1⟩
  obtain ⟨s1, eqS, hs1⟩ := beg_or (T := T) (c := 0) (m := 1) (x := 0) (y := 1) (a1 := (tk tp le p).2.1) rfl rfl (by omega) (by omega) (by omega) (fun q => rfl) hR
  rw [eqS] at h1
  replace hM := hM.fr hF1 (by omega)
  replace hS := hS.fr hF1 hb
  replace hG := hG.w hF1
  obtain ⟨⟨ta1, sz1, sp1, so1, pl1, nu1, fa1, wa1, wo1⟩, hy1, _⟩ := id h1
  have j1 := hy1.1
  try dsimp only [set1, set2, kilP, List.set_cons_zero, List.set_cons_succ, List.getElem?_cons_zero, List.getElem?_cons_succ, List.nil_append, List.cons_append, Option.toList_some, Option.toList_none]
  have cont2 : ∀ M6 s6 x0 y0, FY b a M M6 → yP M6 b oa tw (.ref a) oq A tp le s6 → aMt M6 a T → aSt ad lo0 M6 → ((∃ e, s6 = .error e ∧ R = .error e) ∨ (∃ x y a3, s6 = .ok a3 ∧ x0 = nI x ∧ y0 = nI y ∧ x < T.hs.n ∧ R = .ok ((T.1, (T.hs.n, T.hs.nm, T.hs.ro, T.hs.re, T.hs.bi, T.hs.sm, upd T.hs.to x (nI y), T.hs.fr, T.hs.tt), T.ss, T.cs), a3))) → Ev ad 6 (rX13_readWrong ad) (87, [some (.ref b), some (.int x0), some (.int y0)], [], M6) (lnQ M b a oa tw oq A tp le T R) := by
    intro M6 s6 x0 y0 hG h6 hM hS hs6
    rcases hs6 with ⟨e, rfl, rfl⟩ | ⟨x, y, a3, rfl, rfl, rfl, hx, rfl⟩
    · replace h6 : yP M6 b oa tw (.ref a) oq A tp le (.error e) := h6
      obtain ⟨⟨ta, sz, sp, so, pl, nu, fa, wa, wo⟩, hy9, e1, e2, q9, _⟩ := id h6
      replace q9 : so = 5 := q9
      subst q9
      have k9 := hy9.1
      repeat (first | refine es rfl rfl rfl ?_ | refine eg rfl (by assumption) rfl ?_ | refine eanE rfl (by assumption) (by with_reducible first | exact rfl | exact Int32.zero_add _ | exact ix8 _ | exact ix12 _ | exact ix7r _ _ | exact n7 | exact n0 | exact n1) (by assumption) rfl ?_ | refine eal rfl (by assumption) (by assumption) rfl ?_ | refine eri rfl ?_ | refine erv rfl ?_ | refine erl rfl ?_ | refine era rfl ?_ | refine erz0 rfl ?_ | refine erz1 rfl ?_)
      try dsimp only [set1, set2, kilP, List.set_cons_zero, List.set_cons_succ, List.getElem?_cons_zero, List.getElem?_cons_succ, List.nil_append, List.cons_append, Option.toList_some, Option.toList_none]
      exact ⟨rfl, hG, h6, hM⟩
    have hx7 : x < 7 := by omega
    obtain ⟨⟨ta, sz, sp, so, pl, nu, fa, wa, wo⟩, hy9, hE9⟩ := id h6
    obtain ⟨e1, e2, q8, q9, _⟩ := id hE9
    have k9 := hy9.1
    obtain ⟨kn, Am, Bm, m0, mc, mH, mS, mP, mC, mN⟩ := id hM
    have hz : tZ M6 a (mtO a T kn) Am Bm := ⟨m0, mc.to⟩
    repeat (first | refine es rfl rfl rfl ?_ | refine eg rfl (by assumption) rfl ?_ | refine eanE rfl (by assumption) (by with_reducible first | exact rfl | exact Int32.zero_add _ | exact ix8 _ | exact ix12 _ | exact ix7r _ _ | exact n7 | exact n0 | exact n1) (by assumption) rfl ?_ | refine eal rfl (by assumption) (by assumption) rfl ?_ | refine eri rfl ?_ | refine erv rfl ?_ | refine erl rfl ?_ | refine era rfl ?_ | refine erz0 rfl ?_ | refine erz1 rfl ?_)
    try dsimp only [set1, set2, kilP, List.set_cons_zero, List.set_cons_succ, List.getElem?_cons_zero, List.getElem?_cons_succ, List.nil_append, List.cons_append, Option.toList_some, Option.toList_none]
    refine ei _ rfl rfl (fun c9 => ?_) (fun c9 => ?_)
    rotate_left
    · exact absurd (q9.symm.trans (Decidable.not_not.mp c9)) (kR_5 _)
    have c7 : M6.1 (a + 4) = ints 7 (Am 4) := hz.2 4 (by omega) (by omega)
    repeat (first | refine es rfl rfl rfl ?_ | refine eg rfl (by assumption) rfl ?_ | refine eanE rfl (by assumption) (by with_reducible first | exact rfl | exact Int32.zero_add _ | exact ix8 _ | exact ix12 _ | exact ix7r _ _ | exact n7 | exact n0 | exact n1) (by assumption) rfl ?_ | refine eal rfl (by assumption) (by assumption) rfl ?_ | refine eri rfl ?_ | refine erv rfl ?_ | refine erl rfl ?_ | refine era rfl ?_ | refine erz0 rfl ?_ | refine erz1 rfl ?_)
    try dsimp only [set1, set2, kilP, List.set_cons_zero, List.set_cons_succ, List.getElem?_cons_zero, List.getElem?_cons_succ, List.nil_append, List.cons_append, Option.toList_some, Option.toList_none]
    refine etM rfl c7 hx7 rfl (fun M7 e7 => ?_)
    have hz7 := hz.i (k := 4) e7 (by omega) rfl
    replace hG := hG.u e7 (by omega) (by omega)
    have h7 := h6.fo e7 (by omega)
    have g7 := hz7.1
    obtain ⟨r7, y7, _⟩ := id h7
    have i7 := y7.1
    repeat (first | refine es rfl rfl rfl ?_ | refine eg rfl (by assumption) rfl ?_ | refine eanE rfl (by assumption) (by with_reducible first | exact rfl | exact Int32.zero_add _ | exact ix8 _ | exact ix12 _ | exact ix7r _ _ | exact n7 | exact n0 | exact n1) (by assumption) rfl ?_ | refine eal rfl (by assumption) (by assumption) rfl ?_ | refine eri rfl ?_ | refine erv rfl ?_ | refine erl rfl ?_ | refine era rfl ?_ | refine erz0 rfl ?_ | refine erz1 rfl ?_)
    try dsimp only [set1, set2, kilP, List.set_cons_zero, List.set_cons_succ, List.getElem?_cons_zero, List.getElem?_cons_succ, List.nil_append, List.cons_append, Option.toList_some, Option.toList_none]
    refine epM (fs' := mtL a (nI T.dr) (nI T.lk) (nI T.hs.n) (kn + 1) (nI (fb_ct0 (fun j => !(T.hs.fr j == -2)) T.hs.n)) (nI T.ss.n) (nI T.np) (nI T.cs.sg) (nI T.cs.nz) (nI (T.hs.n + T.np))) rfl hz7.1 rfl rfl rfl (fun M8 e8 => ?_)
    have hz8 := hz7.o e8
    replace hG := hG.u e8 (by omega) (by omega)
    have h8 := h7.fo e8 (by omega)
    have g8 := hz8.1
    obtain ⟨r8, y8, _⟩ := id h8
    have i8 := y8.1
    repeat (first | refine es rfl rfl rfl ?_ | refine eg rfl (by assumption) rfl ?_ | refine eanE rfl (by assumption) (by with_reducible first | exact rfl | exact Int32.zero_add _ | exact ix8 _ | exact ix12 _ | exact ix7r _ _ | exact n7 | exact n0 | exact n1) (by assumption) rfl ?_ | refine eal rfl (by assumption) (by assumption) rfl ?_ | refine eri rfl ?_ | refine erv rfl ?_ | refine erl rfl ?_ | refine era rfl ?_ | refine erz0 rfl ?_ | refine erz1 rfl ?_)
    try dsimp only [set1, set2, kilP, List.set_cons_zero, List.set_cons_succ, List.getElem?_cons_zero, List.getElem?_cons_succ, List.nil_append, List.cons_append, Option.toList_some, Option.toList_none]
    refine ⟨rfl, hG, h8, kn + 1, _, _, hz8.1, hz8.mc, fun j hj => ?_, mS, mP, mC, mN⟩
    obtain ⟨q1, q2, q3, q4, q5, q6, q7⟩ := mH j hj
    refine ⟨q1, q2, q3, ?_, q5, q6, q7⟩
    show upd (Am 4) x (nI y) j = upd T.hs.to x (nI y) j
    by_cases e : j = x
    · rw [e, pk_us, pk_us]
    · rw [pk_un e, pk_un e]; exact q4
  have cont : ∀ M3 s3 x0, FY b a M M3 → yP M3 b oa tw (.ref a) oq A tp le s3 → aMt M3 a T → aSt ad lo0 M3 → ((∃ e, s3 = .error e ∧ R = .error e) ∨ (∃ x a1, s3 = .ok a1 ∧ x0 = nI x ∧ x < T.hs.n ∧ R = lnWrong2 tp sc le T x a1)) → Ev ad 6 (rX13_readWrong ad) (42, [some (.ref b), some (.int x0), none], [], M3) (lnQ M b a oa tw oq A tp le T R) := by
    intro M3 s3 x0 hG h3 hM hS hs3
    obtain ⟨⟨ta3, sz3, sp3, so3, pl3, nu3, fa3, wa3, wo3⟩, hy3, _⟩ := id h3
    have j3 := hy3.1
    repeat (first | refine es rfl rfl rfl ?_ | refine eg rfl (by assumption) rfl ?_ | refine eanE rfl (by assumption) (by with_reducible first | exact rfl | exact Int32.zero_add _ | exact ix8 _ | exact ix12 _ | exact ix7r _ _ | exact n7 | exact n0 | exact n1) (by assumption) rfl ?_ | refine eal rfl (by assumption) (by assumption) rfl ?_ | refine eri rfl ?_ | refine erv rfl ?_ | refine erl rfl ?_ | refine era rfl ?_ | refine erz0 rfl ?_ | refine erz1 rfl ?_)
    try dsimp only [set1, set2, kilP, List.set_cons_zero, List.set_cons_succ, List.getElem?_cons_zero, List.getElem?_cons_succ, List.nil_append, List.cons_append, Option.toList_some, Option.toList_none]
    have H4 := y_needs (ad := ad) (i := 14) h3 hA hl hS (by omega)
    refine ecv rfl rfl (by assumption) rfl rfl rfl (H4) (by first | rfl | exact Nat.blt_eq.mpr (by omega)) ?_
    rintro v M4 ⟨rfl, hF4, h4⟩
    replace hM := hM.fr hF4 (by omega)
    replace hS := hS.fr hF4 hb
    replace hG := hG.w hF4
    obtain ⟨⟨ta4, sz4, sp4, so4, pl4, nu4, fa4, wa4, wo4⟩, hy4, _⟩ := id h4
    have j4 := hy4.1
    try dsimp only [set1, set2, kilP, List.set_cons_zero, List.set_cons_succ, List.getElem?_cons_zero, List.getElem?_cons_succ, List.nil_append, List.cons_append, Option.toList_some, Option.toList_none]
    repeat (first | refine es rfl rfl rfl ?_ | refine eg rfl (by assumption) rfl ?_ | refine eanE rfl (by assumption) (by with_reducible first | exact rfl | exact Int32.zero_add _ | exact ix8 _ | exact ix12 _ | exact ix7r _ _ | exact n7 | exact n0 | exact n1) (by assumption) rfl ?_ | refine eal rfl (by assumption) (by assumption) rfl ?_ | refine eri rfl ?_ | refine erv rfl ?_ | refine erl rfl ?_ | refine era rfl ?_ | refine erz0 rfl ?_ | refine erz1 rfl ?_)
    try dsimp only [set1, set2, kilP, List.set_cons_zero, List.set_cons_succ, List.getElem?_cons_zero, List.getElem?_cons_succ, List.nil_append, List.cons_append, Option.toList_some, Option.toList_none]
    have H5 := y_known' (ad := ad) h4 hM ha hN hK hS hc
    refine ecv rfl rfl (by assumption) rfl rfl rfl (H5) (by first | rfl | exact Nat.blt_eq.mpr (by omega)) ?_
    rintro v M5 ⟨rfl, hF5, h5⟩
    replace hM := hM.fr hF5 (by omega)
    replace hS := hS.fr hF5 hb
    replace hG := hG.w hF5
    obtain ⟨⟨ta5, sz5, sp5, so5, pl5, nu5, fa5, wa5, wo5⟩, hy5, _⟩ := id h5
    have j5 := hy5.1
    try dsimp only [set1, set2, kilP, List.set_cons_zero, List.set_cons_succ, List.getElem?_cons_zero, List.getElem?_cons_succ, List.nil_append, List.cons_append, Option.toList_some, Option.toList_none]
    repeat (refine ng 54 rfl ?_; first | refine es rfl rfl rfl ?_ | refine eg rfl (by assumption) rfl ?_ | refine eanE rfl (by assumption) (by with_reducible first | exact rfl | exact Int32.zero_add _ | exact ix8 _ | exact ix12 _ | exact ix7r _ _ | exact n7 | exact n0 | exact n1) (by assumption) rfl ?_ | refine eal rfl (by assumption) (by assumption) rfl ?_ | refine eri rfl ?_ | refine erv rfl ?_ | refine erl rfl ?_ | refine era rfl ?_ | refine erz0 rfl ?_ | refine erz1 rfl ?_)
    try dsimp only [set1, set2, kilP, List.set_cons_zero, List.set_cons_succ, List.getElem?_cons_zero, List.getElem?_cons_succ, List.nil_append, List.cons_append, Option.toList_some, Option.toList_none]
    rcases hs3 with ⟨e, rfl, rfl⟩ | ⟨x, a1, rfl, rfl, hx, rfl⟩
    · replace h5 : yP M5 b oa tw (.ref a) oq A tp le (.error e) := h5
      obtain ⟨⟨ta, sz, sp, so, pl, nu, fa, wa, wo⟩, hy9, e1, e2, q9, _⟩ := id h5
      replace q9 : so = 5 := q9
      subst q9
      have k9 := hy9.1
      repeat (first | refine es rfl rfl rfl ?_ | refine eg rfl (by assumption) rfl ?_ | refine eanE rfl (by assumption) (by with_reducible first | exact rfl | exact Int32.zero_add _ | exact ix8 _ | exact ix12 _ | exact ix7r _ _ | exact n7 | exact n0 | exact n1) (by assumption) rfl ?_ | refine eal rfl (by assumption) (by assumption) rfl ?_ | refine eri rfl ?_ | refine erv rfl ?_ | refine erl rfl ?_ | refine era rfl ?_ | refine erz0 rfl ?_ | refine erz1 rfl ?_)
      try dsimp only [set1, set2, kilP, List.set_cons_zero, List.set_cons_succ, List.getElem?_cons_zero, List.getElem?_cons_succ, List.nil_append, List.cons_append, Option.toList_some, Option.toList_none]
      refine ecv rfl rfl (by assumption) rfl rfl rfl (y_goesOn hA hl h5.er) (by first | rfl | exact Nat.blt_eq.mpr (by omega)) ?_
      rintro v M6 ⟨rfl, hF6, h6⟩
      try dsimp only [set1, set2, kilP, List.set_cons_zero, List.set_cons_succ, List.getElem?_cons_zero, List.getElem?_cons_succ, List.nil_append, List.cons_append, Option.toList_some, Option.toList_none]
      exact cont2 M6 _ _ _ (hG.w hF6) h6 (hM.fr hF6 (by omega)) (hS.fr hF6 hb) (Or.inl ⟨_, rfl, rfl⟩)
    replace h5 : yP M5 b oa tw (.ref a) oq A tp le (khS (pThis tp le 14 a1) (Except.bind (pThis tp le 14 a1) (pHou tp sc le T))) := h5
    rcases c1 : pThis tp le 14 a1 with e | a2
    · rw [c1] at h5
      replace h5 : yP M5 b oa tw (.ref a) oq A tp le (.error e) := h5
      obtain ⟨⟨ta, sz, sp, so, pl, nu, fa, wa, wo⟩, hy9, e1, e2, q9, _⟩ := id h5
      replace q9 : so = 5 := q9
      subst q9
      have k9 := hy9.1
      repeat (first | refine es rfl rfl rfl ?_ | refine eg rfl (by assumption) rfl ?_ | refine eanE rfl (by assumption) (by with_reducible first | exact rfl | exact Int32.zero_add _ | exact ix8 _ | exact ix12 _ | exact ix7r _ _ | exact n7 | exact n0 | exact n1) (by assumption) rfl ?_ | refine eal rfl (by assumption) (by assumption) rfl ?_ | refine eri rfl ?_ | refine erv rfl ?_ | refine erl rfl ?_ | refine era rfl ?_ | refine erz0 rfl ?_ | refine erz1 rfl ?_)
      try dsimp only [set1, set2, kilP, List.set_cons_zero, List.set_cons_succ, List.getElem?_cons_zero, List.getElem?_cons_succ, List.nil_append, List.cons_append, Option.toList_some, Option.toList_none]
      refine ecv rfl rfl (by assumption) rfl rfl rfl (y_goesOn hA hl h5.er) (by first | rfl | exact Nat.blt_eq.mpr (by omega)) ?_
      rintro v M6 ⟨rfl, hF6, h6⟩
      try dsimp only [set1, set2, kilP, List.set_cons_zero, List.set_cons_succ, List.getElem?_cons_zero, List.getElem?_cons_succ, List.nil_append, List.cons_append, Option.toList_some, Option.toList_none]
      exact cont2 M6 _ _ _ (hG.w hF6) h6 (hM.fr hF6 (by omega)) (hS.fr hF6 hb) (Or.inl ⟨_, rfl, by unfold lnWrong2; rw [c1]⟩)
    rw [c1] at h5
    replace h5 : yP M5 b oa tw (.ref a) oq A tp le (khS (.ok a2) (pHou tp sc le T a2)) := h5
    rcases c2 : pHou tp sc le T a2 with e | ⟨y, a3⟩
    · rw [c2] at h5
      replace h5 : yP M5 b oa tw (.ref a) oq A tp le (.error e) := h5
      obtain ⟨⟨ta, sz, sp, so, pl, nu, fa, wa, wo⟩, hy9, e1, e2, q9, _⟩ := id h5
      replace q9 : so = 5 := q9
      subst q9
      have k9 := hy9.1
      repeat (first | refine es rfl rfl rfl ?_ | refine eg rfl (by assumption) rfl ?_ | refine eanE rfl (by assumption) (by with_reducible first | exact rfl | exact Int32.zero_add _ | exact ix8 _ | exact ix12 _ | exact ix7r _ _ | exact n7 | exact n0 | exact n1) (by assumption) rfl ?_ | refine eal rfl (by assumption) (by assumption) rfl ?_ | refine eri rfl ?_ | refine erv rfl ?_ | refine erl rfl ?_ | refine era rfl ?_ | refine erz0 rfl ?_ | refine erz1 rfl ?_)
      try dsimp only [set1, set2, kilP, List.set_cons_zero, List.set_cons_succ, List.getElem?_cons_zero, List.getElem?_cons_succ, List.nil_append, List.cons_append, Option.toList_some, Option.toList_none]
      refine ecv rfl rfl (by assumption) rfl rfl rfl (y_goesOn hA hl h5.er) (by first | rfl | exact Nat.blt_eq.mpr (by omega)) ?_
      rintro v M6 ⟨rfl, hF6, h6⟩
      try dsimp only [set1, set2, kilP, List.set_cons_zero, List.set_cons_succ, List.getElem?_cons_zero, List.getElem?_cons_succ, List.nil_append, List.cons_append, Option.toList_some, Option.toList_none]
      exact cont2 M6 _ _ _ (hG.w hF6) h6 (hM.fr hF6 (by omega)) (hS.fr hF6 hb) (Or.inl ⟨_, rfl, by unfold lnWrong2; rw [c1]; dsimp only; rw [c2]⟩)
    rw [c2] at h5
    replace h5 : yP M5 b oa tw (.ref a) oq A tp le (.ok a2) := h5
    obtain ⟨kk, ea⟩ := pHou_k c2
    have hp2 : a2 ≤ le := by obtain ⟨_, _, _, _, q, _⟩ := h5; exact q
    have hy := (pHou_b hn7 hp2 c2).2
    rw [show Except.bind (.ok a1) (pThis tp le 14) = .ok a2 from c1]
    rw [show Except.bind (.ok a2) (pHou tp sc le T) = .ok (y, a3) from c2]
    rw [show wV 0 (.ok (y, a3)) = y from rfl]
    obtain ⟨⟨ta, sz, sp, so, pl, nu, fa, wa, wo⟩, hy9, e1, e3, q8, q9, _⟩ := id h5
    replace q9 : so = kR (tk tp le a2).2.2.1 := q9
    rw [kk] at q9
    replace q9 : so = 2 := q9
    subst q9
    have k9 := hy9.1
    obtain ⟨kn, Am, Bm, m0, mc, mH, mS, mP, mC, mN⟩ := id hM
    repeat (first | refine es rfl rfl rfl ?_ | refine eg rfl (by assumption) rfl ?_ | refine eanE rfl (by assumption) (by with_reducible first | exact rfl | exact Int32.zero_add _ | exact ix8 _ | exact ix12 _ | exact ix7r _ _ | exact n7 | exact n0 | exact n1) (by assumption) rfl ?_ | refine eal rfl (by assumption) (by assumption) rfl ?_ | refine eri rfl ?_ | refine erv rfl ?_ | refine erl rfl ?_ | refine era rfl ?_ | refine erz0 rfl ?_ | refine erz1 rfl ?_)
    try dsimp only [set1, set2, kilP, List.set_cons_zero, List.set_cons_succ, List.getElem?_cons_zero, List.getElem?_cons_succ, List.nil_append, List.cons_append, Option.toList_some, Option.toList_none]
    refine ei _ rfl rfl (fun c3 => ?_) (fun c3 => ?_)
    · have hyx : y = x := (nI_eq (by omega) (by omega)).mp c3
      repeat (first | refine es rfl rfl rfl ?_ | refine eg rfl (by assumption) rfl ?_ | refine eanE rfl (by assumption) (by with_reducible first | exact rfl | exact Int32.zero_add _ | exact ix8 _ | exact ix12 _ | exact ix7r _ _ | exact n7 | exact n0 | exact n1) (by assumption) rfl ?_ | refine eal rfl (by assumption) (by assumption) rfl ?_ | refine eri rfl ?_ | refine erv rfl ?_ | refine erl rfl ?_ | refine era rfl ?_ | refine erz0 rfl ?_ | refine erz1 rfl ?_)
      try dsimp only [set1, set2, kilP, List.set_cons_zero, List.set_cons_succ, List.getElem?_cons_zero, List.getElem?_cons_succ, List.nil_append, List.cons_append, Option.toList_some, Option.toList_none]
      refine ecv rfl rfl (by assumption) rfl rfl rfl (y_flaw (n := 3) rfl h5) (by first | rfl | exact Nat.blt_eq.mpr (by omega)) ?_
      rintro v M6 ⟨rfl, hF6, h6⟩
      obtain ⟨⟨ta53, sz53, sp53, so53, pl53, nu53, fa53, wa53, wo53⟩, hy53, _⟩ := id h6
      have j53 := hy53.1
      try dsimp only [set1, set2, kilP, List.set_cons_zero, List.set_cons_succ, List.getElem?_cons_zero, List.getElem?_cons_succ, List.nil_append, List.cons_append, Option.toList_some, Option.toList_none]
      repeat (first | refine es rfl rfl rfl ?_ | refine eg rfl (by assumption) rfl ?_ | refine eanE rfl (by assumption) (by with_reducible first | exact rfl | exact Int32.zero_add _ | exact ix8 _ | exact ix12 _ | exact ix7r _ _ | exact n7 | exact n0 | exact n1) (by assumption) rfl ?_ | refine eal rfl (by assumption) (by assumption) rfl ?_ | refine eri rfl ?_ | refine erv rfl ?_ | refine erl rfl ?_ | refine era rfl ?_ | refine erz0 rfl ?_ | refine erz1 rfl ?_)
      try dsimp only [set1, set2, kilP, List.set_cons_zero, List.set_cons_succ, List.getElem?_cons_zero, List.getElem?_cons_succ, List.nil_append, List.cons_append, Option.toList_some, Option.toList_none]
      refine ecv rfl rfl (by assumption) rfl rfl rfl (y_goesOn hA hl h6.er) (by first | rfl | exact Nat.blt_eq.mpr (by omega)) ?_
      rintro v M7 ⟨rfl, hF7, h7⟩
      try dsimp only [set1, set2, kilP, List.set_cons_zero, List.set_cons_succ, List.getElem?_cons_zero, List.getElem?_cons_succ, List.nil_append, List.cons_append, Option.toList_some, Option.toList_none]
      have hF := hF6.tr hF7 (by omega) (by omega)
      exact cont2 M7 _ _ _ (hG.w hF) h7 (hM.fr hF (by omega)) (hS.fr hF hb) (Or.inl ⟨_, rfl, by unfold lnWrong2; rw [c1]; dsimp only; rw [c2]; dsimp only; rw [if_pos (Or.inl hyx)]⟩)
    have hyx : ¬ y = x := fun q => c3 (by rw [q])
    repeat (first | refine es rfl rfl rfl ?_ | refine eg rfl (by assumption) rfl ?_ | refine eanE rfl (by assumption) (by with_reducible first | exact rfl | exact Int32.zero_add _ | exact ix8 _ | exact ix12 _ | exact ix7r _ _ | exact n7 | exact n0 | exact n1) (by assumption) rfl ?_ | refine eal rfl (by assumption) (by assumption) rfl ?_ | refine eri rfl ?_ | refine erv rfl ?_ | refine erl rfl ?_ | refine era rfl ?_ | refine erz0 rfl ?_ | refine erz1 rfl ?_)
    try dsimp only [set1, set2, kilP, List.set_cons_zero, List.set_cons_succ, List.getElem?_cons_zero, List.getElem?_cons_succ, List.nil_append, List.cons_append, Option.toList_some, Option.toList_none]
    refine ecr rfl rfl (by assumption) rfl rfl rfl (y_isOf hM hn7) (by first | rfl | exact Nat.blt_eq.mpr (by omega)) rfl ?_
    rcases isoF_zo (f := T.hs.to) (x := nI y) T.hs.n 0 with c4 | c4
    rotate_left
    · rw [c4]
      repeat (first | refine es rfl rfl rfl ?_ | refine eg rfl (by assumption) rfl ?_ | refine eanE rfl (by assumption) (by with_reducible first | exact rfl | exact Int32.zero_add _ | exact ix8 _ | exact ix12 _ | exact ix7r _ _ | exact n7 | exact n0 | exact n1) (by assumption) rfl ?_ | refine eal rfl (by assumption) (by assumption) rfl ?_ | refine eri rfl ?_ | refine erv rfl ?_ | refine erl rfl ?_ | refine era rfl ?_ | refine erz0 rfl ?_ | refine erz1 rfl ?_)
      try dsimp only [set1, set2, kilP, List.set_cons_zero, List.set_cons_succ, List.getElem?_cons_zero, List.getElem?_cons_succ, List.nil_append, List.cons_append, Option.toList_some, Option.toList_none]
      refine ecv rfl rfl (by assumption) rfl rfl rfl (y_flaw (n := 3) rfl h5) (by first | rfl | exact Nat.blt_eq.mpr (by omega)) ?_
      rintro v M6 ⟨rfl, hF6, h6⟩
      obtain ⟨⟨ta53, sz53, sp53, so53, pl53, nu53, fa53, wa53, wo53⟩, hy53, _⟩ := id h6
      have j53 := hy53.1
      try dsimp only [set1, set2, kilP, List.set_cons_zero, List.set_cons_succ, List.getElem?_cons_zero, List.getElem?_cons_succ, List.nil_append, List.cons_append, Option.toList_some, Option.toList_none]
      repeat (first | refine es rfl rfl rfl ?_ | refine eg rfl (by assumption) rfl ?_ | refine eanE rfl (by assumption) (by with_reducible first | exact rfl | exact Int32.zero_add _ | exact ix8 _ | exact ix12 _ | exact ix7r _ _ | exact n7 | exact n0 | exact n1) (by assumption) rfl ?_ | refine eal rfl (by assumption) (by assumption) rfl ?_ | refine eri rfl ?_ | refine erv rfl ?_ | refine erl rfl ?_ | refine era rfl ?_ | refine erz0 rfl ?_ | refine erz1 rfl ?_)
      try dsimp only [set1, set2, kilP, List.set_cons_zero, List.set_cons_succ, List.getElem?_cons_zero, List.getElem?_cons_succ, List.nil_append, List.cons_append, Option.toList_some, Option.toList_none]
      refine ecv rfl rfl (by assumption) rfl rfl rfl (y_goesOn hA hl h6.er) (by first | rfl | exact Nat.blt_eq.mpr (by omega)) ?_
      rintro v M7 ⟨rfl, hF7, h7⟩
      try dsimp only [set1, set2, kilP, List.set_cons_zero, List.set_cons_succ, List.getElem?_cons_zero, List.getElem?_cons_succ, List.nil_append, List.cons_append, Option.toList_some, Option.toList_none]
      have hF := hF6.tr hF7 (by omega) (by omega)
      exact cont2 M7 _ _ _ (hG.w hF) h7 (hM.fr hF (by omega)) (hS.fr hF hb) (Or.inl ⟨_, rfl, by unfold lnWrong2; rw [c1]; dsimp only; rw [c2]; dsimp only; rw [if_pos (Or.inr c4)]⟩)
    have c5 : ¬ isoF T.hs.to (nI y) T.hs.n 0 = 1 := by rw [c4]; decide
    rw [c4]
    repeat (first | refine es rfl rfl rfl ?_ | refine eg rfl (by assumption) rfl ?_ | refine eanE rfl (by assumption) (by with_reducible first | exact rfl | exact Int32.zero_add _ | exact ix8 _ | exact ix12 _ | exact ix7r _ _ | exact n7 | exact n0 | exact n1) (by assumption) rfl ?_ | refine eal rfl (by assumption) (by assumption) rfl ?_ | refine eri rfl ?_ | refine erv rfl ?_ | refine erl rfl ?_ | refine era rfl ?_ | refine erz0 rfl ?_ | refine erz1 rfl ?_)
    try dsimp only [set1, set2, kilP, List.set_cons_zero, List.set_cons_succ, List.getElem?_cons_zero, List.getElem?_cons_succ, List.nil_append, List.cons_append, Option.toList_some, Option.toList_none]
    refine ecv rfl rfl (by assumption) rfl rfl rfl (y_goesOn hA hl (h5.nx (by omega))) (by first | rfl | exact Nat.blt_eq.mpr (by omega)) ?_
    rintro v M6 ⟨rfl, hF6, h6⟩
    try dsimp only [set1, set2, kilP, List.set_cons_zero, List.set_cons_succ, List.getElem?_cons_zero, List.getElem?_cons_succ, List.nil_append, List.cons_append, Option.toList_some, Option.toList_none]
    refine cont2 M6 _ _ _ (hG.w hF6) h6 (hM.fr hF6 (by omega)) (hS.fr hF6 hb) (Or.inr ⟨x, y, _, rfl, rfl, rfl, hx, ?_⟩)
    unfold lnWrong2
    rw [c1]
    dsimp only
    rw [c2]
    dsimp only
    rw [if_neg (fun q => q.elim hyx c5), ea]
  repeat (first | refine es rfl rfl rfl ?_ | refine eg rfl (by assumption) rfl ?_ | refine eanE rfl (by assumption) (by with_reducible first | exact rfl | exact Int32.zero_add _ | exact ix8 _ | exact ix12 _ | exact ix7r _ _ | exact n7 | exact n0 | exact n1) (by assumption) rfl ?_ | refine eal rfl (by assumption) (by assumption) rfl ?_ | refine eri rfl ?_ | refine erv rfl ?_ | refine erl rfl ?_ | refine era rfl ?_ | refine erz0 rfl ?_ | refine erz1 rfl ?_)
  try dsimp only [set1, set2, kilP, List.set_cons_zero, List.set_cons_succ, List.getElem?_cons_zero, List.getElem?_cons_succ, List.nil_append, List.cons_append, Option.toList_some, Option.toList_none]
  have H2 := y_known' (ad := ad) h1 hM ha hN hK hS hc
  refine ecv rfl rfl (by assumption) rfl rfl rfl (H2) (by first | rfl | exact Nat.blt_eq.mpr (by omega)) ?_
  rintro v M2 ⟨rfl, hF2, h2⟩
  replace hM := hM.fr hF2 (by omega)
  replace hS := hS.fr hF2 hb
  replace hG := hG.w hF2
  obtain ⟨⟨ta2, sz2, sp2, so2, pl2, nu2, fa2, wa2, wo2⟩, hy2, _⟩ := id h2
  have j2 := hy2.1
  try dsimp only [set1, set2, kilP, List.set_cons_zero, List.set_cons_succ, List.getElem?_cons_zero, List.getElem?_cons_succ, List.nil_append, List.cons_append, Option.toList_some, Option.toList_none]
  repeat (refine ng 11 rfl ?_; first | refine es rfl rfl rfl ?_ | refine eg rfl (by assumption) rfl ?_ | refine eanE rfl (by assumption) (by with_reducible first | exact rfl | exact Int32.zero_add _ | exact ix8 _ | exact ix12 _ | exact ix7r _ _ | exact n7 | exact n0 | exact n1) (by assumption) rfl ?_ | refine eal rfl (by assumption) (by assumption) rfl ?_ | refine eri rfl ?_ | refine erv rfl ?_ | refine erl rfl ?_ | refine era rfl ?_ | refine erz0 rfl ?_ | refine erz1 rfl ?_)
  try dsimp only [set1, set2, kilP, List.set_cons_zero, List.set_cons_succ, List.getElem?_cons_zero, List.getElem?_cons_succ, List.nil_append, List.cons_append, Option.toList_some, Option.toList_none]
  rcases hs1 with ⟨e, rfl, rfl⟩ | ⟨rfl, hd, hlt, rfl⟩
  · replace h2 : yP M2 b oa tw (.ref a) oq A tp le (.error e) := h2
    obtain ⟨⟨ta, sz, sp, so, pl, nu, fa, wa, wo⟩, hy9, e1, e2, q9, _⟩ := id h2
    replace q9 : so = 5 := q9
    subst q9
    have k9 := hy9.1
    repeat (first | refine es rfl rfl rfl ?_ | refine eg rfl (by assumption) rfl ?_ | refine eanE rfl (by assumption) (by with_reducible first | exact rfl | exact Int32.zero_add _ | exact ix8 _ | exact ix12 _ | exact ix7r _ _ | exact n7 | exact n0 | exact n1) (by assumption) rfl ?_ | refine eal rfl (by assumption) (by assumption) rfl ?_ | refine eri rfl ?_ | refine erv rfl ?_ | refine erl rfl ?_ | refine era rfl ?_ | refine erz0 rfl ?_ | refine erz1 rfl ?_)
    try dsimp only [set1, set2, kilP, List.set_cons_zero, List.set_cons_succ, List.getElem?_cons_zero, List.getElem?_cons_succ, List.nil_append, List.cons_append, Option.toList_some, Option.toList_none]
    refine ecv rfl rfl (by assumption) rfl rfl rfl (y_goesOn hA hl h2.er) (by first | rfl | exact Nat.blt_eq.mpr (by omega)) ?_
    rintro v M3 ⟨rfl, hF3, h3⟩
    try dsimp only [set1, set2, kilP, List.set_cons_zero, List.set_cons_succ, List.getElem?_cons_zero, List.getElem?_cons_succ, List.nil_append, List.cons_append, Option.toList_some, Option.toList_none]
    exact cont M3 _ _ (hG.w hF3) h3 (hM.fr hF3 (by omega)) (hS.fr hF3 hb) (Or.inl ⟨_, rfl, rfl⟩)
  replace h2 : yP M2 b oa tw (.ref a) oq A tp le (khS (.ok (tk tp le p).2.1) (pHou tp sc le T (tk tp le p).2.1)) := h2
  rcases c1 : pHou tp sc le T (tk tp le p).2.1 with e | ⟨x, a2⟩
  · rw [c1] at h2
    replace h2 : yP M2 b oa tw (.ref a) oq A tp le (.error e) := h2
    obtain ⟨⟨ta, sz, sp, so, pl, nu, fa, wa, wo⟩, hy9, e1, e2, q9, _⟩ := id h2
    replace q9 : so = 5 := q9
    subst q9
    have k9 := hy9.1
    repeat (first | refine es rfl rfl rfl ?_ | refine eg rfl (by assumption) rfl ?_ | refine eanE rfl (by assumption) (by with_reducible first | exact rfl | exact Int32.zero_add _ | exact ix8 _ | exact ix12 _ | exact ix7r _ _ | exact n7 | exact n0 | exact n1) (by assumption) rfl ?_ | refine eal rfl (by assumption) (by assumption) rfl ?_ | refine eri rfl ?_ | refine erv rfl ?_ | refine erl rfl ?_ | refine era rfl ?_ | refine erz0 rfl ?_ | refine erz1 rfl ?_)
    try dsimp only [set1, set2, kilP, List.set_cons_zero, List.set_cons_succ, List.getElem?_cons_zero, List.getElem?_cons_succ, List.nil_append, List.cons_append, Option.toList_some, Option.toList_none]
    refine ecv rfl rfl (by assumption) rfl rfl rfl (y_goesOn hA hl h2.er) (by first | rfl | exact Nat.blt_eq.mpr (by omega)) ?_
    rintro v M3 ⟨rfl, hF3, h3⟩
    try dsimp only [set1, set2, kilP, List.set_cons_zero, List.set_cons_succ, List.getElem?_cons_zero, List.getElem?_cons_succ, List.nil_append, List.cons_append, Option.toList_some, Option.toList_none]
    exact cont M3 _ _ (hG.w hF3) h3 (hM.fr hF3 (by omega)) (hS.fr hF3 hb) (Or.inl ⟨_, rfl, by unfold lnWrong; rw [c1]⟩)
  rw [c1] at h2
  replace h2 : yP M2 b oa tw (.ref a) oq A tp le (.ok (tk tp le p).2.1) := h2
  obtain ⟨kk, ea⟩ := pHou_k c1
  have hx := (pHou_b hn7 hp0 c1).2
  have hx7 : x < 7 := by omega
  rw [show Except.bind (.ok (tk tp le p).2.1) (pHou tp sc le T) = .ok (x, a2) from c1, show wV 0 (.ok (x, a2)) = x from rfl]
  obtain ⟨⟨ta, sz, sp, so, pl, nu, fa, wa, wo⟩, hy9, e1, e3, q8, q9, _⟩ := id h2
  replace q9 : so = kR (tk tp le (tk tp le p).2.1).2.2.1 := q9
  rw [kk] at q9
  replace q9 : so = 2 := q9
  subst q9
  have k9 := hy9.1
  obtain ⟨kn, Am, Bm, m0, mc, mH, mS, mP, mC, mN⟩ := id hM
  have m4 : M2.1 (a + 4) = ints 7 (Am 4) := mc.2.2.2.1
  have hto := (mH x hx).2.2.2.1
  repeat (first | refine es rfl rfl rfl ?_ | refine eg rfl (by assumption) rfl ?_ | refine eanE rfl (by assumption) (by with_reducible first | exact rfl | exact Int32.zero_add _ | exact ix8 _ | exact ix12 _ | exact ix7r _ _ | exact n7 | exact n0 | exact n1) (by assumption) rfl ?_ | refine eal rfl (by assumption) (by assumption) rfl ?_ | refine eri rfl ?_ | refine erv rfl ?_ | refine erl rfl ?_ | refine era rfl ?_ | refine erz0 rfl ?_ | refine erz1 rfl ?_)
  try dsimp only [set1, set2, kilP, List.set_cons_zero, List.set_cons_succ, List.getElem?_cons_zero, List.getElem?_cons_succ, List.nil_append, List.cons_append, Option.toList_some, Option.toList_none]
  rw [hto]
  refine ei _ rfl rfl (fun c3 => ?_) (fun c3 => ?_)
  rotate_left
  · repeat (first | refine es rfl rfl rfl ?_ | refine eg rfl (by assumption) rfl ?_ | refine eanE rfl (by assumption) (by with_reducible first | exact rfl | exact Int32.zero_add _ | exact ix8 _ | exact ix12 _ | exact ix7r _ _ | exact n7 | exact n0 | exact n1) (by assumption) rfl ?_ | refine eal rfl (by assumption) (by assumption) rfl ?_ | refine eri rfl ?_ | refine erv rfl ?_ | refine erl rfl ?_ | refine era rfl ?_ | refine erz0 rfl ?_ | refine erz1 rfl ?_)
    try dsimp only [set1, set2, kilP, List.set_cons_zero, List.set_cons_succ, List.getElem?_cons_zero, List.getElem?_cons_succ, List.nil_append, List.cons_append, Option.toList_some, Option.toList_none]
    refine ecv rfl rfl (by assumption) rfl rfl rfl (y_flaw (n := 3) rfl h2) (by first | rfl | exact Nat.blt_eq.mpr (by omega)) ?_
    rintro v M3 ⟨rfl, hF3, h3⟩
    obtain ⟨⟨ta23, sz23, sp23, so23, pl23, nu23, fa23, wa23, wo23⟩, hy23, _⟩ := id h3
    have j23 := hy23.1
    try dsimp only [set1, set2, kilP, List.set_cons_zero, List.set_cons_succ, List.getElem?_cons_zero, List.getElem?_cons_succ, List.nil_append, List.cons_append, Option.toList_some, Option.toList_none]
    repeat (first | refine es rfl rfl rfl ?_ | refine eg rfl (by assumption) rfl ?_ | refine eanE rfl (by assumption) (by with_reducible first | exact rfl | exact Int32.zero_add _ | exact ix8 _ | exact ix12 _ | exact ix7r _ _ | exact n7 | exact n0 | exact n1) (by assumption) rfl ?_ | refine eal rfl (by assumption) (by assumption) rfl ?_ | refine eri rfl ?_ | refine erv rfl ?_ | refine erl rfl ?_ | refine era rfl ?_ | refine erz0 rfl ?_ | refine erz1 rfl ?_)
    try dsimp only [set1, set2, kilP, List.set_cons_zero, List.set_cons_succ, List.getElem?_cons_zero, List.getElem?_cons_succ, List.nil_append, List.cons_append, Option.toList_some, Option.toList_none]
    refine ecv rfl rfl (by assumption) rfl rfl rfl (y_goesOn hA hl h3.er) (by first | rfl | exact Nat.blt_eq.mpr (by omega)) ?_
    rintro v M4 ⟨rfl, hF4, h4⟩
    try dsimp only [set1, set2, kilP, List.set_cons_zero, List.set_cons_succ, List.getElem?_cons_zero, List.getElem?_cons_succ, List.nil_append, List.cons_append, Option.toList_some, Option.toList_none]
    have hF := hF3.tr hF4 (by omega) (by omega)
    exact cont M4 _ _ (hG.w hF) h4 (hM.fr hF (by omega)) (hS.fr hF hb) (Or.inl ⟨_, rfl, by unfold lnWrong; rw [c1]; dsimp only; rw [if_pos c3]⟩)
  repeat (first | refine es rfl rfl rfl ?_ | refine eg rfl (by assumption) rfl ?_ | refine eanE rfl (by assumption) (by with_reducible first | exact rfl | exact Int32.zero_add _ | exact ix8 _ | exact ix12 _ | exact ix7r _ _ | exact n7 | exact n0 | exact n1) (by assumption) rfl ?_ | refine eal rfl (by assumption) (by assumption) rfl ?_ | refine eri rfl ?_ | refine erv rfl ?_ | refine erl rfl ?_ | refine era rfl ?_ | refine erz0 rfl ?_ | refine erz1 rfl ?_)
  try dsimp only [set1, set2, kilP, List.set_cons_zero, List.set_cons_succ, List.getElem?_cons_zero, List.getElem?_cons_succ, List.nil_append, List.cons_append, Option.toList_some, Option.toList_none]
  refine ecv rfl rfl (by assumption) rfl rfl rfl (y_goesOn hA hl (h2.nx (by omega))) (by first | rfl | exact Nat.blt_eq.mpr (by omega)) ?_
  rintro v M3 ⟨rfl, hF3, h3⟩
  try dsimp only [set1, set2, kilP, List.set_cons_zero, List.set_cons_succ, List.getElem?_cons_zero, List.getElem?_cons_succ, List.nil_append, List.cons_append, Option.toList_some, Option.toList_none]
  refine cont M3 _ _ (hG.w hF3) h3 (hM.fr hF3 (by omega)) (hS.fr hF3 hb) (Or.inr ⟨x, _, rfl, rfl, hx, ?_⟩)
  unfold lnWrong lnWrong2
  rw [c1]
  dsimp only
  rw [if_neg (fun q => q c3), ea]
  rfl
end RLINESD
