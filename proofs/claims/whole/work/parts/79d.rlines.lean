/-! The reference reads: lines -/
section RLINES
variable {ad : Nat → Nat} {a b lo0 : Nat} {tp : Nat → Int32} {sc : Nat → Int64} {le : Nat} {A : Ar} {oa : Int32 × Int32 × Int32} {oq : Yq} {tw : Value} {M : Mm} {T : Tw} {R : Except Er (Tw × Nat)} {p : Nat}
theorem y_lnSign (h : yP M b oa tw (.ref a) oq A tp le (.ok p)) (k : (tk tp le p).2.2.1 = 1) (hM : aMt M a T) (ha : b + 16 ≤ a) (hI : tI T) (hA : tpR A tp) (hl : le ≤ 1100) (hS : aSt ad lo0 M) (hb : lo0 ≤ b) (hc : ∀ j, j < 8 → sc j = sC j) (hR : R = if T.dr = 0 then .error (6, (tk tp le p).1) else if 8 ≤ T.cs.sg then .error (5, (tk tp le p).1) else lnSign tp sc le T (tk tp le p).2.1) : EvM ad 6 (iX13_readSign ad) [.ref b] M (lnQ M b a oa tw oq A tp le T R) := by
  have hrd := hI.1.1
  unfold rdW at hrd
  have hN : T.hs.n + T.np ≤ 11 := by omega
  have hn7 : T.hs.n ≤ 7 := by omega
  have hK : tK T := hI.2.2.2.2.2.2.2.2.2
  have hzr := hI.1.2.2
  have hp : p ≤ le := by obtain ⟨_, _, _, _, q, _⟩ := h; exact q
  have hp0 : (tk tp le p).2.1 ≤ le := tk_le hp
  have hG := FY.rf b a M
  obtain ⟨kn0, _, _, m0, _⟩ := id hM
  have ⟨r0, hy0, _⟩ := id h
  have h0 := hy0.1
  refine ⟨Nat.le_of_ble_eq_true rfl, ?_⟩
  show Ev ad _ (rX13_readSign ad) (0, [some (.ref b), none, none, none], [], M) _
  repeat (first | refine es rfl rfl rfl ?_ | refine eg rfl (by assumption) rfl ?_ | refine eanE rfl (by assumption) (by with_reducible first | exact rfl | exact Int32.zero_add _ | exact ix8 _ | exact ix12 _ | exact ix7r _ _ | exact n7 | exact n0 | exact n1) (by assumption) rfl ?_ | refine eal rfl (by assumption) (by assumption) rfl ?_ | refine eri rfl ?_ | refine erv rfl ?_ | refine erl rfl ?_ | refine era rfl ?_ | refine erz0 rfl ?_ | refine erz1 rfl ?_)
  try dsimp only [set1, set2, kilP, List.set_cons_zero, List.set_cons_succ, List.getElem?_cons_zero, List.getElem?_cons_succ, List.nil_append, List.cons_append, Option.toList_some, Option.toList_none]
  refine ecv rfl rfl (by assumption) rfl rfl rfl (y_begins h k hM ha (by omega) hA hl) (by first | rfl | exact Nat.blt_eq.mpr (by omega)) ?_
  rintro v M1 ⟨rfl, hF1, h1⟩
  obtain ⟨s1, eqS, hs1⟩ := beg_or (T := T) (c := T.cs.sg) (m := 8) (y := 8) (a1 := (tk tp le p).2.1) rfl rfl (by omega) (by omega) (by omega) (fun q => (hzr q).2.2.2.1) hR
  rw [eqS] at h1
  replace hM := hM.fr hF1 (by omega)
  replace hS := hS.fr hF1 hb
  replace hG := hG.w hF1
  obtain ⟨⟨ta1, sz1, sp1, so1, pl1, nu1, fa1, wa1, wo1⟩, hy1, _⟩ := id h1
  have j1 := hy1.1
  try dsimp only [set1, set2, kilP, List.set_cons_zero, List.set_cons_succ, List.getElem?_cons_zero, List.getElem?_cons_succ, List.nil_append, List.cons_append, Option.toList_some, Option.toList_none]
  repeat (first | refine es rfl rfl rfl ?_ | refine eg rfl (by assumption) rfl ?_ | refine eanE rfl (by assumption) (by with_reducible first | exact rfl | exact Int32.zero_add _ | exact ix8 _ | exact ix12 _ | exact ix7r _ _ | exact n7 | exact n0 | exact n1) (by assumption) rfl ?_ | refine eal rfl (by assumption) (by assumption) rfl ?_ | refine eri rfl ?_ | refine erv rfl ?_ | refine erl rfl ?_ | refine era rfl ?_ | refine erz0 rfl ?_ | refine erz1 rfl ?_)
  try dsimp only [set1, set2, kilP, List.set_cons_zero, List.set_cons_succ, List.getElem?_cons_zero, List.getElem?_cons_succ, List.nil_append, List.cons_append, Option.toList_some, Option.toList_none]
  have H2 := y_rHouse (ad := ad) h1 hM ha hN hK hA hl hS hc
  refine ecv rfl rfl (by assumption) rfl rfl rfl (H2) (by first | rfl | exact Nat.blt_eq.mpr (by omega)) ?_
  rintro v M2 ⟨rfl, hF2, h2⟩
  replace hM := hM.fr hF2 (by omega)
  replace hS := hS.fr hF2 hb
  replace hG := hG.w hF2
  obtain ⟨⟨ta2, sz2, sp2, so2, pl2, nu2, fa2, wa2, wo2⟩, hy2, _⟩ := id h2
  have j2 := hy2.1
  try dsimp only [set1, set2, kilP, List.set_cons_zero, List.set_cons_succ, List.getElem?_cons_zero, List.getElem?_cons_succ, List.nil_append, List.cons_append, Option.toList_some, Option.toList_none]
  repeat (first | refine es rfl rfl rfl ?_ | refine eg rfl (by assumption) rfl ?_ | refine eanE rfl (by assumption) (by with_reducible first | exact rfl | exact Int32.zero_add _ | exact ix8 _ | exact ix12 _ | exact ix7r _ _ | exact n7 | exact n0 | exact n1) (by assumption) rfl ?_ | refine eal rfl (by assumption) (by assumption) rfl ?_ | refine eri rfl ?_ | refine erv rfl ?_ | refine erl rfl ?_ | refine era rfl ?_ | refine erz0 rfl ?_ | refine erz1 rfl ?_)
  try dsimp only [set1, set2, kilP, List.set_cons_zero, List.set_cons_succ, List.getElem?_cons_zero, List.getElem?_cons_succ, List.nil_append, List.cons_append, Option.toList_some, Option.toList_none]
  have H3 := y_word (ad := ad) h2 hA hl
  refine ecv rfl rfl (by assumption) rfl rfl rfl (H3) (by first | rfl | exact Nat.blt_eq.mpr (by omega)) ?_
  rintro v M3 ⟨⟨w, rfl, hw⟩, hF3, h3⟩
  replace hM := hM.fr hF3 (by omega)
  replace hS := hS.fr hF3 hb
  replace hG := hG.w hF3
  obtain ⟨⟨ta3, sz3, sp3, so3, pl3, nu3, fa3, wa3, wo3⟩, hy3, _⟩ := id h3
  have j3 := hy3.1
  try dsimp only [set1, set2, kilP, List.set_cons_zero, List.set_cons_succ, List.getElem?_cons_zero, List.getElem?_cons_succ, List.nil_append, List.cons_append, Option.toList_some, Option.toList_none]
  repeat (refine ng 23 rfl ?_; first | refine es rfl rfl rfl ?_ | refine eg rfl (by assumption) rfl ?_ | refine eanE rfl (by assumption) (by with_reducible first | exact rfl | exact Int32.zero_add _ | exact ix8 _ | exact ix12 _ | exact ix7r _ _ | exact n7 | exact n0 | exact n1) (by assumption) rfl ?_ | refine eal rfl (by assumption) (by assumption) rfl ?_ | refine eri rfl ?_ | refine erv rfl ?_ | refine erl rfl ?_ | refine era rfl ?_ | refine erz0 rfl ?_ | refine erz1 rfl ?_)
  try dsimp only [set1, set2, kilP, List.set_cons_zero, List.set_cons_succ, List.getElem?_cons_zero, List.getElem?_cons_succ, List.nil_append, List.cons_append, Option.toList_some, Option.toList_none]
  rcases hs1 with ⟨e, rfl, rfl⟩ | ⟨rfl, hd, hlt, rfl⟩
  · replace h3 : yP M3 b oa tw (.ref a) oq A tp le (.error e) := h3
    obtain ⟨⟨ta, sz, sp, so, pl, nu, fa, wa, wo⟩, hy9, e1, e2, q9, _⟩ := id h3
    replace q9 : so = 5 := q9
    subst q9
    have k9 := hy9.1
    repeat (first | refine es rfl rfl rfl ?_ | refine eg rfl (by assumption) rfl ?_ | refine eanE rfl (by assumption) (by with_reducible first | exact rfl | exact Int32.zero_add _ | exact ix8 _ | exact ix12 _ | exact ix7r _ _ | exact n7 | exact n0 | exact n1) (by assumption) rfl ?_ | refine eal rfl (by assumption) (by assumption) rfl ?_ | refine eri rfl ?_ | refine erv rfl ?_ | refine erl rfl ?_ | refine era rfl ?_ | refine erz0 rfl ?_ | refine erz1 rfl ?_)
    try dsimp only [set1, set2, kilP, List.set_cons_zero, List.set_cons_succ, List.getElem?_cons_zero, List.getElem?_cons_succ, List.nil_append, List.cons_append, Option.toList_some, Option.toList_none]
    exact ⟨rfl, hG, h3, hM⟩
  replace h3 : yP M3 b oa tw (.ref a) oq A tp le (nxt (Except.bind (nxt (pHou tp sc le T (tk tp le p).2.1)) (pAny tp le))) := h3
  rcases c1 : pHou tp sc le T (tk tp le p).2.1 with e | ⟨x, a2⟩
  · rw [c1] at h3
    rw [show lnSign tp sc le T (tk tp le p).2.1 = .error e by unfold lnSign; rw [c1]]
    replace h3 : yP M3 b oa tw (.ref a) oq A tp le (.error e) := h3
    obtain ⟨⟨ta, sz, sp, so, pl, nu, fa, wa, wo⟩, hy9, e1, e2, q9, _⟩ := id h3
    replace q9 : so = 5 := q9
    subst q9
    have k9 := hy9.1
    repeat (first | refine es rfl rfl rfl ?_ | refine eg rfl (by assumption) rfl ?_ | refine eanE rfl (by assumption) (by with_reducible first | exact rfl | exact Int32.zero_add _ | exact ix8 _ | exact ix12 _ | exact ix7r _ _ | exact n7 | exact n0 | exact n1) (by assumption) rfl ?_ | refine eal rfl (by assumption) (by assumption) rfl ?_ | refine eri rfl ?_ | refine erv rfl ?_ | refine erl rfl ?_ | refine era rfl ?_ | refine erz0 rfl ?_ | refine erz1 rfl ?_)
    try dsimp only [set1, set2, kilP, List.set_cons_zero, List.set_cons_succ, List.getElem?_cons_zero, List.getElem?_cons_succ, List.nil_append, List.cons_append, Option.toList_some, Option.toList_none]
    exact ⟨rfl, hG, h3, hM⟩
  rw [c1] at h3
  replace h3 : yP M3 b oa tw (.ref a) oq A tp le (nxt (pAny tp le a2)) := h3
  rcases c2 : pAny tp le a2 with e | ⟨w', a3⟩
  · rw [c2] at h3
    rw [show lnSign tp sc le T (tk tp le p).2.1 = .error e by unfold lnSign; rw [c1]; dsimp only; rw [c2]]
    replace h3 : yP M3 b oa tw (.ref a) oq A tp le (.error e) := h3
    obtain ⟨⟨ta, sz, sp, so, pl, nu, fa, wa, wo⟩, hy9, e1, e2, q9, _⟩ := id h3
    replace q9 : so = 5 := q9
    subst q9
    have k9 := hy9.1
    repeat (first | refine es rfl rfl rfl ?_ | refine eg rfl (by assumption) rfl ?_ | refine eanE rfl (by assumption) (by with_reducible first | exact rfl | exact Int32.zero_add _ | exact ix8 _ | exact ix12 _ | exact ix7r _ _ | exact n7 | exact n0 | exact n1) (by assumption) rfl ?_ | refine eal rfl (by assumption) (by assumption) rfl ?_ | refine eri rfl ?_ | refine erv rfl ?_ | refine erl rfl ?_ | refine era rfl ?_ | refine erz0 rfl ?_ | refine erz1 rfl ?_)
    try dsimp only [set1, set2, kilP, List.set_cons_zero, List.set_cons_succ, List.getElem?_cons_zero, List.getElem?_cons_succ, List.nil_append, List.cons_append, Option.toList_some, Option.toList_none]
    exact ⟨rfl, hG, h3, hM⟩
  rw [c2] at h3
  replace h3 : yP M3 b oa tw (.ref a) oq A tp le (.ok a3) := h3
  rw [show lnSign tp sc le T (tk tp le p).2.1 = .ok ((T.1, T.hs, T.ss, (T.cs.sg + 1, upd T.cs.sh T.cs.sg (nI x), vp_updL T.cs.ss T.cs.sg w', T.cs.nz, T.cs.nh, T.cs.nr)), a3) by unfold lnSign; rw [c1]; dsimp only; rw [c2]]
  have ew := hw (w', a3) (by show Except.bind (nxt (pHou tp sc le T (tk tp le p).2.1)) (pAny tp le) = _; rw [c1]; exact c2)
  replace ew : w = w' := ew
  subst ew
  rw [show wV 0 (Except.bind (.ok (tk tp le p).2.1) (pHou tp sc le T)) = x by rw [show Except.bind (.ok (tk tp le p).2.1) (pHou tp sc le T) = .ok (x, a2) from c1]; rfl]
  obtain ⟨⟨ta, sz, sp, so, pl, nu, fa, wa, wo⟩, hy9, e1, e2, q8, q9, _⟩ := id h3
  have k9 := hy9.1
  obtain ⟨kn, Am, Bm, m0, mc, mH, mS, mP, mC, mN⟩ := id hM
  have hz : tZ M3 a (mtO a T kn) Am Bm := ⟨m0, mc.to⟩
  repeat (first | refine es rfl rfl rfl ?_ | refine eg rfl (by assumption) rfl ?_ | refine eanE rfl (by assumption) (by with_reducible first | exact rfl | exact Int32.zero_add _ | exact ix8 _ | exact ix12 _ | exact ix7r _ _ | exact n7 | exact n0 | exact n1) (by assumption) rfl ?_ | refine eal rfl (by assumption) (by assumption) rfl ?_ | refine eri rfl ?_ | refine erv rfl ?_ | refine erl rfl ?_ | refine era rfl ?_ | refine erz0 rfl ?_ | refine erz1 rfl ?_)
  try dsimp only [set1, set2, kilP, List.set_cons_zero, List.set_cons_succ, List.getElem?_cons_zero, List.getElem?_cons_succ, List.nil_append, List.cons_append, Option.toList_some, Option.toList_none]
  refine ei _ rfl rfl (fun c9 => ?_) (fun c9 => ?_)
  rotate_left
  · exact absurd (q9.symm.trans (Decidable.not_not.mp c9)) (kR_5 _)
  have c4 : M3.1 (a + 11) = ints 8 (Am 11) := hz.2 11 (by omega) (by omega)
  repeat (first | refine es rfl rfl rfl ?_ | refine eg rfl (by assumption) rfl ?_ | refine eanE rfl (by assumption) (by with_reducible first | exact rfl | exact Int32.zero_add _ | exact ix8 _ | exact ix12 _ | exact ix7r _ _ | exact n7 | exact n0 | exact n1) (by assumption) rfl ?_ | refine eal rfl (by assumption) (by assumption) rfl ?_ | refine eri rfl ?_ | refine erv rfl ?_ | refine erl rfl ?_ | refine era rfl ?_ | refine erz0 rfl ?_ | refine erz1 rfl ?_)
  try dsimp only [set1, set2, kilP, List.set_cons_zero, List.set_cons_succ, List.getElem?_cons_zero, List.getElem?_cons_succ, List.nil_append, List.cons_append, Option.toList_some, Option.toList_none]
  refine etM rfl c4 hlt rfl (fun M4 e4 => ?_)
  have hz4 := hz.i (k := 11) e4 (by omega) rfl
  replace hG := hG.u e4 (by omega) (by omega)
  have h4 := h3.fo e4 (by omega)
  have g4 := hz4.1
  obtain ⟨r4, y4, _⟩ := id h4
  have i4 := y4.1
  have c5 : M4.1 (a + 14) = lngs 8 (Bm 14) := hz4.2 14 (by omega) (by omega)
  repeat (first | refine es rfl rfl rfl ?_ | refine eg rfl (by assumption) rfl ?_ | refine eanE rfl (by assumption) (by with_reducible first | exact rfl | exact Int32.zero_add _ | exact ix8 _ | exact ix12 _ | exact ix7r _ _ | exact n7 | exact n0 | exact n1) (by assumption) rfl ?_ | refine eal rfl (by assumption) (by assumption) rfl ?_ | refine eri rfl ?_ | refine erv rfl ?_ | refine erl rfl ?_ | refine era rfl ?_ | refine erz0 rfl ?_ | refine erz1 rfl ?_)
  try dsimp only [set1, set2, kilP, List.set_cons_zero, List.set_cons_succ, List.getElem?_cons_zero, List.getElem?_cons_succ, List.nil_append, List.cons_append, Option.toList_some, Option.toList_none]
  refine etlM rfl c5 hlt rfl (fun M5 e5 => ?_)
  have hz5 := hz4.l (k := 14) e5 (by omega) rfl
  replace hG := hG.u e5 (by omega) (by omega)
  have h5 := h4.fo e5 (by omega)
  have g5 := hz5.1
  obtain ⟨r5, y5, _⟩ := id h5
  have i5 := y5.1
  repeat (first | refine es rfl rfl rfl ?_ | refine eg rfl (by assumption) rfl ?_ | refine eanE rfl (by assumption) (by with_reducible first | exact rfl | exact Int32.zero_add _ | exact ix8 _ | exact ix12 _ | exact ix7r _ _ | exact n7 | exact n0 | exact n1) (by assumption) rfl ?_ | refine eal rfl (by assumption) (by assumption) rfl ?_ | refine eri rfl ?_ | refine erv rfl ?_ | refine erl rfl ?_ | refine era rfl ?_ | refine erz0 rfl ?_ | refine erz1 rfl ?_)
  try dsimp only [set1, set2, kilP, List.set_cons_zero, List.set_cons_succ, List.getElem?_cons_zero, List.getElem?_cons_succ, List.nil_append, List.cons_append, Option.toList_some, Option.toList_none]
  refine epM (fs' := mtL a (nI T.dr) (nI T.lk) (nI T.hs.n) kn (nI (fb_ct0 (fun j => !(T.hs.fr j == -2)) T.hs.n)) (nI T.ss.n) (nI T.np) (nI T.cs.sg + 1) (nI T.cs.nz) (nI (T.hs.n + T.np))) rfl hz5.1 rfl rfl rfl (fun M6 e6 => ?_)
  have hz6 := hz5.o e6
  replace hG := hG.u e6 (by omega) (by omega)
  have h6 := h5.fo e6 (by omega)
  have g6 := hz6.1
  obtain ⟨r6, y6, _⟩ := id h6
  have i6 := y6.1
  repeat (first | refine es rfl rfl rfl ?_ | refine eg rfl (by assumption) rfl ?_ | refine eanE rfl (by assumption) (by with_reducible first | exact rfl | exact Int32.zero_add _ | exact ix8 _ | exact ix12 _ | exact ix7r _ _ | exact n7 | exact n0 | exact n1) (by assumption) rfl ?_ | refine eal rfl (by assumption) (by assumption) rfl ?_ | refine eri rfl ?_ | refine erv rfl ?_ | refine erl rfl ?_ | refine era rfl ?_ | refine erz0 rfl ?_ | refine erz1 rfl ?_)
  try dsimp only [set1, set2, kilP, List.set_cons_zero, List.set_cons_succ, List.getElem?_cons_zero, List.getElem?_cons_succ, List.nil_append, List.cons_append, Option.toList_some, Option.toList_none]
  refine ⟨rfl, hG, h6, kn, _, _, hz6.1.trans (by rw [nI_1]; rfl), hz6.mc, mH, mS, mP, ⟨fun j hj => ?_, mC.2⟩, mN⟩
  show upd (Am 11) T.cs.sg (nI x) j = upd T.cs.sh T.cs.sg (nI x) j ∧ vp_updL (Bm 14) T.cs.sg w j = vp_updL T.cs.ss T.cs.sg w j
  by_cases e : j = T.cs.sg
  · rw [e, pk_us, pk_us, pk_uLs, pk_uLs]; exact ⟨rfl, rfl⟩
  · rw [pk_un e, pk_un e, pk_uLn e, pk_uLn e]; exact mC.1 j (by have : j < T.cs.sg + 1 := hj; omega)
theorem y_lnNoise (h : yP M b oa tw (.ref a) oq A tp le (.ok p)) (k : (tk tp le p).2.2.1 = 1) (hM : aMt M a T) (ha : b + 16 ≤ a) (hI : tI T) (hA : tpR A tp) (hl : le ≤ 1100) (hS : aSt ad lo0 M) (hb : lo0 ≤ b) (hc : ∀ j, j < 8 → sc j = sC j) (hR : R = if T.dr = 0 then .error (6, (tk tp le p).1) else if 4 ≤ T.cs.nz then .error (5, (tk tp le p).1) else lnNoise tp sc le T (tk tp le p).2.1) : EvM ad 6 (iX13_readNoise ad) [.ref b] M (lnQ M b a oa tw oq A tp le T R) := by
  have hrd := hI.1.1
  unfold rdW at hrd
  have hN : T.hs.n + T.np ≤ 11 := by omega
  have hn7 : T.hs.n ≤ 7 := by omega
  have hK : tK T := hI.2.2.2.2.2.2.2.2.2
  have hzr := hI.1.2.2
  have hp : p ≤ le := by obtain ⟨_, _, _, _, q, _⟩ := h; exact q
  have hp0 : (tk tp le p).2.1 ≤ le := tk_le hp
  have hG := FY.rf b a M
  obtain ⟨kn0, _, _, m0, _⟩ := id hM
  have ⟨r0, hy0, _⟩ := id h
  have h0 := hy0.1
  refine ⟨Nat.le_of_ble_eq_true rfl, ?_⟩
  show Ev ad _ (rX13_readNoise ad) (0, [some (.ref b), none, none], [], M) _
  repeat (first | refine es rfl rfl rfl ?_ | refine eg rfl (by assumption) rfl ?_ | refine eanE rfl (by assumption) (by with_reducible first | exact rfl | exact Int32.zero_add _ | exact ix8 _ | exact ix12 _ | exact ix7r _ _ | exact n7 | exact n0 | exact n1) (by assumption) rfl ?_ | refine eal rfl (by assumption) (by assumption) rfl ?_ | refine eri rfl ?_ | refine erv rfl ?_ | refine erl rfl ?_ | refine era rfl ?_ | refine erz0 rfl ?_ | refine erz1 rfl ?_)
  try dsimp only [set1, set2, kilP, List.set_cons_zero, List.set_cons_succ, List.getElem?_cons_zero, List.getElem?_cons_succ, List.nil_append, List.cons_append, Option.toList_some, Option.toList_none]
  refine ecv rfl rfl (by assumption) rfl rfl rfl (y_begins h k hM ha (by omega) hA hl) (by first | rfl | exact Nat.blt_eq.mpr (by omega)) ?_
  rintro v M1 ⟨rfl, hF1, h1⟩
  obtain ⟨s1, eqS, hs1⟩ := beg_or (T := T) (c := T.cs.nz) (m := 4) (y := 4) (a1 := (tk tp le p).2.1) rfl rfl (by omega) (by omega) (by omega) (fun q => (hzr q).2.2.2.2) hR
  rw [eqS] at h1
  replace hM := hM.fr hF1 (by omega)
  replace hS := hS.fr hF1 hb
  replace hG := hG.w hF1
  obtain ⟨⟨ta1, sz1, sp1, so1, pl1, nu1, fa1, wa1, wo1⟩, hy1, _⟩ := id h1
  have j1 := hy1.1
  try dsimp only [set1, set2, kilP, List.set_cons_zero, List.set_cons_succ, List.getElem?_cons_zero, List.getElem?_cons_succ, List.nil_append, List.cons_append, Option.toList_some, Option.toList_none]
  repeat (first | refine es rfl rfl rfl ?_ | refine eg rfl (by assumption) rfl ?_ | refine eanE rfl (by assumption) (by with_reducible first | exact rfl | exact Int32.zero_add _ | exact ix8 _ | exact ix12 _ | exact ix7r _ _ | exact n7 | exact n0 | exact n1) (by assumption) rfl ?_ | refine eal rfl (by assumption) (by assumption) rfl ?_ | refine eri rfl ?_ | refine erv rfl ?_ | refine erl rfl ?_ | refine era rfl ?_ | refine erz0 rfl ?_ | refine erz1 rfl ?_)
  try dsimp only [set1, set2, kilP, List.set_cons_zero, List.set_cons_succ, List.getElem?_cons_zero, List.getElem?_cons_succ, List.nil_append, List.cons_append, Option.toList_some, Option.toList_none]
  have H2 := y_rHouse (ad := ad) h1 hM ha hN hK hA hl hS hc
  refine ecv rfl rfl (by assumption) rfl rfl rfl (H2) (by first | rfl | exact Nat.blt_eq.mpr (by omega)) ?_
  rintro v M2 ⟨rfl, hF2, h2⟩
  replace hM := hM.fr hF2 (by omega)
  replace hS := hS.fr hF2 hb
  replace hG := hG.w hF2
  obtain ⟨⟨ta2, sz2, sp2, so2, pl2, nu2, fa2, wa2, wo2⟩, hy2, _⟩ := id h2
  have j2 := hy2.1
  try dsimp only [set1, set2, kilP, List.set_cons_zero, List.set_cons_succ, List.getElem?_cons_zero, List.getElem?_cons_succ, List.nil_append, List.cons_append, Option.toList_some, Option.toList_none]
  repeat (first | refine es rfl rfl rfl ?_ | refine eg rfl (by assumption) rfl ?_ | refine eanE rfl (by assumption) (by with_reducible first | exact rfl | exact Int32.zero_add _ | exact ix8 _ | exact ix12 _ | exact ix7r _ _ | exact n7 | exact n0 | exact n1) (by assumption) rfl ?_ | refine eal rfl (by assumption) (by assumption) rfl ?_ | refine eri rfl ?_ | refine erv rfl ?_ | refine erl rfl ?_ | refine era rfl ?_ | refine erz0 rfl ?_ | refine erz1 rfl ?_)
  try dsimp only [set1, set2, kilP, List.set_cons_zero, List.set_cons_succ, List.getElem?_cons_zero, List.getElem?_cons_succ, List.nil_append, List.cons_append, Option.toList_some, Option.toList_none]
  have H3 := y_whole (ad := ad) (lo := 1) (hi := 9) h2 hA hl (by omega) (by omega)
  refine ecv rfl rfl (by assumption) rfl rfl rfl (H3) (by first | rfl | exact Nat.blt_eq.mpr (by omega)) ?_
  rintro v M3 ⟨rfl, hF3, h3⟩
  replace hM := hM.fr hF3 (by omega)
  replace hS := hS.fr hF3 hb
  replace hG := hG.w hF3
  obtain ⟨⟨ta3, sz3, sp3, so3, pl3, nu3, fa3, wa3, wo3⟩, hy3, _⟩ := id h3
  have j3 := hy3.1
  try dsimp only [set1, set2, kilP, List.set_cons_zero, List.set_cons_succ, List.getElem?_cons_zero, List.getElem?_cons_succ, List.nil_append, List.cons_append, Option.toList_some, Option.toList_none]
  repeat (refine ng 25 rfl ?_; first | refine es rfl rfl rfl ?_ | refine eg rfl (by assumption) rfl ?_ | refine eanE rfl (by assumption) (by with_reducible first | exact rfl | exact Int32.zero_add _ | exact ix8 _ | exact ix12 _ | exact ix7r _ _ | exact n7 | exact n0 | exact n1) (by assumption) rfl ?_ | refine eal rfl (by assumption) (by assumption) rfl ?_ | refine eri rfl ?_ | refine erv rfl ?_ | refine erl rfl ?_ | refine era rfl ?_ | refine erz0 rfl ?_ | refine erz1 rfl ?_)
  try dsimp only [set1, set2, kilP, List.set_cons_zero, List.set_cons_succ, List.getElem?_cons_zero, List.getElem?_cons_succ, List.nil_append, List.cons_append, Option.toList_some, Option.toList_none]
  rcases hs1 with ⟨e, rfl, rfl⟩ | ⟨rfl, hd, hlt, rfl⟩
  · replace h3 : yP M3 b oa tw (.ref a) oq A tp le (.error e) := h3
    obtain ⟨⟨ta, sz, sp, so, pl, nu, fa, wa, wo⟩, hy9, e1, e2, q9, _⟩ := id h3
    replace q9 : so = 5 := q9
    subst q9
    have k9 := hy9.1
    repeat (first | refine es rfl rfl rfl ?_ | refine eg rfl (by assumption) rfl ?_ | refine eanE rfl (by assumption) (by with_reducible first | exact rfl | exact Int32.zero_add _ | exact ix8 _ | exact ix12 _ | exact ix7r _ _ | exact n7 | exact n0 | exact n1) (by assumption) rfl ?_ | refine eal rfl (by assumption) (by assumption) rfl ?_ | refine eri rfl ?_ | refine erv rfl ?_ | refine erl rfl ?_ | refine era rfl ?_ | refine erz0 rfl ?_ | refine erz1 rfl ?_)
    try dsimp only [set1, set2, kilP, List.set_cons_zero, List.set_cons_succ, List.getElem?_cons_zero, List.getElem?_cons_succ, List.nil_append, List.cons_append, Option.toList_some, Option.toList_none]
    exact ⟨rfl, hG, h3, hM⟩
  replace h3 : yP M3 b oa tw (.ref a) oq A tp le (nxt (Except.bind (nxt (pHou tp sc le T (tk tp le p).2.1)) (pWh tp le 1 9))) := h3
  rcases c1 : pHou tp sc le T (tk tp le p).2.1 with e | ⟨x, a2⟩
  · rw [c1] at h3
    rw [show lnNoise tp sc le T (tk tp le p).2.1 = .error e by unfold lnNoise; rw [c1]]
    replace h3 : yP M3 b oa tw (.ref a) oq A tp le (.error e) := h3
    obtain ⟨⟨ta, sz, sp, so, pl, nu, fa, wa, wo⟩, hy9, e1, e2, q9, _⟩ := id h3
    replace q9 : so = 5 := q9
    subst q9
    have k9 := hy9.1
    repeat (first | refine es rfl rfl rfl ?_ | refine eg rfl (by assumption) rfl ?_ | refine eanE rfl (by assumption) (by with_reducible first | exact rfl | exact Int32.zero_add _ | exact ix8 _ | exact ix12 _ | exact ix7r _ _ | exact n7 | exact n0 | exact n1) (by assumption) rfl ?_ | refine eal rfl (by assumption) (by assumption) rfl ?_ | refine eri rfl ?_ | refine erv rfl ?_ | refine erl rfl ?_ | refine era rfl ?_ | refine erz0 rfl ?_ | refine erz1 rfl ?_)
    try dsimp only [set1, set2, kilP, List.set_cons_zero, List.set_cons_succ, List.getElem?_cons_zero, List.getElem?_cons_succ, List.nil_append, List.cons_append, Option.toList_some, Option.toList_none]
    exact ⟨rfl, hG, h3, hM⟩
  rw [c1] at h3
  replace h3 : yP M3 b oa tw (.ref a) oq A tp le (nxt (pWh tp le 1 9 a2)) := h3
  rcases c2 : pWh tp le 1 9 a2 with e | ⟨y, a3⟩
  · rw [c2] at h3
    rw [show lnNoise tp sc le T (tk tp le p).2.1 = .error e by unfold lnNoise; rw [c1]; dsimp only; rw [c2]]
    replace h3 : yP M3 b oa tw (.ref a) oq A tp le (.error e) := h3
    obtain ⟨⟨ta, sz, sp, so, pl, nu, fa, wa, wo⟩, hy9, e1, e2, q9, _⟩ := id h3
    replace q9 : so = 5 := q9
    subst q9
    have k9 := hy9.1
    repeat (first | refine es rfl rfl rfl ?_ | refine eg rfl (by assumption) rfl ?_ | refine eanE rfl (by assumption) (by with_reducible first | exact rfl | exact Int32.zero_add _ | exact ix8 _ | exact ix12 _ | exact ix7r _ _ | exact n7 | exact n0 | exact n1) (by assumption) rfl ?_ | refine eal rfl (by assumption) (by assumption) rfl ?_ | refine eri rfl ?_ | refine erv rfl ?_ | refine erl rfl ?_ | refine era rfl ?_ | refine erz0 rfl ?_ | refine erz1 rfl ?_)
    try dsimp only [set1, set2, kilP, List.set_cons_zero, List.set_cons_succ, List.getElem?_cons_zero, List.getElem?_cons_succ, List.nil_append, List.cons_append, Option.toList_some, Option.toList_none]
    exact ⟨rfl, hG, h3, hM⟩
  rw [c2] at h3
  replace h3 : yP M3 b oa tw (.ref a) oq A tp le (.ok a3) := h3
  rw [show lnNoise tp sc le T (tk tp le p).2.1 = .ok ((T.1, T.hs, T.ss, (T.cs.sg, T.cs.sh, T.cs.ss, T.cs.nz + 1, upd T.cs.nh T.cs.nz (nI x), upd T.cs.nr T.cs.nz (nI y))), a3) by unfold lnNoise; rw [c1]; dsimp only; rw [c2]]
  rw [show Except.bind (.ok (tk tp le p).2.1) (pHou tp sc le T) = .ok (x, a2) from c1]
  rw [show Except.bind (nxt (.ok (x, a2))) (pWh tp le 1 9) = .ok (y, a3) from c2]
  rw [show wV 0 (.ok (x, a2)) = x from rfl, show wV 1 (.ok (y, a3)) = y from rfl]
  obtain ⟨⟨ta, sz, sp, so, pl, nu, fa, wa, wo⟩, hy9, e1, e2, q8, q9, _⟩ := id h3
  have k9 := hy9.1
  obtain ⟨kn, Am, Bm, m0, mc, mH, mS, mP, mC, mN⟩ := id hM
  have hz : tZ M3 a (mtO a T kn) Am Bm := ⟨m0, mc.to⟩
  repeat (first | refine es rfl rfl rfl ?_ | refine eg rfl (by assumption) rfl ?_ | refine eanE rfl (by assumption) (by with_reducible first | exact rfl | exact Int32.zero_add _ | exact ix8 _ | exact ix12 _ | exact ix7r _ _ | exact n7 | exact n0 | exact n1) (by assumption) rfl ?_ | refine eal rfl (by assumption) (by assumption) rfl ?_ | refine eri rfl ?_ | refine erv rfl ?_ | refine erl rfl ?_ | refine era rfl ?_ | refine erz0 rfl ?_ | refine erz1 rfl ?_)
  try dsimp only [set1, set2, kilP, List.set_cons_zero, List.set_cons_succ, List.getElem?_cons_zero, List.getElem?_cons_succ, List.nil_append, List.cons_append, Option.toList_some, Option.toList_none]
  refine ei _ rfl rfl (fun c9 => ?_) (fun c9 => ?_)
  rotate_left
  · exact absurd (q9.symm.trans (Decidable.not_not.mp c9)) (kR_5 _)
  have c4 : M3.1 (a + 12) = ints 4 (Am 12) := hz.2 12 (by omega) (by omega)
  repeat (first | refine es rfl rfl rfl ?_ | refine eg rfl (by assumption) rfl ?_ | refine eanE rfl (by assumption) (by with_reducible first | exact rfl | exact Int32.zero_add _ | exact ix8 _ | exact ix12 _ | exact ix7r _ _ | exact n7 | exact n0 | exact n1) (by assumption) rfl ?_ | refine eal rfl (by assumption) (by assumption) rfl ?_ | refine eri rfl ?_ | refine erv rfl ?_ | refine erl rfl ?_ | refine era rfl ?_ | refine erz0 rfl ?_ | refine erz1 rfl ?_)
  try dsimp only [set1, set2, kilP, List.set_cons_zero, List.set_cons_succ, List.getElem?_cons_zero, List.getElem?_cons_succ, List.nil_append, List.cons_append, Option.toList_some, Option.toList_none]
  refine etM rfl c4 hlt rfl (fun M4 e4 => ?_)
  have hz4 := hz.i (k := 12) e4 (by omega) rfl
  replace hG := hG.u e4 (by omega) (by omega)
  have h4 := h3.fo e4 (by omega)
  have g4 := hz4.1
  obtain ⟨r4, y4, _⟩ := id h4
  have i4 := y4.1
  have c5 : M4.1 (a + 13) = ints 4 (Am 13) := hz4.2 13 (by omega) (by omega)
  repeat (first | refine es rfl rfl rfl ?_ | refine eg rfl (by assumption) rfl ?_ | refine eanE rfl (by assumption) (by with_reducible first | exact rfl | exact Int32.zero_add _ | exact ix8 _ | exact ix12 _ | exact ix7r _ _ | exact n7 | exact n0 | exact n1) (by assumption) rfl ?_ | refine eal rfl (by assumption) (by assumption) rfl ?_ | refine eri rfl ?_ | refine erv rfl ?_ | refine erl rfl ?_ | refine era rfl ?_ | refine erz0 rfl ?_ | refine erz1 rfl ?_)
  try dsimp only [set1, set2, kilP, List.set_cons_zero, List.set_cons_succ, List.getElem?_cons_zero, List.getElem?_cons_succ, List.nil_append, List.cons_append, Option.toList_some, Option.toList_none]
  refine etM rfl c5 hlt rfl (fun M5 e5 => ?_)
  have hz5 := hz4.i (k := 13) e5 (by omega) rfl
  replace hG := hG.u e5 (by omega) (by omega)
  have h5 := h4.fo e5 (by omega)
  have g5 := hz5.1
  obtain ⟨r5, y5, _⟩ := id h5
  have i5 := y5.1
  repeat (first | refine es rfl rfl rfl ?_ | refine eg rfl (by assumption) rfl ?_ | refine eanE rfl (by assumption) (by with_reducible first | exact rfl | exact Int32.zero_add _ | exact ix8 _ | exact ix12 _ | exact ix7r _ _ | exact n7 | exact n0 | exact n1) (by assumption) rfl ?_ | refine eal rfl (by assumption) (by assumption) rfl ?_ | refine eri rfl ?_ | refine erv rfl ?_ | refine erl rfl ?_ | refine era rfl ?_ | refine erz0 rfl ?_ | refine erz1 rfl ?_)
  try dsimp only [set1, set2, kilP, List.set_cons_zero, List.set_cons_succ, List.getElem?_cons_zero, List.getElem?_cons_succ, List.nil_append, List.cons_append, Option.toList_some, Option.toList_none]
  refine epM (fs' := mtL a (nI T.dr) (nI T.lk) (nI T.hs.n) kn (nI (fb_ct0 (fun j => !(T.hs.fr j == -2)) T.hs.n)) (nI T.ss.n) (nI T.np) (nI T.cs.sg) (nI T.cs.nz + 1) (nI (T.hs.n + T.np))) rfl hz5.1 rfl rfl rfl (fun M6 e6 => ?_)
  have hz6 := hz5.o e6
  replace hG := hG.u e6 (by omega) (by omega)
  have h6 := h5.fo e6 (by omega)
  have g6 := hz6.1
  obtain ⟨r6, y6, _⟩ := id h6
  have i6 := y6.1
  repeat (first | refine es rfl rfl rfl ?_ | refine eg rfl (by assumption) rfl ?_ | refine eanE rfl (by assumption) (by with_reducible first | exact rfl | exact Int32.zero_add _ | exact ix8 _ | exact ix12 _ | exact ix7r _ _ | exact n7 | exact n0 | exact n1) (by assumption) rfl ?_ | refine eal rfl (by assumption) (by assumption) rfl ?_ | refine eri rfl ?_ | refine erv rfl ?_ | refine erl rfl ?_ | refine era rfl ?_ | refine erz0 rfl ?_ | refine erz1 rfl ?_)
  try dsimp only [set1, set2, kilP, List.set_cons_zero, List.set_cons_succ, List.getElem?_cons_zero, List.getElem?_cons_succ, List.nil_append, List.cons_append, Option.toList_some, Option.toList_none]
  refine ⟨rfl, hG, h6, kn, _, _, hz6.1.trans (by rw [nI_1]; rfl), hz6.mc, mH, mS, mP, ⟨mC.1, fun j hj => ?_⟩, mN⟩
  show upd (Am 12) T.cs.nz (nI x) j = upd T.cs.nh T.cs.nz (nI x) j ∧ upd (Am 13) T.cs.nz (nI y) j = upd T.cs.nr T.cs.nz (nI y) j
  by_cases e : j = T.cs.nz
  · rw [e, pk_us, pk_us, pk_us, pk_us]; exact ⟨rfl, rfl⟩
  · rw [pk_un e, pk_un e, pk_un e, pk_un e]; exact mC.2 j (by have : j < T.cs.nz + 1 := hj; omega)
end RLINES
