/-! The reference reads: lines that name -/
section RLINESB
variable {ad : Nat → Nat} {a b lo0 : Nat} {tp : Nat → Int32} {sc : Nat → Int64} {le : Nat} {A : Ar} {oa : Int32 × Int32 × Int32} {oq : Yq} {tw : Value} {M : Mm} {T : Tw} {R : Except Er (Tw × Nat)} {p : Nat}
theorem y_lnPerson (h : yP M b oa tw (.ref a) oq A tp le (.ok p)) (k : (tk tp le p).2.2.1 = 1) (hM : aMt M a T) (ha : b + 16 ≤ a) (hI : tI T) (hA : tpR A tp) (hl : le ≤ 1100) (hS : aSt ad lo0 M) (hb : lo0 ≤ b) (hc : ∀ j, j < 8 → sc j = sC j) (hR : R = if T.dr = 0 then .error (6, (tk tp le p).1) else if 4 ≤ T.np then .error (5, (tk tp le p).1) else lnPerson tp sc le T (tk tp le p).2.1) : EvM ad 6 (iX13_readPerson ad) [.ref b] M (lnQ M b a oa tw oq A tp le T R) := by
  have hrd := hI.1.1
  unfold rdW at hrd
  have hN : T.hs.n + T.np ≤ 11 := by omega
  have hn7 : T.hs.n ≤ 7 := by omega
  have hK : tK T := hI.2.2.2.2.2.2.2.2.2
  have hzr := hI.1.2.2
  have hp : p ≤ le := by obtain ⟨_, _, _, _, q, _⟩ := h; exact q
  have hp0 : (tk tp le p).2.1 ≤ le := tk_le hp
  have hG := FY.rf b a M
  obtain ⟨kn0, _, _, m0, _⟩ := id hM
  have ⟨r0, hy0, _⟩ := id h
  have h0 := hy0.1
  refine ⟨Nat.le_of_ble_eq_true rfl, ?_⟩
  show Ev ad _ (rX13_readPerson ad) (0, [some (.ref b), none, none, none, none], [], M) _
  repeat (first | refine es rfl rfl rfl ?_ | refine eg rfl (by assumption) rfl ?_ | refine eanE rfl (by assumption) (by with_reducible first | exact rfl | exact Int32.zero_add _ | exact ix8 _ | exact ix12 _ | exact ix7r _ _ | exact n7 | exact n0 | exact n1) (by assumption) rfl ?_ | refine eal rfl (by assumption) (by assumption) rfl ?_ | refine eri rfl ?_ | refine erv rfl ?_ | refine erl rfl ?_ | refine era rfl ?_ | refine erz0 rfl ?_ | refine erz1 rfl ?_)
  try dsimp only [set1, set2, kilP, List.set_cons_zero, List.set_cons_succ, List.getElem?_cons_zero, List.getElem?_cons_succ, List.nil_append, List.cons_append, Option.toList_some, Option.toList_none]
  refine ecv rfl rfl (by assumption) rfl rfl rfl (y_begins h k hM ha (by omega) hA hl) (by first | rfl | exact Nat.blt_eq.mpr (by omega)) ?_
  rintro v M1 ⟨rfl, hF1, h1⟩
  obtain ⟨s1, eqS, hs1⟩ := beg_or (T := T) (c := T.np) (m := 4) (y := 4) (a1 := (tk tp le p).2.1) rfl rfl (by omega) (by omega) (by omega) (fun q => (hzr q).2.1) hR
  rw [eqS] at h1
  replace hM := hM.fr hF1 (by omega)
  replace hS := hS.fr hF1 hb
  replace hG := hG.w hF1
  obtain ⟨⟨ta1, sz1, sp1, so1, pl1, nu1, fa1, wa1, wo1⟩, hy1, _⟩ := id h1
  have j1 := hy1.1
  try dsimp only [set1, set2, kilP, List.set_cons_zero, List.set_cons_succ, List.getElem?_cons_zero, List.getElem?_cons_succ, List.nil_append, List.cons_append, Option.toList_some, Option.toList_none]
  repeat (first | refine es rfl rfl rfl ?_ | refine eg rfl (by assumption) rfl ?_ | refine eanE rfl (by assumption) (by with_reducible first | exact rfl | exact Int32.zero_add _ | exact ix8 _ | exact ix12 _ | exact ix7r _ _ | exact n7 | exact n0 | exact n1) (by assumption) rfl ?_ | refine eal rfl (by assumption) (by assumption) rfl ?_ | refine eri rfl ?_ | refine erv rfl ?_ | refine erl rfl ?_ | refine era rfl ?_ | refine erz0 rfl ?_ | refine erz1 rfl ?_)
  try dsimp only [set1, set2, kilP, List.set_cons_zero, List.set_cons_succ, List.getElem?_cons_zero, List.getElem?_cons_succ, List.nil_append, List.cons_append, Option.toList_some, Option.toList_none]
  have H2 := y_fresh (ad := ad) h1 hM ha hN hA hl hS hc
  refine ecv rfl rfl (by assumption) rfl rfl rfl (H2) (by first | rfl | exact Nat.blt_eq.mpr (by omega)) ?_
  rintro v M2 ⟨⟨w, rfl, hw⟩, hF2, h2⟩
  replace hM := hM.fr hF2 (by omega)
  replace hS := hS.fr hF2 hb
  replace hG := hG.w hF2
  obtain ⟨⟨ta2, sz2, sp2, so2, pl2, nu2, fa2, wa2, wo2⟩, hy2, _⟩ := id h2
  have j2 := hy2.1
  try dsimp only [set1, set2, kilP, List.set_cons_zero, List.set_cons_succ, List.getElem?_cons_zero, List.getElem?_cons_succ, List.nil_append, List.cons_append, Option.toList_some, Option.toList_none]
  repeat (first | refine es rfl rfl rfl ?_ | refine eg rfl (by assumption) rfl ?_ | refine eanE rfl (by assumption) (by with_reducible first | exact rfl | exact Int32.zero_add _ | exact ix8 _ | exact ix12 _ | exact ix7r _ _ | exact n7 | exact n0 | exact n1) (by assumption) rfl ?_ | refine eal rfl (by assumption) (by assumption) rfl ?_ | refine eri rfl ?_ | refine erv rfl ?_ | refine erl rfl ?_ | refine era rfl ?_ | refine erz0 rfl ?_ | refine erz1 rfl ?_)
  try dsimp only [set1, set2, kilP, List.set_cons_zero, List.set_cons_succ, List.getElem?_cons_zero, List.getElem?_cons_succ, List.nil_append, List.cons_append, Option.toList_some, Option.toList_none]
  have H3 := y_pHouse (ad := ad) (i := 18) h2 hM ha hN hK hA hl hS hb (by omega) hc
  refine ecv rfl rfl (by assumption) rfl rfl rfl (H3) (by first | rfl | exact Nat.blt_eq.mpr (by omega)) ?_
  rintro v M3 ⟨rfl, hF3, h3⟩
  replace hM := hM.fr hF3 (by omega)
  replace hS := hS.fr hF3 hb
  replace hG := hG.w hF3
  obtain ⟨⟨ta3, sz3, sp3, so3, pl3, nu3, fa3, wa3, wo3⟩, hy3, _⟩ := id h3
  have j3 := hy3.1
  try dsimp only [set1, set2, kilP, List.set_cons_zero, List.set_cons_succ, List.getElem?_cons_zero, List.getElem?_cons_succ, List.nil_append, List.cons_append, Option.toList_some, Option.toList_none]
  repeat (first | refine es rfl rfl rfl ?_ | refine eg rfl (by assumption) rfl ?_ | refine eanE rfl (by assumption) (by with_reducible first | exact rfl | exact Int32.zero_add _ | exact ix8 _ | exact ix12 _ | exact ix7r _ _ | exact n7 | exact n0 | exact n1) (by assumption) rfl ?_ | refine eal rfl (by assumption) (by assumption) rfl ?_ | refine eri rfl ?_ | refine erv rfl ?_ | refine erl rfl ?_ | refine era rfl ?_ | refine erz0 rfl ?_ | refine erz1 rfl ?_)
  try dsimp only [set1, set2, kilP, List.set_cons_zero, List.set_cons_succ, List.getElem?_cons_zero, List.getElem?_cons_succ, List.nil_append, List.cons_append, Option.toList_some, Option.toList_none]
  have H4 := y_pHouse (ad := ad) (i := 19) h3 hM ha hN hK hA hl hS hb (by omega) hc
  refine ecv rfl rfl (by assumption) rfl rfl rfl (H4) (by first | rfl | exact Nat.blt_eq.mpr (by omega)) ?_
  rintro v M4 ⟨rfl, hF4, h4⟩
  replace hM := hM.fr hF4 (by omega)
  replace hS := hS.fr hF4 hb
  replace hG := hG.w hF4
  obtain ⟨⟨ta4, sz4, sp4, so4, pl4, nu4, fa4, wa4, wo4⟩, hy4, _⟩ := id h4
  have j4 := hy4.1
  try dsimp only [set1, set2, kilP, List.set_cons_zero, List.set_cons_succ, List.getElem?_cons_zero, List.getElem?_cons_succ, List.nil_append, List.cons_append, Option.toList_some, Option.toList_none]
  repeat (refine ng 34 rfl ?_; first | refine es rfl rfl rfl ?_ | refine eg rfl (by assumption) rfl ?_ | refine eanE rfl (by assumption) (by with_reducible first | exact rfl | exact Int32.zero_add _ | exact ix8 _ | exact ix12 _ | exact ix7r _ _ | exact n7 | exact n0 | exact n1) (by assumption) rfl ?_ | refine eal rfl (by assumption) (by assumption) rfl ?_ | refine eri rfl ?_ | refine erv rfl ?_ | refine erl rfl ?_ | refine era rfl ?_ | refine erz0 rfl ?_ | refine erz1 rfl ?_)
  try dsimp only [set1, set2, kilP, List.set_cons_zero, List.set_cons_succ, List.getElem?_cons_zero, List.getElem?_cons_succ, List.nil_append, List.cons_append, Option.toList_some, Option.toList_none]
  rcases hs1 with ⟨e, rfl, rfl⟩ | ⟨rfl, hd, hlt, rfl⟩
  · replace h4 : yP M4 b oa tw (.ref a) oq A tp le (.error e) := h4
    obtain ⟨⟨ta, sz, sp, so, pl, nu, fa, wa, wo⟩, hy9, e1, e2, q9, _⟩ := id h4
    replace q9 : so = 5 := q9
    subst q9
    have k9 := hy9.1
    repeat (first | refine es rfl rfl rfl ?_ | refine eg rfl (by assumption) rfl ?_ | refine eanE rfl (by assumption) (by with_reducible first | exact rfl | exact Int32.zero_add _ | exact ix8 _ | exact ix12 _ | exact ix7r _ _ | exact n7 | exact n0 | exact n1) (by assumption) rfl ?_ | refine eal rfl (by assumption) (by assumption) rfl ?_ | refine eri rfl ?_ | refine erv rfl ?_ | refine erl rfl ?_ | refine era rfl ?_ | refine erz0 rfl ?_ | refine erz1 rfl ?_)
    try dsimp only [set1, set2, kilP, List.set_cons_zero, List.set_cons_succ, List.getElem?_cons_zero, List.getElem?_cons_succ, List.nil_append, List.cons_append, Option.toList_some, Option.toList_none]
    exact ⟨rfl, hG, h4, hM⟩
  replace h4 : yP M4 b oa tw (.ref a) oq A tp le (nxt (Except.bind (Except.bind (nxt (Except.bind (Except.bind (nxt (pNew tp sc le T (tk tp le p).2.1)) (pThis tp le 18)) (pHou tp sc le T))) (pThis tp le 19)) (pHou tp sc le T))) := h4
  rcases c1 : pNew tp sc le T (tk tp le p).2.1 with e | ⟨w', a2⟩
  · rw [c1] at h4
    rw [show lnPerson tp sc le T (tk tp le p).2.1 = .error e by unfold lnPerson; rw [c1]]
    replace h4 : yP M4 b oa tw (.ref a) oq A tp le (.error e) := h4
    obtain ⟨⟨ta, sz, sp, so, pl, nu, fa, wa, wo⟩, hy9, e1, e2, q9, _⟩ := id h4
    replace q9 : so = 5 := q9
    subst q9
    have k9 := hy9.1
    repeat (first | refine es rfl rfl rfl ?_ | refine eg rfl (by assumption) rfl ?_ | refine eanE rfl (by assumption) (by with_reducible first | exact rfl | exact Int32.zero_add _ | exact ix8 _ | exact ix12 _ | exact ix7r _ _ | exact n7 | exact n0 | exact n1) (by assumption) rfl ?_ | refine eal rfl (by assumption) (by assumption) rfl ?_ | refine eri rfl ?_ | refine erv rfl ?_ | refine erl rfl ?_ | refine era rfl ?_ | refine erz0 rfl ?_ | refine erz1 rfl ?_)
    try dsimp only [set1, set2, kilP, List.set_cons_zero, List.set_cons_succ, List.getElem?_cons_zero, List.getElem?_cons_succ, List.nil_append, List.cons_append, Option.toList_some, Option.toList_none]
    exact ⟨rfl, hG, h4, hM⟩
  rw [c1] at h4
  replace h4 : yP M4 b oa tw (.ref a) oq A tp le (nxt (Except.bind (Except.bind (nxt (Except.bind (pThis tp le 18 a2) (pHou tp sc le T))) (pThis tp le 19)) (pHou tp sc le T))) := h4
  rcases c2 : pThis tp le 18 a2 with e | a3
  · rw [c2] at h4
    rw [show lnPerson tp sc le T (tk tp le p).2.1 = .error e by unfold lnPerson; rw [c1]; dsimp only; rw [c2]]
    replace h4 : yP M4 b oa tw (.ref a) oq A tp le (.error e) := h4
    obtain ⟨⟨ta, sz, sp, so, pl, nu, fa, wa, wo⟩, hy9, e1, e2, q9, _⟩ := id h4
    replace q9 : so = 5 := q9
    subst q9
    have k9 := hy9.1
    repeat (first | refine es rfl rfl rfl ?_ | refine eg rfl (by assumption) rfl ?_ | refine eanE rfl (by assumption) (by with_reducible first | exact rfl | exact Int32.zero_add _ | exact ix8 _ | exact ix12 _ | exact ix7r _ _ | exact n7 | exact n0 | exact n1) (by assumption) rfl ?_ | refine eal rfl (by assumption) (by assumption) rfl ?_ | refine eri rfl ?_ | refine erv rfl ?_ | refine erl rfl ?_ | refine era rfl ?_ | refine erz0 rfl ?_ | refine erz1 rfl ?_)
    try dsimp only [set1, set2, kilP, List.set_cons_zero, List.set_cons_succ, List.getElem?_cons_zero, List.getElem?_cons_succ, List.nil_append, List.cons_append, Option.toList_some, Option.toList_none]
    exact ⟨rfl, hG, h4, hM⟩
  rw [c2] at h4
  replace h4 : yP M4 b oa tw (.ref a) oq A tp le (nxt (Except.bind (Except.bind (nxt (pHou tp sc le T a3)) (pThis tp le 19)) (pHou tp sc le T))) := h4
  rcases c3 : pHou tp sc le T a3 with e | ⟨x, a4⟩
  · rw [c3] at h4
    rw [show lnPerson tp sc le T (tk tp le p).2.1 = .error e by unfold lnPerson; rw [c1]; dsimp only; rw [c2]; dsimp only; rw [c3]]
    replace h4 : yP M4 b oa tw (.ref a) oq A tp le (.error e) := h4
    obtain ⟨⟨ta, sz, sp, so, pl, nu, fa, wa, wo⟩, hy9, e1, e2, q9, _⟩ := id h4
    replace q9 : so = 5 := q9
    subst q9
    have k9 := hy9.1
    repeat (first | refine es rfl rfl rfl ?_ | refine eg rfl (by assumption) rfl ?_ | refine eanE rfl (by assumption) (by with_reducible first | exact rfl | exact Int32.zero_add _ | exact ix8 _ | exact ix12 _ | exact ix7r _ _ | exact n7 | exact n0 | exact n1) (by assumption) rfl ?_ | refine eal rfl (by assumption) (by assumption) rfl ?_ | refine eri rfl ?_ | refine erv rfl ?_ | refine erl rfl ?_ | refine era rfl ?_ | refine erz0 rfl ?_ | refine erz1 rfl ?_)
    try dsimp only [set1, set2, kilP, List.set_cons_zero, List.set_cons_succ, List.getElem?_cons_zero, List.getElem?_cons_succ, List.nil_append, List.cons_append, Option.toList_some, Option.toList_none]
    exact ⟨rfl, hG, h4, hM⟩
  rw [c3] at h4
  replace h4 : yP M4 b oa tw (.ref a) oq A tp le (nxt (Except.bind (pThis tp le 19 a4) (pHou tp sc le T))) := h4
  rcases c4 : pThis tp le 19 a4 with e | a5
  · rw [c4] at h4
    rw [show lnPerson tp sc le T (tk tp le p).2.1 = .error e by unfold lnPerson; rw [c1]; dsimp only; rw [c2]; dsimp only; rw [c3]; dsimp only; rw [c4]]
    replace h4 : yP M4 b oa tw (.ref a) oq A tp le (.error e) := h4
    obtain ⟨⟨ta, sz, sp, so, pl, nu, fa, wa, wo⟩, hy9, e1, e2, q9, _⟩ := id h4
    replace q9 : so = 5 := q9
    subst q9
    have k9 := hy9.1
    repeat (first | refine es rfl rfl rfl ?_ | refine eg rfl (by assumption) rfl ?_ | refine eanE rfl (by assumption) (by with_reducible first | exact rfl | exact Int32.zero_add _ | exact ix8 _ | exact ix12 _ | exact ix7r _ _ | exact n7 | exact n0 | exact n1) (by assumption) rfl ?_ | refine eal rfl (by assumption) (by assumption) rfl ?_ | refine eri rfl ?_ | refine erv rfl ?_ | refine erl rfl ?_ | refine era rfl ?_ | refine erz0 rfl ?_ | refine erz1 rfl ?_)
    try dsimp only [set1, set2, kilP, List.set_cons_zero, List.set_cons_succ, List.getElem?_cons_zero, List.getElem?_cons_succ, List.nil_append, List.cons_append, Option.toList_some, Option.toList_none]
    exact ⟨rfl, hG, h4, hM⟩
  rw [c4] at h4
  replace h4 : yP M4 b oa tw (.ref a) oq A tp le (nxt (pHou tp sc le T a5)) := h4
  rcases c5 : pHou tp sc le T a5 with e | ⟨y, a6⟩
  · rw [c5] at h4
    rw [show lnPerson tp sc le T (tk tp le p).2.1 = .error e by unfold lnPerson; rw [c1]; dsimp only; rw [c2]; dsimp only; rw [c3]; dsimp only; rw [c4]; dsimp only; rw [c5]]
    replace h4 : yP M4 b oa tw (.ref a) oq A tp le (.error e) := h4
    obtain ⟨⟨ta, sz, sp, so, pl, nu, fa, wa, wo⟩, hy9, e1, e2, q9, _⟩ := id h4
    replace q9 : so = 5 := q9
    subst q9
    have k9 := hy9.1
    repeat (first | refine es rfl rfl rfl ?_ | refine eg rfl (by assumption) rfl ?_ | refine eanE rfl (by assumption) (by with_reducible first | exact rfl | exact Int32.zero_add _ | exact ix8 _ | exact ix12 _ | exact ix7r _ _ | exact n7 | exact n0 | exact n1) (by assumption) rfl ?_ | refine eal rfl (by assumption) (by assumption) rfl ?_ | refine eri rfl ?_ | refine erv rfl ?_ | refine erl rfl ?_ | refine era rfl ?_ | refine erz0 rfl ?_ | refine erz1 rfl ?_)
    try dsimp only [set1, set2, kilP, List.set_cons_zero, List.set_cons_succ, List.getElem?_cons_zero, List.getElem?_cons_succ, List.nil_append, List.cons_append, Option.toList_some, Option.toList_none]
    exact ⟨rfl, hG, h4, hM⟩
  rw [c5] at h4
  replace h4 : yP M4 b oa tw (.ref a) oq A tp le (.ok a6) := h4
  rw [show lnPerson tp sc le T (tk tp le p).2.1 = .ok (((T.dr, T.lk, T.np + 1, vp_updL T.pn T.np w', upd T.hm T.np (nI x), upd T.pl T.np (nI y)), T.hs, T.ss, T.cs), a6) by unfold lnPerson; rw [c1]; dsimp only; rw [c2]; dsimp only; rw [c3]; dsimp only; rw [c4]; dsimp only; rw [c5]]
  try rw [show Except.bind (.ok (tk tp le p).2.1) (pNew tp sc le T) = .ok (w', a2) from c1]
  try rw [show Except.bind (.ok (tk tp le p).2.1) (pNew tp sc le T) = .ok (w', a2) from c1] at hw
  try rw [show Except.bind (nxt (.ok (w', a2))) (pThis tp le 18) = .ok a3 from c2]
  try rw [show Except.bind (nxt (.ok (w', a2))) (pThis tp le 18) = .ok a3 from c2] at hw
  try rw [show Except.bind (.ok a3) (pHou tp sc le T) = .ok (x, a4) from c3]
  try rw [show Except.bind (.ok a3) (pHou tp sc le T) = .ok (x, a4) from c3] at hw
  try rw [show Except.bind (nxt (.ok (x, a4))) (pThis tp le 19) = .ok a5 from c4]
  try rw [show Except.bind (nxt (.ok (x, a4))) (pThis tp le 19) = .ok a5 from c4] at hw
  try rw [show Except.bind (.ok a5) (pHou tp sc le T) = .ok (y, a6) from c5]
  try rw [show Except.bind (.ok a5) (pHou tp sc le T) = .ok (y, a6) from c5] at hw
  rw [show wV 0 (.ok (x, a4)) = x from rfl]
  rw [show wV 0 (.ok (y, a6)) = y from rfl]
  have ew : w = w' := hw _ rfl
  subst ew
  obtain ⟨⟨ta, sz, sp, so, pl, nu, fa, wa, wo⟩, hy9, hE9⟩ := id h4
  obtain ⟨e1, e2, q8, q9, _⟩ := id hE9
  have k9 := hy9.1
  obtain ⟨kn, Am, Bm, m0, mc, mH, mS, mP, mC, mN⟩ := id hM
  have hz : tZ M4 a (mtO a T kn) Am Bm := ⟨m0, mc.to⟩
  repeat (first | refine es rfl rfl rfl ?_ | refine eg rfl (by assumption) rfl ?_ | refine eanE rfl (by assumption) (by with_reducible first | exact rfl | exact Int32.zero_add _ | exact ix8 _ | exact ix12 _ | exact ix7r _ _ | exact n7 | exact n0 | exact n1) (by assumption) rfl ?_ | refine eal rfl (by assumption) (by assumption) rfl ?_ | refine eri rfl ?_ | refine erv rfl ?_ | refine erl rfl ?_ | refine era rfl ?_ | refine erz0 rfl ?_ | refine erz1 rfl ?_)
  try dsimp only [set1, set2, kilP, List.set_cons_zero, List.set_cons_succ, List.getElem?_cons_zero, List.getElem?_cons_succ, List.nil_append, List.cons_append, Option.toList_some, Option.toList_none]
  refine ei _ rfl rfl (fun c9 => ?_) (fun c9 => ?_)
  rotate_left
  · exact absurd (q9.symm.trans (Decidable.not_not.mp c9)) (kR_5 _)
  repeat (first | refine es rfl rfl rfl ?_ | refine eg rfl (by assumption) rfl ?_ | refine eanE rfl (by assumption) (by with_reducible first | exact rfl | exact Int32.zero_add _ | exact ix8 _ | exact ix12 _ | exact ix7r _ _ | exact n7 | exact n0 | exact n1) (by assumption) rfl ?_ | refine eal rfl (by assumption) (by assumption) rfl ?_ | refine eri rfl ?_ | refine erv rfl ?_ | refine erl rfl ?_ | refine era rfl ?_ | refine erz0 rfl ?_ | refine erz1 rfl ?_)
  try dsimp only [set1, set2, kilP, List.set_cons_zero, List.set_cons_succ, List.getElem?_cons_zero, List.getElem?_cons_succ, List.nil_append, List.cons_append, Option.toList_some, Option.toList_none]
  refine ecv rfl rfl (by assumption) rfl rfl rfl (y_names hy9 hz ha (by omega)) (by first | rfl | exact Nat.blt_eq.mpr (by omega)) ?_
  rintro v M5 ⟨rfl, hG5, hy5, hz5⟩
  replace hG := hG.tr hG5
  have h5 : yP M5 b oa tw (.ref a) oq A tp le (.ok a6) := ⟨_, hy5, hE9⟩
  have g5 := hz5.1
  have i5 := hy5.1
  try dsimp only [set1, set2, kilP, List.set_cons_zero, List.set_cons_succ, List.getElem?_cons_zero, List.getElem?_cons_succ, List.nil_append, List.cons_append, Option.toList_some, Option.toList_none]
  have c6 : M5.1 (a + 9) = ints 4 (Am 9) := hz5.2 9 (by omega) (by omega)
  repeat (first | refine es rfl rfl rfl ?_ | refine eg rfl (by assumption) rfl ?_ | refine eanE rfl (by assumption) (by with_reducible first | exact rfl | exact Int32.zero_add _ | exact ix8 _ | exact ix12 _ | exact ix7r _ _ | exact n7 | exact n0 | exact n1) (by assumption) rfl ?_ | refine eal rfl (by assumption) (by assumption) rfl ?_ | refine eri rfl ?_ | refine erv rfl ?_ | refine erl rfl ?_ | refine era rfl ?_ | refine erz0 rfl ?_ | refine erz1 rfl ?_)
  try dsimp only [set1, set2, kilP, List.set_cons_zero, List.set_cons_succ, List.getElem?_cons_zero, List.getElem?_cons_succ, List.nil_append, List.cons_append, Option.toList_some, Option.toList_none]
  refine etM rfl c6 hlt rfl (fun M6 e6 => ?_)
  have hz6 := hz5.i (k := 9) e6 (by omega) rfl
  replace hG := hG.u e6 (by omega) (by omega)
  have h6 := h5.fo e6 (by omega)
  have g6 := hz6.1
  obtain ⟨r6, y6, _⟩ := id h6
  have i6 := y6.1
  have c7 : M6.1 (a + 10) = ints 4 (Am 10) := hz6.2 10 (by omega) (by omega)
  repeat (first | refine es rfl rfl rfl ?_ | refine eg rfl (by assumption) rfl ?_ | refine eanE rfl (by assumption) (by with_reducible first | exact rfl | exact Int32.zero_add _ | exact ix8 _ | exact ix12 _ | exact ix7r _ _ | exact n7 | exact n0 | exact n1) (by assumption) rfl ?_ | refine eal rfl (by assumption) (by assumption) rfl ?_ | refine eri rfl ?_ | refine erv rfl ?_ | refine erl rfl ?_ | refine era rfl ?_ | refine erz0 rfl ?_ | refine erz1 rfl ?_)
  try dsimp only [set1, set2, kilP, List.set_cons_zero, List.set_cons_succ, List.getElem?_cons_zero, List.getElem?_cons_succ, List.nil_append, List.cons_append, Option.toList_some, Option.toList_none]
  refine etM rfl c7 hlt rfl (fun M7 e7 => ?_)
  have hz7 := hz6.i (k := 10) e7 (by omega) rfl
  replace hG := hG.u e7 (by omega) (by omega)
  have h7 := h6.fo e7 (by omega)
  have g7 := hz7.1
  obtain ⟨r7, y7, _⟩ := id h7
  have i7 := y7.1
  repeat (first | refine es rfl rfl rfl ?_ | refine eg rfl (by assumption) rfl ?_ | refine eanE rfl (by assumption) (by with_reducible first | exact rfl | exact Int32.zero_add _ | exact ix8 _ | exact ix12 _ | exact ix7r _ _ | exact n7 | exact n0 | exact n1) (by assumption) rfl ?_ | refine eal rfl (by assumption) (by assumption) rfl ?_ | refine eri rfl ?_ | refine erv rfl ?_ | refine erl rfl ?_ | refine era rfl ?_ | refine erz0 rfl ?_ | refine erz1 rfl ?_)
  try dsimp only [set1, set2, kilP, List.set_cons_zero, List.set_cons_succ, List.getElem?_cons_zero, List.getElem?_cons_succ, List.nil_append, List.cons_append, Option.toList_some, Option.toList_none]
  refine epM (fs' := mtL a (nI T.dr) (nI T.lk) (nI T.hs.n) kn (nI (fb_ct0 (fun j => !(T.hs.fr j == -2)) T.hs.n)) (nI T.ss.n) (nI T.np + 1) (nI T.cs.sg) (nI T.cs.nz) (nI (T.hs.n + T.np) + 1)) rfl hz7.1 rfl rfl rfl (fun M8 e8 => ?_)
  have hz8 := hz7.o e8
  replace hG := hG.u e8 (by omega) (by omega)
  have h8 := h7.fo e8 (by omega)
  have g8 := hz8.1
  obtain ⟨r8, y8, _⟩ := id h8
  have i8 := y8.1
  repeat (first | refine es rfl rfl rfl ?_ | refine eg rfl (by assumption) rfl ?_ | refine eanE rfl (by assumption) (by with_reducible first | exact rfl | exact Int32.zero_add _ | exact ix8 _ | exact ix12 _ | exact ix7r _ _ | exact n7 | exact n0 | exact n1) (by assumption) rfl ?_ | refine eal rfl (by assumption) (by assumption) rfl ?_ | refine eri rfl ?_ | refine erv rfl ?_ | refine erl rfl ?_ | refine era rfl ?_ | refine erz0 rfl ?_ | refine erz1 rfl ?_)
  try dsimp only [set1, set2, kilP, List.set_cons_zero, List.set_cons_succ, List.getElem?_cons_zero, List.getElem?_cons_succ, List.nil_append, List.cons_append, Option.toList_some, Option.toList_none]
  refine ⟨rfl, hG, h8, kn, _, _, hz8.1.trans (by rw [nI_1, nI_1]; rfl), hz8.mc, mH, mS, fun j hj => ?_, mC, fun j hj => ?_, fun j hj => ?_, fun j hj => ?_⟩
  · show upd (Am 9) T.np (nI x) j = upd T.hm T.np (nI x) j ∧ upd (Am 10) T.np (nI y) j = upd T.pl T.np (nI y) j
    by_cases e : j = T.np
    · rw [e, pk_us, pk_us, pk_us, pk_us]; exact ⟨rfl, rfl⟩
    · rw [pk_un e, pk_un e, pk_un e, pk_un e]; exact mP j (by have : j < T.np + 1 := hj; omega)
  · replace hj : j < T.hs.n + T.np + 1 := hj
    show (upd (Am 16) (T.hs.n + T.np) 1 j = 0 ∧ ∃ h, h < T.hs.n ∧ upd (Am 17) (T.hs.n + T.np) (nI T.np) j = nI h ∧ vp_updL (Bm 15) (T.hs.n + T.np) w j = T.hs.nm h) ∨ (upd (Am 16) (T.hs.n + T.np) 1 j = 1 ∧ ∃ q, q < T.np + 1 ∧ vp_updL (Bm 15) (T.hs.n + T.np) w j = vp_updL T.pn T.np w q)
    by_cases e : j = T.hs.n + T.np
    · rw [e, pk_us, pk_uLs]
      exact Or.inr ⟨rfl, T.np, by omega, pk_uLs.symm⟩
    · rw [pk_un e, pk_un e, pk_uLn e]
      rcases mN.1 j (by omega) with q | ⟨q1, q2, q3, q4⟩
      · exact Or.inl q
      · exact Or.inr ⟨q1, q2, by omega, by rw [pk_uLn (by omega)]; exact q4⟩
  · obtain ⟨k1, k2, k3⟩ := mN.2.1 j hj
    refine ⟨k1, show k1 < T.hs.n + T.np + 1 by omega, ?_⟩
    show vp_updL (Bm 15) (T.hs.n + T.np) w k1 = T.hs.nm j
    rw [pk_uLn (by omega)]
    exact k3
  · replace hj : j < T.np + 1 := hj
    by_cases e : j = T.np
    · refine ⟨T.hs.n + T.np, show _ < T.hs.n + T.np + 1 by omega, ?_⟩
      show vp_updL (Bm 15) (T.hs.n + T.np) w (T.hs.n + T.np) = vp_updL T.pn T.np w j
      rw [e, pk_uLs, pk_uLs]
    · obtain ⟨k1, k2, k3⟩ := mN.2.2 j (by omega)
      refine ⟨k1, show k1 < T.hs.n + T.np + 1 by omega, ?_⟩
      show vp_updL (Bm 15) (T.hs.n + T.np) w k1 = vp_updL T.pn T.np w j
      rw [pk_uLn (by omega), pk_uLn e]
      exact k3
theorem y_lnHouse (h : yP M b oa tw (.ref a) oq A tp le (.ok p)) (k : (tk tp le p).2.2.1 = 1) (hM : aMt M a T) (ha : b + 16 ≤ a) (hI : tI T) (hA : tpR A tp) (hl : le ≤ 1100) (hS : aSt ad lo0 M) (hb : lo0 ≤ b) (hc : ∀ j, j < 8 → sc j = sC j) (hR : R = if T.dr = 0 then .error (6, (tk tp le p).1) else if 7 ≤ T.hs.n then .error (5, (tk tp le p).1) else lnHouse tp sc le T (tk tp le p).2.1) : EvM ad 6 (iX13_readHouseLine ad) [.ref b] M (lnQ M b a oa tw oq A tp le T R) := by
  have hrd := hI.1.1
  unfold rdW at hrd
  have hN : T.hs.n + T.np ≤ 11 := by omega
  have hn7 : T.hs.n ≤ 7 := by omega
  have hK : tK T := hI.2.2.2.2.2.2.2.2.2
  have hzr := hI.1.2.2
  have hp : p ≤ le := by obtain ⟨_, _, _, _, q, _⟩ := h; exact q
  have hp0 : (tk tp le p).2.1 ≤ le := tk_le hp
  have hG := FY.rf b a M
  obtain ⟨kn0, _, _, m0, _⟩ := id hM
  have ⟨r0, hy0, _⟩ := id h
  have h0 := hy0.1
  refine ⟨Nat.le_of_ble_eq_true rfl, ?_⟩
  show Ev ad _ (rX13_readHouseLine ad) (0, [some (.ref b), none, none, none, none, none, none, none, none], [], M) _
  repeat (first | refine es rfl rfl rfl ?_ | refine eg rfl (by assumption) rfl ?_ | refine eanE rfl (by assumption) (by with_reducible first | exact rfl | exact Int32.zero_add _ | exact ix8 _ | exact ix12 _ | exact ix7r _ _ | exact n7 | exact n0 | exact n1) (by assumption) rfl ?_ | refine eal rfl (by assumption) (by assumption) rfl ?_ | refine eri rfl ?_ | refine erv rfl ?_ | refine erl rfl ?_ | refine era rfl ?_ | refine erz0 rfl ?_ | refine erz1 rfl ?_)
  try dsimp only [set1, set2, kilP, List.set_cons_zero, List.set_cons_succ, List.getElem?_cons_zero, List.getElem?_cons_succ, List.nil_append, List.cons_append, Option.toList_some, Option.toList_none]
  refine ecv rfl rfl (by assumption) rfl rfl rfl (y_begins h k hM ha (by omega) hA hl) (by first | rfl | exact Nat.blt_eq.mpr (by omega)) ?_
  rintro v M1 ⟨rfl, hF1, h1⟩
  obtain ⟨s1, eqS, hs1⟩ := beg_or (T := T) (c := T.hs.n) (m := 7) (y := 7) (a1 := (tk tp le p).2.1) rfl rfl (by omega) (by omega) (by omega) (fun q => (hzr q).1) hR
  rw [eqS] at h1
  replace hM := hM.fr hF1 (by omega)
  replace hS := hS.fr hF1 hb
  replace hG := hG.w hF1
  obtain ⟨⟨ta1, sz1, sp1, so1, pl1, nu1, fa1, wa1, wo1⟩, hy1, _⟩ := id h1
  have j1 := hy1.1
  try dsimp only [set1, set2, kilP, List.set_cons_zero, List.set_cons_succ, List.getElem?_cons_zero, List.getElem?_cons_succ, List.nil_append, List.cons_append, Option.toList_some, Option.toList_none]
  repeat (first | refine es rfl rfl rfl ?_ | refine eg rfl (by assumption) rfl ?_ | refine eanE rfl (by assumption) (by with_reducible first | exact rfl | exact Int32.zero_add _ | exact ix8 _ | exact ix12 _ | exact ix7r _ _ | exact n7 | exact n0 | exact n1) (by assumption) rfl ?_ | refine eal rfl (by assumption) (by assumption) rfl ?_ | refine eri rfl ?_ | refine erv rfl ?_ | refine erl rfl ?_ | refine era rfl ?_ | refine erz0 rfl ?_ | refine erz1 rfl ?_)
  try dsimp only [set1, set2, kilP, List.set_cons_zero, List.set_cons_succ, List.getElem?_cons_zero, List.getElem?_cons_succ, List.nil_append, List.cons_append, Option.toList_some, Option.toList_none]
  have H2 := y_fresh (ad := ad) h1 hM ha hN hA hl hS hc
  refine ecv rfl rfl (by assumption) rfl rfl rfl (H2) (by first | rfl | exact Nat.blt_eq.mpr (by omega)) ?_
  rintro v M2 ⟨⟨w, rfl, hw⟩, hF2, h2⟩
  replace hM := hM.fr hF2 (by omega)
  replace hS := hS.fr hF2 hb
  replace hG := hG.w hF2
  obtain ⟨⟨ta2, sz2, sp2, so2, pl2, nu2, fa2, wa2, wo2⟩, hy2, _⟩ := id h2
  have j2 := hy2.1
  try dsimp only [set1, set2, kilP, List.set_cons_zero, List.set_cons_succ, List.getElem?_cons_zero, List.getElem?_cons_succ, List.nil_append, List.cons_append, Option.toList_some, Option.toList_none]
  repeat (first | refine es rfl rfl rfl ?_ | refine eg rfl (by assumption) rfl ?_ | refine eanE rfl (by assumption) (by with_reducible first | exact rfl | exact Int32.zero_add _ | exact ix8 _ | exact ix12 _ | exact ix7r _ _ | exact n7 | exact n0 | exact n1) (by assumption) rfl ?_ | refine eal rfl (by assumption) (by assumption) rfl ?_ | refine eri rfl ?_ | refine erv rfl ?_ | refine erl rfl ?_ | refine era rfl ?_ | refine erz0 rfl ?_ | refine erz1 rfl ?_)
  try dsimp only [set1, set2, kilP, List.set_cons_zero, List.set_cons_succ, List.getElem?_cons_zero, List.getElem?_cons_succ, List.nil_append, List.cons_append, Option.toList_some, Option.toList_none]
  have H3 := y_part (ad := ad) (i := 10) (lo := 1) (hi := 9) h2 hA hl hS hb (by omega) (by omega) (by omega)
  refine ecv rfl rfl (by assumption) rfl rfl rfl (H3) (by first | rfl | exact Nat.blt_eq.mpr (by omega)) ?_
  rintro v M3 ⟨rfl, hF3, h3⟩
  replace hM := hM.fr hF3 (by omega)
  replace hS := hS.fr hF3 hb
  replace hG := hG.w hF3
  obtain ⟨⟨ta3, sz3, sp3, so3, pl3, nu3, fa3, wa3, wo3⟩, hy3, _⟩ := id h3
  have j3 := hy3.1
  try dsimp only [set1, set2, kilP, List.set_cons_zero, List.set_cons_succ, List.getElem?_cons_zero, List.getElem?_cons_succ, List.nil_append, List.cons_append, Option.toList_some, Option.toList_none]
  repeat (first | refine es rfl rfl rfl ?_ | refine eg rfl (by assumption) rfl ?_ | refine eanE rfl (by assumption) (by with_reducible first | exact rfl | exact Int32.zero_add _ | exact ix8 _ | exact ix12 _ | exact ix7r _ _ | exact n7 | exact n0 | exact n1) (by assumption) rfl ?_ | refine eal rfl (by assumption) (by assumption) rfl ?_ | refine eri rfl ?_ | refine erv rfl ?_ | refine erl rfl ?_ | refine era rfl ?_ | refine erz0 rfl ?_ | refine erz1 rfl ?_)
  try dsimp only [set1, set2, kilP, List.set_cons_zero, List.set_cons_succ, List.getElem?_cons_zero, List.getElem?_cons_succ, List.nil_append, List.cons_append, Option.toList_some, Option.toList_none]
  have H4 := y_part (ad := ad) (i := 11) (lo := 1) (hi := 99) h3 hA hl hS hb (by omega) (by omega) (by omega)
  refine ecv rfl rfl (by assumption) rfl rfl rfl (H4) (by first | rfl | exact Nat.blt_eq.mpr (by omega)) ?_
  rintro v M4 ⟨rfl, hF4, h4⟩
  replace hM := hM.fr hF4 (by omega)
  replace hS := hS.fr hF4 hb
  replace hG := hG.w hF4
  obtain ⟨⟨ta4, sz4, sp4, so4, pl4, nu4, fa4, wa4, wo4⟩, hy4, _⟩ := id h4
  have j4 := hy4.1
  try dsimp only [set1, set2, kilP, List.set_cons_zero, List.set_cons_succ, List.getElem?_cons_zero, List.getElem?_cons_succ, List.nil_append, List.cons_append, Option.toList_some, Option.toList_none]
  repeat (first | refine es rfl rfl rfl ?_ | refine eg rfl (by assumption) rfl ?_ | refine eanE rfl (by assumption) (by with_reducible first | exact rfl | exact Int32.zero_add _ | exact ix8 _ | exact ix12 _ | exact ix7r _ _ | exact n7 | exact n0 | exact n1) (by assumption) rfl ?_ | refine eal rfl (by assumption) (by assumption) rfl ?_ | refine eri rfl ?_ | refine erv rfl ?_ | refine erl rfl ?_ | refine era rfl ?_ | refine erz0 rfl ?_ | refine erz1 rfl ?_)
  try dsimp only [set1, set2, kilP, List.set_cons_zero, List.set_cons_succ, List.getElem?_cons_zero, List.getElem?_cons_succ, List.nil_append, List.cons_append, Option.toList_some, Option.toList_none]
  have H5 := y_part (ad := ad) (i := 12) (lo := 0) (hi := 999) h4 hA hl hS hb (by omega) (by omega) (by omega)
  refine ecv rfl rfl (by assumption) rfl rfl rfl (H5) (by first | rfl | exact Nat.blt_eq.mpr (by omega)) ?_
  rintro v M5 ⟨rfl, hF5, h5⟩
  replace hM := hM.fr hF5 (by omega)
  replace hS := hS.fr hF5 hb
  replace hG := hG.w hF5
  obtain ⟨⟨ta5, sz5, sp5, so5, pl5, nu5, fa5, wa5, wo5⟩, hy5, _⟩ := id h5
  have j5 := hy5.1
  try dsimp only [set1, set2, kilP, List.set_cons_zero, List.set_cons_succ, List.getElem?_cons_zero, List.getElem?_cons_succ, List.nil_append, List.cons_append, Option.toList_some, Option.toList_none]
  repeat (first | refine es rfl rfl rfl ?_ | refine eg rfl (by assumption) rfl ?_ | refine eanE rfl (by assumption) (by with_reducible first | exact rfl | exact Int32.zero_add _ | exact ix8 _ | exact ix12 _ | exact ix7r _ _ | exact n7 | exact n0 | exact n1) (by assumption) rfl ?_ | refine eal rfl (by assumption) (by assumption) rfl ?_ | refine eri rfl ?_ | refine erv rfl ?_ | refine erl rfl ?_ | refine era rfl ?_ | refine erz0 rfl ?_ | refine erz1 rfl ?_)
  try dsimp only [set1, set2, kilP, List.set_cons_zero, List.set_cons_succ, List.getElem?_cons_zero, List.getElem?_cons_succ, List.nil_append, List.cons_append, Option.toList_some, Option.toList_none]
  have H6 := y_needs (ad := ad) (i := 13) h5 hA hl hS (by omega)
  refine ecv rfl rfl (by assumption) rfl rfl rfl (H6) (by first | rfl | exact Nat.blt_eq.mpr (by omega)) ?_
  rintro v M6 ⟨rfl, hF6, h6⟩
  replace hM := hM.fr hF6 (by omega)
  replace hS := hS.fr hF6 hb
  replace hG := hG.w hF6
  obtain ⟨⟨ta6, sz6, sp6, so6, pl6, nu6, fa6, wa6, wo6⟩, hy6, _⟩ := id h6
  have j6 := hy6.1
  try dsimp only [set1, set2, kilP, List.set_cons_zero, List.set_cons_succ, List.getElem?_cons_zero, List.getElem?_cons_succ, List.nil_append, List.cons_append, Option.toList_some, Option.toList_none]
  repeat (first | refine es rfl rfl rfl ?_ | refine eg rfl (by assumption) rfl ?_ | refine eanE rfl (by assumption) (by with_reducible first | exact rfl | exact Int32.zero_add _ | exact ix8 _ | exact ix12 _ | exact ix7r _ _ | exact n7 | exact n0 | exact n1) (by assumption) rfl ?_ | refine eal rfl (by assumption) (by assumption) rfl ?_ | refine eri rfl ?_ | refine erv rfl ?_ | refine erl rfl ?_ | refine era rfl ?_ | refine erz0 rfl ?_ | refine erz1 rfl ?_)
  try dsimp only [set1, set2, kilP, List.set_cons_zero, List.set_cons_succ, List.getElem?_cons_zero, List.getElem?_cons_succ, List.nil_append, List.cons_append, Option.toList_some, Option.toList_none]
  have H7 := y_word (ad := ad) h6 hA hl
  refine ecv rfl rfl (by assumption) rfl rfl rfl (H7) (by first | rfl | exact Nat.blt_eq.mpr (by omega)) ?_
  rintro v M7 ⟨⟨u, rfl, hu⟩, hF7, h7⟩
  replace hM := hM.fr hF7 (by omega)
  replace hS := hS.fr hF7 hb
  replace hG := hG.w hF7
  obtain ⟨⟨ta7, sz7, sp7, so7, pl7, nu7, fa7, wa7, wo7⟩, hy7, _⟩ := id h7
  have j7 := hy7.1
  try dsimp only [set1, set2, kilP, List.set_cons_zero, List.set_cons_succ, List.getElem?_cons_zero, List.getElem?_cons_succ, List.nil_append, List.cons_append, Option.toList_some, Option.toList_none]
  repeat (refine ng 65 rfl ?_; first | refine es rfl rfl rfl ?_ | refine eg rfl (by assumption) rfl ?_ | refine eanE rfl (by assumption) (by with_reducible first | exact rfl | exact Int32.zero_add _ | exact ix8 _ | exact ix12 _ | exact ix7r _ _ | exact n7 | exact n0 | exact n1) (by assumption) rfl ?_ | refine eal rfl (by assumption) (by assumption) rfl ?_ | refine eri rfl ?_ | refine erv rfl ?_ | refine erl rfl ?_ | refine era rfl ?_ | refine erz0 rfl ?_ | refine erz1 rfl ?_)
  try dsimp only [set1, set2, kilP, List.set_cons_zero, List.set_cons_succ, List.getElem?_cons_zero, List.getElem?_cons_succ, List.nil_append, List.cons_append, Option.toList_some, Option.toList_none]
  rcases hs1 with ⟨e, rfl, rfl⟩ | ⟨rfl, hd, hlt, rfl⟩
  · replace h7 : yP M7 b oa tw (.ref a) oq A tp le (.error e) := h7
    obtain ⟨⟨ta, sz, sp, so, pl, nu, fa, wa, wo⟩, hy9, e1, e2, q9, _⟩ := id h7
    replace q9 : so = 5 := q9
    subst q9
    have k9 := hy9.1
    repeat (first | refine es rfl rfl rfl ?_ | refine eg rfl (by assumption) rfl ?_ | refine eanE rfl (by assumption) (by with_reducible first | exact rfl | exact Int32.zero_add _ | exact ix8 _ | exact ix12 _ | exact ix7r _ _ | exact n7 | exact n0 | exact n1) (by assumption) rfl ?_ | refine eal rfl (by assumption) (by assumption) rfl ?_ | refine eri rfl ?_ | refine erv rfl ?_ | refine erl rfl ?_ | refine era rfl ?_ | refine erz0 rfl ?_ | refine erz1 rfl ?_)
    try dsimp only [set1, set2, kilP, List.set_cons_zero, List.set_cons_succ, List.getElem?_cons_zero, List.getElem?_cons_succ, List.nil_append, List.cons_append, Option.toList_some, Option.toList_none]
    exact ⟨rfl, hG, h7, hM⟩
  replace h7 : yP M7 b oa tw (.ref a) oq A tp le (nxt (Except.bind (Except.bind (nxt (Except.bind (Except.bind (nxt (Except.bind (Except.bind (nxt (Except.bind (Except.bind (nxt (pNew tp sc le T (tk tp le p).2.1)) (pThis tp le 10)) (pWh tp le 1 9))) (pThis tp le 11)) (pWh tp le 1 99))) (pThis tp le 12)) (pWh tp le 0 999))) (pThis tp le 13)) (pAny tp le))) := h7
  rcases c1 : pNew tp sc le T (tk tp le p).2.1 with e | ⟨w', a2⟩
  · rw [c1] at h7
    rw [show lnHouse tp sc le T (tk tp le p).2.1 = .error e by unfold lnHouse; rw [c1]]
    replace h7 : yP M7 b oa tw (.ref a) oq A tp le (.error e) := h7
    obtain ⟨⟨ta, sz, sp, so, pl, nu, fa, wa, wo⟩, hy9, e1, e2, q9, _⟩ := id h7
    replace q9 : so = 5 := q9
    subst q9
    have k9 := hy9.1
    repeat (first | refine es rfl rfl rfl ?_ | refine eg rfl (by assumption) rfl ?_ | refine eanE rfl (by assumption) (by with_reducible first | exact rfl | exact Int32.zero_add _ | exact ix8 _ | exact ix12 _ | exact ix7r _ _ | exact n7 | exact n0 | exact n1) (by assumption) rfl ?_ | refine eal rfl (by assumption) (by assumption) rfl ?_ | refine eri rfl ?_ | refine erv rfl ?_ | refine erl rfl ?_ | refine era rfl ?_ | refine erz0 rfl ?_ | refine erz1 rfl ?_)
    try dsimp only [set1, set2, kilP, List.set_cons_zero, List.set_cons_succ, List.getElem?_cons_zero, List.getElem?_cons_succ, List.nil_append, List.cons_append, Option.toList_some, Option.toList_none]
    exact ⟨rfl, hG, h7, hM⟩
  rw [c1] at h7
  replace h7 : yP M7 b oa tw (.ref a) oq A tp le (nxt (Except.bind (Except.bind (nxt (Except.bind (Except.bind (nxt (Except.bind (Except.bind (nxt (Except.bind (pThis tp le 10 a2) (pWh tp le 1 9))) (pThis tp le 11)) (pWh tp le 1 99))) (pThis tp le 12)) (pWh tp le 0 999))) (pThis tp le 13)) (pAny tp le))) := h7
  rcases c2 : pThis tp le 10 a2 with e | a3
  · rw [c2] at h7
    rw [show lnHouse tp sc le T (tk tp le p).2.1 = .error e by unfold lnHouse; rw [c1]; dsimp only; rw [c2]]
    replace h7 : yP M7 b oa tw (.ref a) oq A tp le (.error e) := h7
    obtain ⟨⟨ta, sz, sp, so, pl, nu, fa, wa, wo⟩, hy9, e1, e2, q9, _⟩ := id h7
    replace q9 : so = 5 := q9
    subst q9
    have k9 := hy9.1
    repeat (first | refine es rfl rfl rfl ?_ | refine eg rfl (by assumption) rfl ?_ | refine eanE rfl (by assumption) (by with_reducible first | exact rfl | exact Int32.zero_add _ | exact ix8 _ | exact ix12 _ | exact ix7r _ _ | exact n7 | exact n0 | exact n1) (by assumption) rfl ?_ | refine eal rfl (by assumption) (by assumption) rfl ?_ | refine eri rfl ?_ | refine erv rfl ?_ | refine erl rfl ?_ | refine era rfl ?_ | refine erz0 rfl ?_ | refine erz1 rfl ?_)
    try dsimp only [set1, set2, kilP, List.set_cons_zero, List.set_cons_succ, List.getElem?_cons_zero, List.getElem?_cons_succ, List.nil_append, List.cons_append, Option.toList_some, Option.toList_none]
    exact ⟨rfl, hG, h7, hM⟩
  rw [c2] at h7
  replace h7 : yP M7 b oa tw (.ref a) oq A tp le (nxt (Except.bind (Except.bind (nxt (Except.bind (Except.bind (nxt (Except.bind (Except.bind (nxt (pWh tp le 1 9 a3)) (pThis tp le 11)) (pWh tp le 1 99))) (pThis tp le 12)) (pWh tp le 0 999))) (pThis tp le 13)) (pAny tp le))) := h7
  rcases c3 : pWh tp le 1 9 a3 with e | ⟨x, a4⟩
  · rw [c3] at h7
    rw [show lnHouse tp sc le T (tk tp le p).2.1 = .error e by unfold lnHouse; rw [c1]; dsimp only; rw [c2]; dsimp only; rw [c3]]
    replace h7 : yP M7 b oa tw (.ref a) oq A tp le (.error e) := h7
    obtain ⟨⟨ta, sz, sp, so, pl, nu, fa, wa, wo⟩, hy9, e1, e2, q9, _⟩ := id h7
    replace q9 : so = 5 := q9
    subst q9
    have k9 := hy9.1
    repeat (first | refine es rfl rfl rfl ?_ | refine eg rfl (by assumption) rfl ?_ | refine eanE rfl (by assumption) (by with_reducible first | exact rfl | exact Int32.zero_add _ | exact ix8 _ | exact ix12 _ | exact ix7r _ _ | exact n7 | exact n0 | exact n1) (by assumption) rfl ?_ | refine eal rfl (by assumption) (by assumption) rfl ?_ | refine eri rfl ?_ | refine erv rfl ?_ | refine erl rfl ?_ | refine era rfl ?_ | refine erz0 rfl ?_ | refine erz1 rfl ?_)
    try dsimp only [set1, set2, kilP, List.set_cons_zero, List.set_cons_succ, List.getElem?_cons_zero, List.getElem?_cons_succ, List.nil_append, List.cons_append, Option.toList_some, Option.toList_none]
    exact ⟨rfl, hG, h7, hM⟩
  rw [c3] at h7
  replace h7 : yP M7 b oa tw (.ref a) oq A tp le (nxt (Except.bind (Except.bind (nxt (Except.bind (Except.bind (nxt (Except.bind (pThis tp le 11 a4) (pWh tp le 1 99))) (pThis tp le 12)) (pWh tp le 0 999))) (pThis tp le 13)) (pAny tp le))) := h7
  rcases c4 : pThis tp le 11 a4 with e | a5
  · rw [c4] at h7
    rw [show lnHouse tp sc le T (tk tp le p).2.1 = .error e by unfold lnHouse; rw [c1]; dsimp only; rw [c2]; dsimp only; rw [c3]; dsimp only; rw [c4]]
    replace h7 : yP M7 b oa tw (.ref a) oq A tp le (.error e) := h7
    obtain ⟨⟨ta, sz, sp, so, pl, nu, fa, wa, wo⟩, hy9, e1, e2, q9, _⟩ := id h7
    replace q9 : so = 5 := q9
    subst q9
    have k9 := hy9.1
    repeat (first | refine es rfl rfl rfl ?_ | refine eg rfl (by assumption) rfl ?_ | refine eanE rfl (by assumption) (by with_reducible first | exact rfl | exact Int32.zero_add _ | exact ix8 _ | exact ix12 _ | exact ix7r _ _ | exact n7 | exact n0 | exact n1) (by assumption) rfl ?_ | refine eal rfl (by assumption) (by assumption) rfl ?_ | refine eri rfl ?_ | refine erv rfl ?_ | refine erl rfl ?_ | refine era rfl ?_ | refine erz0 rfl ?_ | refine erz1 rfl ?_)
    try dsimp only [set1, set2, kilP, List.set_cons_zero, List.set_cons_succ, List.getElem?_cons_zero, List.getElem?_cons_succ, List.nil_append, List.cons_append, Option.toList_some, Option.toList_none]
    exact ⟨rfl, hG, h7, hM⟩
  rw [c4] at h7
  replace h7 : yP M7 b oa tw (.ref a) oq A tp le (nxt (Except.bind (Except.bind (nxt (Except.bind (Except.bind (nxt (pWh tp le 1 99 a5)) (pThis tp le 12)) (pWh tp le 0 999))) (pThis tp le 13)) (pAny tp le))) := h7
  rcases c5 : pWh tp le 1 99 a5 with e | ⟨y, a6⟩
  · rw [c5] at h7
    rw [show lnHouse tp sc le T (tk tp le p).2.1 = .error e by unfold lnHouse; rw [c1]; dsimp only; rw [c2]; dsimp only; rw [c3]; dsimp only; rw [c4]; dsimp only; rw [c5]]
    replace h7 : yP M7 b oa tw (.ref a) oq A tp le (.error e) := h7
    obtain ⟨⟨ta, sz, sp, so, pl, nu, fa, wa, wo⟩, hy9, e1, e2, q9, _⟩ := id h7
    replace q9 : so = 5 := q9
    subst q9
    have k9 := hy9.1
    repeat (first | refine es rfl rfl rfl ?_ | refine eg rfl (by assumption) rfl ?_ | refine eanE rfl (by assumption) (by with_reducible first | exact rfl | exact Int32.zero_add _ | exact ix8 _ | exact ix12 _ | exact ix7r _ _ | exact n7 | exact n0 | exact n1) (by assumption) rfl ?_ | refine eal rfl (by assumption) (by assumption) rfl ?_ | refine eri rfl ?_ | refine erv rfl ?_ | refine erl rfl ?_ | refine era rfl ?_ | refine erz0 rfl ?_ | refine erz1 rfl ?_)
    try dsimp only [set1, set2, kilP, List.set_cons_zero, List.set_cons_succ, List.getElem?_cons_zero, List.getElem?_cons_succ, List.nil_append, List.cons_append, Option.toList_some, Option.toList_none]
    exact ⟨rfl, hG, h7, hM⟩
  rw [c5] at h7
  replace h7 : yP M7 b oa tw (.ref a) oq A tp le (nxt (Except.bind (Except.bind (nxt (Except.bind (pThis tp le 12 a6) (pWh tp le 0 999))) (pThis tp le 13)) (pAny tp le))) := h7
  rcases c6 : pThis tp le 12 a6 with e | a7
  · rw [c6] at h7
    rw [show lnHouse tp sc le T (tk tp le p).2.1 = .error e by unfold lnHouse; rw [c1]; dsimp only; rw [c2]; dsimp only; rw [c3]; dsimp only; rw [c4]; dsimp only; rw [c5]; dsimp only; rw [c6]]
    replace h7 : yP M7 b oa tw (.ref a) oq A tp le (.error e) := h7
    obtain ⟨⟨ta, sz, sp, so, pl, nu, fa, wa, wo⟩, hy9, e1, e2, q9, _⟩ := id h7
    replace q9 : so = 5 := q9
    subst q9
    have k9 := hy9.1
    repeat (first | refine es rfl rfl rfl ?_ | refine eg rfl (by assumption) rfl ?_ | refine eanE rfl (by assumption) (by with_reducible first | exact rfl | exact Int32.zero_add _ | exact ix8 _ | exact ix12 _ | exact ix7r _ _ | exact n7 | exact n0 | exact n1) (by assumption) rfl ?_ | refine eal rfl (by assumption) (by assumption) rfl ?_ | refine eri rfl ?_ | refine erv rfl ?_ | refine erl rfl ?_ | refine era rfl ?_ | refine erz0 rfl ?_ | refine erz1 rfl ?_)
    try dsimp only [set1, set2, kilP, List.set_cons_zero, List.set_cons_succ, List.getElem?_cons_zero, List.getElem?_cons_succ, List.nil_append, List.cons_append, Option.toList_some, Option.toList_none]
    exact ⟨rfl, hG, h7, hM⟩
  rw [c6] at h7
  replace h7 : yP M7 b oa tw (.ref a) oq A tp le (nxt (Except.bind (Except.bind (nxt (pWh tp le 0 999 a7)) (pThis tp le 13)) (pAny tp le))) := h7
  rcases c7 : pWh tp le 0 999 a7 with e | ⟨z, a8⟩
  · rw [c7] at h7
    rw [show lnHouse tp sc le T (tk tp le p).2.1 = .error e by unfold lnHouse; rw [c1]; dsimp only; rw [c2]; dsimp only; rw [c3]; dsimp only; rw [c4]; dsimp only; rw [c5]; dsimp only; rw [c6]; dsimp only; rw [c7]]
    replace h7 : yP M7 b oa tw (.ref a) oq A tp le (.error e) := h7
    obtain ⟨⟨ta, sz, sp, so, pl, nu, fa, wa, wo⟩, hy9, e1, e2, q9, _⟩ := id h7
    replace q9 : so = 5 := q9
    subst q9
    have k9 := hy9.1
    repeat (first | refine es rfl rfl rfl ?_ | refine eg rfl (by assumption) rfl ?_ | refine eanE rfl (by assumption) (by with_reducible first | exact rfl | exact Int32.zero_add _ | exact ix8 _ | exact ix12 _ | exact ix7r _ _ | exact n7 | exact n0 | exact n1) (by assumption) rfl ?_ | refine eal rfl (by assumption) (by assumption) rfl ?_ | refine eri rfl ?_ | refine erv rfl ?_ | refine erl rfl ?_ | refine era rfl ?_ | refine erz0 rfl ?_ | refine erz1 rfl ?_)
    try dsimp only [set1, set2, kilP, List.set_cons_zero, List.set_cons_succ, List.getElem?_cons_zero, List.getElem?_cons_succ, List.nil_append, List.cons_append, Option.toList_some, Option.toList_none]
    exact ⟨rfl, hG, h7, hM⟩
  rw [c7] at h7
  replace h7 : yP M7 b oa tw (.ref a) oq A tp le (nxt (Except.bind (pThis tp le 13 a8) (pAny tp le))) := h7
  rcases c8 : pThis tp le 13 a8 with e | a9
  · rw [c8] at h7
    rw [show lnHouse tp sc le T (tk tp le p).2.1 = .error e by unfold lnHouse; rw [c1]; dsimp only; rw [c2]; dsimp only; rw [c3]; dsimp only; rw [c4]; dsimp only; rw [c5]; dsimp only; rw [c6]; dsimp only; rw [c7]; dsimp only; rw [c8]]
    replace h7 : yP M7 b oa tw (.ref a) oq A tp le (.error e) := h7
    obtain ⟨⟨ta, sz, sp, so, pl, nu, fa, wa, wo⟩, hy9, e1, e2, q9, _⟩ := id h7
    replace q9 : so = 5 := q9
    subst q9
    have k9 := hy9.1
    repeat (first | refine es rfl rfl rfl ?_ | refine eg rfl (by assumption) rfl ?_ | refine eanE rfl (by assumption) (by with_reducible first | exact rfl | exact Int32.zero_add _ | exact ix8 _ | exact ix12 _ | exact ix7r _ _ | exact n7 | exact n0 | exact n1) (by assumption) rfl ?_ | refine eal rfl (by assumption) (by assumption) rfl ?_ | refine eri rfl ?_ | refine erv rfl ?_ | refine erl rfl ?_ | refine era rfl ?_ | refine erz0 rfl ?_ | refine erz1 rfl ?_)
    try dsimp only [set1, set2, kilP, List.set_cons_zero, List.set_cons_succ, List.getElem?_cons_zero, List.getElem?_cons_succ, List.nil_append, List.cons_append, Option.toList_some, Option.toList_none]
    exact ⟨rfl, hG, h7, hM⟩
  rw [c8] at h7
  replace h7 : yP M7 b oa tw (.ref a) oq A tp le (nxt (pAny tp le a9)) := h7
  rcases c9 : pAny tp le a9 with e | ⟨u', a10⟩
  · rw [c9] at h7
    rw [show lnHouse tp sc le T (tk tp le p).2.1 = .error e by unfold lnHouse; rw [c1]; dsimp only; rw [c2]; dsimp only; rw [c3]; dsimp only; rw [c4]; dsimp only; rw [c5]; dsimp only; rw [c6]; dsimp only; rw [c7]; dsimp only; rw [c8]; dsimp only; rw [c9]]
    replace h7 : yP M7 b oa tw (.ref a) oq A tp le (.error e) := h7
    obtain ⟨⟨ta, sz, sp, so, pl, nu, fa, wa, wo⟩, hy9, e1, e2, q9, _⟩ := id h7
    replace q9 : so = 5 := q9
    subst q9
    have k9 := hy9.1
    repeat (first | refine es rfl rfl rfl ?_ | refine eg rfl (by assumption) rfl ?_ | refine eanE rfl (by assumption) (by with_reducible first | exact rfl | exact Int32.zero_add _ | exact ix8 _ | exact ix12 _ | exact ix7r _ _ | exact n7 | exact n0 | exact n1) (by assumption) rfl ?_ | refine eal rfl (by assumption) (by assumption) rfl ?_ | refine eri rfl ?_ | refine erv rfl ?_ | refine erl rfl ?_ | refine era rfl ?_ | refine erz0 rfl ?_ | refine erz1 rfl ?_)
    try dsimp only [set1, set2, kilP, List.set_cons_zero, List.set_cons_succ, List.getElem?_cons_zero, List.getElem?_cons_succ, List.nil_append, List.cons_append, Option.toList_some, Option.toList_none]
    exact ⟨rfl, hG, h7, hM⟩
  rw [c9] at h7
  replace h7 : yP M7 b oa tw (.ref a) oq A tp le (.ok a10) := h7
  rw [show lnHouse tp sc le T (tk tp le p).2.1 = .ok ((T.1, (T.hs.n + 1, vp_updL T.hs.nm T.hs.n w', upd T.hs.ro T.hs.n (nI x), upd T.hs.re T.hs.n (nI y), upd T.hs.bi T.hs.n (nI z), vp_updL T.hs.sm T.hs.n u', T.hs.to, T.hs.fr, T.hs.tt), T.ss, T.cs), a10) by unfold lnHouse; rw [c1]; dsimp only; rw [c2]; dsimp only; rw [c3]; dsimp only; rw [c4]; dsimp only; rw [c5]; dsimp only; rw [c6]; dsimp only; rw [c7]; dsimp only; rw [c8]; dsimp only; rw [c9]]
  try rw [show Except.bind (.ok (tk tp le p).2.1) (pNew tp sc le T) = .ok (w', a2) from c1]
  try rw [show Except.bind (.ok (tk tp le p).2.1) (pNew tp sc le T) = .ok (w', a2) from c1] at hw
  try rw [show Except.bind (.ok (tk tp le p).2.1) (pNew tp sc le T) = .ok (w', a2) from c1] at hu
  try rw [show Except.bind (nxt (.ok (w', a2))) (pThis tp le 10) = .ok a3 from c2]
  try rw [show Except.bind (nxt (.ok (w', a2))) (pThis tp le 10) = .ok a3 from c2] at hw
  try rw [show Except.bind (nxt (.ok (w', a2))) (pThis tp le 10) = .ok a3 from c2] at hu
  try rw [show Except.bind (.ok a3) (pWh tp le 1 9) = .ok (x, a4) from c3]
  try rw [show Except.bind (.ok a3) (pWh tp le 1 9) = .ok (x, a4) from c3] at hw
  try rw [show Except.bind (.ok a3) (pWh tp le 1 9) = .ok (x, a4) from c3] at hu
  try rw [show Except.bind (nxt (.ok (x, a4))) (pThis tp le 11) = .ok a5 from c4]
  try rw [show Except.bind (nxt (.ok (x, a4))) (pThis tp le 11) = .ok a5 from c4] at hw
  try rw [show Except.bind (nxt (.ok (x, a4))) (pThis tp le 11) = .ok a5 from c4] at hu
  try rw [show Except.bind (.ok a5) (pWh tp le 1 99) = .ok (y, a6) from c5]
  try rw [show Except.bind (.ok a5) (pWh tp le 1 99) = .ok (y, a6) from c5] at hw
  try rw [show Except.bind (.ok a5) (pWh tp le 1 99) = .ok (y, a6) from c5] at hu
  try rw [show Except.bind (nxt (.ok (y, a6))) (pThis tp le 12) = .ok a7 from c6]
  try rw [show Except.bind (nxt (.ok (y, a6))) (pThis tp le 12) = .ok a7 from c6] at hw
  try rw [show Except.bind (nxt (.ok (y, a6))) (pThis tp le 12) = .ok a7 from c6] at hu
  try rw [show Except.bind (.ok a7) (pWh tp le 0 999) = .ok (z, a8) from c7]
  try rw [show Except.bind (.ok a7) (pWh tp le 0 999) = .ok (z, a8) from c7] at hw
  try rw [show Except.bind (.ok a7) (pWh tp le 0 999) = .ok (z, a8) from c7] at hu
  try rw [show Except.bind (nxt (.ok (z, a8))) (pThis tp le 13) = .ok a9 from c8]
  try rw [show Except.bind (nxt (.ok (z, a8))) (pThis tp le 13) = .ok a9 from c8] at hw
  try rw [show Except.bind (nxt (.ok (z, a8))) (pThis tp le 13) = .ok a9 from c8] at hu
  try rw [show Except.bind (.ok a9) (pAny tp le) = .ok (u', a10) from c9]
  try rw [show Except.bind (.ok a9) (pAny tp le) = .ok (u', a10) from c9] at hw
  try rw [show Except.bind (.ok a9) (pAny tp le) = .ok (u', a10) from c9] at hu
  rw [show wV 1 (.ok (x, a4)) = x from rfl]
  rw [show wV 1 (.ok (y, a6)) = y from rfl]
  rw [show wV 0 (.ok (z, a8)) = z from rfl]
  have ew : w = w' := hw _ rfl
  subst ew
  have eu : u = u' := hu _ rfl
  subst eu
  obtain ⟨⟨ta, sz, sp, so, pl, nu, fa, wa, wo⟩, hy9, hE9⟩ := id h7
  obtain ⟨e1, e2, q8, q9, _⟩ := id hE9
  have k9 := hy9.1
  obtain ⟨kn, Am, Bm, m0, mc, mH, mS, mP, mC, mN⟩ := id hM
  have hz : tZ M7 a (mtO a T kn) Am Bm := ⟨m0, mc.to⟩
  repeat (first | refine es rfl rfl rfl ?_ | refine eg rfl (by assumption) rfl ?_ | refine eanE rfl (by assumption) (by with_reducible first | exact rfl | exact Int32.zero_add _ | exact ix8 _ | exact ix12 _ | exact ix7r _ _ | exact n7 | exact n0 | exact n1) (by assumption) rfl ?_ | refine eal rfl (by assumption) (by assumption) rfl ?_ | refine eri rfl ?_ | refine erv rfl ?_ | refine erl rfl ?_ | refine era rfl ?_ | refine erz0 rfl ?_ | refine erz1 rfl ?_)
  try dsimp only [set1, set2, kilP, List.set_cons_zero, List.set_cons_succ, List.getElem?_cons_zero, List.getElem?_cons_succ, List.nil_append, List.cons_append, Option.toList_some, Option.toList_none]
  refine ei _ rfl rfl (fun c9 => ?_) (fun c9 => ?_)
  rotate_left
  · exact absurd (q9.symm.trans (Decidable.not_not.mp c9)) (kR_5 _)
  repeat (first | refine es rfl rfl rfl ?_ | refine eg rfl (by assumption) rfl ?_ | refine eanE rfl (by assumption) (by with_reducible first | exact rfl | exact Int32.zero_add _ | exact ix8 _ | exact ix12 _ | exact ix7r _ _ | exact n7 | exact n0 | exact n1) (by assumption) rfl ?_ | refine eal rfl (by assumption) (by assumption) rfl ?_ | refine eri rfl ?_ | refine erv rfl ?_ | refine erl rfl ?_ | refine era rfl ?_ | refine erz0 rfl ?_ | refine erz1 rfl ?_)
  try dsimp only [set1, set2, kilP, List.set_cons_zero, List.set_cons_succ, List.getElem?_cons_zero, List.getElem?_cons_succ, List.nil_append, List.cons_append, Option.toList_some, Option.toList_none]
  refine ecv rfl rfl (by assumption) rfl rfl rfl (y_names hy9 hz ha (by omega)) (by first | rfl | exact Nat.blt_eq.mpr (by omega)) ?_
  rintro v M8 ⟨rfl, hG8, hy8, hz8⟩
  replace hG := hG.tr hG8
  have h8 : yP M8 b oa tw (.ref a) oq A tp le (.ok a10) := ⟨_, hy8, hE9⟩
  have g8 := hz8.1
  have i8 := hy8.1
  try dsimp only [set1, set2, kilP, List.set_cons_zero, List.set_cons_succ, List.getElem?_cons_zero, List.getElem?_cons_succ, List.nil_append, List.cons_append, Option.toList_some, Option.toList_none]
  have c9 : M8.1 (a + 1) = ints 7 (Am 1) := hz8.2 1 (by omega) (by omega)
  repeat (first | refine es rfl rfl rfl ?_ | refine eg rfl (by assumption) rfl ?_ | refine eanE rfl (by assumption) (by with_reducible first | exact rfl | exact Int32.zero_add _ | exact ix8 _ | exact ix12 _ | exact ix7r _ _ | exact n7 | exact n0 | exact n1) (by assumption) rfl ?_ | refine eal rfl (by assumption) (by assumption) rfl ?_ | refine eri rfl ?_ | refine erv rfl ?_ | refine erl rfl ?_ | refine era rfl ?_ | refine erz0 rfl ?_ | refine erz1 rfl ?_)
  try dsimp only [set1, set2, kilP, List.set_cons_zero, List.set_cons_succ, List.getElem?_cons_zero, List.getElem?_cons_succ, List.nil_append, List.cons_append, Option.toList_some, Option.toList_none]
  refine etM rfl c9 hlt rfl (fun M9 e9 => ?_)
  have hz9 := hz8.i (k := 1) e9 (by omega) rfl
  replace hG := hG.u e9 (by omega) (by omega)
  have h9 := h8.fo e9 (by omega)
  have g9 := hz9.1
  obtain ⟨r9, y9, _⟩ := id h9
  have i9 := y9.1
  have c10 : M9.1 (a + 2) = ints 7 (Am 2) := hz9.2 2 (by omega) (by omega)
  repeat (first | refine es rfl rfl rfl ?_ | refine eg rfl (by assumption) rfl ?_ | refine eanE rfl (by assumption) (by with_reducible first | exact rfl | exact Int32.zero_add _ | exact ix8 _ | exact ix12 _ | exact ix7r _ _ | exact n7 | exact n0 | exact n1) (by assumption) rfl ?_ | refine eal rfl (by assumption) (by assumption) rfl ?_ | refine eri rfl ?_ | refine erv rfl ?_ | refine erl rfl ?_ | refine era rfl ?_ | refine erz0 rfl ?_ | refine erz1 rfl ?_)
  try dsimp only [set1, set2, kilP, List.set_cons_zero, List.set_cons_succ, List.getElem?_cons_zero, List.getElem?_cons_succ, List.nil_append, List.cons_append, Option.toList_some, Option.toList_none]
  refine etM rfl c10 hlt rfl (fun M10 e10 => ?_)
  have hz10 := hz9.i (k := 2) e10 (by omega) rfl
  replace hG := hG.u e10 (by omega) (by omega)
  have h10 := h9.fo e10 (by omega)
  have g10 := hz10.1
  obtain ⟨r10, y10, _⟩ := id h10
  have i10 := y10.1
  have c11 : M10.1 (a + 3) = ints 7 (Am 3) := hz10.2 3 (by omega) (by omega)
  repeat (first | refine es rfl rfl rfl ?_ | refine eg rfl (by assumption) rfl ?_ | refine eanE rfl (by assumption) (by with_reducible first | exact rfl | exact Int32.zero_add _ | exact ix8 _ | exact ix12 _ | exact ix7r _ _ | exact n7 | exact n0 | exact n1) (by assumption) rfl ?_ | refine eal rfl (by assumption) (by assumption) rfl ?_ | refine eri rfl ?_ | refine erv rfl ?_ | refine erl rfl ?_ | refine era rfl ?_ | refine erz0 rfl ?_ | refine erz1 rfl ?_)
  try dsimp only [set1, set2, kilP, List.set_cons_zero, List.set_cons_succ, List.getElem?_cons_zero, List.getElem?_cons_succ, List.nil_append, List.cons_append, Option.toList_some, Option.toList_none]
  refine etM rfl c11 hlt rfl (fun M11 e11 => ?_)
  have hz11 := hz10.i (k := 3) e11 (by omega) rfl
  replace hG := hG.u e11 (by omega) (by omega)
  have h11 := h10.fo e11 (by omega)
  have g11 := hz11.1
  obtain ⟨r11, y11, _⟩ := id h11
  have i11 := y11.1
  have c12 : M11.1 (a + 7) = lngs 7 (Bm 7) := hz11.2 7 (by omega) (by omega)
  repeat (first | refine es rfl rfl rfl ?_ | refine eg rfl (by assumption) rfl ?_ | refine eanE rfl (by assumption) (by with_reducible first | exact rfl | exact Int32.zero_add _ | exact ix8 _ | exact ix12 _ | exact ix7r _ _ | exact n7 | exact n0 | exact n1) (by assumption) rfl ?_ | refine eal rfl (by assumption) (by assumption) rfl ?_ | refine eri rfl ?_ | refine erv rfl ?_ | refine erl rfl ?_ | refine era rfl ?_ | refine erz0 rfl ?_ | refine erz1 rfl ?_)
  try dsimp only [set1, set2, kilP, List.set_cons_zero, List.set_cons_succ, List.getElem?_cons_zero, List.getElem?_cons_succ, List.nil_append, List.cons_append, Option.toList_some, Option.toList_none]
  refine etlM rfl c12 hlt rfl (fun M12 e12 => ?_)
  have hz12 := hz11.l (k := 7) e12 (by omega) rfl
  replace hG := hG.u e12 (by omega) (by omega)
  have h12 := h11.fo e12 (by omega)
  have g12 := hz12.1
  obtain ⟨r12, y12, _⟩ := id h12
  have i12 := y12.1
  have c13 : M12.1 (a + 4) = ints 7 (Am 4) := hz12.2 4 (by omega) (by omega)
  repeat (first | refine es rfl rfl rfl ?_ | refine eg rfl (by assumption) rfl ?_ | refine eanE rfl (by assumption) (by with_reducible first | exact rfl | exact Int32.zero_add _ | exact ix8 _ | exact ix12 _ | exact ix7r _ _ | exact n7 | exact n0 | exact n1) (by assumption) rfl ?_ | refine eal rfl (by assumption) (by assumption) rfl ?_ | refine eri rfl ?_ | refine erv rfl ?_ | refine erl rfl ?_ | refine era rfl ?_ | refine erz0 rfl ?_ | refine erz1 rfl ?_)
  try dsimp only [set1, set2, kilP, List.set_cons_zero, List.set_cons_succ, List.getElem?_cons_zero, List.getElem?_cons_succ, List.nil_append, List.cons_append, Option.toList_some, Option.toList_none]
  refine etM rfl c13 hlt rfl (fun M13 e13 => ?_)
  have hz13 := hz12.i (k := 4) e13 (by omega) rfl
  replace hG := hG.u e13 (by omega) (by omega)
  have h13 := h12.fo e13 (by omega)
  have g13 := hz13.1
  obtain ⟨r13, y13, _⟩ := id h13
  have i13 := y13.1
  have c14 : M13.1 (a + 5) = ints 7 (Am 5) := hz13.2 5 (by omega) (by omega)
  repeat (first | refine es rfl rfl rfl ?_ | refine eg rfl (by assumption) rfl ?_ | refine eanE rfl (by assumption) (by with_reducible first | exact rfl | exact Int32.zero_add _ | exact ix8 _ | exact ix12 _ | exact ix7r _ _ | exact n7 | exact n0 | exact n1) (by assumption) rfl ?_ | refine eal rfl (by assumption) (by assumption) rfl ?_ | refine eri rfl ?_ | refine erv rfl ?_ | refine erl rfl ?_ | refine era rfl ?_ | refine erz0 rfl ?_ | refine erz1 rfl ?_)
  try dsimp only [set1, set2, kilP, List.set_cons_zero, List.set_cons_succ, List.getElem?_cons_zero, List.getElem?_cons_succ, List.nil_append, List.cons_append, Option.toList_some, Option.toList_none]
  refine etM rfl c14 hlt rfl (fun M14 e14 => ?_)
  have hz14 := hz13.i (k := 5) e14 (by omega) rfl
  replace hG := hG.u e14 (by omega) (by omega)
  have h14 := h13.fo e14 (by omega)
  have g14 := hz14.1
  obtain ⟨r14, y14, _⟩ := id h14
  have i14 := y14.1
  repeat (first | refine es rfl rfl rfl ?_ | refine eg rfl (by assumption) rfl ?_ | refine eanE rfl (by assumption) (by with_reducible first | exact rfl | exact Int32.zero_add _ | exact ix8 _ | exact ix12 _ | exact ix7r _ _ | exact n7 | exact n0 | exact n1) (by assumption) rfl ?_ | refine eal rfl (by assumption) (by assumption) rfl ?_ | refine eri rfl ?_ | refine erv rfl ?_ | refine erl rfl ?_ | refine era rfl ?_ | refine erz0 rfl ?_ | refine erz1 rfl ?_)
  try dsimp only [set1, set2, kilP, List.set_cons_zero, List.set_cons_succ, List.getElem?_cons_zero, List.getElem?_cons_succ, List.nil_append, List.cons_append, Option.toList_some, Option.toList_none]
  refine epM (fs' := mtL a (nI T.dr) (nI T.lk) (nI T.hs.n + 1) kn (nI (fb_ct0 (fun j => !(T.hs.fr j == -2)) T.hs.n)) (nI T.ss.n) (nI T.np) (nI T.cs.sg) (nI T.cs.nz) (nI (T.hs.n + T.np) + 1)) rfl hz14.1 rfl rfl rfl (fun M15 e15 => ?_)
  have hz15 := hz14.o e15
  replace hG := hG.u e15 (by omega) (by omega)
  have h15 := h14.fo e15 (by omega)
  have g15 := hz15.1
  obtain ⟨r15, y15, _⟩ := id h15
  have i15 := y15.1
  repeat (first | refine es rfl rfl rfl ?_ | refine eg rfl (by assumption) rfl ?_ | refine eanE rfl (by assumption) (by with_reducible first | exact rfl | exact Int32.zero_add _ | exact ix8 _ | exact ix12 _ | exact ix7r _ _ | exact n7 | exact n0 | exact n1) (by assumption) rfl ?_ | refine eal rfl (by assumption) (by assumption) rfl ?_ | refine eri rfl ?_ | refine erv rfl ?_ | refine erl rfl ?_ | refine era rfl ?_ | refine erz0 rfl ?_ | refine erz1 rfl ?_)
  try dsimp only [set1, set2, kilP, List.set_cons_zero, List.set_cons_succ, List.getElem?_cons_zero, List.getElem?_cons_succ, List.nil_append, List.cons_append, Option.toList_some, Option.toList_none]
  have hto : T.hs.to T.hs.n = -2 := by
    rcases hI.2.2.1 T.hs.n hlt with q | ⟨q, _⟩
    · exact q
    · omega
  have hfr : T.hs.fr T.hs.n = -2 := by
    rcases hI.2.2.2.2.1 T.hs.n hlt with q | ⟨q, _⟩
    · exact q
    · omega
  have hct : fb_ct0 (fun j => !(T.hs.fr j == -2)) (T.hs.n + 1) = fb_ct0 (fun j => !(T.hs.fr j == -2)) T.hs.n := by
    rw [fb_ct0, hfr]
    rfl
  refine ⟨rfl, hG, h15, kn, _, _, hz15.1.trans (by rw [nI_1, nI_1, ← hct, Nat.add_right_comm]; rfl), hz15.mc, fun j hj => ?_, mS, mP, mC, fun j hj => ?_, fun j hj => ?_, fun j hj => ?_⟩
  · show upd (Am 1) T.hs.n (nI x) j = upd T.hs.ro T.hs.n (nI x) j ∧ upd (Am 2) T.hs.n (nI y) j = upd T.hs.re T.hs.n (nI y) j ∧ upd (Am 3) T.hs.n (nI z) j = upd T.hs.bi T.hs.n (nI z) j ∧ upd (Am 4) T.hs.n (-2) j = T.hs.to j ∧ upd (Am 5) T.hs.n (-1) j = (if T.hs.fr j = -2 then -1 else T.hs.fr j) ∧ (¬ T.hs.fr j = -2 → Am 6 j = T.hs.tt j) ∧ vp_updL (Bm 7) T.hs.n u j = vp_updL T.hs.sm T.hs.n u j
    by_cases e : j = T.hs.n
    · rw [e]
      simp only [pk_us, pk_uLs]
      exact ⟨trivial, trivial, trivial, hto.symm, (if_pos hfr).symm, fun q => absurd hfr q, trivial⟩
    · simp only [pk_un e, pk_uLn e]
      exact mH j (by have : j < T.hs.n + 1 := hj; omega)
  · replace hj : j < T.hs.n + 1 + T.np := hj
    show (upd (Am 16) (T.hs.n + T.np) 0 j = 0 ∧ ∃ h, h < T.hs.n + 1 ∧ upd (Am 17) (T.hs.n + T.np) (nI T.hs.n) j = nI h ∧ vp_updL (Bm 15) (T.hs.n + T.np) w j = vp_updL T.hs.nm T.hs.n w h) ∨ (upd (Am 16) (T.hs.n + T.np) 0 j = 1 ∧ ∃ q, q < T.np ∧ vp_updL (Bm 15) (T.hs.n + T.np) w j = T.pn q)
    by_cases e : j = T.hs.n + T.np
    · rw [e, pk_us, pk_us, pk_uLs]
      exact Or.inl ⟨rfl, T.hs.n, by omega, rfl, pk_uLs.symm⟩
    · rw [pk_un e, pk_un e, pk_uLn e]
      rcases mN.1 j (by omega) with ⟨q1, q2, q3, q4, q5⟩ | q
      · exact Or.inl ⟨q1, q2, by omega, q4, by rw [pk_uLn (by omega)]; exact q5⟩
      · exact Or.inr q
  · replace hj : j < T.hs.n + 1 := hj
    by_cases e : j = T.hs.n
    · refine ⟨T.hs.n + T.np, show _ < T.hs.n + 1 + T.np by omega, ?_⟩
      show vp_updL (Bm 15) (T.hs.n + T.np) w (T.hs.n + T.np) = vp_updL T.hs.nm T.hs.n w j
      rw [e, pk_uLs, pk_uLs]
    · obtain ⟨k1, k2, k3⟩ := mN.2.1 j (by omega)
      refine ⟨k1, show k1 < T.hs.n + 1 + T.np by omega, ?_⟩
      show vp_updL (Bm 15) (T.hs.n + T.np) w k1 = vp_updL T.hs.nm T.hs.n w j
      rw [pk_uLn (by omega), pk_uLn e]
      exact k3
  · obtain ⟨k1, k2, k3⟩ := mN.2.2 j hj
    refine ⟨k1, show k1 < T.hs.n + 1 + T.np by omega, ?_⟩
    show vp_updL (Bm 15) (T.hs.n + T.np) w k1 = T.pn j
    rw [pk_uLn (by omega)]
    exact k3
end RLINESB
