/-! The reference reads: lines with a look -/
section RLINESC
variable {ad : Nat → Nat} {a b lo0 : Nat} {tp : Nat → Int32} {sc : Nat → Int64} {le : Nat} {A : Ar} {oa : Int32 × Int32 × Int32} {oq : Yq} {tw : Value} {M : Mm} {T : Tw} {R : Except Er (Tw × Nat)} {p : Nat}
theorem pHou_k {q x a2 : Nat} (h : pHou tp sc le T q = .ok (x, a2)) : (tk tp le q).2.2.1 = 1 ∧ a2 = (tk tp le q).2.1 := by
  unfold pHou at h
  split at h
  · rename_i k
    split at h
    · cases h
    · injection h with h
      injection h with h1 h2
      exact ⟨k.1, h2.symm⟩
  · cases h
theorem wV_b {s : Except Er Nat} {lo hi : Nat} (h : lo ≤ hi) (hh : hi < 2 ^ 31) : wV lo (Except.bind s (pWh tp le lo hi)) ≤ hi := by
  match s with
  | .error e => exact h
  | .ok p =>
    show wV lo (pWh tp le lo hi p) ≤ hi
    unfold pWh
    split
    · split
      · rename_i c
        exact (nI_bt (by omega) hh c.1 c.2).2.2
      · exact h
    · exact h
theorem y_lnTown (h : yP M b oa tw (.ref a) oq A tp le (.ok p)) (k : (tk tp le p).2.2.1 = 1) (hM : aMt M a T) (ha : b + 16 ≤ a) (hI : tI T) (hA : tpR A tp) (hl : le ≤ 1100) (hS : aSt ad lo0 M) (hb : lo0 ≤ b) (hR : R = if 0 < T.dr then .error (3, (tk tp le p).1) else lnTown tp sc le T (tk tp le p).2.1) : EvM ad 6 (iX13_readTown ad) [.ref b] M (lnQ M b a oa tw oq A tp le T R) := by
  have hrd := hI.1.1
  unfold rdW at hrd
  have hG := FY.rf b a M
  obtain ⟨kn0, _, _, m0, _⟩ := id hM
  have ⟨r0, hy0, _⟩ := id h
  have h0 := hy0.1
  have cont : ∀ M1 s1, FY b a M M1 → yP M1 b oa tw (.ref a) oq A tp le s1 → aMt M1 a T → aSt ad lo0 M1 → ((∃ e, s1 = .error e ∧ R = .error e) ∨ (s1 = .ok (tk tp le p).2.1 ∧ R = lnTown tp sc le T (tk tp le p).2.1)) → Ev ad 6 (rX13_readTown ad) (19, [some (.ref b), none, none], [], M1) (lnQ M b a oa tw oq A tp le T R) := by
    intro M1 s1 hG h1 hM hS hs1
    obtain ⟨⟨ta1, sz1, sp1, so1, pl1, nu1, fa1, wa1, wo1⟩, hy1, _⟩ := id h1
    have j1 := hy1.1
    repeat (first | refine es rfl rfl rfl ?_ | refine eg rfl (by assumption) rfl ?_ | refine eanE rfl (by assumption) (by with_reducible first | exact rfl | exact Int32.zero_add _ | exact ix8 _ | exact ix12 _ | exact ix7r _ _ | exact n7 | exact n0 | exact n1) (by assumption) rfl ?_ | refine eal rfl (by assumption) (by assumption) rfl ?_ | refine eri rfl ?_ | refine erv rfl ?_ | refine erl rfl ?_ | refine era rfl ?_ | refine erz0 rfl ?_ | refine erz1 rfl ?_)
    try dsimp only [set1, set2, kilP, List.set_cons_zero, List.set_cons_succ, List.getElem?_cons_zero, List.getElem?_cons_succ, List.nil_append, List.cons_append, Option.toList_some, Option.toList_none]
    have H2 := y_part (ad := ad) (i := 8) (lo := 1) (hi := 9) h1 hA hl hS hb (by omega) (by omega) (by omega)
    refine ecv rfl rfl (by assumption) rfl rfl rfl (H2) (by first | rfl | exact Nat.blt_eq.mpr (by omega)) ?_
    rintro v M2 ⟨rfl, hF2, h2⟩
    replace hM := hM.fr hF2 (by omega)
    replace hS := hS.fr hF2 hb
    replace hG := hG.w hF2
    obtain ⟨⟨ta2, sz2, sp2, so2, pl2, nu2, fa2, wa2, wo2⟩, hy2, _⟩ := id h2
    have j2 := hy2.1
    try dsimp only [set1, set2, kilP, List.set_cons_zero, List.set_cons_succ, List.getElem?_cons_zero, List.getElem?_cons_succ, List.nil_append, List.cons_append, Option.toList_some, Option.toList_none]
    repeat (first | refine es rfl rfl rfl ?_ | refine eg rfl (by assumption) rfl ?_ | refine eanE rfl (by assumption) (by with_reducible first | exact rfl | exact Int32.zero_add _ | exact ix8 _ | exact ix12 _ | exact ix7r _ _ | exact n7 | exact n0 | exact n1) (by assumption) rfl ?_ | refine eal rfl (by assumption) (by assumption) rfl ?_ | refine eri rfl ?_ | refine erv rfl ?_ | refine erl rfl ?_ | refine era rfl ?_ | refine erz0 rfl ?_ | refine erz1 rfl ?_)
    try dsimp only [set1, set2, kilP, List.set_cons_zero, List.set_cons_succ, List.getElem?_cons_zero, List.getElem?_cons_succ, List.nil_append, List.cons_append, Option.toList_some, Option.toList_none]
    have H3 := y_part (ad := ad) (i := 9) (lo := 0) (hi := 9) h2 hA hl hS hb (by omega) (by omega) (by omega)
    refine ecv rfl rfl (by assumption) rfl rfl rfl (H3) (by first | rfl | exact Nat.blt_eq.mpr (by omega)) ?_
    rintro v M3 ⟨rfl, hF3, h3⟩
    replace hM := hM.fr hF3 (by omega)
    replace hS := hS.fr hF3 hb
    replace hG := hG.w hF3
    obtain ⟨⟨ta3, sz3, sp3, so3, pl3, nu3, fa3, wa3, wo3⟩, hy3, _⟩ := id h3
    have j3 := hy3.1
    try dsimp only [set1, set2, kilP, List.set_cons_zero, List.set_cons_succ, List.getElem?_cons_zero, List.getElem?_cons_succ, List.nil_append, List.cons_append, Option.toList_some, Option.toList_none]
    repeat (refine ng 39 rfl ?_; first | refine es rfl rfl rfl ?_ | refine eg rfl (by assumption) rfl ?_ | refine eanE rfl (by assumption) (by with_reducible first | exact rfl | exact Int32.zero_add _ | exact ix8 _ | exact ix12 _ | exact ix7r _ _ | exact n7 | exact n0 | exact n1) (by assumption) rfl ?_ | refine eal rfl (by assumption) (by assumption) rfl ?_ | refine eri rfl ?_ | refine erv rfl ?_ | refine erl rfl ?_ | refine era rfl ?_ | refine erz0 rfl ?_ | refine erz1 rfl ?_)
    try dsimp only [set1, set2, kilP, List.set_cons_zero, List.set_cons_succ, List.getElem?_cons_zero, List.getElem?_cons_succ, List.nil_append, List.cons_append, Option.toList_some, Option.toList_none]
    rcases hs1 with ⟨e, rfl, rfl⟩ | ⟨rfl, rfl⟩
    · replace h3 : yP M3 b oa tw (.ref a) oq A tp le (.error e) := h3
      obtain ⟨⟨ta, sz, sp, so, pl, nu, fa, wa, wo⟩, hy9, e1, e2, q9, _⟩ := id h3
      replace q9 : so = 5 := q9
      subst q9
      have k9 := hy9.1
      repeat (first | refine es rfl rfl rfl ?_ | refine eg rfl (by assumption) rfl ?_ | refine eanE rfl (by assumption) (by with_reducible first | exact rfl | exact Int32.zero_add _ | exact ix8 _ | exact ix12 _ | exact ix7r _ _ | exact n7 | exact n0 | exact n1) (by assumption) rfl ?_ | refine eal rfl (by assumption) (by assumption) rfl ?_ | refine eri rfl ?_ | refine erv rfl ?_ | refine erl rfl ?_ | refine era rfl ?_ | refine erz0 rfl ?_ | refine erz1 rfl ?_)
      try dsimp only [set1, set2, kilP, List.set_cons_zero, List.set_cons_succ, List.getElem?_cons_zero, List.getElem?_cons_succ, List.nil_append, List.cons_append, Option.toList_some, Option.toList_none]
      exact ⟨rfl, hG, h3, hM⟩
    replace h3 : yP M3 b oa tw (.ref a) oq A tp le (nxt (Except.bind (Except.bind (nxt (Except.bind (pThis tp le 8 (tk tp le p).2.1) (pWh tp le 1 9))) (pThis tp le 9)) (pWh tp le 0 9))) := h3
    rcases c1 : pThis tp le 8 (tk tp le p).2.1 with e | a2
    · rw [c1] at h3
      rw [show lnTown tp sc le T (tk tp le p).2.1 = .error e by unfold lnTown; rw [c1]]
      replace h3 : yP M3 b oa tw (.ref a) oq A tp le (.error e) := h3
      obtain ⟨⟨ta, sz, sp, so, pl, nu, fa, wa, wo⟩, hy9, e1, e2, q9, _⟩ := id h3
      replace q9 : so = 5 := q9
      subst q9
      have k9 := hy9.1
      repeat (first | refine es rfl rfl rfl ?_ | refine eg rfl (by assumption) rfl ?_ | refine eanE rfl (by assumption) (by with_reducible first | exact rfl | exact Int32.zero_add _ | exact ix8 _ | exact ix12 _ | exact ix7r _ _ | exact n7 | exact n0 | exact n1) (by assumption) rfl ?_ | refine eal rfl (by assumption) (by assumption) rfl ?_ | refine eri rfl ?_ | refine erv rfl ?_ | refine erl rfl ?_ | refine era rfl ?_ | refine erz0 rfl ?_ | refine erz1 rfl ?_)
      try dsimp only [set1, set2, kilP, List.set_cons_zero, List.set_cons_succ, List.getElem?_cons_zero, List.getElem?_cons_succ, List.nil_append, List.cons_append, Option.toList_some, Option.toList_none]
      exact ⟨rfl, hG, h3, hM⟩
    rw [c1] at h3
    replace h3 : yP M3 b oa tw (.ref a) oq A tp le (nxt (Except.bind (Except.bind (nxt (pWh tp le 1 9 a2)) (pThis tp le 9)) (pWh tp le 0 9))) := h3
    rcases c2 : pWh tp le 1 9 a2 with e | ⟨x, a3⟩
    · rw [c2] at h3
      rw [show lnTown tp sc le T (tk tp le p).2.1 = .error e by unfold lnTown; rw [c1]; dsimp only; rw [c2]]
      replace h3 : yP M3 b oa tw (.ref a) oq A tp le (.error e) := h3
      obtain ⟨⟨ta, sz, sp, so, pl, nu, fa, wa, wo⟩, hy9, e1, e2, q9, _⟩ := id h3
      replace q9 : so = 5 := q9
      subst q9
      have k9 := hy9.1
      repeat (first | refine es rfl rfl rfl ?_ | refine eg rfl (by assumption) rfl ?_ | refine eanE rfl (by assumption) (by with_reducible first | exact rfl | exact Int32.zero_add _ | exact ix8 _ | exact ix12 _ | exact ix7r _ _ | exact n7 | exact n0 | exact n1) (by assumption) rfl ?_ | refine eal rfl (by assumption) (by assumption) rfl ?_ | refine eri rfl ?_ | refine erv rfl ?_ | refine erl rfl ?_ | refine era rfl ?_ | refine erz0 rfl ?_ | refine erz1 rfl ?_)
      try dsimp only [set1, set2, kilP, List.set_cons_zero, List.set_cons_succ, List.getElem?_cons_zero, List.getElem?_cons_succ, List.nil_append, List.cons_append, Option.toList_some, Option.toList_none]
      exact ⟨rfl, hG, h3, hM⟩
    rw [c2] at h3
    replace h3 : yP M3 b oa tw (.ref a) oq A tp le (nxt (Except.bind (pThis tp le 9 a3) (pWh tp le 0 9))) := h3
    rcases c3 : pThis tp le 9 a3 with e | a4
    · rw [c3] at h3
      rw [show lnTown tp sc le T (tk tp le p).2.1 = .error e by unfold lnTown; rw [c1]; dsimp only; rw [c2]; dsimp only; rw [c3]]
      replace h3 : yP M3 b oa tw (.ref a) oq A tp le (.error e) := h3
      obtain ⟨⟨ta, sz, sp, so, pl, nu, fa, wa, wo⟩, hy9, e1, e2, q9, _⟩ := id h3
      replace q9 : so = 5 := q9
      subst q9
      have k9 := hy9.1
      repeat (first | refine es rfl rfl rfl ?_ | refine eg rfl (by assumption) rfl ?_ | refine eanE rfl (by assumption) (by with_reducible first | exact rfl | exact Int32.zero_add _ | exact ix8 _ | exact ix12 _ | exact ix7r _ _ | exact n7 | exact n0 | exact n1) (by assumption) rfl ?_ | refine eal rfl (by assumption) (by assumption) rfl ?_ | refine eri rfl ?_ | refine erv rfl ?_ | refine erl rfl ?_ | refine era rfl ?_ | refine erz0 rfl ?_ | refine erz1 rfl ?_)
      try dsimp only [set1, set2, kilP, List.set_cons_zero, List.set_cons_succ, List.getElem?_cons_zero, List.getElem?_cons_succ, List.nil_append, List.cons_append, Option.toList_some, Option.toList_none]
      exact ⟨rfl, hG, h3, hM⟩
    rw [c3] at h3
    replace h3 : yP M3 b oa tw (.ref a) oq A tp le (nxt (pWh tp le 0 9 a4)) := h3
    rcases c4 : pWh tp le 0 9 a4 with e | ⟨y, a5⟩
    · rw [c4] at h3
      rw [show lnTown tp sc le T (tk tp le p).2.1 = .error e by unfold lnTown; rw [c1]; dsimp only; rw [c2]; dsimp only; rw [c3]; dsimp only; rw [c4]]
      replace h3 : yP M3 b oa tw (.ref a) oq A tp le (.error e) := h3
      obtain ⟨⟨ta, sz, sp, so, pl, nu, fa, wa, wo⟩, hy9, e1, e2, q9, _⟩ := id h3
      replace q9 : so = 5 := q9
      subst q9
      have k9 := hy9.1
      repeat (first | refine es rfl rfl rfl ?_ | refine eg rfl (by assumption) rfl ?_ | refine eanE rfl (by assumption) (by with_reducible first | exact rfl | exact Int32.zero_add _ | exact ix8 _ | exact ix12 _ | exact ix7r _ _ | exact n7 | exact n0 | exact n1) (by assumption) rfl ?_ | refine eal rfl (by assumption) (by assumption) rfl ?_ | refine eri rfl ?_ | refine erv rfl ?_ | refine erl rfl ?_ | refine era rfl ?_ | refine erz0 rfl ?_ | refine erz1 rfl ?_)
      try dsimp only [set1, set2, kilP, List.set_cons_zero, List.set_cons_succ, List.getElem?_cons_zero, List.getElem?_cons_succ, List.nil_append, List.cons_append, Option.toList_some, Option.toList_none]
      exact ⟨rfl, hG, h3, hM⟩
    rw [c4] at h3
    replace h3 : yP M3 b oa tw (.ref a) oq A tp le (.ok a5) := h3
    rw [show lnTown tp sc le T (tk tp le p).2.1 = .ok (((x, y, T.np, T.pn, T.hm, T.pl), T.hs, T.ss, T.cs), a5) by unfold lnTown; rw [c1]; dsimp only; rw [c2]; dsimp only; rw [c3]; dsimp only; rw [c4]]
    try rw [show Except.bind (.ok (tk tp le p).2.1) (pThis tp le 8) = .ok a2 from c1]
    try rw [show Except.bind (.ok a2) (pWh tp le 1 9) = .ok (x, a3) from c2]
    try rw [show Except.bind (nxt (.ok (x, a3))) (pThis tp le 9) = .ok a4 from c3]
    try rw [show Except.bind (.ok a4) (pWh tp le 0 9) = .ok (y, a5) from c4]
    rw [show wV 1 (.ok (x, a3)) = x from rfl]
    rw [show wV 0 (.ok (y, a5)) = y from rfl]
    obtain ⟨⟨ta, sz, sp, so, pl, nu, fa, wa, wo⟩, hy9, hE9⟩ := id h3
    obtain ⟨e1, e2, q8, q9, _⟩ := id hE9
    have k9 := hy9.1
    obtain ⟨kn, Am, Bm, m0, mc, mH, mS, mP, mC, mN⟩ := id hM
    have hz : tZ M3 a (mtO a T kn) Am Bm := ⟨m0, mc.to⟩
    repeat (first | refine es rfl rfl rfl ?_ | refine eg rfl (by assumption) rfl ?_ | refine eanE rfl (by assumption) (by with_reducible first | exact rfl | exact Int32.zero_add _ | exact ix8 _ | exact ix12 _ | exact ix7r _ _ | exact n7 | exact n0 | exact n1) (by assumption) rfl ?_ | refine eal rfl (by assumption) (by assumption) rfl ?_ | refine eri rfl ?_ | refine erv rfl ?_ | refine erl rfl ?_ | refine era rfl ?_ | refine erz0 rfl ?_ | refine erz1 rfl ?_)
    try dsimp only [set1, set2, kilP, List.set_cons_zero, List.set_cons_succ, List.getElem?_cons_zero, List.getElem?_cons_succ, List.nil_append, List.cons_append, Option.toList_some, Option.toList_none]
    refine ei _ rfl rfl (fun c9 => ?_) (fun c9 => ?_)
    rotate_left
    · exact absurd (q9.symm.trans (Decidable.not_not.mp c9)) (kR_5 _)
    repeat (first | refine es rfl rfl rfl ?_ | refine eg rfl (by assumption) rfl ?_ | refine eanE rfl (by assumption) (by with_reducible first | exact rfl | exact Int32.zero_add _ | exact ix8 _ | exact ix12 _ | exact ix7r _ _ | exact n7 | exact n0 | exact n1) (by assumption) rfl ?_ | refine eal rfl (by assumption) (by assumption) rfl ?_ | refine eri rfl ?_ | refine erv rfl ?_ | refine erl rfl ?_ | refine era rfl ?_ | refine erz0 rfl ?_ | refine erz1 rfl ?_)
    try dsimp only [set1, set2, kilP, List.set_cons_zero, List.set_cons_succ, List.getElem?_cons_zero, List.getElem?_cons_succ, List.nil_append, List.cons_append, Option.toList_some, Option.toList_none]
    refine epM (fs' := mtL a (nI x) (nI T.lk) (nI T.hs.n) kn (nI (fb_ct0 (fun j => !(T.hs.fr j == -2)) T.hs.n)) (nI T.ss.n) (nI T.np) (nI T.cs.sg) (nI T.cs.nz) (nI (T.hs.n + T.np))) rfl hz.1 rfl rfl rfl (fun M4 e4 => ?_)
    have hz4 := hz.o e4
    replace hG := hG.u e4 (by omega) (by omega)
    have h4 := h3.fo e4 (by omega)
    have g4 := hz4.1
    obtain ⟨r4, y4, _⟩ := id h4
    have i4 := y4.1
    repeat (first | refine es rfl rfl rfl ?_ | refine eg rfl (by assumption) rfl ?_ | refine eanE rfl (by assumption) (by with_reducible first | exact rfl | exact Int32.zero_add _ | exact ix8 _ | exact ix12 _ | exact ix7r _ _ | exact n7 | exact n0 | exact n1) (by assumption) rfl ?_ | refine eal rfl (by assumption) (by assumption) rfl ?_ | refine eri rfl ?_ | refine erv rfl ?_ | refine erl rfl ?_ | refine era rfl ?_ | refine erz0 rfl ?_ | refine erz1 rfl ?_)
    try dsimp only [set1, set2, kilP, List.set_cons_zero, List.set_cons_succ, List.getElem?_cons_zero, List.getElem?_cons_succ, List.nil_append, List.cons_append, Option.toList_some, Option.toList_none]
    refine epM (fs' := mtL a (nI x) (nI y) (nI T.hs.n) kn (nI (fb_ct0 (fun j => !(T.hs.fr j == -2)) T.hs.n)) (nI T.ss.n) (nI T.np) (nI T.cs.sg) (nI T.cs.nz) (nI (T.hs.n + T.np))) rfl hz4.1 rfl rfl rfl (fun M5 e5 => ?_)
    have hz5 := hz4.o e5
    replace hG := hG.u e5 (by omega) (by omega)
    have h5 := h4.fo e5 (by omega)
    have g5 := hz5.1
    obtain ⟨r5, y5, _⟩ := id h5
    have i5 := y5.1
    repeat (first | refine es rfl rfl rfl ?_ | refine eg rfl (by assumption) rfl ?_ | refine eanE rfl (by assumption) (by with_reducible first | exact rfl | exact Int32.zero_add _ | exact ix8 _ | exact ix12 _ | exact ix7r _ _ | exact n7 | exact n0 | exact n1) (by assumption) rfl ?_ | refine eal rfl (by assumption) (by assumption) rfl ?_ | refine eri rfl ?_ | refine erv rfl ?_ | refine erl rfl ?_ | refine era rfl ?_ | refine erz0 rfl ?_ | refine erz1 rfl ?_)
    try dsimp only [set1, set2, kilP, List.set_cons_zero, List.set_cons_succ, List.getElem?_cons_zero, List.getElem?_cons_succ, List.nil_append, List.cons_append, Option.toList_some, Option.toList_none]
    exact ⟨rfl, hG, h5, kn, _, _, hz5.1, hz5.mc, mH, mS, mP, mC, mN⟩
  refine ⟨Nat.le_of_ble_eq_true rfl, ?_⟩
  show Ev ad _ (rX13_readTown ad) (0, [some (.ref b), none, none], [], M) _
  repeat (first | refine es rfl rfl rfl ?_ | refine eg rfl (by assumption) rfl ?_ | refine eanE rfl (by assumption) (by with_reducible first | exact rfl | exact Int32.zero_add _ | exact ix8 _ | exact ix12 _ | exact ix7r _ _ | exact n7 | exact n0 | exact n1) (by assumption) rfl ?_ | refine eal rfl (by assumption) (by assumption) rfl ?_ | refine eri rfl ?_ | refine erv rfl ?_ | refine erl rfl ?_ | refine era rfl ?_ | refine erz0 rfl ?_ | refine erz1 rfl ?_)
  try dsimp only [set1, set2, kilP, List.set_cons_zero, List.set_cons_succ, List.getElem?_cons_zero, List.getElem?_cons_succ, List.nil_append, List.cons_append, Option.toList_some, Option.toList_none]
  by_cases hd : 0 < T.dr
  · rw [if_pos hd] at hR
    refine ei _ rfl rfl (fun c => ?_) (fun c => ?_)
    · exact absurd c (Int32.not_le.mpr (show (0 : Int32) < nI T.dr from nI_lt (a := 0) (by omega) (by omega)))
    repeat (first | refine es rfl rfl rfl ?_ | refine eg rfl (by assumption) rfl ?_ | refine eanE rfl (by assumption) (by with_reducible first | exact rfl | exact Int32.zero_add _ | exact ix8 _ | exact ix12 _ | exact ix7r _ _ | exact n7 | exact n0 | exact n1) (by assumption) rfl ?_ | refine eal rfl (by assumption) (by assumption) rfl ?_ | refine eri rfl ?_ | refine erv rfl ?_ | refine erl rfl ?_ | refine era rfl ?_ | refine erz0 rfl ?_ | refine erz1 rfl ?_)
    try dsimp only [set1, set2, kilP, List.set_cons_zero, List.set_cons_succ, List.getElem?_cons_zero, List.getElem?_cons_succ, List.nil_append, List.cons_append, Option.toList_some, Option.toList_none]
    refine ecv rfl rfl (by assumption) rfl rfl rfl (y_flaw (n := 3) rfl h) (by first | rfl | exact Nat.blt_eq.mpr (by omega)) ?_
    rintro v M1 ⟨rfl, hF1, h1⟩
    obtain ⟨⟨ta1, sz1, sp1, so1, pl1, nu1, fa1, wa1, wo1⟩, hy1, _⟩ := id h1
    have j1 := hy1.1
    try dsimp only [set1, set2, kilP, List.set_cons_zero, List.set_cons_succ, List.getElem?_cons_zero, List.getElem?_cons_succ, List.nil_append, List.cons_append, Option.toList_some, Option.toList_none]
    repeat (first | refine es rfl rfl rfl ?_ | refine eg rfl (by assumption) rfl ?_ | refine eanE rfl (by assumption) (by with_reducible first | exact rfl | exact Int32.zero_add _ | exact ix8 _ | exact ix12 _ | exact ix7r _ _ | exact n7 | exact n0 | exact n1) (by assumption) rfl ?_ | refine eal rfl (by assumption) (by assumption) rfl ?_ | refine eri rfl ?_ | refine erv rfl ?_ | refine erl rfl ?_ | refine era rfl ?_ | refine erz0 rfl ?_ | refine erz1 rfl ?_)
    try dsimp only [set1, set2, kilP, List.set_cons_zero, List.set_cons_succ, List.getElem?_cons_zero, List.getElem?_cons_succ, List.nil_append, List.cons_append, Option.toList_some, Option.toList_none]
    refine ecv rfl rfl (by assumption) rfl rfl rfl (y_goesOn hA hl h1.er) (by first | rfl | exact Nat.blt_eq.mpr (by omega)) ?_
    rintro v M2 ⟨rfl, hF2, h2⟩
    try dsimp only [set1, set2, kilP, List.set_cons_zero, List.set_cons_succ, List.getElem?_cons_zero, List.getElem?_cons_succ, List.nil_append, List.cons_append, Option.toList_some, Option.toList_none]
    have hF := hF1.tr hF2 (by omega) (by omega)
    exact cont M2 _ (hG.w hF) h2 (hM.fr hF (by omega)) (hS.fr hF hb) (Or.inl ⟨_, rfl, hR⟩)
  · rw [if_neg hd] at hR
    refine ei _ rfl rfl (fun c => ?_) (fun c => ?_)
    rotate_left
    · exact absurd (show nI T.dr ≤ 0 by rw [show T.dr = 0 by omega]; decide) c
    repeat (first | refine es rfl rfl rfl ?_ | refine eg rfl (by assumption) rfl ?_ | refine eanE rfl (by assumption) (by with_reducible first | exact rfl | exact Int32.zero_add _ | exact ix8 _ | exact ix12 _ | exact ix7r _ _ | exact n7 | exact n0 | exact n1) (by assumption) rfl ?_ | refine eal rfl (by assumption) (by assumption) rfl ?_ | refine eri rfl ?_ | refine erv rfl ?_ | refine erl rfl ?_ | refine era rfl ?_ | refine erz0 rfl ?_ | refine erz1 rfl ?_)
    try dsimp only [set1, set2, kilP, List.set_cons_zero, List.set_cons_succ, List.getElem?_cons_zero, List.getElem?_cons_succ, List.nil_append, List.cons_append, Option.toList_some, Option.toList_none]
    refine ecv rfl rfl (by assumption) rfl rfl rfl (y_goesOn hA hl (h.nx (by omega))) (by first | rfl | exact Nat.blt_eq.mpr (by omega)) ?_
    rintro v M2 ⟨rfl, hF, h2⟩
    try dsimp only [set1, set2, kilP, List.set_cons_zero, List.set_cons_succ, List.getElem?_cons_zero, List.getElem?_cons_succ, List.nil_append, List.cons_append, Option.toList_some, Option.toList_none]
    exact cont M2 _ (hG.w hF) h2 (hM.fr hF (by omega)) (hS.fr hF hb) (Or.inr ⟨rfl, hR⟩)
def lnOpen2 (tp : Nat → Int32) (le : Nat) (T : Tw) (h a1 : Nat) : Except Er (Tw × Nat) :=
  match pThis tp le 15 a1 with
  | .error e => .error e
  | .ok a2 =>
  match pWh tp le 0 23 a2 with
  | .error e => .error e
  | .ok (f, a3) =>
  match pThis tp le 16 a3 with
  | .error e => .error e
  | .ok a4 =>
  match pWh tp le f 23 a4 with
  | .error e => .error e
  | .ok (c, a5) =>
  .ok ((T.1, (T.hs.n, T.hs.nm, T.hs.ro, T.hs.re, T.hs.bi, T.hs.sm, T.hs.to, upd T.hs.fr h (nI f), upd T.hs.tt h (nI c)), T.ss, T.cs), a5)
theorem ct_one {f : Nat → Int32} {x : Nat} {y : Int32} (hx : f x = -2) (hy : ¬ y = -2) : ∀ n, fb_ct0 (fun j => !(upd f x y j == -2)) n = fb_ct0 (fun j => !(f j == -2)) n + (if x < n then 1 else 0)
  | 0 => rfl
  | n + 1 => by
    rw [fb_ct0, fb_ct0, ct_one hx hy n]
    by_cases e : n = x
    · subst e
      rw [pk_us, hx, if_neg (Nat.lt_irrefl n), if_pos (Nat.lt_succ_self n)]
      rw [show (!(y == (-2 : Int32))) = true by simp [hy]]
      rfl
    · rw [pk_un e]
      by_cases q : x < n
      · rw [if_pos q, if_pos (show x < n + 1 by omega)]; omega
      · rw [if_neg q, if_neg (show ¬ x < n + 1 by omega)]; omega
theorem y_lnOpen (h : yP M b oa tw (.ref a) oq A tp le (.ok p)) (k : (tk tp le p).2.2.1 = 1) (hM : aMt M a T) (ha : b + 16 ≤ a) (hI : tI T) (hA : tpR A tp) (hl : le ≤ 1100) (hS : aSt ad lo0 M) (hb : lo0 ≤ b) (hc : ∀ j, j < 8 → sc j = sC j) (hR : R = if T.dr = 0 then .error (6, (tk tp le p).1) else if 1 ≤ 0 then .error (5, (tk tp le p).1) else lnOpen tp sc le T (tk tp le p).2.1) : EvM ad 6 (iX13_readOpen ad) [.ref b] M (lnQ M b a oa tw oq A tp le T R) := by
  have hrd := hI.1.1
  unfold rdW at hrd
  have hN : T.hs.n + T.np ≤ 11 := by omega
  have hn7 : T.hs.n ≤ 7 := by omega
  have hK : tK T := hI.2.2.2.2.2.2.2.2.2
  have hzr := hI.1.2.2
  have hp : p ≤ le := by obtain ⟨_, _, _, _, q, _⟩ := h; exact q
  have hp0 : (tk tp le p).2.1 ≤ le := tk_le hp
  have hG := FY.rf b a M
  obtain ⟨kn0, _, _, m0, _⟩ := id hM
  have ⟨r0, hy0, _⟩ := id h
  have h0 := hy0.1
  refine ⟨Nat.le_of_ble_eq_true rfl, ?_⟩
  show Ev ad _ (rX13_readOpen ad) (0, [some (.ref b), none, none, none], [], M) _
  repeat (first | refine es rfl rfl rfl ?_ | refine eg rfl (by assumption) rfl ?_ | refine eanE rfl (by assumption) (by with_reducible first | exact rfl | exact Int32.zero_add _ | exact ix8 _ | exact ix12 _ | exact ix7r _ _ | exact n7 | exact n0 | exact n1) (by assumption) rfl ?_ | refine eal rfl (by assumption) (by assumption) rfl ?_ | refine eri rfl ?_ | refine erv rfl ?_ | refine erl rfl ?_ | refine era rfl ?_ | refine erz0 rfl ?_ | refine erz1 rfl ?_)
  try dsimp only [set1, set2, kilP, List.set_cons_zero, List.set_cons_succ, List.getElem?_cons_zero, List.getElem?_cons_succ, List.nil_append, List.cons_append, Option.toList_some, Option.toList_none]
  refine ecv rfl rfl (by assumption) rfl rfl rfl (y_begins h k hM ha (by omega) hA hl) (by first | rfl | exact Nat.blt_eq.mpr (by omega)) ?_
  rintro v M1 ⟨rfl, hF1, h1⟩
  obtain ⟨s1, eqS, hs1⟩ := beg_or (T := T) (c := 0) (m := 1) (x := 0) (y := 1) (a1 := (tk tp le p).2.1) rfl rfl (by omega) (by omega) (by omega) (fun q => rfl) hR
  rw [eqS] at h1
  replace hM := hM.fr hF1 (by omega)
  replace hS := hS.fr hF1 hb
  replace hG := hG.w hF1
  obtain ⟨⟨ta1, sz1, sp1, so1, pl1, nu1, fa1, wa1, wo1⟩, hy1, _⟩ := id h1
  have j1 := hy1.1
  try dsimp only [set1, set2, kilP, List.set_cons_zero, List.set_cons_succ, List.getElem?_cons_zero, List.getElem?_cons_succ, List.nil_append, List.cons_append, Option.toList_some, Option.toList_none]
  have cont : ∀ M3 s3 x0, FY b a M M3 → yP M3 b oa tw (.ref a) oq A tp le s3 → aMt M3 a T → aSt ad lo0 M3 → ((∃ e, s3 = .error e ∧ R = .error e) ∨ (∃ x a2, s3 = .ok a2 ∧ x0 = nI x ∧ x < T.hs.n ∧ T.hs.fr x = -2 ∧ R = lnOpen2 tp le T x a2)) → Ev ad 6 (rX13_readOpen ad) (39, [some (.ref b), some (.int x0), none, none], [], M3) (lnQ M b a oa tw oq A tp le T R) := by
    intro M3 s3 x0 hG h3 hM hS hs3
    obtain ⟨⟨ta3, sz3, sp3, so3, pl3, nu3, fa3, wa3, wo3⟩, hy3, _⟩ := id h3
    have j3 := hy3.1
    repeat (first | refine es rfl rfl rfl ?_ | refine eg rfl (by assumption) rfl ?_ | refine eanE rfl (by assumption) (by with_reducible first | exact rfl | exact Int32.zero_add _ | exact ix8 _ | exact ix12 _ | exact ix7r _ _ | exact n7 | exact n0 | exact n1) (by assumption) rfl ?_ | refine eal rfl (by assumption) (by assumption) rfl ?_ | refine eri rfl ?_ | refine erv rfl ?_ | refine erl rfl ?_ | refine era rfl ?_ | refine erz0 rfl ?_ | refine erz1 rfl ?_)
    try dsimp only [set1, set2, kilP, List.set_cons_zero, List.set_cons_succ, List.getElem?_cons_zero, List.getElem?_cons_succ, List.nil_append, List.cons_append, Option.toList_some, Option.toList_none]
    have H4 := y_part (ad := ad) (i := 15) (lo := 0) (hi := 23) h3 hA hl hS hb (by omega) (by omega) (by omega)
    have hf0 := wV_b (tp := tp) (le := le) (s := Except.bind s3 (pThis tp le 15)) (lo := 0) (hi := 23) (by omega) (by omega)
    generalize ef0 : wV 0 (Except.bind (Except.bind s3 (pThis tp le 15)) (pWh tp le 0 23)) = f0 at H4 hf0
    refine ecv rfl rfl (by assumption) rfl rfl rfl (H4) (by first | rfl | exact Nat.blt_eq.mpr (by omega)) ?_
    rintro v M4 ⟨rfl, hF4, h4⟩
    replace hM := hM.fr hF4 (by omega)
    replace hS := hS.fr hF4 hb
    replace hG := hG.w hF4
    obtain ⟨⟨ta4, sz4, sp4, so4, pl4, nu4, fa4, wa4, wo4⟩, hy4, _⟩ := id h4
    have j4 := hy4.1
    try dsimp only [set1, set2, kilP, List.set_cons_zero, List.set_cons_succ, List.getElem?_cons_zero, List.getElem?_cons_succ, List.nil_append, List.cons_append, Option.toList_some, Option.toList_none]
    repeat (first | refine es rfl rfl rfl ?_ | refine eg rfl (by assumption) rfl ?_ | refine eanE rfl (by assumption) (by with_reducible first | exact rfl | exact Int32.zero_add _ | exact ix8 _ | exact ix12 _ | exact ix7r _ _ | exact n7 | exact n0 | exact n1) (by assumption) rfl ?_ | refine eal rfl (by assumption) (by assumption) rfl ?_ | refine eri rfl ?_ | refine erv rfl ?_ | refine erl rfl ?_ | refine era rfl ?_ | refine erz0 rfl ?_ | refine erz1 rfl ?_)
    try dsimp only [set1, set2, kilP, List.set_cons_zero, List.set_cons_succ, List.getElem?_cons_zero, List.getElem?_cons_succ, List.nil_append, List.cons_append, Option.toList_some, Option.toList_none]
    have H5 := y_part (ad := ad) (i := 16) (lo := f0) (hi := 23) h4 hA hl hS hb (by omega) (by omega) (by omega)
    refine ecv rfl rfl (by assumption) rfl rfl rfl (H5) (by first | rfl | exact Nat.blt_eq.mpr (by omega)) ?_
    rintro v M5 ⟨rfl, hF5, h5⟩
    replace hM := hM.fr hF5 (by omega)
    replace hS := hS.fr hF5 hb
    replace hG := hG.w hF5
    obtain ⟨⟨ta5, sz5, sp5, so5, pl5, nu5, fa5, wa5, wo5⟩, hy5, _⟩ := id h5
    have j5 := hy5.1
    try dsimp only [set1, set2, kilP, List.set_cons_zero, List.set_cons_succ, List.getElem?_cons_zero, List.getElem?_cons_succ, List.nil_append, List.cons_append, Option.toList_some, Option.toList_none]
    repeat (refine ng 61 rfl ?_; first | refine es rfl rfl rfl ?_ | refine eg rfl (by assumption) rfl ?_ | refine eanE rfl (by assumption) (by with_reducible first | exact rfl | exact Int32.zero_add _ | exact ix8 _ | exact ix12 _ | exact ix7r _ _ | exact n7 | exact n0 | exact n1) (by assumption) rfl ?_ | refine eal rfl (by assumption) (by assumption) rfl ?_ | refine eri rfl ?_ | refine erv rfl ?_ | refine erl rfl ?_ | refine era rfl ?_ | refine erz0 rfl ?_ | refine erz1 rfl ?_)
    try dsimp only [set1, set2, kilP, List.set_cons_zero, List.set_cons_succ, List.getElem?_cons_zero, List.getElem?_cons_succ, List.nil_append, List.cons_append, Option.toList_some, Option.toList_none]
    rcases hs3 with ⟨e, rfl, rfl⟩ | ⟨x, a2, rfl, rfl, hx, hfx, rfl⟩
    · replace h5 : yP M5 b oa tw (.ref a) oq A tp le (.error e) := h5
      obtain ⟨⟨ta, sz, sp, so, pl, nu, fa, wa, wo⟩, hy9, e1, e2, q9, _⟩ := id h5
      replace q9 : so = 5 := q9
      subst q9
      have k9 := hy9.1
      repeat (first | refine es rfl rfl rfl ?_ | refine eg rfl (by assumption) rfl ?_ | refine eanE rfl (by assumption) (by with_reducible first | exact rfl | exact Int32.zero_add _ | exact ix8 _ | exact ix12 _ | exact ix7r _ _ | exact n7 | exact n0 | exact n1) (by assumption) rfl ?_ | refine eal rfl (by assumption) (by assumption) rfl ?_ | refine eri rfl ?_ | refine erv rfl ?_ | refine erl rfl ?_ | refine era rfl ?_ | refine erz0 rfl ?_ | refine erz1 rfl ?_)
      try dsimp only [set1, set2, kilP, List.set_cons_zero, List.set_cons_succ, List.getElem?_cons_zero, List.getElem?_cons_succ, List.nil_append, List.cons_append, Option.toList_some, Option.toList_none]
      exact ⟨rfl, hG, h5, hM⟩
    replace h5 : yP M5 b oa tw (.ref a) oq A tp le (nxt (Except.bind (Except.bind (nxt (Except.bind (pThis tp le 15 a2) (pWh tp le 0 23))) (pThis tp le 16)) (pWh tp le f0 23))) := h5
    rcases c1 : pThis tp le 15 a2 with e | a3
    · rw [c1] at h5
      rw [show lnOpen2 tp le T x a2 = .error e by unfold lnOpen2; rw [c1]]
      replace h5 : yP M5 b oa tw (.ref a) oq A tp le (.error e) := h5
      obtain ⟨⟨ta, sz, sp, so, pl, nu, fa, wa, wo⟩, hy9, e1, e2, q9, _⟩ := id h5
      replace q9 : so = 5 := q9
      subst q9
      have k9 := hy9.1
      repeat (first | refine es rfl rfl rfl ?_ | refine eg rfl (by assumption) rfl ?_ | refine eanE rfl (by assumption) (by with_reducible first | exact rfl | exact Int32.zero_add _ | exact ix8 _ | exact ix12 _ | exact ix7r _ _ | exact n7 | exact n0 | exact n1) (by assumption) rfl ?_ | refine eal rfl (by assumption) (by assumption) rfl ?_ | refine eri rfl ?_ | refine erv rfl ?_ | refine erl rfl ?_ | refine era rfl ?_ | refine erz0 rfl ?_ | refine erz1 rfl ?_)
      try dsimp only [set1, set2, kilP, List.set_cons_zero, List.set_cons_succ, List.getElem?_cons_zero, List.getElem?_cons_succ, List.nil_append, List.cons_append, Option.toList_some, Option.toList_none]
      exact ⟨rfl, hG, h5, hM⟩
    rw [c1] at h5
    replace h5 : yP M5 b oa tw (.ref a) oq A tp le (nxt (Except.bind (Except.bind (nxt (pWh tp le 0 23 a3)) (pThis tp le 16)) (pWh tp le f0 23))) := h5
    rcases c2 : pWh tp le 0 23 a3 with e | ⟨f, a4⟩
    · rw [c2] at h5
      rw [show lnOpen2 tp le T x a2 = .error e by unfold lnOpen2; rw [c1]; dsimp only; rw [c2]]
      replace h5 : yP M5 b oa tw (.ref a) oq A tp le (.error e) := h5
      obtain ⟨⟨ta, sz, sp, so, pl, nu, fa, wa, wo⟩, hy9, e1, e2, q9, _⟩ := id h5
      replace q9 : so = 5 := q9
      subst q9
      have k9 := hy9.1
      repeat (first | refine es rfl rfl rfl ?_ | refine eg rfl (by assumption) rfl ?_ | refine eanE rfl (by assumption) (by with_reducible first | exact rfl | exact Int32.zero_add _ | exact ix8 _ | exact ix12 _ | exact ix7r _ _ | exact n7 | exact n0 | exact n1) (by assumption) rfl ?_ | refine eal rfl (by assumption) (by assumption) rfl ?_ | refine eri rfl ?_ | refine erv rfl ?_ | refine erl rfl ?_ | refine era rfl ?_ | refine erz0 rfl ?_ | refine erz1 rfl ?_)
      try dsimp only [set1, set2, kilP, List.set_cons_zero, List.set_cons_succ, List.getElem?_cons_zero, List.getElem?_cons_succ, List.nil_append, List.cons_append, Option.toList_some, Option.toList_none]
      exact ⟨rfl, hG, h5, hM⟩
    rw [c2] at h5
    have ef : f0 = f := by
      rw [← ef0, show Except.bind (Except.bind (.ok a2) (pThis tp le 15)) (pWh tp le 0 23) = .ok (f, a4) by rw [show Except.bind (.ok a2) (pThis tp le 15) = .ok a3 from c1]; exact c2]
      rfl
    subst ef
    replace h5 : yP M5 b oa tw (.ref a) oq A tp le (nxt (Except.bind (pThis tp le 16 a4) (pWh tp le f0 23))) := h5
    rcases c3 : pThis tp le 16 a4 with e | a5
    · rw [c3] at h5
      rw [show lnOpen2 tp le T x a2 = .error e by unfold lnOpen2; rw [c1]; dsimp only; rw [c2]; dsimp only; rw [c3]]
      replace h5 : yP M5 b oa tw (.ref a) oq A tp le (.error e) := h5
      obtain ⟨⟨ta, sz, sp, so, pl, nu, fa, wa, wo⟩, hy9, e1, e2, q9, _⟩ := id h5
      replace q9 : so = 5 := q9
      subst q9
      have k9 := hy9.1
      repeat (first | refine es rfl rfl rfl ?_ | refine eg rfl (by assumption) rfl ?_ | refine eanE rfl (by assumption) (by with_reducible first | exact rfl | exact Int32.zero_add _ | exact ix8 _ | exact ix12 _ | exact ix7r _ _ | exact n7 | exact n0 | exact n1) (by assumption) rfl ?_ | refine eal rfl (by assumption) (by assumption) rfl ?_ | refine eri rfl ?_ | refine erv rfl ?_ | refine erl rfl ?_ | refine era rfl ?_ | refine erz0 rfl ?_ | refine erz1 rfl ?_)
      try dsimp only [set1, set2, kilP, List.set_cons_zero, List.set_cons_succ, List.getElem?_cons_zero, List.getElem?_cons_succ, List.nil_append, List.cons_append, Option.toList_some, Option.toList_none]
      exact ⟨rfl, hG, h5, hM⟩
    rw [c3] at h5
    replace h5 : yP M5 b oa tw (.ref a) oq A tp le (nxt (pWh tp le f0 23 a5)) := h5
    rcases c4 : pWh tp le f0 23 a5 with e | ⟨g, a6⟩
    · rw [c4] at h5
      rw [show lnOpen2 tp le T x a2 = .error e by unfold lnOpen2; rw [c1]; dsimp only; rw [c2]; dsimp only; rw [c3]; dsimp only; rw [c4]]
      replace h5 : yP M5 b oa tw (.ref a) oq A tp le (.error e) := h5
      obtain ⟨⟨ta, sz, sp, so, pl, nu, fa, wa, wo⟩, hy9, e1, e2, q9, _⟩ := id h5
      replace q9 : so = 5 := q9
      subst q9
      have k9 := hy9.1
      repeat (first | refine es rfl rfl rfl ?_ | refine eg rfl (by assumption) rfl ?_ | refine eanE rfl (by assumption) (by with_reducible first | exact rfl | exact Int32.zero_add _ | exact ix8 _ | exact ix12 _ | exact ix7r _ _ | exact n7 | exact n0 | exact n1) (by assumption) rfl ?_ | refine eal rfl (by assumption) (by assumption) rfl ?_ | refine eri rfl ?_ | refine erv rfl ?_ | refine erl rfl ?_ | refine era rfl ?_ | refine erz0 rfl ?_ | refine erz1 rfl ?_)
      try dsimp only [set1, set2, kilP, List.set_cons_zero, List.set_cons_succ, List.getElem?_cons_zero, List.getElem?_cons_succ, List.nil_append, List.cons_append, Option.toList_some, Option.toList_none]
      exact ⟨rfl, hG, h5, hM⟩
    rw [c4] at h5
    replace h5 : yP M5 b oa tw (.ref a) oq A tp le (.ok a6) := h5
    rw [show lnOpen2 tp le T x a2 = .ok ((T.1, (T.hs.n, T.hs.nm, T.hs.ro, T.hs.re, T.hs.bi, T.hs.sm, T.hs.to, upd T.hs.fr x (nI f0), upd T.hs.tt x (nI g)), T.ss, T.cs), a6) by unfold lnOpen2; rw [c1]; dsimp only; rw [c2]; dsimp only; rw [c3]; dsimp only; rw [c4]]
    try rw [show Except.bind (.ok a2) (pThis tp le 15) = .ok a3 from c1]
    try rw [show Except.bind (.ok a3) (pWh tp le 0 23) = .ok (f0, a4) from c2]
    try rw [show Except.bind (nxt (.ok (f0, a4))) (pThis tp le 16) = .ok a5 from c3]
    try rw [show Except.bind (.ok a5) (pWh tp le f0 23) = .ok (g, a6) from c4]
    rw [show wV f0 (.ok (g, a6)) = g from rfl]
    have hx7 : x < 7 := by omega
    obtain ⟨⟨ta, sz, sp, so, pl, nu, fa, wa, wo⟩, hy9, hE9⟩ := id h5
    obtain ⟨e1, e2, q8, q9, _⟩ := id hE9
    have k9 := hy9.1
    obtain ⟨kn, Am, Bm, m0, mc, mH, mS, mP, mC, mN⟩ := id hM
    have hz : tZ M5 a (mtO a T kn) Am Bm := ⟨m0, mc.to⟩
    repeat (first | refine es rfl rfl rfl ?_ | refine eg rfl (by assumption) rfl ?_ | refine eanE rfl (by assumption) (by with_reducible first | exact rfl | exact Int32.zero_add _ | exact ix8 _ | exact ix12 _ | exact ix7r _ _ | exact n7 | exact n0 | exact n1) (by assumption) rfl ?_ | refine eal rfl (by assumption) (by assumption) rfl ?_ | refine eri rfl ?_ | refine erv rfl ?_ | refine erl rfl ?_ | refine era rfl ?_ | refine erz0 rfl ?_ | refine erz1 rfl ?_)
    try dsimp only [set1, set2, kilP, List.set_cons_zero, List.set_cons_succ, List.getElem?_cons_zero, List.getElem?_cons_succ, List.nil_append, List.cons_append, Option.toList_some, Option.toList_none]
    refine ei _ rfl rfl (fun c9 => ?_) (fun c9 => ?_)
    rotate_left
    · exact absurd (q9.symm.trans (Decidable.not_not.mp c9)) (kR_5 _)
    have c6 : M5.1 (a + 5) = ints 7 (Am 5) := hz.2 5 (by omega) (by omega)
    repeat (first | refine es rfl rfl rfl ?_ | refine eg rfl (by assumption) rfl ?_ | refine eanE rfl (by assumption) (by with_reducible first | exact rfl | exact Int32.zero_add _ | exact ix8 _ | exact ix12 _ | exact ix7r _ _ | exact n7 | exact n0 | exact n1) (by assumption) rfl ?_ | refine eal rfl (by assumption) (by assumption) rfl ?_ | refine eri rfl ?_ | refine erv rfl ?_ | refine erl rfl ?_ | refine era rfl ?_ | refine erz0 rfl ?_ | refine erz1 rfl ?_)
    try dsimp only [set1, set2, kilP, List.set_cons_zero, List.set_cons_succ, List.getElem?_cons_zero, List.getElem?_cons_succ, List.nil_append, List.cons_append, Option.toList_some, Option.toList_none]
    refine etM rfl c6 hx7 rfl (fun M6 e6 => ?_)
    have hz6 := hz.i (k := 5) e6 (by omega) rfl
    replace hG := hG.u e6 (by omega) (by omega)
    have h6 := h5.fo e6 (by omega)
    have g6 := hz6.1
    obtain ⟨r6, y6, _⟩ := id h6
    have i6 := y6.1
    have c7 : M6.1 (a + 6) = ints 7 (Am 6) := hz6.2 6 (by omega) (by omega)
    repeat (first | refine es rfl rfl rfl ?_ | refine eg rfl (by assumption) rfl ?_ | refine eanE rfl (by assumption) (by with_reducible first | exact rfl | exact Int32.zero_add _ | exact ix8 _ | exact ix12 _ | exact ix7r _ _ | exact n7 | exact n0 | exact n1) (by assumption) rfl ?_ | refine eal rfl (by assumption) (by assumption) rfl ?_ | refine eri rfl ?_ | refine erv rfl ?_ | refine erl rfl ?_ | refine era rfl ?_ | refine erz0 rfl ?_ | refine erz1 rfl ?_)
    try dsimp only [set1, set2, kilP, List.set_cons_zero, List.set_cons_succ, List.getElem?_cons_zero, List.getElem?_cons_succ, List.nil_append, List.cons_append, Option.toList_some, Option.toList_none]
    refine etM rfl c7 hx7 rfl (fun M7 e7 => ?_)
    have hz7 := hz6.i (k := 6) e7 (by omega) rfl
    replace hG := hG.u e7 (by omega) (by omega)
    have h7 := h6.fo e7 (by omega)
    have g7 := hz7.1
    obtain ⟨r7, y7, _⟩ := id h7
    have i7 := y7.1
    repeat (first | refine es rfl rfl rfl ?_ | refine eg rfl (by assumption) rfl ?_ | refine eanE rfl (by assumption) (by with_reducible first | exact rfl | exact Int32.zero_add _ | exact ix8 _ | exact ix12 _ | exact ix7r _ _ | exact n7 | exact n0 | exact n1) (by assumption) rfl ?_ | refine eal rfl (by assumption) (by assumption) rfl ?_ | refine eri rfl ?_ | refine erv rfl ?_ | refine erl rfl ?_ | refine era rfl ?_ | refine erz0 rfl ?_ | refine erz1 rfl ?_)
    try dsimp only [set1, set2, kilP, List.set_cons_zero, List.set_cons_succ, List.getElem?_cons_zero, List.getElem?_cons_succ, List.nil_append, List.cons_append, Option.toList_some, Option.toList_none]
    refine epM (fs' := mtL a (nI T.dr) (nI T.lk) (nI T.hs.n) kn (nI (fb_ct0 (fun j => !(T.hs.fr j == -2)) T.hs.n) + 1) (nI T.ss.n) (nI T.np) (nI T.cs.sg) (nI T.cs.nz) (nI (T.hs.n + T.np))) rfl hz7.1 rfl rfl rfl (fun M8 e8 => ?_)
    have hz8 := hz7.o e8
    replace hG := hG.u e8 (by omega) (by omega)
    have h8 := h7.fo e8 (by omega)
    have g8 := hz8.1
    obtain ⟨r8, y8, _⟩ := id h8
    have i8 := y8.1
    repeat (first | refine es rfl rfl rfl ?_ | refine eg rfl (by assumption) rfl ?_ | refine eanE rfl (by assumption) (by with_reducible first | exact rfl | exact Int32.zero_add _ | exact ix8 _ | exact ix12 _ | exact ix7r _ _ | exact n7 | exact n0 | exact n1) (by assumption) rfl ?_ | refine eal rfl (by assumption) (by assumption) rfl ?_ | refine eri rfl ?_ | refine erv rfl ?_ | refine erl rfl ?_ | refine era rfl ?_ | refine erz0 rfl ?_ | refine erz1 rfl ?_)
    try dsimp only [set1, set2, kilP, List.set_cons_zero, List.set_cons_succ, List.getElem?_cons_zero, List.getElem?_cons_succ, List.nil_append, List.cons_append, Option.toList_some, Option.toList_none]
    have hne : ¬ nI f0 = -2 := by
      intro h
      have h9 := congrArg Int32.toInt h
      rw [nI_toInt (by omega)] at h9
      have h8 : (-2 : Int32).toInt = -2 := by decide
      omega
    have hct := ct_one (y := nI f0) hfx hne T.hs.n
    rw [if_pos hx] at hct
    refine ⟨rfl, hG, h8, kn, _, _, hz8.1.trans (by rw [nI_1, ← hct]; rfl), hz8.mc, fun j hj => ?_, mS, mP, mC, mN⟩
    obtain ⟨q1, q2, q3, q4, q5, q6, q7⟩ := mH j hj
    refine ⟨q1, q2, q3, q4, ?_, ?_, q7⟩
    · show upd (Am 5) x (nI f0) j = (if upd T.hs.fr x (nI f0) j = -2 then -1 else upd T.hs.fr x (nI f0) j)
      by_cases e : j = x
      · rw [e, pk_us, pk_us, if_neg hne]
      · rw [pk_un e, pk_un e]; exact q5
    · show ¬ upd T.hs.fr x (nI f0) j = -2 → upd (Am 6) x (nI g) j = upd T.hs.tt x (nI g) j
      by_cases e : j = x
      · rw [e, pk_us, pk_us, pk_us]; exact fun _ => rfl
      · rw [pk_un e, pk_un e, pk_un e]; exact q6
  repeat (first | refine es rfl rfl rfl ?_ | refine eg rfl (by assumption) rfl ?_ | refine eanE rfl (by assumption) (by with_reducible first | exact rfl | exact Int32.zero_add _ | exact ix8 _ | exact ix12 _ | exact ix7r _ _ | exact n7 | exact n0 | exact n1) (by assumption) rfl ?_ | refine eal rfl (by assumption) (by assumption) rfl ?_ | refine eri rfl ?_ | refine erv rfl ?_ | refine erl rfl ?_ | refine era rfl ?_ | refine erz0 rfl ?_ | refine erz1 rfl ?_)
  try dsimp only [set1, set2, kilP, List.set_cons_zero, List.set_cons_succ, List.getElem?_cons_zero, List.getElem?_cons_succ, List.nil_append, List.cons_append, Option.toList_some, Option.toList_none]
  have H2 := y_known' (ad := ad) h1 hM ha hN hK hS hc
  refine ecv rfl rfl (by assumption) rfl rfl rfl (H2) (by first | rfl | exact Nat.blt_eq.mpr (by omega)) ?_
  rintro v M2 ⟨rfl, hF2, h2⟩
  replace hM := hM.fr hF2 (by omega)
  replace hS := hS.fr hF2 hb
  replace hG := hG.w hF2
  obtain ⟨⟨ta2, sz2, sp2, so2, pl2, nu2, fa2, wa2, wo2⟩, hy2, _⟩ := id h2
  have j2 := hy2.1
  try dsimp only [set1, set2, kilP, List.set_cons_zero, List.set_cons_succ, List.getElem?_cons_zero, List.getElem?_cons_succ, List.nil_append, List.cons_append, Option.toList_some, Option.toList_none]
  rcases hs1 with ⟨e, rfl, rfl⟩ | ⟨rfl, hd, hlt, rfl⟩
  · replace h2 : yP M2 b oa tw (.ref a) oq A tp le (.error e) := h2
    obtain ⟨⟨ta, sz, sp, so, pl, nu, fa, wa, wo⟩, hy9, e1, e2, q9, _⟩ := id h2
    replace q9 : so = 5 := q9
    subst q9
    have k9 := hy9.1
    repeat (first | refine es rfl rfl rfl ?_ | refine eg rfl (by assumption) rfl ?_ | refine eanE rfl (by assumption) (by with_reducible first | exact rfl | exact Int32.zero_add _ | exact ix8 _ | exact ix12 _ | exact ix7r _ _ | exact n7 | exact n0 | exact n1) (by assumption) rfl ?_ | refine eal rfl (by assumption) (by assumption) rfl ?_ | refine eri rfl ?_ | refine erv rfl ?_ | refine erl rfl ?_ | refine era rfl ?_ | refine erz0 rfl ?_ | refine erz1 rfl ?_)
    try dsimp only [set1, set2, kilP, List.set_cons_zero, List.set_cons_succ, List.getElem?_cons_zero, List.getElem?_cons_succ, List.nil_append, List.cons_append, Option.toList_some, Option.toList_none]
    refine ecv rfl rfl (by assumption) rfl rfl rfl (y_goesOn hA hl h2.er) (by first | rfl | exact Nat.blt_eq.mpr (by omega)) ?_
    rintro v M3 ⟨rfl, hF3, h3⟩
    try dsimp only [set1, set2, kilP, List.set_cons_zero, List.set_cons_succ, List.getElem?_cons_zero, List.getElem?_cons_succ, List.nil_append, List.cons_append, Option.toList_some, Option.toList_none]
    exact cont M3 _ _ (hG.w hF3) h3 (hM.fr hF3 (by omega)) (hS.fr hF3 hb) (Or.inl ⟨_, rfl, rfl⟩)
  replace h2 : yP M2 b oa tw (.ref a) oq A tp le (khS (.ok (tk tp le p).2.1) (pHou tp sc le T (tk tp le p).2.1)) := h2
  rcases c1 : pHou tp sc le T (tk tp le p).2.1 with e | ⟨x, a2⟩
  · rw [c1] at h2
    replace h2 : yP M2 b oa tw (.ref a) oq A tp le (.error e) := h2
    obtain ⟨⟨ta, sz, sp, so, pl, nu, fa, wa, wo⟩, hy9, e1, e2, q9, _⟩ := id h2
    replace q9 : so = 5 := q9
    subst q9
    have k9 := hy9.1
    repeat (first | refine es rfl rfl rfl ?_ | refine eg rfl (by assumption) rfl ?_ | refine eanE rfl (by assumption) (by with_reducible first | exact rfl | exact Int32.zero_add _ | exact ix8 _ | exact ix12 _ | exact ix7r _ _ | exact n7 | exact n0 | exact n1) (by assumption) rfl ?_ | refine eal rfl (by assumption) (by assumption) rfl ?_ | refine eri rfl ?_ | refine erv rfl ?_ | refine erl rfl ?_ | refine era rfl ?_ | refine erz0 rfl ?_ | refine erz1 rfl ?_)
    try dsimp only [set1, set2, kilP, List.set_cons_zero, List.set_cons_succ, List.getElem?_cons_zero, List.getElem?_cons_succ, List.nil_append, List.cons_append, Option.toList_some, Option.toList_none]
    refine ecv rfl rfl (by assumption) rfl rfl rfl (y_goesOn hA hl h2.er) (by first | rfl | exact Nat.blt_eq.mpr (by omega)) ?_
    rintro v M3 ⟨rfl, hF3, h3⟩
    try dsimp only [set1, set2, kilP, List.set_cons_zero, List.set_cons_succ, List.getElem?_cons_zero, List.getElem?_cons_succ, List.nil_append, List.cons_append, Option.toList_some, Option.toList_none]
    exact cont M3 _ _ (hG.w hF3) h3 (hM.fr hF3 (by omega)) (hS.fr hF3 hb) (Or.inl ⟨_, rfl, by unfold lnOpen; rw [c1]⟩)
  rw [c1] at h2
  replace h2 : yP M2 b oa tw (.ref a) oq A tp le (.ok (tk tp le p).2.1) := h2
  obtain ⟨kk, e2⟩ := pHou_k c1
  have hx := (pHou_b hn7 hp0 c1).2
  have hx7 : x < 7 := by omega
  rw [show Except.bind (.ok (tk tp le p).2.1) (pHou tp sc le T) = .ok (x, a2) from c1, show wV 0 (.ok (x, a2)) = x from rfl]
  obtain ⟨⟨ta, sz, sp, so, pl, nu, fa, wa, wo⟩, hy9, e1, e3, q8, q9, _⟩ := id h2
  replace q9 : so = kR (tk tp le (tk tp le p).2.1).2.2.1 := q9
  rw [kk] at q9
  replace q9 : so = 2 := q9
  subst q9
  have k9 := hy9.1
  obtain ⟨kn, Am, Bm, m0, mc, mH, mS, mP, mC, mN⟩ := id hM
  repeat (first | refine es rfl rfl rfl ?_ | refine eg rfl (by assumption) rfl ?_ | refine eanE rfl (by assumption) (by with_reducible first | exact rfl | exact Int32.zero_add _ | exact ix8 _ | exact ix12 _ | exact ix7r _ _ | exact n7 | exact n0 | exact n1) (by assumption) rfl ?_ | refine eal rfl (by assumption) (by assumption) rfl ?_ | refine eri rfl ?_ | refine erv rfl ?_ | refine erl rfl ?_ | refine era rfl ?_ | refine erz0 rfl ?_ | refine erz1 rfl ?_)
  try dsimp only [set1, set2, kilP, List.set_cons_zero, List.set_cons_succ, List.getElem?_cons_zero, List.getElem?_cons_succ, List.nil_append, List.cons_append, Option.toList_some, Option.toList_none]
  refine ecr rfl rfl (by assumption) rfl rfl rfl (y_isTimed hM hn7 hx hI.2.2.2.2.1) (by first | rfl | exact Nat.blt_eq.mpr (by omega)) rfl ?_
  by_cases c2 : T.hs.fr x = -2
  · rw [if_pos c2]
    repeat (first | refine es rfl rfl rfl ?_ | refine eg rfl (by assumption) rfl ?_ | refine eanE rfl (by assumption) (by with_reducible first | exact rfl | exact Int32.zero_add _ | exact ix8 _ | exact ix12 _ | exact ix7r _ _ | exact n7 | exact n0 | exact n1) (by assumption) rfl ?_ | refine eal rfl (by assumption) (by assumption) rfl ?_ | refine eri rfl ?_ | refine erv rfl ?_ | refine erl rfl ?_ | refine era rfl ?_ | refine erz0 rfl ?_ | refine erz1 rfl ?_)
    try dsimp only [set1, set2, kilP, List.set_cons_zero, List.set_cons_succ, List.getElem?_cons_zero, List.getElem?_cons_succ, List.nil_append, List.cons_append, Option.toList_some, Option.toList_none]
    refine ecv rfl rfl (by assumption) rfl rfl rfl (y_goesOn hA hl (h2.nx (by omega))) (by first | rfl | exact Nat.blt_eq.mpr (by omega)) ?_
    rintro v M3 ⟨rfl, hF3, h3⟩
    try dsimp only [set1, set2, kilP, List.set_cons_zero, List.set_cons_succ, List.getElem?_cons_zero, List.getElem?_cons_succ, List.nil_append, List.cons_append, Option.toList_some, Option.toList_none]
    refine cont M3 _ _ (hG.w hF3) h3 (hM.fr hF3 (by omega)) (hS.fr hF3 hb) (Or.inr ⟨x, _, rfl, rfl, hx, c2, ?_⟩)
    unfold lnOpen lnOpen2
    rw [c1]
    dsimp only
    rw [if_neg (fun q => q c2), e2]
    rfl
  · rw [if_neg c2]
    repeat (first | refine es rfl rfl rfl ?_ | refine eg rfl (by assumption) rfl ?_ | refine eanE rfl (by assumption) (by with_reducible first | exact rfl | exact Int32.zero_add _ | exact ix8 _ | exact ix12 _ | exact ix7r _ _ | exact n7 | exact n0 | exact n1) (by assumption) rfl ?_ | refine eal rfl (by assumption) (by assumption) rfl ?_ | refine eri rfl ?_ | refine erv rfl ?_ | refine erl rfl ?_ | refine era rfl ?_ | refine erz0 rfl ?_ | refine erz1 rfl ?_)
    try dsimp only [set1, set2, kilP, List.set_cons_zero, List.set_cons_succ, List.getElem?_cons_zero, List.getElem?_cons_succ, List.nil_append, List.cons_append, Option.toList_some, Option.toList_none]
    refine ecv rfl rfl (by assumption) rfl rfl rfl (y_flaw (n := 3) rfl h2) (by first | rfl | exact Nat.blt_eq.mpr (by omega)) ?_
    rintro v M3 ⟨rfl, hF3, h3⟩
    obtain ⟨⟨ta3, sz3, sp3, so3, pl3, nu3, fa3, wa3, wo3⟩, hy3, _⟩ := id h3
    have j3 := hy3.1
    try dsimp only [set1, set2, kilP, List.set_cons_zero, List.set_cons_succ, List.getElem?_cons_zero, List.getElem?_cons_succ, List.nil_append, List.cons_append, Option.toList_some, Option.toList_none]
    repeat (first | refine es rfl rfl rfl ?_ | refine eg rfl (by assumption) rfl ?_ | refine eanE rfl (by assumption) (by with_reducible first | exact rfl | exact Int32.zero_add _ | exact ix8 _ | exact ix12 _ | exact ix7r _ _ | exact n7 | exact n0 | exact n1) (by assumption) rfl ?_ | refine eal rfl (by assumption) (by assumption) rfl ?_ | refine eri rfl ?_ | refine erv rfl ?_ | refine erl rfl ?_ | refine era rfl ?_ | refine erz0 rfl ?_ | refine erz1 rfl ?_)
    try dsimp only [set1, set2, kilP, List.set_cons_zero, List.set_cons_succ, List.getElem?_cons_zero, List.getElem?_cons_succ, List.nil_append, List.cons_append, Option.toList_some, Option.toList_none]
    refine ecv rfl rfl (by assumption) rfl rfl rfl (y_goesOn hA hl h3.er) (by first | rfl | exact Nat.blt_eq.mpr (by omega)) ?_
    rintro v M4 ⟨rfl, hF4, h4⟩
    try dsimp only [set1, set2, kilP, List.set_cons_zero, List.set_cons_succ, List.getElem?_cons_zero, List.getElem?_cons_succ, List.nil_append, List.cons_append, Option.toList_some, Option.toList_none]
    have hF := hF3.tr hF4 (by omega) (by omega)
    refine cont M4 _ _ (hG.w hF) h4 (hM.fr hF (by omega)) (hS.fr hF hb) (Or.inl ⟨_, rfl, ?_⟩)
    unfold lnOpen
    rw [c1]
    dsimp only
    rw [if_pos c2]
end RLINESC
