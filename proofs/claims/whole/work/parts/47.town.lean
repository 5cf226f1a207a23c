/-! The class's methods: feed, town -/
section TOWN
variable {ad : Nat → Nat} {M : Mm} {b : Nat} {σ : Sg} {C : Nat}
def pt4 (tp : Nat → Int32) (ts : Nat) (x : Int32) : Nat → Int32 := upd (upd (upd (upd tp ts (btF x 3)) (ts + 1) (btF x 2)) (ts + 2) (btF x 1)) (ts + 3) (btF x 0)
def pt5 (tp : Nat → Int32) (ts : Nat) (a b c d e : Int32) : Nat → Int32 := pt4 (pt4 (pt4 (pt4 (pt4 tp ts a) (ts + 4) b) (ts + 4 + 4) c) (ts + 4 + 4 + 4) d) (ts + 4 + 4 + 4 + 4) e
theorem XR.rd {M' : Mm} {tp' : Nat → Int32} {ts' : Nat} (h : XR M b σ) (hF : Fr (b + 1) 2 M M') (hr : ∀ sp, xRd M b sp σ → xRd M' b sp (tp', ts', σ.T, σ.f, σ.ac, σ.mk, σ.tr, σ.fn, σ.fp)) : XR M' b (tp', ts', σ.T, σ.f, σ.ac, σ.mk, σ.tr, σ.fn, σ.fp) := by
  obtain ⟨tb, sp, hts, h0, hRd, hT, ⟨T2, hT2⟩, hN, ⟨r, hTr⟩, ⟨p, hPt, hp⟩, ⟨w, hWy⟩, ⟨w2, hFt, hf⟩, ⟨w3, hSw, hs⟩, ⟨r2, hRt⟩⟩ := h
  unfold tsp at hts
  exact ⟨tb, sp, hts, (hF.1 _ (by omega)).trans h0, hr sp hRd, hT.fr hF (by omega), ⟨T2, hT2.fr hF (by omega)⟩, hN.fr hF (by omega), ⟨r, hTr.fr hF (by omega)⟩, ⟨p, hPt.fr hF (by omega), hp⟩, ⟨w, hWy.fr hF (by omega)⟩, ⟨w2, hFt.fr hF (by omega), hf⟩, ⟨w3, hSw.fr hF (by omega), hs⟩, ⟨r2, hRt.fr hF (by omega)⟩⟩
def spFeed (σ : Sg) (a b c d e : Int32) : Option Value → Sg → Prop := if 1100 < σ.ts + 20 then spSame σ (-1) else fun v σ' => v = some (.int (nI (σ.ts + 20))) ∧ σ' = (pt5 σ.tp σ.ts a b c d e, σ.ts + 20, σ.T, σ.f, σ.ac, σ.mk, σ.tr, σ.fn, σ.fp)
theorem x_feed {y1 y2 y3 y4 y5 : Int32} (hX : XR M b σ) (hI : Inv σ C) : EvM ad 1 (iX11_feed ad) [.ref b, .int y1, .int y2, .int y3, .int y4, .int y5] M (Po b M (spFeed σ y1 y2 y3 y4 y5)) := by
  have hts0 := hI.2.2.1
  have hF := Fr.rf b 73 M
  obtain ⟨tb, sp, hts, h0, hRd, hT, hT2, hN, hTr, hPt, hWy, hFt, hSw, hRt⟩ := id hX
  unfold xTop at h0
  have t0 := hT.1.1
  have s0 := hT.2.1.1
  have s1 := hT.2.2.1.1
  have s2 := hT.2.2.2.1
  have n0 := hN.1
  obtain ⟨q, sc, hq, hsc, e1, e2, e3⟩ := hRd
  have r0 := hq.1
  unfold aR0 at r0
  unfold spFeed
  refine ⟨Nat.le_of_ble_eq_true rfl, ?_⟩
  show Ev ad _ (rX11_feed ad) (0, [some (.ref b), some (.int y1), some (.int y2), some (.int y3), some (.int y4), some (.int y5)], [], M) _
  repeat (first | refine es rfl rfl rfl ?_ | refine eg rfl (by assumption) rfl ?_ | refine ean rfl (by assumption) (by assumption) rfl ?_ | refine eal rfl (by assumption) (by assumption) rfl ?_ | refine eri rfl ?_ | refine erv rfl ?_ | refine erl rfl ?_ | refine era rfl ?_ | refine erz0 rfl ?_ | refine erz1 rfl ?_)
  try dsimp only [set1, set2, kilP, List.set_cons_zero, List.set_cons_succ, List.getElem?_cons_zero, List.getElem?_cons_succ, List.nil_append, List.cons_append, Option.toList_some, Option.toList_none]
  rw [show nI q.ts + 20 = nI (q.ts + 20) from nI_add _ 20]
  by_cases c : 1100 < σ.ts + 20
  · rw [if_pos c]
    refine ei _ rfl rfl (fun c1 => ?_) (fun c1 => ?_)
    · exact absurd c1 (nI_ge (a := 1100) (b := q.ts + 20) (by omega) (by omega))
    · repeat (first | refine es rfl rfl rfl ?_ | refine eg rfl (by assumption) rfl ?_ | refine ean rfl (by assumption) (by assumption) rfl ?_ | refine eal rfl (by assumption) (by assumption) rfl ?_ | refine eri rfl ?_ | refine erv rfl ?_ | refine erl rfl ?_ | refine era rfl ?_ | refine erz0 rfl ?_ | refine erz1 rfl ?_)
      try dsimp only [set1, set2, kilP, List.set_cons_zero, List.set_cons_succ, List.getElem?_cons_zero, List.getElem?_cons_succ, List.nil_append, List.cons_append, Option.toList_some, Option.toList_none]
      exact ⟨σ, ⟨rfl, rfl⟩, hX, hF⟩
  rw [if_neg c]
  refine ei _ rfl rfl (fun c1 => ?_) (fun c1 => ?_)
  rotate_left
  · exact absurd (nI_le (a := q.ts + 20) (b := 1100) (by omega) (by omega)) c1
  repeat (first | refine es rfl rfl rfl ?_ | refine eg rfl (by assumption) rfl ?_ | refine ean rfl (by assumption) (by assumption) rfl ?_ | refine eal rfl (by assumption) (by assumption) rfl ?_ | refine eri rfl ?_ | refine erv rfl ?_ | refine erl rfl ?_ | refine era rfl ?_ | refine erz0 rfl ?_ | refine erz1 rfl ?_)
  try dsimp only [set1, set2, kilP, List.set_cons_zero, List.set_cons_succ, List.getElem?_cons_zero, List.getElem?_cons_succ, List.nil_append, List.cons_append, Option.toList_some, Option.toList_none]
  refine ecv rfl rfl (by assumption) rfl rfl rfl (e5_put hq (by omega)) (by first | rfl | exact Nat.blt_eq.mpr (by omega)) ?_
  rintro v M1 ⟨rfl, hq1, hF1⟩
  have h1 : M1.1 b = _ := (hF1.1 _ (by omega)).trans h0
  have r1 := hq1.1
  unfold aR0 at r1
  try dsimp only [set1, set2, kilP, List.set_cons_zero, List.set_cons_succ, List.getElem?_cons_zero, List.getElem?_cons_succ, List.nil_append, List.cons_append, Option.toList_some, Option.toList_none]
  repeat (first | refine es rfl rfl rfl ?_ | refine eg rfl (by assumption) rfl ?_ | refine ean rfl (by assumption) (by assumption) rfl ?_ | refine eal rfl (by assumption) (by assumption) rfl ?_ | refine eri rfl ?_ | refine erv rfl ?_ | refine erl rfl ?_ | refine era rfl ?_ | refine erz0 rfl ?_ | refine erz1 rfl ?_)
  try dsimp only [set1, set2, kilP, List.set_cons_zero, List.set_cons_succ, List.getElem?_cons_zero, List.getElem?_cons_succ, List.nil_append, List.cons_append, Option.toList_some, Option.toList_none]
  refine ecv rfl rfl (by assumption) rfl rfl rfl (e5_put hq1 (by dsimp only [Rq.ts] at *; omega)) (by first | rfl | exact Nat.blt_eq.mpr (by omega)) ?_
  rintro v M2 ⟨rfl, hq2, hF2⟩
  have h2 : M2.1 b = _ := (hF2.1 _ (by omega)).trans h1
  have r2 := hq2.1
  unfold aR0 at r2
  try dsimp only [set1, set2, kilP, List.set_cons_zero, List.set_cons_succ, List.getElem?_cons_zero, List.getElem?_cons_succ, List.nil_append, List.cons_append, Option.toList_some, Option.toList_none]
  repeat (first | refine es rfl rfl rfl ?_ | refine eg rfl (by assumption) rfl ?_ | refine ean rfl (by assumption) (by assumption) rfl ?_ | refine eal rfl (by assumption) (by assumption) rfl ?_ | refine eri rfl ?_ | refine erv rfl ?_ | refine erl rfl ?_ | refine era rfl ?_ | refine erz0 rfl ?_ | refine erz1 rfl ?_)
  try dsimp only [set1, set2, kilP, List.set_cons_zero, List.set_cons_succ, List.getElem?_cons_zero, List.getElem?_cons_succ, List.nil_append, List.cons_append, Option.toList_some, Option.toList_none]
  refine ecv rfl rfl (by assumption) rfl rfl rfl (e5_put hq2 (by dsimp only [Rq.ts] at *; omega)) (by first | rfl | exact Nat.blt_eq.mpr (by omega)) ?_
  rintro v M3 ⟨rfl, hq3, hF3⟩
  have h3 : M3.1 b = _ := (hF3.1 _ (by omega)).trans h2
  have r3 := hq3.1
  unfold aR0 at r3
  try dsimp only [set1, set2, kilP, List.set_cons_zero, List.set_cons_succ, List.getElem?_cons_zero, List.getElem?_cons_succ, List.nil_append, List.cons_append, Option.toList_some, Option.toList_none]
  repeat (first | refine es rfl rfl rfl ?_ | refine eg rfl (by assumption) rfl ?_ | refine ean rfl (by assumption) (by assumption) rfl ?_ | refine eal rfl (by assumption) (by assumption) rfl ?_ | refine eri rfl ?_ | refine erv rfl ?_ | refine erl rfl ?_ | refine era rfl ?_ | refine erz0 rfl ?_ | refine erz1 rfl ?_)
  try dsimp only [set1, set2, kilP, List.set_cons_zero, List.set_cons_succ, List.getElem?_cons_zero, List.getElem?_cons_succ, List.nil_append, List.cons_append, Option.toList_some, Option.toList_none]
  refine ecv rfl rfl (by assumption) rfl rfl rfl (e5_put hq3 (by dsimp only [Rq.ts] at *; omega)) (by first | rfl | exact Nat.blt_eq.mpr (by omega)) ?_
  rintro v M4 ⟨rfl, hq4, hF4⟩
  have h4 : M4.1 b = _ := (hF4.1 _ (by omega)).trans h3
  have r4 := hq4.1
  unfold aR0 at r4
  try dsimp only [set1, set2, kilP, List.set_cons_zero, List.set_cons_succ, List.getElem?_cons_zero, List.getElem?_cons_succ, List.nil_append, List.cons_append, Option.toList_some, Option.toList_none]
  repeat (first | refine es rfl rfl rfl ?_ | refine eg rfl (by assumption) rfl ?_ | refine ean rfl (by assumption) (by assumption) rfl ?_ | refine eal rfl (by assumption) (by assumption) rfl ?_ | refine eri rfl ?_ | refine erv rfl ?_ | refine erl rfl ?_ | refine era rfl ?_ | refine erz0 rfl ?_ | refine erz1 rfl ?_)
  try dsimp only [set1, set2, kilP, List.set_cons_zero, List.set_cons_succ, List.getElem?_cons_zero, List.getElem?_cons_succ, List.nil_append, List.cons_append, Option.toList_some, Option.toList_none]
  refine ecv rfl rfl (by assumption) rfl rfl rfl (e5_put hq4 (by dsimp only [Rq.ts] at *; omega)) (by first | rfl | exact Nat.blt_eq.mpr (by omega)) ?_
  rintro v M5 ⟨rfl, hq5, hF5⟩
  have h5 : M5.1 b = _ := (hF5.1 _ (by omega)).trans h4
  have r5 := hq5.1
  unfold aR0 at r5
  try dsimp only [set1, set2, kilP, List.set_cons_zero, List.set_cons_succ, List.getElem?_cons_zero, List.getElem?_cons_succ, List.nil_append, List.cons_append, Option.toList_some, Option.toList_none]
  repeat (first | refine es rfl rfl rfl ?_ | refine eg rfl (by assumption) rfl ?_ | refine ean rfl (by assumption) (by assumption) rfl ?_ | refine eal rfl (by assumption) (by assumption) rfl ?_ | refine eri rfl ?_ | refine erv rfl ?_ | refine erl rfl ?_ | refine era rfl ?_ | refine erz0 rfl ?_ | refine erz1 rfl ?_)
  try dsimp only [set1, set2, kilP, List.set_cons_zero, List.set_cons_succ, List.getElem?_cons_zero, List.getElem?_cons_succ, List.nil_append, List.cons_append, Option.toList_some, Option.toList_none]
  have hFa : Fr (b + 1) 2 M M5 := (((hF1.tr hF2 (by omega) (by omega)).tr hF3 (by omega) (by omega)).tr hF4 (by omega) (by omega)).tr hF5 (by omega) (by omega)
  have hX5 : XR M5 b (pt5 σ.tp σ.ts y1 y2 y3 y4 y5, σ.ts + 20, σ.T, σ.f, σ.ac, σ.mk, σ.tr, σ.fn, σ.fp) := by
    obtain ⟨T2, hT2⟩ := hT2
    obtain ⟨r, hTr⟩ := hTr
    obtain ⟨p, hPt, hp⟩ := hPt
    obtain ⟨w, hWy⟩ := hWy
    obtain ⟨w2, hFt, hf⟩ := hFt
    obtain ⟨w3, hSw, hs⟩ := hSw
    obtain ⟨r2, hRt⟩ := hRt
    unfold tsp at hts
    refine ⟨tb, sp, hts, h5, ⟨(q.fn, q.fp, σ.ts + 20, q.le, q.at, q.kd, q.st, q.wd, q.wh, q.hr), sc, ?_, hsc, e1, e2, rfl⟩, hT.fr hFa (by omega), ⟨T2, hT2.fr hFa (by omega)⟩, hN.fr hFa (by omega), ⟨r, hTr.fr hFa (by omega)⟩, ⟨p, hPt.fr hFa (by omega), hp⟩, ⟨w, hWy.fr hFa (by omega)⟩, ⟨w2, hFt.fr hFa (by omega), hf⟩, ⟨w3, hSw.fr hFa (by omega), hs⟩, ⟨r2, hRt.fr hFa (by omega)⟩⟩
    rw [e3] at hq5
    exact hq5
  refine ⟨_, ⟨?_, rfl⟩, hX5, hFa.wide (by omega) (by omega)⟩
  show some (Value.int (nI (q.ts + 4 + 4 + 4 + 4 + 4))) = some (Value.int (nI (σ.ts + 20)))
  rw [e3]
def rowB (T : Tw) (f : Nat → Int32) : Prop := (∀ j, j < 7 → f j = T.hs.to j) ∧ f 7 = 0 ∧ ∀ p, p < 4 → f (8 + p) = (if p < T.np then T.pl p else 0) ∧ f (12 + p) = 0
def spTown (σ : Sg) (n : Int32) : Option Value → Sg → Prop := if 0 ≤ n ∧ n ≤ nI σ.ts then (fun v σ' => ∃ (sc : Nat → Int64) (T0 : Tw), (∀ j, j < 8 → sc j = sC j) ∧ twE T0 ∧ match pTown σ.tp sc n.toNatClampNeg T0 with
  | .error e => v = some (.int (-1)) ∧ σ' = (σ.tp, 0, σ.T, σ.f, σ.ac, σ.mk, 4, nI e.1, nI e.2)
  | .ok T => v = some (.int (nI T.hs.n)) ∧ ∃ f', rowB T f' ∧ σ' = (σ.tp, 0, T, f', [], [], 0, 0, -1)) else rf σ 2
theorem tI_loop {tp : Nat → Int32} {sc : Nat → Int64} {le : Nat} : ∀ (n : Nat) (T : Tw) (k a p : Nat) (T' : Tw) (p' : Nat), tI T → a ≤ le → pLoop tp sc le n T k a p = .ok (T', p') → tI T'
  | 0, T, k, a, p, T', p', hI, ha, h => by rw [pLoop] at h; cases h; exact hI
  | n + 1, T, k, a, p, T', p', hI, ha, h => by
    rw [pLoop] at h
    split at h
    · cases h; exact hI
    · split at h
      · cases h
      · rcases hp : pLn tp sc le T a with e | ⟨T1, a1⟩
        · rw [hp] at h; cases h
        · rw [hp] at h
          have := tI_Ln hI ha hp
          exact tI_loop n T1 _ _ _ T' p' this.1 (tk_b tp this.2.2).2.2.1 h
theorem tI_sh {T : Tw} (h : tI T) (s : Nat → Int32) : tI (T.1, T.hs, (T.ss.n, T.ss.mi, s, T.ss.ne), T.cs) := h
theorem ptR_nil {p : Pt4} (h : p.2.1 < 16) (h1 : p.2.2.1 = 0) (h2 : p.2.2.2.2 = 0) : ptR p [] [] := ⟨h, h1, Nat.zero_le _, h2, Nat.zero_le _, fun i r h => by simp at h, fun i r h => by simp at h⟩
theorem tI_town {tp : Nat → Int32} {sc : Nat → Int64} {le : Nat} {T0 T : Tw} (h0 : twE T0) (h : pTown tp sc le T0 = .ok T) : tI T ∧ 1 ≤ T.dr ∧ 2 ≤ T.hs.n ∧ ∃ s0, T.ss.sh = mesF T.ss.mi s0 := by
  unfold pTown at h
  rcases hp : pLoop tp sc le (le + 1) T0 3 0 0 with e | ⟨T1, p1⟩
  · rw [hp] at h; cases h
  rw [hp] at h
  dsimp only at h
  have h1 := tI_loop _ _ _ _ _ _ _ (twE_tI h0) (Nat.zero_le _) hp
  split at h
  · cases h
  rename_i hn
  cases h
  have h2 := tI_sh h1 (mesF T1.ss.mi T1.ss.sh)
  refine ⟨h2, ?_, ?_, T1.ss.sh, by dsimp only [Tw.ss, Ss.sh, Ss.mi]⟩
  · show 1 ≤ T1.dr
    exact Decidable.byContradiction fun q => by
      have := (h1.1.2.2 (by omega)).1
      omega
  · show 2 ≤ T1.hs.n
    omega
theorem x_town {n : Int32} (hX : XR M b σ) (hI : Inv σ C) (hS : aSt ad b M) : EvM ad 7 (iX11_town ad) [.ref b, .int n] M (Po b M (spTown σ n)) := by
  have hts0 := hI.2.2.1
  have hF := Fr.rf b 73 M
  obtain ⟨tb, sp, hts, h0, hRd, hT, hT2, hN, hTr, hPt, hWy, hFt, hSw, hRt⟩ := id hX
  unfold xTop at h0
  have t0 := hT.1.1
  have s0 := hT.2.1.1
  have s1 := hT.2.2.1.1
  have s2 := hT.2.2.2.1
  have n0 := hN.1
  have hRd' := hRd
  obtain ⟨q, sc, hq, hsc, e1, e2, e3⟩ := hRd
  have r0 := hq.1
  unfold aR0 at r0
  unfold spTown
  have htb : okTb (b + 1) sp := by unfold tsp at hts; unfold okTb; omega
  refine ⟨Nat.le_of_ble_eq_true rfl, ?_⟩
  show Ev ad _ (rX11_town ad) (0, [some (.ref b), some (.int n)], [], M) _
  repeat (first | refine es rfl rfl rfl ?_ | refine eg rfl (by assumption) rfl ?_ | refine ean rfl (by assumption) (by assumption) rfl ?_ | refine eal rfl (by assumption) (by assumption) rfl ?_ | refine eri rfl ?_ | refine erv rfl ?_ | refine erl rfl ?_ | refine era rfl ?_ | refine erz0 rfl ?_ | refine erz1 rfl ?_)
  try dsimp only [set1, set2, kilP, List.set_cons_zero, List.set_cons_succ, List.getElem?_cons_zero, List.getElem?_cons_succ, List.nil_append, List.cons_append, Option.toList_some, Option.toList_none]
  by_cases c : 0 ≤ n ∧ n ≤ nI σ.ts
  rotate_left
  · rw [if_neg c]
    refine ei _ rfl rfl (fun c1 => ?_) (fun c1 => ?_)
    · repeat (first | refine es rfl rfl rfl ?_ | refine eg rfl (by assumption) rfl ?_ | refine ean rfl (by assumption) (by assumption) rfl ?_ | refine eal rfl (by assumption) (by assumption) rfl ?_ | refine eri rfl ?_ | refine erv rfl ?_ | refine erl rfl ?_ | refine era rfl ?_ | refine erz0 rfl ?_ | refine erz1 rfl ?_)
      try dsimp only [set1, set2, kilP, List.set_cons_zero, List.set_cons_succ, List.getElem?_cons_zero, List.getElem?_cons_succ, List.nil_append, List.cons_append, Option.toList_some, Option.toList_none]
      refine ecv rfl rfl (by assumption) rfl rfl rfl (x_ref hX) (by first | rfl | exact Nat.blt_eq.mpr (by omega)) ?_
      rintro v M9 ⟨rfl, hX9, hF9⟩
      try dsimp only [set1, set2, kilP, List.set_cons_zero, List.set_cons_succ, List.getElem?_cons_zero, List.getElem?_cons_succ, List.nil_append, List.cons_append, Option.toList_some, Option.toList_none]
      repeat (first | refine es rfl rfl rfl ?_ | refine eg rfl (by assumption) rfl ?_ | refine ean rfl (by assumption) (by assumption) rfl ?_ | refine eal rfl (by assumption) (by assumption) rfl ?_ | refine eri rfl ?_ | refine erv rfl ?_ | refine erl rfl ?_ | refine era rfl ?_ | refine erz0 rfl ?_ | refine erz1 rfl ?_)
      try dsimp only [set1, set2, kilP, List.set_cons_zero, List.set_cons_succ, List.getElem?_cons_zero, List.getElem?_cons_succ, List.nil_append, List.cons_append, Option.toList_some, Option.toList_none]
      exact ⟨_, ⟨rfl, rfl⟩, hX9, hF.tr (hF9.wide (lo2 := b) (n2 := 73) (by omega) (by omega)) (by omega) (by omega)⟩
    · repeat (first | refine es rfl rfl rfl ?_ | refine eg rfl (by assumption) rfl ?_ | refine ean rfl (by assumption) (by assumption) rfl ?_ | refine eal rfl (by assumption) (by assumption) rfl ?_ | refine eri rfl ?_ | refine erv rfl ?_ | refine erl rfl ?_ | refine era rfl ?_ | refine erz0 rfl ?_ | refine erz1 rfl ?_)
      try dsimp only [set1, set2, kilP, List.set_cons_zero, List.set_cons_succ, List.getElem?_cons_zero, List.getElem?_cons_succ, List.nil_append, List.cons_append, Option.toList_some, Option.toList_none]
      rw [e3] at r0
      refine ei _ rfl rfl (fun c2 => ?_) (fun c2 => ?_)
      · exact absurd ⟨Int32.not_lt.mp c1, by rw [← e3]; exact c2⟩ c
      · repeat (first | refine es rfl rfl rfl ?_ | refine eg rfl (by assumption) rfl ?_ | refine ean rfl (by assumption) (by assumption) rfl ?_ | refine eal rfl (by assumption) (by assumption) rfl ?_ | refine eri rfl ?_ | refine erv rfl ?_ | refine erl rfl ?_ | refine era rfl ?_ | refine erz0 rfl ?_ | refine erz1 rfl ?_)
        try dsimp only [set1, set2, kilP, List.set_cons_zero, List.set_cons_succ, List.getElem?_cons_zero, List.getElem?_cons_succ, List.nil_append, List.cons_append, Option.toList_some, Option.toList_none]
        refine ecv rfl rfl (by assumption) rfl rfl rfl (x_ref hX) (by first | rfl | exact Nat.blt_eq.mpr (by omega)) ?_
        rintro v M9 ⟨rfl, hX9, hF9⟩
        try dsimp only [set1, set2, kilP, List.set_cons_zero, List.set_cons_succ, List.getElem?_cons_zero, List.getElem?_cons_succ, List.nil_append, List.cons_append, Option.toList_some, Option.toList_none]
        repeat (first | refine es rfl rfl rfl ?_ | refine eg rfl (by assumption) rfl ?_ | refine ean rfl (by assumption) (by assumption) rfl ?_ | refine eal rfl (by assumption) (by assumption) rfl ?_ | refine eri rfl ?_ | refine erv rfl ?_ | refine erl rfl ?_ | refine era rfl ?_ | refine erz0 rfl ?_ | refine erz1 rfl ?_)
        try dsimp only [set1, set2, kilP, List.set_cons_zero, List.set_cons_succ, List.getElem?_cons_zero, List.getElem?_cons_succ, List.nil_append, List.cons_append, Option.toList_some, Option.toList_none]
        exact ⟨_, ⟨rfl, rfl⟩, hX9, hF.tr (hF9.wide (lo2 := b) (n2 := 73) (by omega) (by omega)) (by omega) (by omega)⟩
  rw [if_pos c]
  obtain ⟨k, hk, rfl⟩ := nI_0k (n := σ.ts + 1) (by omega) ⟨c.1, Int32.lt_of_le_of_lt c.2 (nI_lt (by omega) (by omega))⟩
  rw [nI_clamp (by omega)]
  refine ei _ rfl rfl (fun c1 => ?_) (fun c1 => ?_)
  · exact absurd c1 (nI_pos (by omega))
  repeat (first | refine es rfl rfl rfl ?_ | refine eg rfl (by assumption) rfl ?_ | refine ean rfl (by assumption) (by assumption) rfl ?_ | refine eal rfl (by assumption) (by assumption) rfl ?_ | refine eri rfl ?_ | refine erv rfl ?_ | refine erl rfl ?_ | refine era rfl ?_ | refine erz0 rfl ?_ | refine erz1 rfl ?_)
  try dsimp only [set1, set2, kilP, List.set_cons_zero, List.set_cons_succ, List.getElem?_cons_zero, List.getElem?_cons_succ, List.nil_append, List.cons_append, Option.toList_some, Option.toList_none]
  refine ei _ rfl rfl (fun c2 => ?_) (fun c2 => ?_)
  rotate_left
  · exact absurd (nI_le (b := q.ts) (by omega) (by omega)) c2
  repeat (first | refine es rfl rfl rfl ?_ | refine eg rfl (by assumption) rfl ?_ | refine ean rfl (by assumption) (by assumption) rfl ?_ | refine eal rfl (by assumption) (by assumption) rfl ?_ | refine eri rfl ?_ | refine erv rfl ?_ | refine erl rfl ?_ | refine era rfl ?_ | refine erz0 rfl ?_ | refine erz1 rfl ?_)
  try dsimp only [set1, set2, kilP, List.set_cons_zero, List.set_cons_succ, List.getElem?_cons_zero, List.getElem?_cons_succ, List.nil_append, List.cons_append, Option.toList_some, Option.toList_none]
  obtain ⟨T2, hT2⟩ := hT2
  refine ecv rfl rfl (by assumption) rfl rfl rfl (e5_readTown (lo := b) (by omega) htb hq hT2 hS (by omega) (show k ≤ q.ts by omega)) (by first | rfl | exact Nat.blt_eq.mpr (by omega)) ?_
  rintro v M1 ⟨T0, hE, hG, hm⟩
  unfold tsp at hts
  have hGF : ∀ j, j ≠ b + 1 → (j < sp ∨ sp + 22 ≤ j) → M1.1 j = M.1 j := hG.1
  have h01 : M1.1 b = _ := (hGF _ (by omega) (by omega)).trans h0
  have hT1 : aTw M1 tb σ.T := hT.kept (fun j a1 a2 => hGF j (by omega) (by omega))
  have hN1 : aNw M1 (b + 48) σ.f := hN.kept (fun j a1 a2 => hGF j (by omega) (by omega))
  have hF1 : Fr b 73 M M1 := ⟨fun j hj => hGF j (by omega) (by omega), hG.2⟩
  obtain ⟨r, hTr⟩ := hTr
  obtain ⟨p, hPt, hp⟩ := hPt
  obtain ⟨w, hWy⟩ := hWy
  obtain ⟨w2, hFt, hf⟩ := hFt
  obtain ⟨w3, hSw, hs⟩ := hSw
  obtain ⟨r2, hRt⟩ := hRt
  have hTr1 : aNw M1 (b + 50) r := hTr.kept (fun j a1 a2 => hGF j (by omega) (by omega))
  have hFb : Fr (b + 1) 47 M M1 := ⟨fun j hj => hGF j (by omega) (by omega), hG.2⟩
  have hPt1 := hPt.fr hFb (by omega)
  have hWy1 := hWy.fr hFb (by omega)
  have hFt1 := hFt.fr hFb (by omega)
  have hSw1 := hSw.fr hFb (by omega)
  have hRt1 := hRt.fr hFb (by omega)
  rcases hpt : pTown σ.tp sc k T0 with e | T
  · rw [hpt] at hm
    obtain ⟨rfl, ⟨q', hq', f1, f2, f3⟩, T', hT'⟩ := hm
    have hX1 : XR M1 b (σ.tp, 0, σ.T, σ.f, σ.ac, σ.mk, σ.tr, nI e.1, nI e.2) := ⟨tb, sp, hts, h01, ⟨q', sc, hq', hsc, f1, f2, f3⟩, hT1, ⟨T', hT'⟩, hN1, ⟨r, hTr1⟩, ⟨p, hPt1, hp⟩, ⟨w, hWy1⟩, ⟨w2, hFt1, hf⟩, ⟨w3, hSw1, hs⟩, ⟨r2, hRt1⟩⟩
    try dsimp only [set1, set2, kilP, List.set_cons_zero, List.set_cons_succ, List.getElem?_cons_zero, List.getElem?_cons_succ, List.nil_append, List.cons_append, Option.toList_some, Option.toList_none]
    repeat (first | refine es rfl rfl rfl ?_ | refine eg rfl (by assumption) rfl ?_ | refine ean rfl (by assumption) (by assumption) rfl ?_ | refine eal rfl (by assumption) (by assumption) rfl ?_ | refine eri rfl ?_ | refine erv rfl ?_ | refine erl rfl ?_ | refine era rfl ?_ | refine erz0 rfl ?_ | refine erz1 rfl ?_)
    try dsimp only [set1, set2, kilP, List.set_cons_zero, List.set_cons_succ, List.getElem?_cons_zero, List.getElem?_cons_succ, List.nil_append, List.cons_append, Option.toList_some, Option.toList_none]
    refine ecv rfl rfl (by assumption) rfl rfl rfl (x_ref hX1) (by first | rfl | exact Nat.blt_eq.mpr (by omega)) ?_
    rintro v M9 ⟨rfl, hX9, hF9⟩
    try dsimp only [set1, set2, kilP, List.set_cons_zero, List.set_cons_succ, List.getElem?_cons_zero, List.getElem?_cons_succ, List.nil_append, List.cons_append, Option.toList_some, Option.toList_none]
    repeat (first | refine es rfl rfl rfl ?_ | refine eg rfl (by assumption) rfl ?_ | refine ean rfl (by assumption) (by assumption) rfl ?_ | refine eal rfl (by assumption) (by assumption) rfl ?_ | refine eri rfl ?_ | refine erv rfl ?_ | refine erl rfl ?_ | refine era rfl ?_ | refine erz0 rfl ?_ | refine erz1 rfl ?_)
    try dsimp only [set1, set2, kilP, List.set_cons_zero, List.set_cons_succ, List.getElem?_cons_zero, List.getElem?_cons_succ, List.nil_append, List.cons_append, Option.toList_some, Option.toList_none]
    exact ⟨_, ⟨sc, T0, hsc, hE, by rw [hpt]; exact ⟨rfl, rfl⟩⟩, hX9, hF1.tr (hF9.wide (lo2 := b) (n2 := 73) (by omega) (by omega)) (by omega) (by omega)⟩
  · rw [hpt] at hm
    obtain ⟨rfl, ⟨q', hq', f1, f2, f3⟩, hT'⟩ := hm
    have hti := tI_town hE hpt
    have r1 := hq'.1
    unfold aR0 at r1
    try dsimp only [set1, set2, kilP, List.set_cons_zero, List.set_cons_succ, List.getElem?_cons_zero, List.getElem?_cons_succ, List.nil_append, List.cons_append, Option.toList_some, Option.toList_none]
    repeat (first | refine es rfl rfl rfl ?_ | refine eg rfl (by assumption) rfl ?_ | refine ean rfl (by assumption) (by assumption) rfl ?_ | refine eal rfl (by assumption) (by assumption) rfl ?_ | refine eri rfl ?_ | refine erv rfl ?_ | refine erl rfl ?_ | refine era rfl ?_ | refine erz0 rfl ?_ | refine erz1 rfl ?_)
    try dsimp only [set1, set2, kilP, List.set_cons_zero, List.set_cons_succ, List.getElem?_cons_zero, List.getElem?_cons_succ, List.nil_append, List.cons_append, Option.toList_some, Option.toList_none]
    refine ecv rfl rfl (by assumption) rfl rfl rfl (e5_change hq') (by first | rfl | exact Nat.blt_eq.mpr (by omega)) ?_
    rintro v M2 ⟨rfl, hq2, hF2⟩
    have h02 : M2.1 b = _ := (hF2.1 _ (by omega)).trans h01
    try dsimp only [set1, set2, kilP, List.set_cons_zero, List.set_cons_succ, List.getElem?_cons_zero, List.getElem?_cons_succ, List.nil_append, List.cons_append, Option.toList_some, Option.toList_none]
    refine epM rfl h02 rfl rfl rfl (fun M3 eM => ?_)
    have h03 := up_w eM
    have hF3 : Fr b 1 M2 M3 := (Fr.rf b 1 M2).up eM (by omega) (by omega)
    have hN3 := (hN1.fr hF2 (by omega)).fr hF3 (by omega)
    have hT3 := (hT'.fr hF2 (by omega)).fr hF3 (by omega)
    have n3 := hN3.1
    repeat (first | refine es rfl rfl rfl ?_ | refine eg rfl (by assumption) rfl ?_ | refine ean rfl (by assumption) (by assumption) rfl ?_ | refine eal rfl (by assumption) (by assumption) rfl ?_ | refine eri rfl ?_ | refine erv rfl ?_ | refine erl rfl ?_ | refine era rfl ?_ | refine erz0 rfl ?_ | refine erz1 rfl ?_)
    try dsimp only [set1, set2, kilP, List.set_cons_zero, List.set_cons_succ, List.getElem?_cons_zero, List.getElem?_cons_succ, List.nil_append, List.cons_append, Option.toList_some, Option.toList_none]
    refine ecv rfl rfl (by assumption) rfl rfl rfl (e3_begin hN3 hT3 (by have := hti.1.1.1.2.1; omega) (by omega)) (by first | rfl | exact Nat.blt_eq.mpr (by omega)) ?_
    rintro v M4 ⟨rfl, ⟨f', g1, g2, g3, hN4⟩, hF4⟩
    have h04 : M4.1 b = _ := (hF4.1 _ (by omega)).trans h03
    have hPt4 := ((hPt1.fr hF2 (by omega)).fr hF3 (by omega)).fr hF4 (by omega)
    have p4 := hPt4.1
    try dsimp only [set1, set2, kilP, List.set_cons_zero, List.set_cons_succ, List.getElem?_cons_zero, List.getElem?_cons_succ, List.nil_append, List.cons_append, Option.toList_some, Option.toList_none]
    repeat (first | refine es rfl rfl rfl ?_ | refine eg rfl (by assumption) rfl ?_ | refine ean rfl (by assumption) (by assumption) rfl ?_ | refine eal rfl (by assumption) (by assumption) rfl ?_ | refine eri rfl ?_ | refine erv rfl ?_ | refine erl rfl ?_ | refine era rfl ?_ | refine erz0 rfl ?_ | refine erz1 rfl ?_)
    try dsimp only [set1, set2, kilP, List.set_cons_zero, List.set_cons_succ, List.getElem?_cons_zero, List.getElem?_cons_succ, List.nil_append, List.cons_append, Option.toList_some, Option.toList_none]
    refine ecv rfl rfl (by assumption) rfl rfl rfl (e4_forget hPt4) (by first | rfl | exact Nat.blt_eq.mpr (by omega)) ?_
    rintro v M5 ⟨rfl, hPt5, hF5⟩
    have h05 : M5.1 b = _ := (hF5.1 _ (by omega)).trans h04
    have hFt5 := (((hFt1.fr hF2 (by omega)).fr hF3 (by omega)).fr hF4 (by omega)).fr hF5 (by omega)
    have ft5 := hFt5.1
    try dsimp only [set1, set2, kilP, List.set_cons_zero, List.set_cons_succ, List.getElem?_cons_zero, List.getElem?_cons_succ, List.nil_append, List.cons_append, Option.toList_some, Option.toList_none]
    repeat (first | refine es rfl rfl rfl ?_ | refine eg rfl (by assumption) rfl ?_ | refine ean rfl (by assumption) (by assumption) rfl ?_ | refine eal rfl (by assumption) (by assumption) rfl ?_ | refine eri rfl ?_ | refine erv rfl ?_ | refine erl rfl ?_ | refine era rfl ?_ | refine erz0 rfl ?_ | refine erz1 rfl ?_)
    try dsimp only [set1, set2, kilP, List.set_cons_zero, List.set_cons_succ, List.getElem?_cons_zero, List.getElem?_cons_succ, List.nil_append, List.cons_append, Option.toList_some, Option.toList_none]
    refine ecv rfl rfl (by assumption) rfl rfl rfl (e1_forget hFt5) (by first | rfl | exact Nat.blt_eq.mpr (by omega)) ?_
    rintro v M6 ⟨rfl, hFt6, hF6⟩
    have h06 : M6.1 b = _ := (hF6.1 _ (by omega)).trans h05
    have hT6 := ((hT3.fr hF4 (by omega)).fr hF5 (by omega)).fr hF6 (by omega)
    have t6 := hT6.1.1
    have s6 := hT6.2.1.1
    have hX6 : XR M6 b (σ.tp, 0, T, f', [], [], σ.tr, 0, -1) := by
      refine ⟨sp, tb, by unfold tsp; omega, h06, ⟨q', sc, ?_, hsc, f1, f2, f3⟩, hT6, ⟨_, ((((hT1.fr hF2 (by omega)).fr hF3 (by omega)).fr hF4 (by omega)).fr hF5 (by omega)).fr hF6 (by omega)⟩, (hN4.fr hF5 (by omega)).fr hF6 (by omega), ⟨r, ((((hTr1.fr hF2 (by omega)).fr hF3 (by omega)).fr hF4 (by omega)).fr hF5 (by omega)).fr hF6 (by omega)⟩, ⟨_, hPt5.fr hF6 (by omega), ptR_nil hp.1 rfl rfl⟩, ⟨w, ((((hWy1.fr hF2 (by omega)).fr hF3 (by omega)).fr hF4 (by omega)).fr hF5 (by omega)).fr hF6 (by omega)⟩, ⟨_, hFt6, Or.inl rfl, fun q => absurd (show (0 : Int32) = 1 from q) (by decide)⟩, ⟨w3, ((((hSw1.fr hF2 (by omega)).fr hF3 (by omega)).fr hF4 (by omega)).fr hF5 (by omega)).fr hF6 (by omega), hs⟩, ⟨r2, ((((hRt1.fr hF2 (by omega)).fr hF3 (by omega)).fr hF4 (by omega)).fr hF5 (by omega)).fr hF6 (by omega)⟩⟩
      exact (((hq2.fr hF3 (by omega)).fr hF4 (by omega)).fr hF5 (by omega)).fr hF6 (by omega)
    have hFa : Fr b 73 M M6 := ((((hF1.tr hF2 (by omega) (by omega)).tr hF3 (by omega) (by omega)).tr hF4 (by omega) (by omega)).tr hF5 (by omega) (by omega)).tr hF6 (by omega) (by omega)
    try dsimp only [set1, set2, kilP, List.set_cons_zero, List.set_cons_succ, List.getElem?_cons_zero, List.getElem?_cons_succ, List.nil_append, List.cons_append, Option.toList_some, Option.toList_none]
    repeat (first | refine es rfl rfl rfl ?_ | refine eg rfl (by assumption) rfl ?_ | refine ean rfl (by assumption) (by assumption) rfl ?_ | refine eal rfl (by assumption) (by assumption) rfl ?_ | refine eri rfl ?_ | refine erv rfl ?_ | refine erl rfl ?_ | refine era rfl ?_ | refine erz0 rfl ?_ | refine erz1 rfl ?_)
    try dsimp only [set1, set2, kilP, List.set_cons_zero, List.set_cons_succ, List.getElem?_cons_zero, List.getElem?_cons_succ, List.nil_append, List.cons_append, Option.toList_some, Option.toList_none]
    refine ecv rfl rfl (by assumption) rfl rfl rfl (x_ans hX6) (by first | rfl | exact Nat.blt_eq.mpr (by omega)) ?_
    rintro v M9 ⟨rfl, hX9, hF9⟩
    try dsimp only [set1, set2, kilP, List.set_cons_zero, List.set_cons_succ, List.getElem?_cons_zero, List.getElem?_cons_succ, List.nil_append, List.cons_append, Option.toList_some, Option.toList_none]
    repeat (first | refine es rfl rfl rfl ?_ | refine eg rfl (by assumption) rfl ?_ | refine ean rfl (by assumption) (by assumption) rfl ?_ | refine eal rfl (by assumption) (by assumption) rfl ?_ | refine eri rfl ?_ | refine erv rfl ?_ | refine erl rfl ?_ | refine era rfl ?_ | refine erz0 rfl ?_ | refine erz1 rfl ?_)
    try dsimp only [set1, set2, kilP, List.set_cons_zero, List.set_cons_succ, List.getElem?_cons_zero, List.getElem?_cons_succ, List.nil_append, List.cons_append, Option.toList_some, Option.toList_none]
    exact ⟨_, ⟨sc, T0, hsc, hE, by rw [hpt]; exact ⟨rfl, f', ⟨g1, g2, g3⟩, rfl⟩⟩, hX9, hFa.tr (hF9.wide (lo2 := b) (n2 := 73) (by omega) (by omega)) (by omega) (by omega)⟩
end TOWN
