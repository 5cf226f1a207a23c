/-! The class's methods: what is now, acts -/
theorem etd {ad : Nat → Nat} {d : Nat} {rows : List (Nat × Ins)} {P : Option Value → Mm → Prop} {pc : Nat} {L : Lc} {st : List Value} {M : Mm} {lo hi : Int} {ts : List Nat} {df : Nat} {x : Int32} (hr : rows.find? (fun q => q.1 == pc) = some (pc, ns (fTab lo hi ts df))) (hx : x.toInt < lo ∨ hi < x.toInt) (k : Ev ad d rows (df, L, st, M) P) : Ev ad d rows (pc, L, .int x :: st, M) P := by
  refine es0 (L' := L) (st' := st) hr ?_ k
  unfold fTab
  dsimp only
  rw [if_pos hx]
theorem tabS (n : Nat) (hn : n < 2 ^ 31) (x : Int32) : (∃ k, k < n ∧ x = nI k) ∨ ((x.toInt < 0 ∨ (n : Int) - 1 < x.toInt) ∧ ¬ (0 ≤ x ∧ x < nI n)) := by
  by_cases h : 0 ≤ x ∧ x < nI n
  · exact Or.inl (nI_0k hn h)
  · refine Or.inr ⟨?_, h⟩
    by_cases h0 : 0 ≤ x
    · right
      have h2 : ¬ x < nI n := fun q => h ⟨h0, q⟩
      have h3 : (nI n).toInt ≤ x.toInt := Int32.le_iff_toInt_le.mp (Int32.not_lt.mp h2)
      rw [nI_toInt hn] at h3
      omega
    · left
      have h3 : x.toInt < (0 : Int32).toInt := Int32.lt_iff_toInt_lt.mp (Int32.not_le.mp h0)
      simpa using h3
theorem in_k {n k : Nat} (hn : n < 2 ^ 31) (hk : k < n) : (0 : Int32) ≤ nI k ∧ nI k < nI n := ⟨nI_le (a := 0) (by omega) (by omega), nI_lt hk hn⟩
section FACE
variable {ad : Nat → Nat} {M : Mm} {b : Nat} {σ : Sg} {C : Nat}
def spSame (σ : Sg) (x : Int32) : Option Value → Sg → Prop := fun v σ' => v = some (.int x) ∧ σ' = σ
theorem x_fault (hX : XR M b σ) : EvM ad 0 (iX11_fault ad) [.ref b] M (Po b M (spSame σ σ.fn)) := by
  obtain ⟨tb, sp, hts, h0, hRd, hT, hT2, hN, hTr, hPt, hWy, hFt, hSw, hRt⟩ := id hX
  unfold xTop at h0
  have t0 := hT.1.1
  have s0 := hT.2.1.1
  have s1 := hT.2.2.1.1
  have s2 := hT.2.2.2.1
  have n0 := hN.1
  obtain ⟨q, sc, hq, hsc, e1, e2, e3⟩ := hRd
  have r0 := hq.1
  unfold aR0 at r0
  rw [← e1]
  refine ⟨Nat.le_of_ble_eq_true rfl, ?_⟩
  show Ev ad _ (rX11_fault ad) (0, [some (.ref b)], [], M) _
  repeat (first | refine es rfl rfl rfl ?_ | refine eg rfl (by assumption) rfl ?_ | refine ean rfl (by assumption) (by assumption) rfl ?_ | refine eal rfl (by assumption) (by assumption) rfl ?_ | refine eri rfl ?_ | refine erv rfl ?_ | refine erl rfl ?_ | refine era rfl ?_ | refine erz0 rfl ?_ | refine erz1 rfl ?_)
  try dsimp only [set1, set2, kilP, List.set_cons_zero, List.set_cons_succ, List.getElem?_cons_zero, List.getElem?_cons_succ, List.nil_append, List.cons_append, Option.toList_some, Option.toList_none]
  exact ⟨σ, ⟨rfl, rfl⟩, hX, Fr.rf b 73 M⟩
theorem x_where (hX : XR M b σ) : EvM ad 0 (iX11_where ad) [.ref b] M (Po b M (spSame σ (if σ.tr = 4 then σ.fp else -1))) := by
  obtain ⟨tb, sp, hts, h0, hRd, hT, hT2, hN, hTr, hPt, hWy, hFt, hSw, hRt⟩ := id hX
  unfold xTop at h0
  have t0 := hT.1.1
  have s0 := hT.2.1.1
  have s1 := hT.2.2.1.1
  have s2 := hT.2.2.2.1
  have n0 := hN.1
  obtain ⟨q, sc, hq, hsc, e1, e2, e3⟩ := hRd
  have r0 := hq.1
  unfold aR0 at r0
  rw [← e2]
  refine ⟨Nat.le_of_ble_eq_true rfl, ?_⟩
  show Ev ad _ (rX11_where ad) (0, [some (.ref b)], [], M) _
  repeat (first | refine es rfl rfl rfl ?_ | refine eg rfl (by assumption) rfl ?_ | refine ean rfl (by assumption) (by assumption) rfl ?_ | refine eal rfl (by assumption) (by assumption) rfl ?_ | refine eri rfl ?_ | refine erv rfl ?_ | refine erl rfl ?_ | refine era rfl ?_ | refine erz0 rfl ?_ | refine erz1 rfl ?_)
  try dsimp only [set1, set2, kilP, List.set_cons_zero, List.set_cons_succ, List.getElem?_cons_zero, List.getElem?_cons_succ, List.nil_append, List.cons_append, Option.toList_some, Option.toList_none]
  refine ei _ rfl rfl (fun c => ?_) (fun c => ?_)
  · repeat (first | refine es rfl rfl rfl ?_ | refine eg rfl (by assumption) rfl ?_ | refine ean rfl (by assumption) (by assumption) rfl ?_ | refine eal rfl (by assumption) (by assumption) rfl ?_ | refine eri rfl ?_ | refine erv rfl ?_ | refine erl rfl ?_ | refine era rfl ?_ | refine erz0 rfl ?_ | refine erz1 rfl ?_)
    try dsimp only [set1, set2, kilP, List.set_cons_zero, List.set_cons_succ, List.getElem?_cons_zero, List.getElem?_cons_succ, List.nil_append, List.cons_append, Option.toList_some, Option.toList_none]
    rw [if_neg c]
    exact ⟨σ, ⟨rfl, rfl⟩, hX, Fr.rf b 73 M⟩
  · repeat (first | refine es rfl rfl rfl ?_ | refine eg rfl (by assumption) rfl ?_ | refine ean rfl (by assumption) (by assumption) rfl ?_ | refine eal rfl (by assumption) (by assumption) rfl ?_ | refine eri rfl ?_ | refine erv rfl ?_ | refine erl rfl ?_ | refine era rfl ?_ | refine erz0 rfl ?_ | refine erz1 rfl ?_)
    try dsimp only [set1, set2, kilP, List.set_cons_zero, List.set_cons_succ, List.getElem?_cons_zero, List.getElem?_cons_succ, List.nil_append, List.cons_append, Option.toList_some, Option.toList_none]
    rw [if_pos (Decidable.byContradiction c)]
    exact ⟨σ, ⟨rfl, rfl⟩, hX, Fr.rf b 73 M⟩
theorem x_trouble (hX : XR M b σ) : EvM ad 0 (iX11_trouble ad) [.ref b] M (Po b M (spSame σ σ.tr)) := by
  obtain ⟨tb, sp, hts, h0, hRd, hT, hT2, hN, hTr, hPt, hWy, hFt, hSw, hRt⟩ := id hX
  unfold xTop at h0
  have t0 := hT.1.1
  have s0 := hT.2.1.1
  have s1 := hT.2.2.1.1
  have s2 := hT.2.2.2.1
  have n0 := hN.1
  refine ⟨Nat.le_of_ble_eq_true rfl, ?_⟩
  show Ev ad _ (rX11_trouble ad) (0, [some (.ref b)], [], M) _
  repeat (first | refine es rfl rfl rfl ?_ | refine eg rfl (by assumption) rfl ?_ | refine ean rfl (by assumption) (by assumption) rfl ?_ | refine eal rfl (by assumption) (by assumption) rfl ?_ | refine eri rfl ?_ | refine erv rfl ?_ | refine erl rfl ?_ | refine era rfl ?_ | refine erz0 rfl ?_ | refine erz1 rfl ?_)
  try dsimp only [set1, set2, kilP, List.set_cons_zero, List.set_cons_succ, List.getElem?_cons_zero, List.getElem?_cons_succ, List.nil_append, List.cons_append, Option.toList_some, Option.toList_none]
  exact ⟨σ, ⟨rfl, rfl⟩, hX, Fr.rf b 73 M⟩
def siz (σ : Sg) : Nat → Int32
  | 0 => nI σ.T.dr
  | 1 => nI σ.T.lk
  | 2 => nI σ.T.hs.n
  | 3 => nI (fb_ct0 (fun j => !(σ.f j == -2)) 7)
  | 4 => nI (fb_ct0 (fun j => !(σ.T.hs.fr j == -2)) σ.T.hs.n)
  | 5 => nI σ.T.ss.n
  | 6 => nI σ.T.np
  | 7 => nI σ.T.cs.sg
  | 8 => nI σ.T.cs.nz
  | 9 => nI (popc (σ.f 7).toNatClampNeg)
  | 10 => nI σ.ac.length
  | 11 => nI σ.mk.length
  | _ => nI σ.ts
def spSize (σ : Sg) (x : Int32) : Option Value → Sg → Prop := spSame σ (if 0 ≤ x ∧ x < 13 then siz σ x.toNatClampNeg else -1)
theorem Inv.sh {σ : Sg} {C : Nat} (h : Inv σ C) : ∃ s, s < 128 ∧ σ.f 7 = nI s := by
  by_cases q : 0 < σ.T.hs.n
  · obtain ⟨s, h1, h2⟩ := (h.1 q).2.2.2.2.1.2.2.1
    exact ⟨s, Nat.lt_of_lt_of_le h1 (Nat.pow_le_pow_right (by omega) h.n7), h2⟩
  · exact ⟨0, by omega, (h.2.1 (by omega)).2.2.1⟩
theorem x_size {x : Int32} (hX : XR M b σ) (hI : Inv σ C) : EvM ad 2 (iX11_size ad) [.ref b, .int x] M (Po b M (spSize σ x)) := by
  have hn7 := hI.n7
  obtain ⟨s, hs, es7⟩ := hI.sh
  obtain ⟨tb, sp, hts, h0, hRd, hT, hT2, hN, hTr, hPt, hWy, hFt, hSw, hRt⟩ := id hX
  unfold xTop at h0
  have t0 := hT.1.1
  have s0 := hT.2.1.1
  have s1 := hT.2.2.1.1
  have s2 := hT.2.2.2.1
  have n0 := hN.1
  obtain ⟨q, sc, hq, hsc, e1, e2, e3⟩ := hRd
  have r0 := hq.1
  unfold aR0 at r0
  obtain ⟨p, hp, hpr⟩ := hPt
  have p0 := hp.1
  refine ⟨Nat.le_of_ble_eq_true rfl, ?_⟩
  show Ev ad _ (rX11_size ad) (0, [some (.ref b), some (.int x)], [], M) _
  repeat (first | refine es rfl rfl rfl ?_ | refine eg rfl (by assumption) rfl ?_ | refine ean rfl (by assumption) (by assumption) rfl ?_ | refine eal rfl (by assumption) (by assumption) rfl ?_ | refine eri rfl ?_ | refine erv rfl ?_ | refine erl rfl ?_ | refine era rfl ?_ | refine erz0 rfl ?_ | refine erz1 rfl ?_)
  try dsimp only [set1, set2, kilP, List.set_cons_zero, List.set_cons_succ, List.getElem?_cons_zero, List.getElem?_cons_succ, List.nil_append, List.cons_append, Option.toList_some, Option.toList_none]
  unfold spSize
  rcases tabS 13 (by omega) x with ⟨k, hk, rfl⟩ | ⟨hd, hd2⟩
  · rw [if_pos (show (0 : Int32) ≤ nI k ∧ nI k < 13 from in_k (n := 13) (by omega) hk), nI_clamp (by omega)]
    match k, hk with
    | 0, _ =>
      repeat (first | refine es rfl rfl rfl ?_ | refine eg rfl (by assumption) rfl ?_ | refine ean rfl (by assumption) (by assumption) rfl ?_ | refine eal rfl (by assumption) (by assumption) rfl ?_ | refine eri rfl ?_ | refine erv rfl ?_ | refine erl rfl ?_ | refine era rfl ?_ | refine erz0 rfl ?_ | refine erz1 rfl ?_)
      try dsimp only [set1, set2, kilP, List.set_cons_zero, List.set_cons_succ, List.getElem?_cons_zero, List.getElem?_cons_succ, List.nil_append, List.cons_append, Option.toList_some, Option.toList_none]
      exact ⟨σ, ⟨rfl, rfl⟩, hX, Fr.rf b 73 M⟩
    | 1, _ =>
      repeat (first | refine es rfl rfl rfl ?_ | refine eg rfl (by assumption) rfl ?_ | refine ean rfl (by assumption) (by assumption) rfl ?_ | refine eal rfl (by assumption) (by assumption) rfl ?_ | refine eri rfl ?_ | refine erv rfl ?_ | refine erl rfl ?_ | refine era rfl ?_ | refine erz0 rfl ?_ | refine erz1 rfl ?_)
      try dsimp only [set1, set2, kilP, List.set_cons_zero, List.set_cons_succ, List.getElem?_cons_zero, List.getElem?_cons_succ, List.nil_append, List.cons_append, Option.toList_some, Option.toList_none]
      exact ⟨σ, ⟨rfl, rfl⟩, hX, Fr.rf b 73 M⟩
    | 2, _ =>
      repeat (first | refine es rfl rfl rfl ?_ | refine eg rfl (by assumption) rfl ?_ | refine ean rfl (by assumption) (by assumption) rfl ?_ | refine eal rfl (by assumption) (by assumption) rfl ?_ | refine eri rfl ?_ | refine erv rfl ?_ | refine erl rfl ?_ | refine era rfl ?_ | refine erz0 rfl ?_ | refine erz1 rfl ?_)
      try dsimp only [set1, set2, kilP, List.set_cons_zero, List.set_cons_succ, List.getElem?_cons_zero, List.getElem?_cons_succ, List.nil_append, List.cons_append, Option.toList_some, Option.toList_none]
      exact ⟨σ, ⟨rfl, rfl⟩, hX, Fr.rf b 73 M⟩
    | 3, _ =>
      repeat (first | refine es rfl rfl rfl ?_ | refine eg rfl (by assumption) rfl ?_ | refine ean rfl (by assumption) (by assumption) rfl ?_ | refine eal rfl (by assumption) (by assumption) rfl ?_ | refine eri rfl ?_ | refine erv rfl ?_ | refine erl rfl ?_ | refine era rfl ?_ | refine erz0 rfl ?_ | refine erz1 rfl ?_)
      try dsimp only [set1, set2, kilP, List.set_cons_zero, List.set_cons_succ, List.getElem?_cons_zero, List.getElem?_cons_succ, List.nil_append, List.cons_append, Option.toList_some, Option.toList_none]
      refine ecr rfl rfl (by assumption) rfl rfl rfl (e3_known hN) (by first | rfl | exact Nat.blt_eq.mpr (by omega)) rfl ?_
      repeat (first | refine es rfl rfl rfl ?_ | refine eg rfl (by assumption) rfl ?_ | refine ean rfl (by assumption) (by assumption) rfl ?_ | refine eal rfl (by assumption) (by assumption) rfl ?_ | refine eri rfl ?_ | refine erv rfl ?_ | refine erl rfl ?_ | refine era rfl ?_ | refine erz0 rfl ?_ | refine erz1 rfl ?_)
      try dsimp only [set1, set2, kilP, List.set_cons_zero, List.set_cons_succ, List.getElem?_cons_zero, List.getElem?_cons_succ, List.nil_append, List.cons_append, Option.toList_some, Option.toList_none]
      exact ⟨σ, ⟨rfl, rfl⟩, hX, Fr.rf b 73 M⟩
    | 4, _ =>
      repeat (first | refine es rfl rfl rfl ?_ | refine eg rfl (by assumption) rfl ?_ | refine ean rfl (by assumption) (by assumption) rfl ?_ | refine eal rfl (by assumption) (by assumption) rfl ?_ | refine eri rfl ?_ | refine erv rfl ?_ | refine erl rfl ?_ | refine era rfl ?_ | refine erz0 rfl ?_ | refine erz1 rfl ?_)
      try dsimp only [set1, set2, kilP, List.set_cons_zero, List.set_cons_succ, List.getElem?_cons_zero, List.getElem?_cons_succ, List.nil_append, List.cons_append, Option.toList_some, Option.toList_none]
      refine ecr rfl rfl (by assumption) rfl rfl rfl (e2_hours hT.2.1 hn7) (by first | rfl | exact Nat.blt_eq.mpr (by omega)) rfl ?_
      repeat (first | refine es rfl rfl rfl ?_ | refine eg rfl (by assumption) rfl ?_ | refine ean rfl (by assumption) (by assumption) rfl ?_ | refine eal rfl (by assumption) (by assumption) rfl ?_ | refine eri rfl ?_ | refine erv rfl ?_ | refine erl rfl ?_ | refine era rfl ?_ | refine erz0 rfl ?_ | refine erz1 rfl ?_)
      try dsimp only [set1, set2, kilP, List.set_cons_zero, List.set_cons_succ, List.getElem?_cons_zero, List.getElem?_cons_succ, List.nil_append, List.cons_append, Option.toList_some, Option.toList_none]
      exact ⟨σ, ⟨rfl, rfl⟩, hX, Fr.rf b 73 M⟩
    | 5, _ =>
      repeat (first | refine es rfl rfl rfl ?_ | refine eg rfl (by assumption) rfl ?_ | refine ean rfl (by assumption) (by assumption) rfl ?_ | refine eal rfl (by assumption) (by assumption) rfl ?_ | refine eri rfl ?_ | refine erv rfl ?_ | refine erl rfl ?_ | refine era rfl ?_ | refine erz0 rfl ?_ | refine erz1 rfl ?_)
      try dsimp only [set1, set2, kilP, List.set_cons_zero, List.set_cons_succ, List.getElem?_cons_zero, List.getElem?_cons_succ, List.nil_append, List.cons_append, Option.toList_some, Option.toList_none]
      exact ⟨σ, ⟨rfl, rfl⟩, hX, Fr.rf b 73 M⟩
    | 6, _ =>
      repeat (first | refine es rfl rfl rfl ?_ | refine eg rfl (by assumption) rfl ?_ | refine ean rfl (by assumption) (by assumption) rfl ?_ | refine eal rfl (by assumption) (by assumption) rfl ?_ | refine eri rfl ?_ | refine erv rfl ?_ | refine erl rfl ?_ | refine era rfl ?_ | refine erz0 rfl ?_ | refine erz1 rfl ?_)
      try dsimp only [set1, set2, kilP, List.set_cons_zero, List.set_cons_succ, List.getElem?_cons_zero, List.getElem?_cons_succ, List.nil_append, List.cons_append, Option.toList_some, Option.toList_none]
      exact ⟨σ, ⟨rfl, rfl⟩, hX, Fr.rf b 73 M⟩
    | 7, _ =>
      repeat (first | refine es rfl rfl rfl ?_ | refine eg rfl (by assumption) rfl ?_ | refine ean rfl (by assumption) (by assumption) rfl ?_ | refine eal rfl (by assumption) (by assumption) rfl ?_ | refine eri rfl ?_ | refine erv rfl ?_ | refine erl rfl ?_ | refine era rfl ?_ | refine erz0 rfl ?_ | refine erz1 rfl ?_)
      try dsimp only [set1, set2, kilP, List.set_cons_zero, List.set_cons_succ, List.getElem?_cons_zero, List.getElem?_cons_succ, List.nil_append, List.cons_append, Option.toList_some, Option.toList_none]
      exact ⟨σ, ⟨rfl, rfl⟩, hX, Fr.rf b 73 M⟩
    | 8, _ =>
      repeat (first | refine es rfl rfl rfl ?_ | refine eg rfl (by assumption) rfl ?_ | refine ean rfl (by assumption) (by assumption) rfl ?_ | refine eal rfl (by assumption) (by assumption) rfl ?_ | refine eri rfl ?_ | refine erv rfl ?_ | refine erl rfl ?_ | refine era rfl ?_ | refine erz0 rfl ?_ | refine erz1 rfl ?_)
      try dsimp only [set1, set2, kilP, List.set_cons_zero, List.set_cons_succ, List.getElem?_cons_zero, List.getElem?_cons_succ, List.nil_append, List.cons_append, Option.toList_some, Option.toList_none]
      exact ⟨σ, ⟨rfl, rfl⟩, hX, Fr.rf b 73 M⟩
    | 9, _ =>
      repeat (first | refine es rfl rfl rfl ?_ | refine eg rfl (by assumption) rfl ?_ | refine ean rfl (by assumption) (by assumption) rfl ?_ | refine eal rfl (by assumption) (by assumption) rfl ?_ | refine eri rfl ?_ | refine erv rfl ?_ | refine erl rfl ?_ | refine era rfl ?_ | refine erz0 rfl ?_ | refine erz1 rfl ?_)
      try dsimp only [set1, set2, kilP, List.set_cons_zero, List.set_cons_succ, List.getElem?_cons_zero, List.getElem?_cons_succ, List.nil_append, List.cons_append, Option.toList_some, Option.toList_none]
      refine ecr rfl rfl (by assumption) rfl rfl rfl (e3_shutCount hN hs es7) (by first | rfl | exact Nat.blt_eq.mpr (by omega)) rfl ?_
      repeat (first | refine es rfl rfl rfl ?_ | refine eg rfl (by assumption) rfl ?_ | refine ean rfl (by assumption) (by assumption) rfl ?_ | refine eal rfl (by assumption) (by assumption) rfl ?_ | refine eri rfl ?_ | refine erv rfl ?_ | refine erl rfl ?_ | refine era rfl ?_ | refine erz0 rfl ?_ | refine erz1 rfl ?_)
      try dsimp only [set1, set2, kilP, List.set_cons_zero, List.set_cons_succ, List.getElem?_cons_zero, List.getElem?_cons_succ, List.nil_append, List.cons_append, Option.toList_some, Option.toList_none]
      refine ⟨σ, ⟨?_, rfl⟩, hX, Fr.rf b 73 M⟩
      show some (Value.int (nI (popc s))) = some (Value.int (nI (popc (σ.f 7).toNatClampNeg)))
      rw [es7, nI_clamp (by omega)]
    | 10, _ =>
      repeat (first | refine es rfl rfl rfl ?_ | refine eg rfl (by assumption) rfl ?_ | refine ean rfl (by assumption) (by assumption) rfl ?_ | refine eal rfl (by assumption) (by assumption) rfl ?_ | refine eri rfl ?_ | refine erv rfl ?_ | refine erl rfl ?_ | refine era rfl ?_ | refine erz0 rfl ?_ | refine erz1 rfl ?_)
      try dsimp only [set1, set2, kilP, List.set_cons_zero, List.set_cons_succ, List.getElem?_cons_zero, List.getElem?_cons_succ, List.nil_append, List.cons_append, Option.toList_some, Option.toList_none]
      refine ecr rfl rfl (by assumption) rfl rfl rfl (e4_acts hp) (by first | rfl | exact Nat.blt_eq.mpr (by omega)) rfl ?_
      rw [hpr.2.1]
      repeat (first | refine es rfl rfl rfl ?_ | refine eg rfl (by assumption) rfl ?_ | refine ean rfl (by assumption) (by assumption) rfl ?_ | refine eal rfl (by assumption) (by assumption) rfl ?_ | refine eri rfl ?_ | refine erv rfl ?_ | refine erl rfl ?_ | refine era rfl ?_ | refine erz0 rfl ?_ | refine erz1 rfl ?_)
      try dsimp only [set1, set2, kilP, List.set_cons_zero, List.set_cons_succ, List.getElem?_cons_zero, List.getElem?_cons_succ, List.nil_append, List.cons_append, Option.toList_some, Option.toList_none]
      exact ⟨σ, ⟨rfl, rfl⟩, hX, Fr.rf b 73 M⟩
    | 11, _ =>
      repeat (first | refine es rfl rfl rfl ?_ | refine eg rfl (by assumption) rfl ?_ | refine ean rfl (by assumption) (by assumption) rfl ?_ | refine eal rfl (by assumption) (by assumption) rfl ?_ | refine eri rfl ?_ | refine erv rfl ?_ | refine erl rfl ?_ | refine era rfl ?_ | refine erz0 rfl ?_ | refine erz1 rfl ?_)
      try dsimp only [set1, set2, kilP, List.set_cons_zero, List.set_cons_succ, List.getElem?_cons_zero, List.getElem?_cons_succ, List.nil_append, List.cons_append, Option.toList_some, Option.toList_none]
      refine ecr rfl rfl (by assumption) rfl rfl rfl (e4_marks hp) (by first | rfl | exact Nat.blt_eq.mpr (by omega)) rfl ?_
      rw [hpr.2.2.2.1]
      repeat (first | refine es rfl rfl rfl ?_ | refine eg rfl (by assumption) rfl ?_ | refine ean rfl (by assumption) (by assumption) rfl ?_ | refine eal rfl (by assumption) (by assumption) rfl ?_ | refine eri rfl ?_ | refine erv rfl ?_ | refine erl rfl ?_ | refine era rfl ?_ | refine erz0 rfl ?_ | refine erz1 rfl ?_)
      try dsimp only [set1, set2, kilP, List.set_cons_zero, List.set_cons_succ, List.getElem?_cons_zero, List.getElem?_cons_succ, List.nil_append, List.cons_append, Option.toList_some, Option.toList_none]
      exact ⟨σ, ⟨rfl, rfl⟩, hX, Fr.rf b 73 M⟩
    | 12, _ =>
      rw [e3] at r0
      repeat (first | refine es rfl rfl rfl ?_ | refine eg rfl (by assumption) rfl ?_ | refine ean rfl (by assumption) (by assumption) rfl ?_ | refine eal rfl (by assumption) (by assumption) rfl ?_ | refine eri rfl ?_ | refine erv rfl ?_ | refine erl rfl ?_ | refine era rfl ?_ | refine erz0 rfl ?_ | refine erz1 rfl ?_)
      try dsimp only [set1, set2, kilP, List.set_cons_zero, List.set_cons_succ, List.getElem?_cons_zero, List.getElem?_cons_succ, List.nil_append, List.cons_append, Option.toList_some, Option.toList_none]
      exact ⟨σ, ⟨rfl, rfl⟩, hX, Fr.rf b 73 M⟩
    | n + 13, h => exact absurd h (by omega)
  · rw [if_neg (show ¬ (0 ≤ x ∧ x < 13) from fun h => hd2 h)]
    refine etd rfl (by omega) ?_
    repeat (first | refine es rfl rfl rfl ?_ | refine eg rfl (by assumption) rfl ?_ | refine ean rfl (by assumption) (by assumption) rfl ?_ | refine eal rfl (by assumption) (by assumption) rfl ?_ | refine eri rfl ?_ | refine erv rfl ?_ | refine erl rfl ?_ | refine era rfl ?_ | refine erz0 rfl ?_ | refine erz1 rfl ?_)
    try dsimp only [set1, set2, kilP, List.set_cons_zero, List.set_cons_succ, List.getElem?_cons_zero, List.getElem?_cons_succ, List.nil_append, List.cons_append, Option.toList_some, Option.toList_none]
    exact ⟨σ, ⟨rfl, rfl⟩, hX, Fr.rf b 73 M⟩
def hou (σ : Sg) (k : Nat) : Nat → Int32
  | 0 => σ.T.hs.ro k
  | 1 => σ.T.hs.re k
  | 2 => σ.T.hs.bi k
  | 3 => σ.f k
  | 4 => whoF σ.f (nI k) 7 0
  | _ => bI (shutI (σ.f 7) k = 1)
def spHouse (σ : Sg) (x w : Int32) : Option Value → Sg → Prop := if isH σ x then if 0 ≤ w ∧ w < 6 then an σ (hou σ x.toNatClampNeg w.toNatClampNeg) else rf σ 1 else rf σ 1
theorem x_house {x w : Int32} (hX : XR M b σ) (hI : Inv σ C) : EvM ad 2 (iX11_house ad) [.ref b, .int x, .int w] M (Po b M (spHouse σ x w)) := by
  have hn7 := hI.n7
  have hF := Fr.rf b 73 M
  obtain ⟨tb, sp, hts, h0, hRd, hT, hT2, hN, hTr, hPt, hWy, hFt, hSw, hRt⟩ := id hX
  unfold xTop at h0
  have t0 := hT.1.1
  have s0 := hT.2.1.1
  have s1 := hT.2.2.1.1
  have s2 := hT.2.2.2.1
  have n0 := hN.1
  obtain ⟨g0, g1, g2, g3, g4, g5, g6, g7, g8⟩ := hT.2.1
  unfold spHouse
  refine ⟨Nat.le_of_ble_eq_true rfl, ?_⟩
  show Ev ad _ (rX11_house ad) (0, [some (.ref b), some (.int x), some (.int w)], [], M) _
  repeat (first | refine es rfl rfl rfl ?_ | refine eg rfl (by assumption) rfl ?_ | refine ean rfl (by assumption) (by assumption) rfl ?_ | refine eal rfl (by assumption) (by assumption) rfl ?_ | refine eri rfl ?_ | refine erv rfl ?_ | refine erl rfl ?_ | refine era rfl ?_ | refine erz0 rfl ?_ | refine erz1 rfl ?_)
  try dsimp only [set1, set2, kilP, List.set_cons_zero, List.set_cons_succ, List.getElem?_cons_zero, List.getElem?_cons_succ, List.nil_append, List.cons_append, Option.toList_some, Option.toList_none]
  refine ecr rfl rfl (by assumption) rfl rfl rfl (x_isH hX) (by first | rfl | exact Nat.blt_eq.mpr (by omega)) rfl ?_
  by_cases c : isH σ x
  rotate_left
  · rw [if_neg c, show bI (isH σ x) = 0 from if_neg c]
    repeat (first | refine es rfl rfl rfl ?_ | refine eg rfl (by assumption) rfl ?_ | refine ean rfl (by assumption) (by assumption) rfl ?_ | refine eal rfl (by assumption) (by assumption) rfl ?_ | refine eri rfl ?_ | refine erv rfl ?_ | refine erl rfl ?_ | refine era rfl ?_ | refine erz0 rfl ?_ | refine erz1 rfl ?_)
    try dsimp only [set1, set2, kilP, List.set_cons_zero, List.set_cons_succ, List.getElem?_cons_zero, List.getElem?_cons_succ, List.nil_append, List.cons_append, Option.toList_some, Option.toList_none]
    refine ecv rfl rfl (by assumption) rfl rfl rfl (x_ref hX) (by first | rfl | exact Nat.blt_eq.mpr (by omega)) ?_
    rintro v M9 ⟨rfl, hX9, hF9⟩
    try dsimp only [set1, set2, kilP, List.set_cons_zero, List.set_cons_succ, List.getElem?_cons_zero, List.getElem?_cons_succ, List.nil_append, List.cons_append, Option.toList_some, Option.toList_none]
    repeat (first | refine es rfl rfl rfl ?_ | refine eg rfl (by assumption) rfl ?_ | refine ean rfl (by assumption) (by assumption) rfl ?_ | refine eal rfl (by assumption) (by assumption) rfl ?_ | refine eri rfl ?_ | refine erv rfl ?_ | refine erl rfl ?_ | refine era rfl ?_ | refine erz0 rfl ?_ | refine erz1 rfl ?_)
    try dsimp only [set1, set2, kilP, List.set_cons_zero, List.set_cons_succ, List.getElem?_cons_zero, List.getElem?_cons_succ, List.nil_append, List.cons_append, Option.toList_some, Option.toList_none]
    exact ⟨_, ⟨rfl, rfl⟩, hX9, hF.tr (hF9.wide (lo2 := b) (n2 := 73) (by omega) (by omega)) (by omega) (by omega)⟩
  rw [if_pos c, show bI (isH σ x) = 1 from if_pos c]
  obtain ⟨k, hk, rfl⟩ := isH_k hn7 c
  have hk7 : k < 7 := by omega
  repeat (first | refine es rfl rfl rfl ?_ | refine eg rfl (by assumption) rfl ?_ | refine ean rfl (by assumption) (by assumption) rfl ?_ | refine eal rfl (by assumption) (by assumption) rfl ?_ | refine eri rfl ?_ | refine erv rfl ?_ | refine erl rfl ?_ | refine era rfl ?_ | refine erz0 rfl ?_ | refine erz1 rfl ?_)
  try dsimp only [set1, set2, kilP, List.set_cons_zero, List.set_cons_succ, List.getElem?_cons_zero, List.getElem?_cons_succ, List.nil_append, List.cons_append, Option.toList_some, Option.toList_none]
  rcases tabS 6 (by omega) w with ⟨j, hj, rfl⟩ | ⟨hd, hd2⟩
  · rw [if_pos (show (0 : Int32) ≤ nI j ∧ nI j < 6 from in_k (n := 6) (by omega) hj), nI_clamp (by omega), nI_clamp (by omega)]
    match j, hj with
    | 0, _ =>
      repeat (first | refine es rfl rfl rfl ?_ | refine eg rfl (by assumption) rfl ?_ | refine ean rfl (by assumption) (by assumption) rfl ?_ | refine eal rfl (by assumption) (by assumption) rfl ?_ | refine eri rfl ?_ | refine erv rfl ?_ | refine erl rfl ?_ | refine era rfl ?_ | refine erz0 rfl ?_ | refine erz1 rfl ?_)
      try dsimp only [set1, set2, kilP, List.set_cons_zero, List.set_cons_succ, List.getElem?_cons_zero, List.getElem?_cons_succ, List.nil_append, List.cons_append, Option.toList_some, Option.toList_none]
      refine ecv rfl rfl (by assumption) rfl rfl rfl (x_ans hX) (by first | rfl | exact Nat.blt_eq.mpr (by omega)) ?_
      rintro v M9 ⟨rfl, hX9, hF9⟩
      try dsimp only [set1, set2, kilP, List.set_cons_zero, List.set_cons_succ, List.getElem?_cons_zero, List.getElem?_cons_succ, List.nil_append, List.cons_append, Option.toList_some, Option.toList_none]
      repeat (first | refine es rfl rfl rfl ?_ | refine eg rfl (by assumption) rfl ?_ | refine ean rfl (by assumption) (by assumption) rfl ?_ | refine eal rfl (by assumption) (by assumption) rfl ?_ | refine eri rfl ?_ | refine erv rfl ?_ | refine erl rfl ?_ | refine era rfl ?_ | refine erz0 rfl ?_ | refine erz1 rfl ?_)
      try dsimp only [set1, set2, kilP, List.set_cons_zero, List.set_cons_succ, List.getElem?_cons_zero, List.getElem?_cons_succ, List.nil_append, List.cons_append, Option.toList_some, Option.toList_none]
      exact ⟨_, ⟨rfl, rfl⟩, hX9, hF.tr (hF9.wide (lo2 := b) (n2 := 73) (by omega) (by omega)) (by omega) (by omega)⟩
    | 1, _ =>
      repeat (first | refine es rfl rfl rfl ?_ | refine eg rfl (by assumption) rfl ?_ | refine ean rfl (by assumption) (by assumption) rfl ?_ | refine eal rfl (by assumption) (by assumption) rfl ?_ | refine eri rfl ?_ | refine erv rfl ?_ | refine erl rfl ?_ | refine era rfl ?_ | refine erz0 rfl ?_ | refine erz1 rfl ?_)
      try dsimp only [set1, set2, kilP, List.set_cons_zero, List.set_cons_succ, List.getElem?_cons_zero, List.getElem?_cons_succ, List.nil_append, List.cons_append, Option.toList_some, Option.toList_none]
      refine ecv rfl rfl (by assumption) rfl rfl rfl (x_ans hX) (by first | rfl | exact Nat.blt_eq.mpr (by omega)) ?_
      rintro v M9 ⟨rfl, hX9, hF9⟩
      try dsimp only [set1, set2, kilP, List.set_cons_zero, List.set_cons_succ, List.getElem?_cons_zero, List.getElem?_cons_succ, List.nil_append, List.cons_append, Option.toList_some, Option.toList_none]
      repeat (first | refine es rfl rfl rfl ?_ | refine eg rfl (by assumption) rfl ?_ | refine ean rfl (by assumption) (by assumption) rfl ?_ | refine eal rfl (by assumption) (by assumption) rfl ?_ | refine eri rfl ?_ | refine erv rfl ?_ | refine erl rfl ?_ | refine era rfl ?_ | refine erz0 rfl ?_ | refine erz1 rfl ?_)
      try dsimp only [set1, set2, kilP, List.set_cons_zero, List.set_cons_succ, List.getElem?_cons_zero, List.getElem?_cons_succ, List.nil_append, List.cons_append, Option.toList_some, Option.toList_none]
      exact ⟨_, ⟨rfl, rfl⟩, hX9, hF.tr (hF9.wide (lo2 := b) (n2 := 73) (by omega) (by omega)) (by omega) (by omega)⟩
    | 2, _ =>
      repeat (first | refine es rfl rfl rfl ?_ | refine eg rfl (by assumption) rfl ?_ | refine ean rfl (by assumption) (by assumption) rfl ?_ | refine eal rfl (by assumption) (by assumption) rfl ?_ | refine eri rfl ?_ | refine erv rfl ?_ | refine erl rfl ?_ | refine era rfl ?_ | refine erz0 rfl ?_ | refine erz1 rfl ?_)
      try dsimp only [set1, set2, kilP, List.set_cons_zero, List.set_cons_succ, List.getElem?_cons_zero, List.getElem?_cons_succ, List.nil_append, List.cons_append, Option.toList_some, Option.toList_none]
      refine ecv rfl rfl (by assumption) rfl rfl rfl (x_ans hX) (by first | rfl | exact Nat.blt_eq.mpr (by omega)) ?_
      rintro v M9 ⟨rfl, hX9, hF9⟩
      try dsimp only [set1, set2, kilP, List.set_cons_zero, List.set_cons_succ, List.getElem?_cons_zero, List.getElem?_cons_succ, List.nil_append, List.cons_append, Option.toList_some, Option.toList_none]
      repeat (first | refine es rfl rfl rfl ?_ | refine eg rfl (by assumption) rfl ?_ | refine ean rfl (by assumption) (by assumption) rfl ?_ | refine eal rfl (by assumption) (by assumption) rfl ?_ | refine eri rfl ?_ | refine erv rfl ?_ | refine erl rfl ?_ | refine era rfl ?_ | refine erz0 rfl ?_ | refine erz1 rfl ?_)
      try dsimp only [set1, set2, kilP, List.set_cons_zero, List.set_cons_succ, List.getElem?_cons_zero, List.getElem?_cons_succ, List.nil_append, List.cons_append, Option.toList_some, Option.toList_none]
      exact ⟨_, ⟨rfl, rfl⟩, hX9, hF.tr (hF9.wide (lo2 := b) (n2 := 73) (by omega) (by omega)) (by omega) (by omega)⟩
    | 3, _ =>
      repeat (first | refine es rfl rfl rfl ?_ | refine eg rfl (by assumption) rfl ?_ | refine ean rfl (by assumption) (by assumption) rfl ?_ | refine eal rfl (by assumption) (by assumption) rfl ?_ | refine eri rfl ?_ | refine erv rfl ?_ | refine erl rfl ?_ | refine era rfl ?_ | refine erz0 rfl ?_ | refine erz1 rfl ?_)
      try dsimp only [set1, set2, kilP, List.set_cons_zero, List.set_cons_succ, List.getElem?_cons_zero, List.getElem?_cons_succ, List.nil_append, List.cons_append, Option.toList_some, Option.toList_none]
      refine ecr rfl rfl (by assumption) rfl rfl rfl (e3_roomOf hN (by omega)) (by first | rfl | exact Nat.blt_eq.mpr (by omega)) rfl ?_
      repeat (first | refine es rfl rfl rfl ?_ | refine eg rfl (by assumption) rfl ?_ | refine ean rfl (by assumption) (by assumption) rfl ?_ | refine eal rfl (by assumption) (by assumption) rfl ?_ | refine eri rfl ?_ | refine erv rfl ?_ | refine erl rfl ?_ | refine era rfl ?_ | refine erz0 rfl ?_ | refine erz1 rfl ?_)
      try dsimp only [set1, set2, kilP, List.set_cons_zero, List.set_cons_succ, List.getElem?_cons_zero, List.getElem?_cons_succ, List.nil_append, List.cons_append, Option.toList_some, Option.toList_none]
      refine ecv rfl rfl (by assumption) rfl rfl rfl (x_ans hX) (by first | rfl | exact Nat.blt_eq.mpr (by omega)) ?_
      rintro v M9 ⟨rfl, hX9, hF9⟩
      try dsimp only [set1, set2, kilP, List.set_cons_zero, List.set_cons_succ, List.getElem?_cons_zero, List.getElem?_cons_succ, List.nil_append, List.cons_append, Option.toList_some, Option.toList_none]
      repeat (first | refine es rfl rfl rfl ?_ | refine eg rfl (by assumption) rfl ?_ | refine ean rfl (by assumption) (by assumption) rfl ?_ | refine eal rfl (by assumption) (by assumption) rfl ?_ | refine eri rfl ?_ | refine erv rfl ?_ | refine erl rfl ?_ | refine era rfl ?_ | refine erz0 rfl ?_ | refine erz1 rfl ?_)
      try dsimp only [set1, set2, kilP, List.set_cons_zero, List.set_cons_succ, List.getElem?_cons_zero, List.getElem?_cons_succ, List.nil_append, List.cons_append, Option.toList_some, Option.toList_none]
      exact ⟨_, ⟨rfl, rfl⟩, hX9, hF.tr (hF9.wide (lo2 := b) (n2 := 73) (by omega) (by omega)) (by omega) (by omega)⟩
    | 4, _ =>
      repeat (first | refine es rfl rfl rfl ?_ | refine eg rfl (by assumption) rfl ?_ | refine ean rfl (by assumption) (by assumption) rfl ?_ | refine eal rfl (by assumption) (by assumption) rfl ?_ | refine eri rfl ?_ | refine erv rfl ?_ | refine erl rfl ?_ | refine era rfl ?_ | refine erz0 rfl ?_ | refine erz1 rfl ?_)
      try dsimp only [set1, set2, kilP, List.set_cons_zero, List.set_cons_succ, List.getElem?_cons_zero, List.getElem?_cons_succ, List.nil_append, List.cons_append, Option.toList_some, Option.toList_none]
      refine ecr rfl rfl (by assumption) rfl rfl rfl (e3_who hN) (by first | rfl | exact Nat.blt_eq.mpr (by omega)) rfl ?_
      repeat (first | refine es rfl rfl rfl ?_ | refine eg rfl (by assumption) rfl ?_ | refine ean rfl (by assumption) (by assumption) rfl ?_ | refine eal rfl (by assumption) (by assumption) rfl ?_ | refine eri rfl ?_ | refine erv rfl ?_ | refine erl rfl ?_ | refine era rfl ?_ | refine erz0 rfl ?_ | refine erz1 rfl ?_)
      try dsimp only [set1, set2, kilP, List.set_cons_zero, List.set_cons_succ, List.getElem?_cons_zero, List.getElem?_cons_succ, List.nil_append, List.cons_append, Option.toList_some, Option.toList_none]
      refine ecv rfl rfl (by assumption) rfl rfl rfl (x_ans hX) (by first | rfl | exact Nat.blt_eq.mpr (by omega)) ?_
      rintro v M9 ⟨rfl, hX9, hF9⟩
      try dsimp only [set1, set2, kilP, List.set_cons_zero, List.set_cons_succ, List.getElem?_cons_zero, List.getElem?_cons_succ, List.nil_append, List.cons_append, Option.toList_some, Option.toList_none]
      repeat (first | refine es rfl rfl rfl ?_ | refine eg rfl (by assumption) rfl ?_ | refine ean rfl (by assumption) (by assumption) rfl ?_ | refine eal rfl (by assumption) (by assumption) rfl ?_ | refine eri rfl ?_ | refine erv rfl ?_ | refine erl rfl ?_ | refine era rfl ?_ | refine erz0 rfl ?_ | refine erz1 rfl ?_)
      try dsimp only [set1, set2, kilP, List.set_cons_zero, List.set_cons_succ, List.getElem?_cons_zero, List.getElem?_cons_succ, List.nil_append, List.cons_append, Option.toList_some, Option.toList_none]
      exact ⟨_, ⟨rfl, rfl⟩, hX9, hF.tr (hF9.wide (lo2 := b) (n2 := 73) (by omega) (by omega)) (by omega) (by omega)⟩
    | 5, _ =>
      repeat (first | refine es rfl rfl rfl ?_ | refine eg rfl (by assumption) rfl ?_ | refine ean rfl (by assumption) (by assumption) rfl ?_ | refine eal rfl (by assumption) (by assumption) rfl ?_ | refine eri rfl ?_ | refine erv rfl ?_ | refine erl rfl ?_ | refine era rfl ?_ | refine erz0 rfl ?_ | refine erz1 rfl ?_)
      try dsimp only [set1, set2, kilP, List.set_cons_zero, List.set_cons_succ, List.getElem?_cons_zero, List.getElem?_cons_succ, List.nil_append, List.cons_append, Option.toList_some, Option.toList_none]
      refine ecr rfl rfl (by assumption) rfl rfl rfl (e3_isShut hN) (by first | rfl | exact Nat.blt_eq.mpr (by omega)) rfl ?_
      unfold hou
      by_cases c1 : shutI (σ.f 7) k = 1
      · rw [show bI (shutI (σ.f 7) k = 1) = 1 from if_pos c1]
        repeat (first | refine es rfl rfl rfl ?_ | refine eg rfl (by assumption) rfl ?_ | refine ean rfl (by assumption) (by assumption) rfl ?_ | refine eal rfl (by assumption) (by assumption) rfl ?_ | refine eri rfl ?_ | refine erv rfl ?_ | refine erl rfl ?_ | refine era rfl ?_ | refine erz0 rfl ?_ | refine erz1 rfl ?_)
        try dsimp only [set1, set2, kilP, List.set_cons_zero, List.set_cons_succ, List.getElem?_cons_zero, List.getElem?_cons_succ, List.nil_append, List.cons_append, Option.toList_some, Option.toList_none]
        refine ecv rfl rfl (by assumption) rfl rfl rfl (x_ans hX) (by first | rfl | exact Nat.blt_eq.mpr (by omega)) ?_
        rintro v M9 ⟨rfl, hX9, hF9⟩
        try dsimp only [set1, set2, kilP, List.set_cons_zero, List.set_cons_succ, List.getElem?_cons_zero, List.getElem?_cons_succ, List.nil_append, List.cons_append, Option.toList_some, Option.toList_none]
        repeat (first | refine es rfl rfl rfl ?_ | refine eg rfl (by assumption) rfl ?_ | refine ean rfl (by assumption) (by assumption) rfl ?_ | refine eal rfl (by assumption) (by assumption) rfl ?_ | refine eri rfl ?_ | refine erv rfl ?_ | refine erl rfl ?_ | refine era rfl ?_ | refine erz0 rfl ?_ | refine erz1 rfl ?_)
        try dsimp only [set1, set2, kilP, List.set_cons_zero, List.set_cons_succ, List.getElem?_cons_zero, List.getElem?_cons_succ, List.nil_append, List.cons_append, Option.toList_some, Option.toList_none]
        exact ⟨_, ⟨rfl, rfl⟩, hX9, hF.tr (hF9.wide (lo2 := b) (n2 := 73) (by omega) (by omega)) (by omega) (by omega)⟩
      · rw [show bI (shutI (σ.f 7) k = 1) = 0 from if_neg c1]
        repeat (first | refine es rfl rfl rfl ?_ | refine eg rfl (by assumption) rfl ?_ | refine ean rfl (by assumption) (by assumption) rfl ?_ | refine eal rfl (by assumption) (by assumption) rfl ?_ | refine eri rfl ?_ | refine erv rfl ?_ | refine erl rfl ?_ | refine era rfl ?_ | refine erz0 rfl ?_ | refine erz1 rfl ?_)
        try dsimp only [set1, set2, kilP, List.set_cons_zero, List.set_cons_succ, List.getElem?_cons_zero, List.getElem?_cons_succ, List.nil_append, List.cons_append, Option.toList_some, Option.toList_none]
        refine ecv rfl rfl (by assumption) rfl rfl rfl (x_ans hX) (by first | rfl | exact Nat.blt_eq.mpr (by omega)) ?_
        rintro v M9 ⟨rfl, hX9, hF9⟩
        try dsimp only [set1, set2, kilP, List.set_cons_zero, List.set_cons_succ, List.getElem?_cons_zero, List.getElem?_cons_succ, List.nil_append, List.cons_append, Option.toList_some, Option.toList_none]
        repeat (first | refine es rfl rfl rfl ?_ | refine eg rfl (by assumption) rfl ?_ | refine ean rfl (by assumption) (by assumption) rfl ?_ | refine eal rfl (by assumption) (by assumption) rfl ?_ | refine eri rfl ?_ | refine erv rfl ?_ | refine erl rfl ?_ | refine era rfl ?_ | refine erz0 rfl ?_ | refine erz1 rfl ?_)
        try dsimp only [set1, set2, kilP, List.set_cons_zero, List.set_cons_succ, List.getElem?_cons_zero, List.getElem?_cons_succ, List.nil_append, List.cons_append, Option.toList_some, Option.toList_none]
        exact ⟨_, ⟨rfl, rfl⟩, hX9, hF.tr (hF9.wide (lo2 := b) (n2 := 73) (by omega) (by omega)) (by omega) (by omega)⟩
    | n + 6, h => exact absurd h (by omega)
  · rw [if_neg (show ¬ (0 ≤ w ∧ w < 6) from fun h => hd2 h)]
    refine etd rfl (by omega) ?_
    repeat (first | refine es rfl rfl rfl ?_ | refine eg rfl (by assumption) rfl ?_ | refine ean rfl (by assumption) (by assumption) rfl ?_ | refine eal rfl (by assumption) (by assumption) rfl ?_ | refine eri rfl ?_ | refine erv rfl ?_ | refine erl rfl ?_ | refine era rfl ?_ | refine erz0 rfl ?_ | refine erz1 rfl ?_)
    try dsimp only [set1, set2, kilP, List.set_cons_zero, List.set_cons_succ, List.getElem?_cons_zero, List.getElem?_cons_succ, List.nil_append, List.cons_append, Option.toList_some, Option.toList_none]
    refine ecv rfl rfl (by assumption) rfl rfl rfl (x_ref hX) (by first | rfl | exact Nat.blt_eq.mpr (by omega)) ?_
    rintro v M9 ⟨rfl, hX9, hF9⟩
    try dsimp only [set1, set2, kilP, List.set_cons_zero, List.set_cons_succ, List.getElem?_cons_zero, List.getElem?_cons_succ, List.nil_append, List.cons_append, Option.toList_some, Option.toList_none]
    repeat (first | refine es rfl rfl rfl ?_ | refine eg rfl (by assumption) rfl ?_ | refine ean rfl (by assumption) (by assumption) rfl ?_ | refine eal rfl (by assumption) (by assumption) rfl ?_ | refine eri rfl ?_ | refine erv rfl ?_ | refine erl rfl ?_ | refine era rfl ?_ | refine erz0 rfl ?_ | refine erz1 rfl ?_)
    try dsimp only [set1, set2, kilP, List.set_cons_zero, List.set_cons_succ, List.getElem?_cons_zero, List.getElem?_cons_succ, List.nil_append, List.cons_append, Option.toList_some, Option.toList_none]
    exact ⟨_, ⟨rfl, rfl⟩, hX9, hF.tr (hF9.wide (lo2 := b) (n2 := 73) (by omega) (by omega)) (by omega) (by omega)⟩
abbrev dopP (σ : Sg) (k m : Nat) : Prop := (¬ σ.f k = -2 ∧ ¬ shutI (σ.f 7) k = 1) ∧ untF σ.T.hs.fr σ.T.hs.tt k m = 0
theorem x_dop {k m : Nat} (hX : XR M b σ) (hk : k < 7) (hm : m < 2 ^ 31) : Rd ad 2 (iX11_isDoorOpen ad) [.ref b, .int (nI k), .int (nI m)] M (some (.int (bI (dopP σ k m)))) := by
  obtain ⟨tb, sp, hts, h0, hRd, hT, hT2, hN, hTr, hPt, hWy, hFt, hSw, hRt⟩ := id hX
  unfold xTop at h0
  have t0 := hT.1.1
  have s0 := hT.2.1.1
  have s1 := hT.2.2.1.1
  have s2 := hT.2.2.2.1
  have n0 := hN.1
  refine ⟨Nat.le_of_ble_eq_true rfl, ?_⟩
  show Ev ad _ (rX11_isDoorOpen ad) (0, [some (.ref b), some (.int (nI k)), some (.int (nI m))], [], M) _
  repeat (first | refine es rfl rfl rfl ?_ | refine eg rfl (by assumption) rfl ?_ | refine ean rfl (by assumption) (by assumption) rfl ?_ | refine eal rfl (by assumption) (by assumption) rfl ?_ | refine eri rfl ?_ | refine erv rfl ?_ | refine erl rfl ?_ | refine era rfl ?_ | refine erz0 rfl ?_ | refine erz1 rfl ?_)
  try dsimp only [set1, set2, kilP, List.set_cons_zero, List.set_cons_succ, List.getElem?_cons_zero, List.getElem?_cons_succ, List.nil_append, List.cons_append, Option.toList_some, Option.toList_none]
  refine ecr rfl rfl (by assumption) rfl rfl rfl (e3_hasDoor hN hk) (by first | rfl | exact Nat.blt_eq.mpr (by omega)) rfl ?_
  by_cases c : ¬ σ.f k = -2 ∧ ¬ shutI (σ.f 7) k = 1
  rotate_left
  · rw [show bI (¬ σ.f k = -2 ∧ ¬ shutI (σ.f 7) k = 1) = 0 from if_neg c, show bI (dopP σ k m) = 0 from if_neg (fun q => c q.1)]
    repeat (first | refine es rfl rfl rfl ?_ | refine eg rfl (by assumption) rfl ?_ | refine ean rfl (by assumption) (by assumption) rfl ?_ | refine eal rfl (by assumption) (by assumption) rfl ?_ | refine eri rfl ?_ | refine erv rfl ?_ | refine erl rfl ?_ | refine era rfl ?_ | refine erz0 rfl ?_ | refine erz1 rfl ?_)
    try dsimp only [set1, set2, kilP, List.set_cons_zero, List.set_cons_succ, List.getElem?_cons_zero, List.getElem?_cons_succ, List.nil_append, List.cons_append, Option.toList_some, Option.toList_none]
    exact ⟨rfl, rfl⟩
  rw [show bI (¬ σ.f k = -2 ∧ ¬ shutI (σ.f 7) k = 1) = 1 from if_pos c]
  repeat (first | refine es rfl rfl rfl ?_ | refine eg rfl (by assumption) rfl ?_ | refine ean rfl (by assumption) (by assumption) rfl ?_ | refine eal rfl (by assumption) (by assumption) rfl ?_ | refine eri rfl ?_ | refine erv rfl ?_ | refine erl rfl ?_ | refine era rfl ?_ | refine erz0 rfl ?_ | refine erz1 rfl ?_)
  try dsimp only [set1, set2, kilP, List.set_cons_zero, List.set_cons_succ, List.getElem?_cons_zero, List.getElem?_cons_succ, List.nil_append, List.cons_append, Option.toList_some, Option.toList_none]
  refine ecr rfl rfl (by assumption) rfl rfl rfl (e2_until hT.2.1 hk hm) (by first | rfl | exact Nat.blt_eq.mpr (by omega)) rfl ?_
  refine ei _ rfl rfl (fun c2 => ?_) (fun c2 => ?_)
  · repeat (first | refine es rfl rfl rfl ?_ | refine eg rfl (by assumption) rfl ?_ | refine ean rfl (by assumption) (by assumption) rfl ?_ | refine eal rfl (by assumption) (by assumption) rfl ?_ | refine eri rfl ?_ | refine erv rfl ?_ | refine erl rfl ?_ | refine era rfl ?_ | refine erz0 rfl ?_ | refine erz1 rfl ?_)
    try dsimp only [set1, set2, kilP, List.set_cons_zero, List.set_cons_succ, List.getElem?_cons_zero, List.getElem?_cons_succ, List.nil_append, List.cons_append, Option.toList_some, Option.toList_none]
    rw [show bI (dopP σ k m) = 0 from if_neg (fun q => c2 q.2)]
    exact ⟨rfl, rfl⟩
  · repeat (first | refine es rfl rfl rfl ?_ | refine eg rfl (by assumption) rfl ?_ | refine ean rfl (by assumption) (by assumption) rfl ?_ | refine eal rfl (by assumption) (by assumption) rfl ?_ | refine eri rfl ?_ | refine erv rfl ?_ | refine erl rfl ?_ | refine era rfl ?_ | refine erz0 rfl ?_ | refine erz1 rfl ?_)
    try dsimp only [set1, set2, kilP, List.set_cons_zero, List.set_cons_succ, List.getElem?_cons_zero, List.getElem?_cons_succ, List.nil_append, List.cons_append, Option.toList_some, Option.toList_none]
    rw [show bI (dopP σ k m) = 1 from if_pos ⟨c, Decidable.byContradiction c2⟩]
    exact ⟨rfl, rfl⟩
def spOpen (σ : Sg) (x w : Int32) : Option Value → Sg → Prop := if isH σ x then if isM w then an σ (bI (dopP σ x.toNatClampNeg w.toNatClampNeg)) else rf σ 2 else rf σ 1
theorem x_open {x w : Int32} (hX : XR M b σ) (hI : Inv σ C) : EvM ad 3 (iX11_open ad) [.ref b, .int x, .int w] M (Po b M (spOpen σ x w)) := by
  have hn7 := hI.n7
  have hF := Fr.rf b 73 M
  obtain ⟨tb, sp, hts, h0, hRd, hT, hT2, hN, hTr, hPt, hWy, hFt, hSw, hRt⟩ := id hX
  unfold xTop at h0
  have t0 := hT.1.1
  have s0 := hT.2.1.1
  have s1 := hT.2.2.1.1
  have s2 := hT.2.2.2.1
  have n0 := hN.1
  unfold spOpen
  refine ⟨Nat.le_of_ble_eq_true rfl, ?_⟩
  show Ev ad _ (rX11_open ad) (0, [some (.ref b), some (.int x), some (.int w)], [], M) _
  repeat (first | refine es rfl rfl rfl ?_ | refine eg rfl (by assumption) rfl ?_ | refine ean rfl (by assumption) (by assumption) rfl ?_ | refine eal rfl (by assumption) (by assumption) rfl ?_ | refine eri rfl ?_ | refine erv rfl ?_ | refine erl rfl ?_ | refine era rfl ?_ | refine erz0 rfl ?_ | refine erz1 rfl ?_)
  try dsimp only [set1, set2, kilP, List.set_cons_zero, List.set_cons_succ, List.getElem?_cons_zero, List.getElem?_cons_succ, List.nil_append, List.cons_append, Option.toList_some, Option.toList_none]
  refine ecr rfl rfl (by assumption) rfl rfl rfl (x_isH hX) (by first | rfl | exact Nat.blt_eq.mpr (by omega)) rfl ?_
  by_cases c : isH σ x
  rotate_left
  · rw [if_neg c, show bI (isH σ x) = 0 from if_neg c]
    repeat (first | refine es rfl rfl rfl ?_ | refine eg rfl (by assumption) rfl ?_ | refine ean rfl (by assumption) (by assumption) rfl ?_ | refine eal rfl (by assumption) (by assumption) rfl ?_ | refine eri rfl ?_ | refine erv rfl ?_ | refine erl rfl ?_ | refine era rfl ?_ | refine erz0 rfl ?_ | refine erz1 rfl ?_)
    try dsimp only [set1, set2, kilP, List.set_cons_zero, List.set_cons_succ, List.getElem?_cons_zero, List.getElem?_cons_succ, List.nil_append, List.cons_append, Option.toList_some, Option.toList_none]
    refine ecv rfl rfl (by assumption) rfl rfl rfl (x_ref hX) (by first | rfl | exact Nat.blt_eq.mpr (by omega)) ?_
    rintro v M9 ⟨rfl, hX9, hF9⟩
    try dsimp only [set1, set2, kilP, List.set_cons_zero, List.set_cons_succ, List.getElem?_cons_zero, List.getElem?_cons_succ, List.nil_append, List.cons_append, Option.toList_some, Option.toList_none]
    repeat (first | refine es rfl rfl rfl ?_ | refine eg rfl (by assumption) rfl ?_ | refine ean rfl (by assumption) (by assumption) rfl ?_ | refine eal rfl (by assumption) (by assumption) rfl ?_ | refine eri rfl ?_ | refine erv rfl ?_ | refine erl rfl ?_ | refine era rfl ?_ | refine erz0 rfl ?_ | refine erz1 rfl ?_)
    try dsimp only [set1, set2, kilP, List.set_cons_zero, List.set_cons_succ, List.getElem?_cons_zero, List.getElem?_cons_succ, List.nil_append, List.cons_append, Option.toList_some, Option.toList_none]
    exact ⟨_, ⟨rfl, rfl⟩, hX9, hF.tr (hF9.wide (lo2 := b) (n2 := 73) (by omega) (by omega)) (by omega) (by omega)⟩
  rw [if_pos c, show bI (isH σ x) = 1 from if_pos c]
  obtain ⟨k, hk, rfl⟩ := isH_k hn7 c
  have hk7 : k < 7 := by omega
  repeat (first | refine es rfl rfl rfl ?_ | refine eg rfl (by assumption) rfl ?_ | refine ean rfl (by assumption) (by assumption) rfl ?_ | refine eal rfl (by assumption) (by assumption) rfl ?_ | refine eri rfl ?_ | refine erv rfl ?_ | refine erl rfl ?_ | refine era rfl ?_ | refine erz0 rfl ?_ | refine erz1 rfl ?_)
  try dsimp only [set1, set2, kilP, List.set_cons_zero, List.set_cons_succ, List.getElem?_cons_zero, List.getElem?_cons_succ, List.nil_append, List.cons_append, Option.toList_some, Option.toList_none]
  refine ecsr rfl rfl rfl rfl rfl rfl (x_isM) (by first | rfl | exact Nat.blt_eq.mpr (by omega)) rfl ?_
  by_cases c1 : isM w
  rotate_left
  · rw [if_neg c1, show bI (isM w) = 0 from if_neg c1]
    repeat (first | refine es rfl rfl rfl ?_ | refine eg rfl (by assumption) rfl ?_ | refine ean rfl (by assumption) (by assumption) rfl ?_ | refine eal rfl (by assumption) (by assumption) rfl ?_ | refine eri rfl ?_ | refine erv rfl ?_ | refine erl rfl ?_ | refine era rfl ?_ | refine erz0 rfl ?_ | refine erz1 rfl ?_)
    try dsimp only [set1, set2, kilP, List.set_cons_zero, List.set_cons_succ, List.getElem?_cons_zero, List.getElem?_cons_succ, List.nil_append, List.cons_append, Option.toList_some, Option.toList_none]
    refine ecv rfl rfl (by assumption) rfl rfl rfl (x_ref hX) (by first | rfl | exact Nat.blt_eq.mpr (by omega)) ?_
    rintro v M9 ⟨rfl, hX9, hF9⟩
    try dsimp only [set1, set2, kilP, List.set_cons_zero, List.set_cons_succ, List.getElem?_cons_zero, List.getElem?_cons_succ, List.nil_append, List.cons_append, Option.toList_some, Option.toList_none]
    repeat (first | refine es rfl rfl rfl ?_ | refine eg rfl (by assumption) rfl ?_ | refine ean rfl (by assumption) (by assumption) rfl ?_ | refine eal rfl (by assumption) (by assumption) rfl ?_ | refine eri rfl ?_ | refine erv rfl ?_ | refine erl rfl ?_ | refine era rfl ?_ | refine erz0 rfl ?_ | refine erz1 rfl ?_)
    try dsimp only [set1, set2, kilP, List.set_cons_zero, List.set_cons_succ, List.getElem?_cons_zero, List.getElem?_cons_succ, List.nil_append, List.cons_append, Option.toList_some, Option.toList_none]
    exact ⟨_, ⟨rfl, rfl⟩, hX9, hF.tr (hF9.wide (lo2 := b) (n2 := 73) (by omega) (by omega)) (by omega) (by omega)⟩
  rw [if_pos c1, show bI (isM w) = 1 from if_pos c1]
  obtain ⟨m, hm, rfl⟩ := isM_k c1
  rw [nI_clamp (by omega), nI_clamp (by omega)]
  repeat (first | refine es rfl rfl rfl ?_ | refine eg rfl (by assumption) rfl ?_ | refine ean rfl (by assumption) (by assumption) rfl ?_ | refine eal rfl (by assumption) (by assumption) rfl ?_ | refine eri rfl ?_ | refine erv rfl ?_ | refine erl rfl ?_ | refine era rfl ?_ | refine erz0 rfl ?_ | refine erz1 rfl ?_)
  try dsimp only [set1, set2, kilP, List.set_cons_zero, List.set_cons_succ, List.getElem?_cons_zero, List.getElem?_cons_succ, List.nil_append, List.cons_append, Option.toList_some, Option.toList_none]
  refine ecr rfl rfl (by assumption) rfl rfl rfl (x_dop hX hk7 (by omega)) (by first | rfl | exact Nat.blt_eq.mpr (by omega)) rfl ?_
  by_cases c2 : dopP σ k m
  · rw [show bI (dopP σ k m) = 1 from if_pos c2]
    repeat (first | refine es rfl rfl rfl ?_ | refine eg rfl (by assumption) rfl ?_ | refine ean rfl (by assumption) (by assumption) rfl ?_ | refine eal rfl (by assumption) (by assumption) rfl ?_ | refine eri rfl ?_ | refine erv rfl ?_ | refine erl rfl ?_ | refine era rfl ?_ | refine erz0 rfl ?_ | refine erz1 rfl ?_)
    try dsimp only [set1, set2, kilP, List.set_cons_zero, List.set_cons_succ, List.getElem?_cons_zero, List.getElem?_cons_succ, List.nil_append, List.cons_append, Option.toList_some, Option.toList_none]
    refine ecv rfl rfl (by assumption) rfl rfl rfl (x_ans hX) (by first | rfl | exact Nat.blt_eq.mpr (by omega)) ?_
    rintro v M9 ⟨rfl, hX9, hF9⟩
    try dsimp only [set1, set2, kilP, List.set_cons_zero, List.set_cons_succ, List.getElem?_cons_zero, List.getElem?_cons_succ, List.nil_append, List.cons_append, Option.toList_some, Option.toList_none]
    repeat (first | refine es rfl rfl rfl ?_ | refine eg rfl (by assumption) rfl ?_ | refine ean rfl (by assumption) (by assumption) rfl ?_ | refine eal rfl (by assumption) (by assumption) rfl ?_ | refine eri rfl ?_ | refine erv rfl ?_ | refine erl rfl ?_ | refine era rfl ?_ | refine erz0 rfl ?_ | refine erz1 rfl ?_)
    try dsimp only [set1, set2, kilP, List.set_cons_zero, List.set_cons_succ, List.getElem?_cons_zero, List.getElem?_cons_succ, List.nil_append, List.cons_append, Option.toList_some, Option.toList_none]
    exact ⟨_, ⟨rfl, rfl⟩, hX9, hF.tr (hF9.wide (lo2 := b) (n2 := 73) (by omega) (by omega)) (by omega) (by omega)⟩
  · rw [show bI (dopP σ k m) = 0 from if_neg c2]
    repeat (first | refine es rfl rfl rfl ?_ | refine eg rfl (by assumption) rfl ?_ | refine ean rfl (by assumption) (by assumption) rfl ?_ | refine eal rfl (by assumption) (by assumption) rfl ?_ | refine eri rfl ?_ | refine erv rfl ?_ | refine erl rfl ?_ | refine era rfl ?_ | refine erz0 rfl ?_ | refine erz1 rfl ?_)
    try dsimp only [set1, set2, kilP, List.set_cons_zero, List.set_cons_succ, List.getElem?_cons_zero, List.getElem?_cons_succ, List.nil_append, List.cons_append, Option.toList_some, Option.toList_none]
    refine ecv rfl rfl (by assumption) rfl rfl rfl (x_ans hX) (by first | rfl | exact Nat.blt_eq.mpr (by omega)) ?_
    rintro v M9 ⟨rfl, hX9, hF9⟩
    try dsimp only [set1, set2, kilP, List.set_cons_zero, List.set_cons_succ, List.getElem?_cons_zero, List.getElem?_cons_succ, List.nil_append, List.cons_append, Option.toList_some, Option.toList_none]
    repeat (first | refine es rfl rfl rfl ?_ | refine eg rfl (by assumption) rfl ?_ | refine ean rfl (by assumption) (by assumption) rfl ?_ | refine eal rfl (by assumption) (by assumption) rfl ?_ | refine eri rfl ?_ | refine erv rfl ?_ | refine erl rfl ?_ | refine era rfl ?_ | refine erz0 rfl ?_ | refine erz1 rfl ?_)
    try dsimp only [set1, set2, kilP, List.set_cons_zero, List.set_cons_succ, List.getElem?_cons_zero, List.getElem?_cons_succ, List.nil_append, List.cons_append, Option.toList_some, Option.toList_none]
    exact ⟨_, ⟨rfl, rfl⟩, hX9, hF.tr (hF9.wide (lo2 := b) (n2 := 73) (by omega) (by omega)) (by omega) (by omega)⟩
def spStreet (σ : Sg) (x y : Int32) : Option Value → Sg → Prop := if isU σ x y then an σ (if 0 < σ.T.ss.mi (x.toNatClampNeg * 7 + y.toNatClampNeg) then σ.T.ss.mi (x.toNatClampNeg * 7 + y.toNatClampNeg) else -2) else rf σ 1
theorem x_street {x y : Int32} (hX : XR M b σ) (hI : Inv σ C) : EvM ad 3 (iX11_street ad) [.ref b, .int x, .int y] M (Po b M (spStreet σ x y)) := by
  have hn7 := hI.n7
  have hF := Fr.rf b 73 M
  obtain ⟨tb, sp, hts, h0, hRd, hT, hT2, hN, hTr, hPt, hWy, hFt, hSw, hRt⟩ := id hX
  unfold xTop at h0
  have t0 := hT.1.1
  have s0 := hT.2.1.1
  have s1 := hT.2.2.1.1
  have s2 := hT.2.2.2.1
  have n0 := hN.1
  unfold spStreet
  refine ⟨Nat.le_of_ble_eq_true rfl, ?_⟩
  show Ev ad _ (rX11_street ad) (0, [some (.ref b), some (.int x), some (.int y), none], [], M) _
  repeat (first | refine es rfl rfl rfl ?_ | refine eg rfl (by assumption) rfl ?_ | refine ean rfl (by assumption) (by assumption) rfl ?_ | refine eal rfl (by assumption) (by assumption) rfl ?_ | refine eri rfl ?_ | refine erv rfl ?_ | refine erl rfl ?_ | refine era rfl ?_ | refine erz0 rfl ?_ | refine erz1 rfl ?_)
  try dsimp only [set1, set2, kilP, List.set_cons_zero, List.set_cons_succ, List.getElem?_cons_zero, List.getElem?_cons_succ, List.nil_append, List.cons_append, Option.toList_some, Option.toList_none]
  refine ecr rfl rfl (by assumption) rfl rfl rfl (x_unl hX) (by first | rfl | exact Nat.blt_eq.mpr (by omega)) rfl ?_
  by_cases c : isU σ x y
  rotate_left
  · rw [if_neg c, show bI (isU σ x y) = 0 from if_neg c]
    repeat (first | refine es rfl rfl rfl ?_ | refine eg rfl (by assumption) rfl ?_ | refine ean rfl (by assumption) (by assumption) rfl ?_ | refine eal rfl (by assumption) (by assumption) rfl ?_ | refine eri rfl ?_ | refine erv rfl ?_ | refine erl rfl ?_ | refine era rfl ?_ | refine erz0 rfl ?_ | refine erz1 rfl ?_)
    try dsimp only [set1, set2, kilP, List.set_cons_zero, List.set_cons_succ, List.getElem?_cons_zero, List.getElem?_cons_succ, List.nil_append, List.cons_append, Option.toList_some, Option.toList_none]
    refine ecv rfl rfl (by assumption) rfl rfl rfl (x_ref hX) (by first | rfl | exact Nat.blt_eq.mpr (by omega)) ?_
    rintro v M9 ⟨rfl, hX9, hF9⟩
    try dsimp only [set1, set2, kilP, List.set_cons_zero, List.set_cons_succ, List.getElem?_cons_zero, List.getElem?_cons_succ, List.nil_append, List.cons_append, Option.toList_some, Option.toList_none]
    repeat (first | refine es rfl rfl rfl ?_ | refine eg rfl (by assumption) rfl ?_ | refine ean rfl (by assumption) (by assumption) rfl ?_ | refine eal rfl (by assumption) (by assumption) rfl ?_ | refine eri rfl ?_ | refine erv rfl ?_ | refine erl rfl ?_ | refine era rfl ?_ | refine erz0 rfl ?_ | refine erz1 rfl ?_)
    try dsimp only [set1, set2, kilP, List.set_cons_zero, List.set_cons_succ, List.getElem?_cons_zero, List.getElem?_cons_succ, List.nil_append, List.cons_append, Option.toList_some, Option.toList_none]
    exact ⟨_, ⟨rfl, rfl⟩, hX9, hF.tr (hF9.wide (lo2 := b) (n2 := 73) (by omega) (by omega)) (by omega) (by omega)⟩
  rw [if_pos c, show bI (isU σ x y) = 1 from if_pos c]
  obtain ⟨k, j, hk, hj, hne, rfl, rfl⟩ := isU_k hn7 c
  have hk7 : k < 7 := by omega
  have hj7 : j < 7 := by omega
  rw [nI_clamp (by omega), nI_clamp (by omega)]
  repeat (first | refine es rfl rfl rfl ?_ | refine eg rfl (by assumption) rfl ?_ | refine ean rfl (by assumption) (by assumption) rfl ?_ | refine eal rfl (by assumption) (by assumption) rfl ?_ | refine eri rfl ?_ | refine erv rfl ?_ | refine erl rfl ?_ | refine era rfl ?_ | refine erz0 rfl ?_ | refine erz1 rfl ?_)
  try dsimp only [set1, set2, kilP, List.set_cons_zero, List.set_cons_succ, List.getElem?_cons_zero, List.getElem?_cons_succ, List.nil_append, List.cons_append, Option.toList_some, Option.toList_none]
  refine ecr rfl rfl (by assumption) rfl rfl rfl (e7_between hT.2.2.1 hk7 hj7) (by first | rfl | exact Nat.blt_eq.mpr (by omega)) rfl ?_
  repeat (first | refine es rfl rfl rfl ?_ | refine eg rfl (by assumption) rfl ?_ | refine ean rfl (by assumption) (by assumption) rfl ?_ | refine eal rfl (by assumption) (by assumption) rfl ?_ | refine eri rfl ?_ | refine erv rfl ?_ | refine erl rfl ?_ | refine era rfl ?_ | refine erz0 rfl ?_ | refine erz1 rfl ?_)
  try dsimp only [set1, set2, kilP, List.set_cons_zero, List.set_cons_succ, List.getElem?_cons_zero, List.getElem?_cons_succ, List.nil_append, List.cons_append, Option.toList_some, Option.toList_none]
  refine ei _ rfl rfl (fun c2 => ?_) (fun c2 => ?_)
  · rw [if_neg (Int32.not_lt.mpr c2)]
    repeat (first | refine es rfl rfl rfl ?_ | refine eg rfl (by assumption) rfl ?_ | refine ean rfl (by assumption) (by assumption) rfl ?_ | refine eal rfl (by assumption) (by assumption) rfl ?_ | refine eri rfl ?_ | refine erv rfl ?_ | refine erl rfl ?_ | refine era rfl ?_ | refine erz0 rfl ?_ | refine erz1 rfl ?_)
    try dsimp only [set1, set2, kilP, List.set_cons_zero, List.set_cons_succ, List.getElem?_cons_zero, List.getElem?_cons_succ, List.nil_append, List.cons_append, Option.toList_some, Option.toList_none]
    refine ecv rfl rfl (by assumption) rfl rfl rfl (x_ans hX) (by first | rfl | exact Nat.blt_eq.mpr (by omega)) ?_
    rintro v M9 ⟨rfl, hX9, hF9⟩
    try dsimp only [set1, set2, kilP, List.set_cons_zero, List.set_cons_succ, List.getElem?_cons_zero, List.getElem?_cons_succ, List.nil_append, List.cons_append, Option.toList_some, Option.toList_none]
    repeat (first | refine es rfl rfl rfl ?_ | refine eg rfl (by assumption) rfl ?_ | refine ean rfl (by assumption) (by assumption) rfl ?_ | refine eal rfl (by assumption) (by assumption) rfl ?_ | refine eri rfl ?_ | refine erv rfl ?_ | refine erl rfl ?_ | refine era rfl ?_ | refine erz0 rfl ?_ | refine erz1 rfl ?_)
    try dsimp only [set1, set2, kilP, List.set_cons_zero, List.set_cons_succ, List.getElem?_cons_zero, List.getElem?_cons_succ, List.nil_append, List.cons_append, Option.toList_some, Option.toList_none]
    exact ⟨_, ⟨rfl, rfl⟩, hX9, hF.tr (hF9.wide (lo2 := b) (n2 := 73) (by omega) (by omega)) (by omega) (by omega)⟩
  · rw [if_pos (Int32.not_le.mp c2)]
    repeat (first | refine es rfl rfl rfl ?_ | refine eg rfl (by assumption) rfl ?_ | refine ean rfl (by assumption) (by assumption) rfl ?_ | refine eal rfl (by assumption) (by assumption) rfl ?_ | refine eri rfl ?_ | refine erv rfl ?_ | refine erl rfl ?_ | refine era rfl ?_ | refine erz0 rfl ?_ | refine erz1 rfl ?_)
    try dsimp only [set1, set2, kilP, List.set_cons_zero, List.set_cons_succ, List.getElem?_cons_zero, List.getElem?_cons_succ, List.nil_append, List.cons_append, Option.toList_some, Option.toList_none]
    refine ecv rfl rfl (by assumption) rfl rfl rfl (x_ans hX) (by first | rfl | exact Nat.blt_eq.mpr (by omega)) ?_
    rintro v M9 ⟨rfl, hX9, hF9⟩
    try dsimp only [set1, set2, kilP, List.set_cons_zero, List.set_cons_succ, List.getElem?_cons_zero, List.getElem?_cons_succ, List.nil_append, List.cons_append, Option.toList_some, Option.toList_none]
    repeat (first | refine es rfl rfl rfl ?_ | refine eg rfl (by assumption) rfl ?_ | refine ean rfl (by assumption) (by assumption) rfl ?_ | refine eal rfl (by assumption) (by assumption) rfl ?_ | refine eri rfl ?_ | refine erv rfl ?_ | refine erl rfl ?_ | refine era rfl ?_ | refine erz0 rfl ?_ | refine erz1 rfl ?_)
    try dsimp only [set1, set2, kilP, List.set_cons_zero, List.set_cons_succ, List.getElem?_cons_zero, List.getElem?_cons_succ, List.nil_append, List.cons_append, Option.toList_some, Option.toList_none]
    exact ⟨_, ⟨rfl, rfl⟩, hX9, hF.tr (hF9.wide (lo2 := b) (n2 := 73) (by omega) (by omega)) (by omega) (by omega)⟩
def prs (σ : Sg) (p : Nat) : Nat → Int32
  | 0 => σ.T.hm p
  | 1 => σ.f (8 + p)
  | _ => σ.f (12 + p)
def spPerson (σ : Sg) (x w : Int32) : Option Value → Sg → Prop := if isP σ x then if 0 ≤ w ∧ w < 3 then an σ (prs σ x.toNatClampNeg w.toNatClampNeg) else rf σ 1 else rf σ 1
theorem x_person {x w : Int32} (hX : XR M b σ) (hI : Inv σ C) : EvM ad 2 (iX11_person ad) [.ref b, .int x, .int w] M (Po b M (spPerson σ x w)) := by
  have hp4 := hI.p4
  have hF := Fr.rf b 73 M
  obtain ⟨tb, sp, hts, h0, hRd, hT, hT2, hN, hTr, hPt, hWy, hFt, hSw, hRt⟩ := id hX
  unfold xTop at h0
  have t0 := hT.1.1
  have s0 := hT.2.1.1
  have s1 := hT.2.2.1.1
  have s2 := hT.2.2.2.1
  have n0 := hN.1
  have g7 := hT.1.2.2.1
  unfold spPerson
  refine ⟨Nat.le_of_ble_eq_true rfl, ?_⟩
  show Ev ad _ (rX11_person ad) (0, [some (.ref b), some (.int x), some (.int w)], [], M) _
  repeat (first | refine es rfl rfl rfl ?_ | refine eg rfl (by assumption) rfl ?_ | refine ean rfl (by assumption) (by assumption) rfl ?_ | refine eal rfl (by assumption) (by assumption) rfl ?_ | refine eri rfl ?_ | refine erv rfl ?_ | refine erl rfl ?_ | refine era rfl ?_ | refine erz0 rfl ?_ | refine erz1 rfl ?_)
  try dsimp only [set1, set2, kilP, List.set_cons_zero, List.set_cons_succ, List.getElem?_cons_zero, List.getElem?_cons_succ, List.nil_append, List.cons_append, Option.toList_some, Option.toList_none]
  refine ecr rfl rfl (by assumption) rfl rfl rfl (x_isP hX) (by first | rfl | exact Nat.blt_eq.mpr (by omega)) rfl ?_
  by_cases c : isP σ x
  rotate_left
  · rw [if_neg c, show bI (isP σ x) = 0 from if_neg c]
    repeat (first | refine es rfl rfl rfl ?_ | refine eg rfl (by assumption) rfl ?_ | refine ean rfl (by assumption) (by assumption) rfl ?_ | refine eal rfl (by assumption) (by assumption) rfl ?_ | refine eri rfl ?_ | refine erv rfl ?_ | refine erl rfl ?_ | refine era rfl ?_ | refine erz0 rfl ?_ | refine erz1 rfl ?_)
    try dsimp only [set1, set2, kilP, List.set_cons_zero, List.set_cons_succ, List.getElem?_cons_zero, List.getElem?_cons_succ, List.nil_append, List.cons_append, Option.toList_some, Option.toList_none]
    refine ecv rfl rfl (by assumption) rfl rfl rfl (x_ref hX) (by first | rfl | exact Nat.blt_eq.mpr (by omega)) ?_
    rintro v M9 ⟨rfl, hX9, hF9⟩
    try dsimp only [set1, set2, kilP, List.set_cons_zero, List.set_cons_succ, List.getElem?_cons_zero, List.getElem?_cons_succ, List.nil_append, List.cons_append, Option.toList_some, Option.toList_none]
    repeat (first | refine es rfl rfl rfl ?_ | refine eg rfl (by assumption) rfl ?_ | refine ean rfl (by assumption) (by assumption) rfl ?_ | refine eal rfl (by assumption) (by assumption) rfl ?_ | refine eri rfl ?_ | refine erv rfl ?_ | refine erl rfl ?_ | refine era rfl ?_ | refine erz0 rfl ?_ | refine erz1 rfl ?_)
    try dsimp only [set1, set2, kilP, List.set_cons_zero, List.set_cons_succ, List.getElem?_cons_zero, List.getElem?_cons_succ, List.nil_append, List.cons_append, Option.toList_some, Option.toList_none]
    exact ⟨_, ⟨rfl, rfl⟩, hX9, hF.tr (hF9.wide (lo2 := b) (n2 := 73) (by omega) (by omega)) (by omega) (by omega)⟩
  rw [if_pos c, show bI (isP σ x) = 1 from if_pos c]
  obtain ⟨k, hk, rfl⟩ := isP_k hp4 c
  have hk4 : k < 4 := by omega
  repeat (first | refine es rfl rfl rfl ?_ | refine eg rfl (by assumption) rfl ?_ | refine ean rfl (by assumption) (by assumption) rfl ?_ | refine eal rfl (by assumption) (by assumption) rfl ?_ | refine eri rfl ?_ | refine erv rfl ?_ | refine erl rfl ?_ | refine era rfl ?_ | refine erz0 rfl ?_ | refine erz1 rfl ?_)
  try dsimp only [set1, set2, kilP, List.set_cons_zero, List.set_cons_succ, List.getElem?_cons_zero, List.getElem?_cons_succ, List.nil_append, List.cons_append, Option.toList_some, Option.toList_none]
  rcases tabS 3 (by omega) w with ⟨j, hj, rfl⟩ | ⟨hd, hd2⟩
  · rw [if_pos (show (0 : Int32) ≤ nI j ∧ nI j < 3 from in_k (n := 3) (by omega) hj), nI_clamp (by omega), nI_clamp (by omega)]
    match j, hj with
    | 0, _ =>
      repeat (first | refine es rfl rfl rfl ?_ | refine eg rfl (by assumption) rfl ?_ | refine ean rfl (by assumption) (by assumption) rfl ?_ | refine eal rfl (by assumption) (by assumption) rfl ?_ | refine eri rfl ?_ | refine erv rfl ?_ | refine erl rfl ?_ | refine era rfl ?_ | refine erz0 rfl ?_ | refine erz1 rfl ?_)
      try dsimp only [set1, set2, kilP, List.set_cons_zero, List.set_cons_succ, List.getElem?_cons_zero, List.getElem?_cons_succ, List.nil_append, List.cons_append, Option.toList_some, Option.toList_none]
      refine ecv rfl rfl (by assumption) rfl rfl rfl (x_ans hX) (by first | rfl | exact Nat.blt_eq.mpr (by omega)) ?_
      rintro v M9 ⟨rfl, hX9, hF9⟩
      try dsimp only [set1, set2, kilP, List.set_cons_zero, List.set_cons_succ, List.getElem?_cons_zero, List.getElem?_cons_succ, List.nil_append, List.cons_append, Option.toList_some, Option.toList_none]
      repeat (first | refine es rfl rfl rfl ?_ | refine eg rfl (by assumption) rfl ?_ | refine ean rfl (by assumption) (by assumption) rfl ?_ | refine eal rfl (by assumption) (by assumption) rfl ?_ | refine eri rfl ?_ | refine erv rfl ?_ | refine erl rfl ?_ | refine era rfl ?_ | refine erz0 rfl ?_ | refine erz1 rfl ?_)
      try dsimp only [set1, set2, kilP, List.set_cons_zero, List.set_cons_succ, List.getElem?_cons_zero, List.getElem?_cons_succ, List.nil_append, List.cons_append, Option.toList_some, Option.toList_none]
      exact ⟨_, ⟨rfl, rfl⟩, hX9, hF.tr (hF9.wide (lo2 := b) (n2 := 73) (by omega) (by omega)) (by omega) (by omega)⟩
    | 1, _ =>
      repeat (first | refine es rfl rfl rfl ?_ | refine eg rfl (by assumption) rfl ?_ | refine ean rfl (by assumption) (by assumption) rfl ?_ | refine eal rfl (by assumption) (by assumption) rfl ?_ | refine eri rfl ?_ | refine erv rfl ?_ | refine erl rfl ?_ | refine era rfl ?_ | refine erz0 rfl ?_ | refine erz1 rfl ?_)
      try dsimp only [set1, set2, kilP, List.set_cons_zero, List.set_cons_succ, List.getElem?_cons_zero, List.getElem?_cons_succ, List.nil_append, List.cons_append, Option.toList_some, Option.toList_none]
      refine ecr rfl rfl (by assumption) rfl rfl rfl (e3_placeOf hN hk4) (by first | rfl | exact Nat.blt_eq.mpr (by omega)) rfl ?_
      repeat (first | refine es rfl rfl rfl ?_ | refine eg rfl (by assumption) rfl ?_ | refine ean rfl (by assumption) (by assumption) rfl ?_ | refine eal rfl (by assumption) (by assumption) rfl ?_ | refine eri rfl ?_ | refine erv rfl ?_ | refine erl rfl ?_ | refine era rfl ?_ | refine erz0 rfl ?_ | refine erz1 rfl ?_)
      try dsimp only [set1, set2, kilP, List.set_cons_zero, List.set_cons_succ, List.getElem?_cons_zero, List.getElem?_cons_succ, List.nil_append, List.cons_append, Option.toList_some, Option.toList_none]
      refine ecv rfl rfl (by assumption) rfl rfl rfl (x_ans hX) (by first | rfl | exact Nat.blt_eq.mpr (by omega)) ?_
      rintro v M9 ⟨rfl, hX9, hF9⟩
      try dsimp only [set1, set2, kilP, List.set_cons_zero, List.set_cons_succ, List.getElem?_cons_zero, List.getElem?_cons_succ, List.nil_append, List.cons_append, Option.toList_some, Option.toList_none]
      repeat (first | refine es rfl rfl rfl ?_ | refine eg rfl (by assumption) rfl ?_ | refine ean rfl (by assumption) (by assumption) rfl ?_ | refine eal rfl (by assumption) (by assumption) rfl ?_ | refine eri rfl ?_ | refine erv rfl ?_ | refine erl rfl ?_ | refine era rfl ?_ | refine erz0 rfl ?_ | refine erz1 rfl ?_)
      try dsimp only [set1, set2, kilP, List.set_cons_zero, List.set_cons_succ, List.getElem?_cons_zero, List.getElem?_cons_succ, List.nil_append, List.cons_append, Option.toList_some, Option.toList_none]
      exact ⟨_, ⟨rfl, rfl⟩, hX9, hF.tr (hF9.wide (lo2 := b) (n2 := 73) (by omega) (by omega)) (by omega) (by omega)⟩
    | 2, _ =>
      repeat (first | refine es rfl rfl rfl ?_ | refine eg rfl (by assumption) rfl ?_ | refine ean rfl (by assumption) (by assumption) rfl ?_ | refine eal rfl (by assumption) (by assumption) rfl ?_ | refine eri rfl ?_ | refine erv rfl ?_ | refine erl rfl ?_ | refine era rfl ?_ | refine erz0 rfl ?_ | refine erz1 rfl ?_)
      try dsimp only [set1, set2, kilP, List.set_cons_zero, List.set_cons_succ, List.getElem?_cons_zero, List.getElem?_cons_succ, List.nil_append, List.cons_append, Option.toList_some, Option.toList_none]
      refine ecr rfl rfl (by assumption) rfl rfl rfl (e3_minutesOf hN hk4) (by first | rfl | exact Nat.blt_eq.mpr (by omega)) rfl ?_
      repeat (first | refine es rfl rfl rfl ?_ | refine eg rfl (by assumption) rfl ?_ | refine ean rfl (by assumption) (by assumption) rfl ?_ | refine eal rfl (by assumption) (by assumption) rfl ?_ | refine eri rfl ?_ | refine erv rfl ?_ | refine erl rfl ?_ | refine era rfl ?_ | refine erz0 rfl ?_ | refine erz1 rfl ?_)
      try dsimp only [set1, set2, kilP, List.set_cons_zero, List.set_cons_succ, List.getElem?_cons_zero, List.getElem?_cons_succ, List.nil_append, List.cons_append, Option.toList_some, Option.toList_none]
      refine ecv rfl rfl (by assumption) rfl rfl rfl (x_ans hX) (by first | rfl | exact Nat.blt_eq.mpr (by omega)) ?_
      rintro v M9 ⟨rfl, hX9, hF9⟩
      try dsimp only [set1, set2, kilP, List.set_cons_zero, List.set_cons_succ, List.getElem?_cons_zero, List.getElem?_cons_succ, List.nil_append, List.cons_append, Option.toList_some, Option.toList_none]
      repeat (first | refine es rfl rfl rfl ?_ | refine eg rfl (by assumption) rfl ?_ | refine ean rfl (by assumption) (by assumption) rfl ?_ | refine eal rfl (by assumption) (by assumption) rfl ?_ | refine eri rfl ?_ | refine erv rfl ?_ | refine erl rfl ?_ | refine era rfl ?_ | refine erz0 rfl ?_ | refine erz1 rfl ?_)
      try dsimp only [set1, set2, kilP, List.set_cons_zero, List.set_cons_succ, List.getElem?_cons_zero, List.getElem?_cons_succ, List.nil_append, List.cons_append, Option.toList_some, Option.toList_none]
      exact ⟨_, ⟨rfl, rfl⟩, hX9, hF.tr (hF9.wide (lo2 := b) (n2 := 73) (by omega) (by omega)) (by omega) (by omega)⟩
    | n + 3, h => exact absurd h (by omega)
  · rw [if_neg (show ¬ (0 ≤ w ∧ w < 3) from fun h => hd2 h)]
    refine etd rfl (by omega) ?_
    repeat (first | refine es rfl rfl rfl ?_ | refine eg rfl (by assumption) rfl ?_ | refine ean rfl (by assumption) (by assumption) rfl ?_ | refine eal rfl (by assumption) (by assumption) rfl ?_ | refine eri rfl ?_ | refine erv rfl ?_ | refine erl rfl ?_ | refine era rfl ?_ | refine erz0 rfl ?_ | refine erz1 rfl ?_)
    try dsimp only [set1, set2, kilP, List.set_cons_zero, List.set_cons_succ, List.getElem?_cons_zero, List.getElem?_cons_succ, List.nil_append, List.cons_append, Option.toList_some, Option.toList_none]
    refine ecv rfl rfl (by assumption) rfl rfl rfl (x_ref hX) (by first | rfl | exact Nat.blt_eq.mpr (by omega)) ?_
    rintro v M9 ⟨rfl, hX9, hF9⟩
    try dsimp only [set1, set2, kilP, List.set_cons_zero, List.set_cons_succ, List.getElem?_cons_zero, List.getElem?_cons_succ, List.nil_append, List.cons_append, Option.toList_some, Option.toList_none]
    repeat (first | refine es rfl rfl rfl ?_ | refine eg rfl (by assumption) rfl ?_ | refine ean rfl (by assumption) (by assumption) rfl ?_ | refine eal rfl (by assumption) (by assumption) rfl ?_ | refine eri rfl ?_ | refine erv rfl ?_ | refine erl rfl ?_ | refine era rfl ?_ | refine erz0 rfl ?_ | refine erz1 rfl ?_)
    try dsimp only [set1, set2, kilP, List.set_cons_zero, List.set_cons_succ, List.getElem?_cons_zero, List.getElem?_cons_succ, List.nil_append, List.cons_append, Option.toList_some, Option.toList_none]
    exact ⟨_, ⟨rfl, rfl⟩, hX9, hF.tr (hF9.wide (lo2 := b) (n2 := 73) (by omega) (by omega)) (by omega) (by omega)⟩
theorem Inv.ok {σ : Sg} {C : Nat} (h : Inv σ C) : okR σ.f := by
  by_cases q : 0 < σ.T.hs.n
  · exact (h.1 q).2.2.2.2.1.ok h.n7
  · exact fun k hk => Or.inl ((h.2.1 (by omega)).2.1 k hk)
/-- the first number of doors from i on that leads back -/
def cndF (f : Nat → Int32) (k : Nat) : Nat → Nat → Int32
  | 0, _ => -2
  | n + 1, i => if behF f i (nI k) = nI k then nI i else cndF f k n (i + 1)
def spCandle (σ : Sg) (x : Int32) : Option Value → Sg → Prop := if isH σ x then an σ (cndF σ.f x.toNatClampNeg 7 1) else rf σ 1
theorem x_cnd_loop {k : Nat} (hX : XR M b σ) (hI : Inv σ C) (hk : k < 7) : ∀ (n i : Nat), i + n = 8 → 1 ≤ i → Ev ad 2 (rX11_candle ad) (16, [some (.ref b), some (.int (nI k)), some (.int (nI i))], [], M) (Po b M (an σ (cndF σ.f k n i))) := by
  have hF := Fr.rf b 73 M
  intro n
  induction n with
  | zero =>
    intro i hn h1
    obtain ⟨tb, sp, hts, h0, hRd, hT, hT2, hN, hTr, hPt, hWy, hFt, hSw, hRt⟩ := id hX
    unfold xTop at h0
    have t0 := hT.1.1
    have s0 := hT.2.1.1
    have s1 := hT.2.2.1.1
    have s2 := hT.2.2.2.1
    have n0 := hN.1
    repeat (first | refine es rfl rfl rfl ?_ | refine eg rfl (by assumption) rfl ?_ | refine ean rfl (by assumption) (by assumption) rfl ?_ | refine eal rfl (by assumption) (by assumption) rfl ?_ | refine eri rfl ?_ | refine erv rfl ?_ | refine erl rfl ?_ | refine era rfl ?_ | refine erz0 rfl ?_ | refine erz1 rfl ?_)
    try dsimp only [set1, set2, kilP, List.set_cons_zero, List.set_cons_succ, List.getElem?_cons_zero, List.getElem?_cons_succ, List.nil_append, List.cons_append, Option.toList_some, Option.toList_none]
    refine ei _ rfl rfl (fun c => ?_) (fun c => ?_)
    · repeat (first | refine es rfl rfl rfl ?_ | refine eg rfl (by assumption) rfl ?_ | refine ean rfl (by assumption) (by assumption) rfl ?_ | refine eal rfl (by assumption) (by assumption) rfl ?_ | refine eri rfl ?_ | refine erv rfl ?_ | refine erl rfl ?_ | refine era rfl ?_ | refine erz0 rfl ?_ | refine erz1 rfl ?_)
      try dsimp only [set1, set2, kilP, List.set_cons_zero, List.set_cons_succ, List.getElem?_cons_zero, List.getElem?_cons_succ, List.nil_append, List.cons_append, Option.toList_some, Option.toList_none]
      refine ecv rfl rfl (by assumption) rfl rfl rfl (x_ans hX) (by first | rfl | exact Nat.blt_eq.mpr (by omega)) ?_
      rintro v M9 ⟨rfl, hX9, hF9⟩
      try dsimp only [set1, set2, kilP, List.set_cons_zero, List.set_cons_succ, List.getElem?_cons_zero, List.getElem?_cons_succ, List.nil_append, List.cons_append, Option.toList_some, Option.toList_none]
      repeat (first | refine es rfl rfl rfl ?_ | refine eg rfl (by assumption) rfl ?_ | refine ean rfl (by assumption) (by assumption) rfl ?_ | refine eal rfl (by assumption) (by assumption) rfl ?_ | refine eri rfl ?_ | refine erv rfl ?_ | refine erl rfl ?_ | refine era rfl ?_ | refine erz0 rfl ?_ | refine erz1 rfl ?_)
      try dsimp only [set1, set2, kilP, List.set_cons_zero, List.set_cons_succ, List.getElem?_cons_zero, List.getElem?_cons_succ, List.nil_append, List.cons_append, Option.toList_some, Option.toList_none]
      exact ⟨_, ⟨rfl, rfl⟩, hX9, hF.tr (hF9.wide (lo2 := b) (n2 := 73) (by omega) (by omega)) (by omega) (by omega)⟩
    · exact absurd (nI_lt (a := 7) (by omega) (by omega)) c
  | succ n ih =>
    intro i hn h1
    obtain ⟨tb, sp, hts, h0, hRd, hT, hT2, hN, hTr, hPt, hWy, hFt, hSw, hRt⟩ := id hX
    unfold xTop at h0
    have t0 := hT.1.1
    have s0 := hT.2.1.1
    have s1 := hT.2.2.1.1
    have s2 := hT.2.2.2.1
    have n0 := hN.1
    rw [cndF]
    repeat (first | refine es rfl rfl rfl ?_ | refine eg rfl (by assumption) rfl ?_ | refine ean rfl (by assumption) (by assumption) rfl ?_ | refine eal rfl (by assumption) (by assumption) rfl ?_ | refine eri rfl ?_ | refine erv rfl ?_ | refine erl rfl ?_ | refine era rfl ?_ | refine erz0 rfl ?_ | refine erz1 rfl ?_)
    try dsimp only [set1, set2, kilP, List.set_cons_zero, List.set_cons_succ, List.getElem?_cons_zero, List.getElem?_cons_succ, List.nil_append, List.cons_append, Option.toList_some, Option.toList_none]
    refine ei _ rfl rfl (fun c => ?_) (fun c => ?_)
    · exact absurd c (nI_nlt (a := 7) (by omega) (by omega))
    · repeat (first | refine es rfl rfl rfl ?_ | refine eg rfl (by assumption) rfl ?_ | refine ean rfl (by assumption) (by assumption) rfl ?_ | refine eal rfl (by assumption) (by assumption) rfl ?_ | refine eri rfl ?_ | refine erv rfl ?_ | refine erl rfl ?_ | refine era rfl ?_ | refine erz0 rfl ?_ | refine erz1 rfl ?_)
      try dsimp only [set1, set2, kilP, List.set_cons_zero, List.set_cons_succ, List.getElem?_cons_zero, List.getElem?_cons_succ, List.nil_append, List.cons_append, Option.toList_some, Option.toList_none]
      refine ecr rfl rfl (by assumption) rfl rfl rfl (e3_behind hN hI.ok hk (show i < 100 by omega)) (by first | rfl | exact Nat.blt_eq.mpr (by omega)) rfl ?_
      repeat (first | refine es rfl rfl rfl ?_ | refine eg rfl (by assumption) rfl ?_ | refine ean rfl (by assumption) (by assumption) rfl ?_ | refine eal rfl (by assumption) (by assumption) rfl ?_ | refine eri rfl ?_ | refine erv rfl ?_ | refine erl rfl ?_ | refine era rfl ?_ | refine erz0 rfl ?_ | refine erz1 rfl ?_)
      try dsimp only [set1, set2, kilP, List.set_cons_zero, List.set_cons_succ, List.getElem?_cons_zero, List.getElem?_cons_succ, List.nil_append, List.cons_append, Option.toList_some, Option.toList_none]
      refine ei _ rfl rfl (fun c2 => ?_) (fun c2 => ?_)
      · rw [if_neg c2]
        repeat (refine ng 16 rfl ?_; first | refine es rfl rfl rfl ?_ | refine eg rfl (by assumption) rfl ?_ | refine ean rfl (by assumption) (by assumption) rfl ?_ | refine eal rfl (by assumption) (by assumption) rfl ?_ | refine eri rfl ?_ | refine erv rfl ?_ | refine erl rfl ?_ | refine era rfl ?_ | refine erz0 rfl ?_ | refine erz1 rfl ?_)
        try dsimp only [set1, set2, kilP, List.set_cons_zero, List.set_cons_succ, List.getElem?_cons_zero, List.getElem?_cons_succ, List.nil_append, List.cons_append, Option.toList_some, Option.toList_none]
        rw [nI_1]
        exact ih (i + 1) (by omega) (by omega)
      · rw [if_pos (Decidable.byContradiction c2)]
        repeat (first | refine es rfl rfl rfl ?_ | refine eg rfl (by assumption) rfl ?_ | refine ean rfl (by assumption) (by assumption) rfl ?_ | refine eal rfl (by assumption) (by assumption) rfl ?_ | refine eri rfl ?_ | refine erv rfl ?_ | refine erl rfl ?_ | refine era rfl ?_ | refine erz0 rfl ?_ | refine erz1 rfl ?_)
        try dsimp only [set1, set2, kilP, List.set_cons_zero, List.set_cons_succ, List.getElem?_cons_zero, List.getElem?_cons_succ, List.nil_append, List.cons_append, Option.toList_some, Option.toList_none]
        refine ecv rfl rfl (by assumption) rfl rfl rfl (x_ans hX) (by first | rfl | exact Nat.blt_eq.mpr (by omega)) ?_
        rintro v M9 ⟨rfl, hX9, hF9⟩
        try dsimp only [set1, set2, kilP, List.set_cons_zero, List.set_cons_succ, List.getElem?_cons_zero, List.getElem?_cons_succ, List.nil_append, List.cons_append, Option.toList_some, Option.toList_none]
        repeat (first | refine es rfl rfl rfl ?_ | refine eg rfl (by assumption) rfl ?_ | refine ean rfl (by assumption) (by assumption) rfl ?_ | refine eal rfl (by assumption) (by assumption) rfl ?_ | refine eri rfl ?_ | refine erv rfl ?_ | refine erl rfl ?_ | refine era rfl ?_ | refine erz0 rfl ?_ | refine erz1 rfl ?_)
        try dsimp only [set1, set2, kilP, List.set_cons_zero, List.set_cons_succ, List.getElem?_cons_zero, List.getElem?_cons_succ, List.nil_append, List.cons_append, Option.toList_some, Option.toList_none]
        exact ⟨_, ⟨rfl, rfl⟩, hX9, hF.tr (hF9.wide (lo2 := b) (n2 := 73) (by omega) (by omega)) (by omega) (by omega)⟩
theorem x_candle {x : Int32} (hX : XR M b σ) (hI : Inv σ C) : EvM ad 2 (iX11_candle ad) [.ref b, .int x] M (Po b M (spCandle σ x)) := by
  have hn7 := hI.n7
  have hF := Fr.rf b 73 M
  obtain ⟨tb, sp, hts, h0, hRd, hT, hT2, hN, hTr, hPt, hWy, hFt, hSw, hRt⟩ := id hX
  unfold xTop at h0
  have t0 := hT.1.1
  have s0 := hT.2.1.1
  have s1 := hT.2.2.1.1
  have s2 := hT.2.2.2.1
  have n0 := hN.1
  unfold spCandle
  refine ⟨Nat.le_of_ble_eq_true rfl, ?_⟩
  show Ev ad _ (rX11_candle ad) (0, [some (.ref b), some (.int x), none], [], M) _
  repeat (first | refine es rfl rfl rfl ?_ | refine eg rfl (by assumption) rfl ?_ | refine ean rfl (by assumption) (by assumption) rfl ?_ | refine eal rfl (by assumption) (by assumption) rfl ?_ | refine eri rfl ?_ | refine erv rfl ?_ | refine erl rfl ?_ | refine era rfl ?_ | refine erz0 rfl ?_ | refine erz1 rfl ?_)
  try dsimp only [set1, set2, kilP, List.set_cons_zero, List.set_cons_succ, List.getElem?_cons_zero, List.getElem?_cons_succ, List.nil_append, List.cons_append, Option.toList_some, Option.toList_none]
  refine ecr rfl rfl (by assumption) rfl rfl rfl (x_isH hX) (by first | rfl | exact Nat.blt_eq.mpr (by omega)) rfl ?_
  by_cases c : isH σ x
  rotate_left
  · rw [if_neg c, show bI (isH σ x) = 0 from if_neg c]
    repeat (first | refine es rfl rfl rfl ?_ | refine eg rfl (by assumption) rfl ?_ | refine ean rfl (by assumption) (by assumption) rfl ?_ | refine eal rfl (by assumption) (by assumption) rfl ?_ | refine eri rfl ?_ | refine erv rfl ?_ | refine erl rfl ?_ | refine era rfl ?_ | refine erz0 rfl ?_ | refine erz1 rfl ?_)
    try dsimp only [set1, set2, kilP, List.set_cons_zero, List.set_cons_succ, List.getElem?_cons_zero, List.getElem?_cons_succ, List.nil_append, List.cons_append, Option.toList_some, Option.toList_none]
    refine ecv rfl rfl (by assumption) rfl rfl rfl (x_ref hX) (by first | rfl | exact Nat.blt_eq.mpr (by omega)) ?_
    rintro v M9 ⟨rfl, hX9, hF9⟩
    try dsimp only [set1, set2, kilP, List.set_cons_zero, List.set_cons_succ, List.getElem?_cons_zero, List.getElem?_cons_succ, List.nil_append, List.cons_append, Option.toList_some, Option.toList_none]
    repeat (first | refine es rfl rfl rfl ?_ | refine eg rfl (by assumption) rfl ?_ | refine ean rfl (by assumption) (by assumption) rfl ?_ | refine eal rfl (by assumption) (by assumption) rfl ?_ | refine eri rfl ?_ | refine erv rfl ?_ | refine erl rfl ?_ | refine era rfl ?_ | refine erz0 rfl ?_ | refine erz1 rfl ?_)
    try dsimp only [set1, set2, kilP, List.set_cons_zero, List.set_cons_succ, List.getElem?_cons_zero, List.getElem?_cons_succ, List.nil_append, List.cons_append, Option.toList_some, Option.toList_none]
    exact ⟨_, ⟨rfl, rfl⟩, hX9, hF.tr (hF9.wide (lo2 := b) (n2 := 73) (by omega) (by omega)) (by omega) (by omega)⟩
  rw [if_pos c, show bI (isH σ x) = 1 from if_pos c]
  obtain ⟨k, hk, rfl⟩ := isH_k hn7 c
  have hk7 : k < 7 := by omega
  rw [nI_clamp (by omega)]
  repeat (refine ng 16 rfl ?_; first | refine es rfl rfl rfl ?_ | refine eg rfl (by assumption) rfl ?_ | refine ean rfl (by assumption) (by assumption) rfl ?_ | refine eal rfl (by assumption) (by assumption) rfl ?_ | refine eri rfl ?_ | refine erv rfl ?_ | refine erl rfl ?_ | refine era rfl ?_ | refine erz0 rfl ?_ | refine erz1 rfl ?_)
  try dsimp only [set1, set2, kilP, List.set_cons_zero, List.set_cons_succ, List.getElem?_cons_zero, List.getElem?_cons_succ, List.nil_append, List.cons_append, Option.toList_some, Option.toList_none]
  exact x_cnd_loop hX hI hk7 7 1 rfl (by omega)
def spCandleAt (σ : Sg) (x w : Int32) : Option Value → Sg → Prop := if isH σ x then if 0 ≤ w ∧ w < 10 then an σ (behF σ.f w.toNatClampNeg x) else rf σ 2 else rf σ 1
theorem x_candleAt {x w : Int32} (hX : XR M b σ) (hI : Inv σ C) : EvM ad 2 (iX11_candleAt ad) [.ref b, .int x, .int w] M (Po b M (spCandleAt σ x w)) := by
  have hn7 := hI.n7
  have hF := Fr.rf b 73 M
  obtain ⟨tb, sp, hts, h0, hRd, hT, hT2, hN, hTr, hPt, hWy, hFt, hSw, hRt⟩ := id hX
  unfold xTop at h0
  have t0 := hT.1.1
  have s0 := hT.2.1.1
  have s1 := hT.2.2.1.1
  have s2 := hT.2.2.2.1
  have n0 := hN.1
  unfold spCandleAt
  refine ⟨Nat.le_of_ble_eq_true rfl, ?_⟩
  show Ev ad _ (rX11_candleAt ad) (0, [some (.ref b), some (.int x), some (.int w)], [], M) _
  repeat (first | refine es rfl rfl rfl ?_ | refine eg rfl (by assumption) rfl ?_ | refine ean rfl (by assumption) (by assumption) rfl ?_ | refine eal rfl (by assumption) (by assumption) rfl ?_ | refine eri rfl ?_ | refine erv rfl ?_ | refine erl rfl ?_ | refine era rfl ?_ | refine erz0 rfl ?_ | refine erz1 rfl ?_)
  try dsimp only [set1, set2, kilP, List.set_cons_zero, List.set_cons_succ, List.getElem?_cons_zero, List.getElem?_cons_succ, List.nil_append, List.cons_append, Option.toList_some, Option.toList_none]
  refine ecr rfl rfl (by assumption) rfl rfl rfl (x_isH hX) (by first | rfl | exact Nat.blt_eq.mpr (by omega)) rfl ?_
  by_cases c : isH σ x
  rotate_left
  · rw [if_neg c, show bI (isH σ x) = 0 from if_neg c]
    repeat (first | refine es rfl rfl rfl ?_ | refine eg rfl (by assumption) rfl ?_ | refine ean rfl (by assumption) (by assumption) rfl ?_ | refine eal rfl (by assumption) (by assumption) rfl ?_ | refine eri rfl ?_ | refine erv rfl ?_ | refine erl rfl ?_ | refine era rfl ?_ | refine erz0 rfl ?_ | refine erz1 rfl ?_)
    try dsimp only [set1, set2, kilP, List.set_cons_zero, List.set_cons_succ, List.getElem?_cons_zero, List.getElem?_cons_succ, List.nil_append, List.cons_append, Option.toList_some, Option.toList_none]
    refine ecv rfl rfl (by assumption) rfl rfl rfl (x_ref hX) (by first | rfl | exact Nat.blt_eq.mpr (by omega)) ?_
    rintro v M9 ⟨rfl, hX9, hF9⟩
    try dsimp only [set1, set2, kilP, List.set_cons_zero, List.set_cons_succ, List.getElem?_cons_zero, List.getElem?_cons_succ, List.nil_append, List.cons_append, Option.toList_some, Option.toList_none]
    repeat (first | refine es rfl rfl rfl ?_ | refine eg rfl (by assumption) rfl ?_ | refine ean rfl (by assumption) (by assumption) rfl ?_ | refine eal rfl (by assumption) (by assumption) rfl ?_ | refine eri rfl ?_ | refine erv rfl ?_ | refine erl rfl ?_ | refine era rfl ?_ | refine erz0 rfl ?_ | refine erz1 rfl ?_)
    try dsimp only [set1, set2, kilP, List.set_cons_zero, List.set_cons_succ, List.getElem?_cons_zero, List.getElem?_cons_succ, List.nil_append, List.cons_append, Option.toList_some, Option.toList_none]
    exact ⟨_, ⟨rfl, rfl⟩, hX9, hF.tr (hF9.wide (lo2 := b) (n2 := 73) (by omega) (by omega)) (by omega) (by omega)⟩
  rw [if_pos c, show bI (isH σ x) = 1 from if_pos c]
  obtain ⟨k, hk, rfl⟩ := isH_k hn7 c
  have hk7 : k < 7 := by omega
  repeat (first | refine es rfl rfl rfl ?_ | refine eg rfl (by assumption) rfl ?_ | refine ean rfl (by assumption) (by assumption) rfl ?_ | refine eal rfl (by assumption) (by assumption) rfl ?_ | refine eri rfl ?_ | refine erv rfl ?_ | refine erl rfl ?_ | refine era rfl ?_ | refine erz0 rfl ?_ | refine erz1 rfl ?_)
  try dsimp only [set1, set2, kilP, List.set_cons_zero, List.set_cons_succ, List.getElem?_cons_zero, List.getElem?_cons_succ, List.nil_append, List.cons_append, Option.toList_some, Option.toList_none]
  by_cases h : 0 ≤ w ∧ w < 10
  · rw [if_pos h]
    obtain ⟨j, hj, rfl⟩ := nI_0k (n := 10) (by omega) h
    rw [nI_clamp (by omega)]
    refine ei _ rfl rfl (fun c1 => ?_) (fun c1 => ?_)
    · exact absurd c1 (nI_pos (by omega))
    · repeat (first | refine es rfl rfl rfl ?_ | refine eg rfl (by assumption) rfl ?_ | refine ean rfl (by assumption) (by assumption) rfl ?_ | refine eal rfl (by assumption) (by assumption) rfl ?_ | refine eri rfl ?_ | refine erv rfl ?_ | refine erl rfl ?_ | refine era rfl ?_ | refine erz0 rfl ?_ | refine erz1 rfl ?_)
      try dsimp only [set1, set2, kilP, List.set_cons_zero, List.set_cons_succ, List.getElem?_cons_zero, List.getElem?_cons_succ, List.nil_append, List.cons_append, Option.toList_some, Option.toList_none]
      refine ei _ rfl rfl (fun c2 => ?_) (fun c2 => ?_)
      · repeat (first | refine es rfl rfl rfl ?_ | refine eg rfl (by assumption) rfl ?_ | refine ean rfl (by assumption) (by assumption) rfl ?_ | refine eal rfl (by assumption) (by assumption) rfl ?_ | refine eri rfl ?_ | refine erv rfl ?_ | refine erl rfl ?_ | refine era rfl ?_ | refine erz0 rfl ?_ | refine erz1 rfl ?_)
        try dsimp only [set1, set2, kilP, List.set_cons_zero, List.set_cons_succ, List.getElem?_cons_zero, List.getElem?_cons_succ, List.nil_append, List.cons_append, Option.toList_some, Option.toList_none]
        refine ecr rfl rfl (by assumption) rfl rfl rfl (e3_behind hN hI.ok hk7 (show j < 100 by omega)) (by first | rfl | exact Nat.blt_eq.mpr (by omega)) rfl ?_
        repeat (first | refine es rfl rfl rfl ?_ | refine eg rfl (by assumption) rfl ?_ | refine ean rfl (by assumption) (by assumption) rfl ?_ | refine eal rfl (by assumption) (by assumption) rfl ?_ | refine eri rfl ?_ | refine erv rfl ?_ | refine erl rfl ?_ | refine era rfl ?_ | refine erz0 rfl ?_ | refine erz1 rfl ?_)
        try dsimp only [set1, set2, kilP, List.set_cons_zero, List.set_cons_succ, List.getElem?_cons_zero, List.getElem?_cons_succ, List.nil_append, List.cons_append, Option.toList_some, Option.toList_none]
        refine ecv rfl rfl (by assumption) rfl rfl rfl (x_ans hX) (by first | rfl | exact Nat.blt_eq.mpr (by omega)) ?_
        rintro v M9 ⟨rfl, hX9, hF9⟩
        try dsimp only [set1, set2, kilP, List.set_cons_zero, List.set_cons_succ, List.getElem?_cons_zero, List.getElem?_cons_succ, List.nil_append, List.cons_append, Option.toList_some, Option.toList_none]
        repeat (first | refine es rfl rfl rfl ?_ | refine eg rfl (by assumption) rfl ?_ | refine ean rfl (by assumption) (by assumption) rfl ?_ | refine eal rfl (by assumption) (by assumption) rfl ?_ | refine eri rfl ?_ | refine erv rfl ?_ | refine erl rfl ?_ | refine era rfl ?_ | refine erz0 rfl ?_ | refine erz1 rfl ?_)
        try dsimp only [set1, set2, kilP, List.set_cons_zero, List.set_cons_succ, List.getElem?_cons_zero, List.getElem?_cons_succ, List.nil_append, List.cons_append, Option.toList_some, Option.toList_none]
        exact ⟨_, ⟨rfl, rfl⟩, hX9, hF.tr (hF9.wide (lo2 := b) (n2 := 73) (by omega) (by omega)) (by omega) (by omega)⟩
      · exact absurd (nI_le (b := 9) (by omega) (by omega)) c2
  · rw [if_neg h]
    refine ei _ rfl rfl (fun c1 => ?_) (fun c1 => ?_)
    · repeat (first | refine es rfl rfl rfl ?_ | refine eg rfl (by assumption) rfl ?_ | refine ean rfl (by assumption) (by assumption) rfl ?_ | refine eal rfl (by assumption) (by assumption) rfl ?_ | refine eri rfl ?_ | refine erv rfl ?_ | refine erl rfl ?_ | refine era rfl ?_ | refine erz0 rfl ?_ | refine erz1 rfl ?_)
      try dsimp only [set1, set2, kilP, List.set_cons_zero, List.set_cons_succ, List.getElem?_cons_zero, List.getElem?_cons_succ, List.nil_append, List.cons_append, Option.toList_some, Option.toList_none]
      refine ecv rfl rfl (by assumption) rfl rfl rfl (x_ref hX) (by first | rfl | exact Nat.blt_eq.mpr (by omega)) ?_
      rintro v M9 ⟨rfl, hX9, hF9⟩
      try dsimp only [set1, set2, kilP, List.set_cons_zero, List.set_cons_succ, List.getElem?_cons_zero, List.getElem?_cons_succ, List.nil_append, List.cons_append, Option.toList_some, Option.toList_none]
      repeat (first | refine es rfl rfl rfl ?_ | refine eg rfl (by assumption) rfl ?_ | refine ean rfl (by assumption) (by assumption) rfl ?_ | refine eal rfl (by assumption) (by assumption) rfl ?_ | refine eri rfl ?_ | refine erv rfl ?_ | refine erl rfl ?_ | refine era rfl ?_ | refine erz0 rfl ?_ | refine erz1 rfl ?_)
      try dsimp only [set1, set2, kilP, List.set_cons_zero, List.set_cons_succ, List.getElem?_cons_zero, List.getElem?_cons_succ, List.nil_append, List.cons_append, Option.toList_some, Option.toList_none]
      exact ⟨_, ⟨rfl, rfl⟩, hX9, hF.tr (hF9.wide (lo2 := b) (n2 := 73) (by omega) (by omega)) (by omega) (by omega)⟩
    · repeat (first | refine es rfl rfl rfl ?_ | refine eg rfl (by assumption) rfl ?_ | refine ean rfl (by assumption) (by assumption) rfl ?_ | refine eal rfl (by assumption) (by assumption) rfl ?_ | refine eri rfl ?_ | refine erv rfl ?_ | refine erl rfl ?_ | refine era rfl ?_ | refine erz0 rfl ?_ | refine erz1 rfl ?_)
      try dsimp only [set1, set2, kilP, List.set_cons_zero, List.set_cons_succ, List.getElem?_cons_zero, List.getElem?_cons_succ, List.nil_append, List.cons_append, Option.toList_some, Option.toList_none]
      refine ei _ rfl rfl (fun c2 => ?_) (fun c2 => ?_)
      · exfalso
        exact h ⟨Int32.not_lt.mp c1, Int32.lt_of_le_of_lt c2 (by decide)⟩
      · repeat (first | refine es rfl rfl rfl ?_ | refine eg rfl (by assumption) rfl ?_ | refine ean rfl (by assumption) (by assumption) rfl ?_ | refine eal rfl (by assumption) (by assumption) rfl ?_ | refine eri rfl ?_ | refine erv rfl ?_ | refine erl rfl ?_ | refine era rfl ?_ | refine erz0 rfl ?_ | refine erz1 rfl ?_)
        try dsimp only [set1, set2, kilP, List.set_cons_zero, List.set_cons_succ, List.getElem?_cons_zero, List.getElem?_cons_succ, List.nil_append, List.cons_append, Option.toList_some, Option.toList_none]
        refine ecv rfl rfl (by assumption) rfl rfl rfl (x_ref hX) (by first | rfl | exact Nat.blt_eq.mpr (by omega)) ?_
        rintro v M9 ⟨rfl, hX9, hF9⟩
        try dsimp only [set1, set2, kilP, List.set_cons_zero, List.set_cons_succ, List.getElem?_cons_zero, List.getElem?_cons_succ, List.nil_append, List.cons_append, Option.toList_some, Option.toList_none]
        repeat (first | refine es rfl rfl rfl ?_ | refine eg rfl (by assumption) rfl ?_ | refine ean rfl (by assumption) (by assumption) rfl ?_ | refine eal rfl (by assumption) (by assumption) rfl ?_ | refine eri rfl ?_ | refine erv rfl ?_ | refine erl rfl ?_ | refine era rfl ?_ | refine erz0 rfl ?_ | refine erz1 rfl ?_)
        try dsimp only [set1, set2, kilP, List.set_cons_zero, List.set_cons_succ, List.getElem?_cons_zero, List.getElem?_cons_succ, List.nil_append, List.cons_append, Option.toList_some, Option.toList_none]
        exact ⟨_, ⟨rfl, rfl⟩, hX9, hF.tr (hF9.wide (lo2 := b) (n2 := 73) (by omega) (by omega)) (by omega) (by omega)⟩
def spMutual (σ : Sg) : Option Value → Sg → Prop := if σ.T.hs.n = 0 then rf σ 1 else an σ (mbF σ.f 7)
theorem x_mutual (hX : XR M b σ) (hI : Inv σ C) : EvM ad 2 (iX11_mutual ad) [.ref b] M (Po b M (spMutual σ)) := by
  have hn7 := hI.n7
  have hF := Fr.rf b 73 M
  obtain ⟨tb, sp, hts, h0, hRd, hT, hT2, hN, hTr, hPt, hWy, hFt, hSw, hRt⟩ := id hX
  unfold xTop at h0
  have t0 := hT.1.1
  have s0 := hT.2.1.1
  have s1 := hT.2.2.1.1
  have s2 := hT.2.2.2.1
  have n0 := hN.1
  unfold spMutual
  refine ⟨Nat.le_of_ble_eq_true rfl, ?_⟩
  show Ev ad _ (rX11_mutual ad) (0, [some (.ref b)], [], M) _
  repeat (first | refine es rfl rfl rfl ?_ | refine eg rfl (by assumption) rfl ?_ | refine ean rfl (by assumption) (by assumption) rfl ?_ | refine eal rfl (by assumption) (by assumption) rfl ?_ | refine eri rfl ?_ | refine erv rfl ?_ | refine erl rfl ?_ | refine era rfl ?_ | refine erz0 rfl ?_ | refine erz1 rfl ?_)
  try dsimp only [set1, set2, kilP, List.set_cons_zero, List.set_cons_succ, List.getElem?_cons_zero, List.getElem?_cons_succ, List.nil_append, List.cons_append, Option.toList_some, Option.toList_none]
  refine ecr rfl rfl (by assumption) rfl rfl rfl (x_noT hX (by omega)) (by first | rfl | exact Nat.blt_eq.mpr (by omega)) rfl ?_
  by_cases hno : σ.T.hs.n = 0
  · rw [if_pos hno, show bI (σ.T.hs.n = 0) = 1 from if_pos hno]
    repeat (first | refine es rfl rfl rfl ?_ | refine eg rfl (by assumption) rfl ?_ | refine ean rfl (by assumption) (by assumption) rfl ?_ | refine eal rfl (by assumption) (by assumption) rfl ?_ | refine eri rfl ?_ | refine erv rfl ?_ | refine erl rfl ?_ | refine era rfl ?_ | refine erz0 rfl ?_ | refine erz1 rfl ?_)
    try dsimp only [set1, set2, kilP, List.set_cons_zero, List.set_cons_succ, List.getElem?_cons_zero, List.getElem?_cons_succ, List.nil_append, List.cons_append, Option.toList_some, Option.toList_none]
    refine ecv rfl rfl (by assumption) rfl rfl rfl (x_ref hX) (by first | rfl | exact Nat.blt_eq.mpr (by omega)) ?_
    rintro v M9 ⟨rfl, hX9, hF9⟩
    try dsimp only [set1, set2, kilP, List.set_cons_zero, List.set_cons_succ, List.getElem?_cons_zero, List.getElem?_cons_succ, List.nil_append, List.cons_append, Option.toList_some, Option.toList_none]
    repeat (first | refine es rfl rfl rfl ?_ | refine eg rfl (by assumption) rfl ?_ | refine ean rfl (by assumption) (by assumption) rfl ?_ | refine eal rfl (by assumption) (by assumption) rfl ?_ | refine eri rfl ?_ | refine erv rfl ?_ | refine erl rfl ?_ | refine era rfl ?_ | refine erz0 rfl ?_ | refine erz1 rfl ?_)
    try dsimp only [set1, set2, kilP, List.set_cons_zero, List.set_cons_succ, List.getElem?_cons_zero, List.getElem?_cons_succ, List.nil_append, List.cons_append, Option.toList_some, Option.toList_none]
    exact ⟨_, ⟨rfl, rfl⟩, hX9, hF.tr (hF9.wide (lo2 := b) (n2 := 73) (by omega) (by omega)) (by omega) (by omega)⟩
  rw [if_neg hno, show bI (σ.T.hs.n = 0) = 0 from if_neg hno]
  repeat (first | refine es rfl rfl rfl ?_ | refine eg rfl (by assumption) rfl ?_ | refine ean rfl (by assumption) (by assumption) rfl ?_ | refine eal rfl (by assumption) (by assumption) rfl ?_ | refine eri rfl ?_ | refine erv rfl ?_ | refine erl rfl ?_ | refine era rfl ?_ | refine erz0 rfl ?_ | refine erz1 rfl ?_)
  try dsimp only [set1, set2, kilP, List.set_cons_zero, List.set_cons_succ, List.getElem?_cons_zero, List.getElem?_cons_succ, List.nil_append, List.cons_append, Option.toList_some, Option.toList_none]
  refine ecr rfl rfl (by assumption) rfl rfl rfl (e3_mbits hN hI.ok) (by first | rfl | exact Nat.blt_eq.mpr (by omega)) rfl ?_
  repeat (first | refine es rfl rfl rfl ?_ | refine eg rfl (by assumption) rfl ?_ | refine ean rfl (by assumption) (by assumption) rfl ?_ | refine eal rfl (by assumption) (by assumption) rfl ?_ | refine eri rfl ?_ | refine erv rfl ?_ | refine erl rfl ?_ | refine era rfl ?_ | refine erz0 rfl ?_ | refine erz1 rfl ?_)
  try dsimp only [set1, set2, kilP, List.set_cons_zero, List.set_cons_succ, List.getElem?_cons_zero, List.getElem?_cons_succ, List.nil_append, List.cons_append, Option.toList_some, Option.toList_none]
  refine ecv rfl rfl (by assumption) rfl rfl rfl (x_ans hX) (by first | rfl | exact Nat.blt_eq.mpr (by omega)) ?_
  rintro v M9 ⟨rfl, hX9, hF9⟩
  try dsimp only [set1, set2, kilP, List.set_cons_zero, List.set_cons_succ, List.getElem?_cons_zero, List.getElem?_cons_succ, List.nil_append, List.cons_append, Option.toList_some, Option.toList_none]
  repeat (first | refine es rfl rfl rfl ?_ | refine eg rfl (by assumption) rfl ?_ | refine ean rfl (by assumption) (by assumption) rfl ?_ | refine eal rfl (by assumption) (by assumption) rfl ?_ | refine eri rfl ?_ | refine erv rfl ?_ | refine erl rfl ?_ | refine era rfl ?_ | refine erz0 rfl ?_ | refine erz1 rfl ?_)
  try dsimp only [set1, set2, kilP, List.set_cons_zero, List.set_cons_succ, List.getElem?_cons_zero, List.getElem?_cons_succ, List.nil_append, List.cons_append, Option.toList_some, Option.toList_none]
  exact ⟨_, ⟨rfl, rfl⟩, hX9, hF.tr (hF9.wide (lo2 := b) (n2 := 73) (by omega) (by omega)) (by omega) (by omega)⟩
def judF (σ : Sg) : Nat → Nat → Int32
  | 0, _ => -2
  | n + 1, s => if σ.f (σ.T.cs.sh s).toNatClampNeg = -2 ∨ ¬ σ.T.hs.sm (σ.f (σ.T.cs.sh s).toNatClampNeg).toNatClampNeg = σ.T.cs.ss s then nI s else judF σ n (s + 1)
def spJudge (σ : Sg) : Option Value → Sg → Prop := if σ.T.hs.n = 0 then rf σ 1 else an σ (judF σ σ.T.cs.sg 0)
theorem x_jud_loop (hX : XR M b σ) (hI : Inv σ C) (hno : ¬ σ.T.hs.n = 0) : ∀ (n i : Nat) (tb : Nat) (L3 : Option Value), xTop M b tb σ.tr → i + n = σ.T.cs.sg → Ev ad 2 (rX11_judge ad) (23, [some (.ref b), some (.ref (tb + 14)), some (.int (nI i)), L3], [], M) (Po b M (an σ (judF σ n i))) := by
  have hF := Fr.rf b 73 M
  have hn7 := hI.n7
  have hI1 := hI.1 (by omega)
  have hs8 : σ.T.cs.sg ≤ 8 := hI1.1.1.1.2.2.2.1
  intro n
  induction n with
  | zero =>
    intro i tb L3 htop hn
    have htop' := htop
    unfold xTop at htop
    obtain ⟨tb2, sp, hts, h0, hRd, hT, hT2, hN, hrest⟩ := id hX
    unfold xTop at h0
    obtain rfl : tb2 = tb := by
      have h9 := h0.symm.trans htop
      injection h9 with h9
      injection h9 with h9
      injection h9 with h8 h9
      injection h9 with _ h9
      injection h9 with h9 _
      injection h9
    have s2 := hT.2.2.2.1
    rw [judF]
    repeat (first | refine es rfl rfl rfl ?_ | refine eg rfl (by assumption) rfl ?_ | refine ean rfl (by assumption) (by assumption) rfl ?_ | refine eal rfl (by assumption) (by assumption) rfl ?_ | refine eri rfl ?_ | refine erv rfl ?_ | refine erl rfl ?_ | refine era rfl ?_ | refine erz0 rfl ?_ | refine erz1 rfl ?_)
    try dsimp only [set1, set2, kilP, List.set_cons_zero, List.set_cons_succ, List.getElem?_cons_zero, List.getElem?_cons_succ, List.nil_append, List.cons_append, Option.toList_some, Option.toList_none]
    refine ei _ rfl rfl (fun c => ?_) (fun c => ?_)
    · repeat (first | refine es rfl rfl rfl ?_ | refine eg rfl (by assumption) rfl ?_ | refine ean rfl (by assumption) (by assumption) rfl ?_ | refine eal rfl (by assumption) (by assumption) rfl ?_ | refine eri rfl ?_ | refine erv rfl ?_ | refine erl rfl ?_ | refine era rfl ?_ | refine erz0 rfl ?_ | refine erz1 rfl ?_)
      try dsimp only [set1, set2, kilP, List.set_cons_zero, List.set_cons_succ, List.getElem?_cons_zero, List.getElem?_cons_succ, List.nil_append, List.cons_append, Option.toList_some, Option.toList_none]
      refine ecv rfl rfl (by assumption) rfl rfl rfl (x_ans hX) (by first | rfl | exact Nat.blt_eq.mpr (by omega)) ?_
      rintro v M9 ⟨rfl, hX9, hF9⟩
      try dsimp only [set1, set2, kilP, List.set_cons_zero, List.set_cons_succ, List.getElem?_cons_zero, List.getElem?_cons_succ, List.nil_append, List.cons_append, Option.toList_some, Option.toList_none]
      repeat (first | refine es rfl rfl rfl ?_ | refine eg rfl (by assumption) rfl ?_ | refine ean rfl (by assumption) (by assumption) rfl ?_ | refine eal rfl (by assumption) (by assumption) rfl ?_ | refine eri rfl ?_ | refine erv rfl ?_ | refine erl rfl ?_ | refine era rfl ?_ | refine erz0 rfl ?_ | refine erz1 rfl ?_)
      try dsimp only [set1, set2, kilP, List.set_cons_zero, List.set_cons_succ, List.getElem?_cons_zero, List.getElem?_cons_succ, List.nil_append, List.cons_append, Option.toList_some, Option.toList_none]
      exact ⟨_, ⟨rfl, rfl⟩, hX9, hF.tr (hF9.wide (lo2 := b) (n2 := 73) (by omega) (by omega)) (by omega) (by omega)⟩
    · exact absurd (nI_le (a := σ.T.cs.sg) (by omega) (by omega)) c
  | succ n ih =>
    intro i tb L3 htop hn
    have htop' := htop
    unfold xTop at htop
    obtain ⟨tb2, sp, hts, h0, hRd, hT, hT2, hN, hrest⟩ := id hX
    unfold xTop at h0
    obtain rfl : tb2 = tb := by
      have h9 := h0.symm.trans htop
      injection h9 with h9
      injection h9 with h9
      injection h9 with h8 h9
      injection h9 with _ h9
      injection h9 with h9 _
      injection h9
    have t0 := hT.1.1
    have s0 := hT.2.1.1
    obtain ⟨s2, s3, s4, s5, s6⟩ := hT.2.2.2
    have g5 := hT.2.1.2.2.2.2.2.1
    have n0 := hN.1
    have hi : i < 8 := by omega
    obtain ⟨k, hk, ek⟩ := hI1.1.2.2.2.2.2.2.2.1 i (by omega)
    rw [judF, ek, nI_clamp (by omega)]
    repeat (first | refine es rfl rfl rfl ?_ | refine eg rfl (by assumption) rfl ?_ | refine ean rfl (by assumption) (by assumption) rfl ?_ | refine eal rfl (by assumption) (by assumption) rfl ?_ | refine eri rfl ?_ | refine erv rfl ?_ | refine erl rfl ?_ | refine era rfl ?_ | refine erz0 rfl ?_ | refine erz1 rfl ?_)
    try dsimp only [set1, set2, kilP, List.set_cons_zero, List.set_cons_succ, List.getElem?_cons_zero, List.getElem?_cons_succ, List.nil_append, List.cons_append, Option.toList_some, Option.toList_none]
    refine ei _ rfl rfl (fun c => ?_) (fun c => ?_)
    · exact absurd c (nI_ge (b := σ.T.cs.sg) (by omega) (by omega))
    · repeat (first | refine es rfl rfl rfl ?_ | refine eg rfl (by assumption) rfl ?_ | refine ean rfl (by assumption) (by assumption) rfl ?_ | refine eal rfl (by assumption) (by assumption) rfl ?_ | refine eri rfl ?_ | refine erv rfl ?_ | refine erl rfl ?_ | refine era rfl ?_ | refine erz0 rfl ?_ | refine erz1 rfl ?_)
      try dsimp only [set1, set2, kilP, List.set_cons_zero, List.set_cons_succ, List.getElem?_cons_zero, List.getElem?_cons_succ, List.nil_append, List.cons_append, Option.toList_some, Option.toList_none]
      rw [ek]
      refine ecr rfl rfl (by assumption) rfl rfl rfl (e3_roomOf hN (by omega)) (by first | rfl | exact Nat.blt_eq.mpr (by omega)) rfl ?_
      repeat (first | refine es rfl rfl rfl ?_ | refine eg rfl (by assumption) rfl ?_ | refine ean rfl (by assumption) (by assumption) rfl ?_ | refine eal rfl (by assumption) (by assumption) rfl ?_ | refine eri rfl ?_ | refine erv rfl ?_ | refine erl rfl ?_ | refine era rfl ?_ | refine erz0 rfl ?_ | refine erz1 rfl ?_)
      try dsimp only [set1, set2, kilP, List.set_cons_zero, List.set_cons_succ, List.getElem?_cons_zero, List.getElem?_cons_succ, List.nil_append, List.cons_append, Option.toList_some, Option.toList_none]
      refine ei _ rfl rfl (fun c2 => ?_) (fun c2 => ?_)
      · rw [if_pos (Or.inl c2)]
        repeat (first | refine es rfl rfl rfl ?_ | refine eg rfl (by assumption) rfl ?_ | refine ean rfl (by assumption) (by assumption) rfl ?_ | refine eal rfl (by assumption) (by assumption) rfl ?_ | refine eri rfl ?_ | refine erv rfl ?_ | refine erl rfl ?_ | refine era rfl ?_ | refine erz0 rfl ?_ | refine erz1 rfl ?_)
        try dsimp only [set1, set2, kilP, List.set_cons_zero, List.set_cons_succ, List.getElem?_cons_zero, List.getElem?_cons_succ, List.nil_append, List.cons_append, Option.toList_some, Option.toList_none]
        refine ecv rfl rfl (by assumption) rfl rfl rfl (x_ans hX) (by first | rfl | exact Nat.blt_eq.mpr (by omega)) ?_
        rintro v M9 ⟨rfl, hX9, hF9⟩
        try dsimp only [set1, set2, kilP, List.set_cons_zero, List.set_cons_succ, List.getElem?_cons_zero, List.getElem?_cons_succ, List.nil_append, List.cons_append, Option.toList_some, Option.toList_none]
        repeat (first | refine es rfl rfl rfl ?_ | refine eg rfl (by assumption) rfl ?_ | refine ean rfl (by assumption) (by assumption) rfl ?_ | refine eal rfl (by assumption) (by assumption) rfl ?_ | refine eri rfl ?_ | refine erv rfl ?_ | refine erl rfl ?_ | refine era rfl ?_ | refine erz0 rfl ?_ | refine erz1 rfl ?_)
        try dsimp only [set1, set2, kilP, List.set_cons_zero, List.set_cons_succ, List.getElem?_cons_zero, List.getElem?_cons_succ, List.nil_append, List.cons_append, Option.toList_some, Option.toList_none]
        exact ⟨_, ⟨rfl, rfl⟩, hX9, hF.tr (hF9.wide (lo2 := b) (n2 := 73) (by omega) (by omega)) (by omega) (by omega)⟩
      · rcases hI1.2.2.2.2.1.1 k (by omega) with q | ⟨q, j, q2, q3⟩
        · exact absurd q c2
        · have hj7 : j < 7 := by omega
          rw [q3, nI_clamp (by omega)]
          repeat (first | refine es rfl rfl rfl ?_ | refine eg rfl (by assumption) rfl ?_ | refine ean rfl (by assumption) (by assumption) rfl ?_ | refine eal rfl (by assumption) (by assumption) rfl ?_ | refine eri rfl ?_ | refine erv rfl ?_ | refine erl rfl ?_ | refine era rfl ?_ | refine erz0 rfl ?_ | refine erz1 rfl ?_)
          try dsimp only [set1, set2, kilP, List.set_cons_zero, List.set_cons_succ, List.getElem?_cons_zero, List.getElem?_cons_succ, List.nil_append, List.cons_append, Option.toList_some, Option.toList_none]
          by_cases c3 : σ.T.hs.sm j = σ.T.cs.ss i
          · rw [if_neg (fun h => h.elim (nI_n2 (by omega)) (fun h => h c3))]
            refine ei _ rfl rfl (fun c4 => ?_) (fun c4 => ?_)
            · repeat (refine ng 23 rfl ?_; first | refine es rfl rfl rfl ?_ | refine eg rfl (by assumption) rfl ?_ | refine ean rfl (by assumption) (by assumption) rfl ?_ | refine eal rfl (by assumption) (by assumption) rfl ?_ | refine eri rfl ?_ | refine erv rfl ?_ | refine erl rfl ?_ | refine era rfl ?_ | refine erz0 rfl ?_ | refine erz1 rfl ?_)
              try dsimp only [set1, set2, kilP, List.set_cons_zero, List.set_cons_succ, List.getElem?_cons_zero, List.getElem?_cons_succ, List.nil_append, List.cons_append, Option.toList_some, Option.toList_none]
              rw [nI_1]
              exact ih (i + 1) tb2 _ htop' (by omega)
            · exact absurd (lcmp_eq.mpr c3) c4
          · rw [if_pos (Or.inr c3)]
            refine ei _ rfl rfl (fun c4 => ?_) (fun c4 => ?_)
            · exact absurd (lcmp_eq.mp c4) c3
            · repeat (first | refine es rfl rfl rfl ?_ | refine eg rfl (by assumption) rfl ?_ | refine ean rfl (by assumption) (by assumption) rfl ?_ | refine eal rfl (by assumption) (by assumption) rfl ?_ | refine eri rfl ?_ | refine erv rfl ?_ | refine erl rfl ?_ | refine era rfl ?_ | refine erz0 rfl ?_ | refine erz1 rfl ?_)
              try dsimp only [set1, set2, kilP, List.set_cons_zero, List.set_cons_succ, List.getElem?_cons_zero, List.getElem?_cons_succ, List.nil_append, List.cons_append, Option.toList_some, Option.toList_none]
              refine ecv rfl rfl (by assumption) rfl rfl rfl (x_ans hX) (by first | rfl | exact Nat.blt_eq.mpr (by omega)) ?_
              rintro v M9 ⟨rfl, hX9, hF9⟩
              try dsimp only [set1, set2, kilP, List.set_cons_zero, List.set_cons_succ, List.getElem?_cons_zero, List.getElem?_cons_succ, List.nil_append, List.cons_append, Option.toList_some, Option.toList_none]
              repeat (first | refine es rfl rfl rfl ?_ | refine eg rfl (by assumption) rfl ?_ | refine ean rfl (by assumption) (by assumption) rfl ?_ | refine eal rfl (by assumption) (by assumption) rfl ?_ | refine eri rfl ?_ | refine erv rfl ?_ | refine erl rfl ?_ | refine era rfl ?_ | refine erz0 rfl ?_ | refine erz1 rfl ?_)
              try dsimp only [set1, set2, kilP, List.set_cons_zero, List.set_cons_succ, List.getElem?_cons_zero, List.getElem?_cons_succ, List.nil_append, List.cons_append, Option.toList_some, Option.toList_none]
              exact ⟨_, ⟨rfl, rfl⟩, hX9, hF.tr (hF9.wide (lo2 := b) (n2 := 73) (by omega) (by omega)) (by omega) (by omega)⟩
theorem x_judge (hX : XR M b σ) (hI : Inv σ C) : EvM ad 2 (iX11_judge ad) [.ref b] M (Po b M (spJudge σ)) := by
  have hn7 := hI.n7
  have hF := Fr.rf b 73 M
  obtain ⟨tb, sp, hts, h0, hRd, hT, hT2, hN, hTr, hPt, hWy, hFt, hSw, hRt⟩ := id hX
  unfold xTop at h0
  have t0 := hT.1.1
  have s0 := hT.2.1.1
  have s1 := hT.2.2.1.1
  have s2 := hT.2.2.2.1
  have n0 := hN.1
  unfold spJudge
  refine ⟨Nat.le_of_ble_eq_true rfl, ?_⟩
  show Ev ad _ (rX11_judge ad) (0, [some (.ref b), none, none, none], [], M) _
  repeat (first | refine es rfl rfl rfl ?_ | refine eg rfl (by assumption) rfl ?_ | refine ean rfl (by assumption) (by assumption) rfl ?_ | refine eal rfl (by assumption) (by assumption) rfl ?_ | refine eri rfl ?_ | refine erv rfl ?_ | refine erl rfl ?_ | refine era rfl ?_ | refine erz0 rfl ?_ | refine erz1 rfl ?_)
  try dsimp only [set1, set2, kilP, List.set_cons_zero, List.set_cons_succ, List.getElem?_cons_zero, List.getElem?_cons_succ, List.nil_append, List.cons_append, Option.toList_some, Option.toList_none]
  refine ecr rfl rfl (by assumption) rfl rfl rfl (x_noT hX (by omega)) (by first | rfl | exact Nat.blt_eq.mpr (by omega)) rfl ?_
  by_cases hno : σ.T.hs.n = 0
  · rw [if_pos hno, show bI (σ.T.hs.n = 0) = 1 from if_pos hno]
    repeat (first | refine es rfl rfl rfl ?_ | refine eg rfl (by assumption) rfl ?_ | refine ean rfl (by assumption) (by assumption) rfl ?_ | refine eal rfl (by assumption) (by assumption) rfl ?_ | refine eri rfl ?_ | refine erv rfl ?_ | refine erl rfl ?_ | refine era rfl ?_ | refine erz0 rfl ?_ | refine erz1 rfl ?_)
    try dsimp only [set1, set2, kilP, List.set_cons_zero, List.set_cons_succ, List.getElem?_cons_zero, List.getElem?_cons_succ, List.nil_append, List.cons_append, Option.toList_some, Option.toList_none]
    refine ecv rfl rfl (by assumption) rfl rfl rfl (x_ref hX) (by first | rfl | exact Nat.blt_eq.mpr (by omega)) ?_
    rintro v M9 ⟨rfl, hX9, hF9⟩
    try dsimp only [set1, set2, kilP, List.set_cons_zero, List.set_cons_succ, List.getElem?_cons_zero, List.getElem?_cons_succ, List.nil_append, List.cons_append, Option.toList_some, Option.toList_none]
    repeat (first | refine es rfl rfl rfl ?_ | refine eg rfl (by assumption) rfl ?_ | refine ean rfl (by assumption) (by assumption) rfl ?_ | refine eal rfl (by assumption) (by assumption) rfl ?_ | refine eri rfl ?_ | refine erv rfl ?_ | refine erl rfl ?_ | refine era rfl ?_ | refine erz0 rfl ?_ | refine erz1 rfl ?_)
    try dsimp only [set1, set2, kilP, List.set_cons_zero, List.set_cons_succ, List.getElem?_cons_zero, List.getElem?_cons_succ, List.nil_append, List.cons_append, Option.toList_some, Option.toList_none]
    exact ⟨_, ⟨rfl, rfl⟩, hX9, hF.tr (hF9.wide (lo2 := b) (n2 := 73) (by omega) (by omega)) (by omega) (by omega)⟩
  rw [if_neg hno, show bI (σ.T.hs.n = 0) = 0 from if_neg hno]
  repeat (refine ng 23 rfl ?_; first | refine es rfl rfl rfl ?_ | refine eg rfl (by assumption) rfl ?_ | refine ean rfl (by assumption) (by assumption) rfl ?_ | refine eal rfl (by assumption) (by assumption) rfl ?_ | refine eri rfl ?_ | refine erv rfl ?_ | refine erl rfl ?_ | refine era rfl ?_ | refine erz0 rfl ?_ | refine erz1 rfl ?_)
  try dsimp only [set1, set2, kilP, List.set_cons_zero, List.set_cons_succ, List.getElem?_cons_zero, List.getElem?_cons_succ, List.nil_append, List.cons_append, Option.toList_some, Option.toList_none]
  exact x_jud_loop hX hI hno σ.T.cs.sg 0 tb _ h0 (by omega)
end FACE
