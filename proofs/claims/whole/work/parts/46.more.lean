/-! The class's methods: exchanges, stands, rents, builders -/
theorem sinF_len {rc : (Nat → Int32) → Sk → Sk} (hr : ∀ t s, s.2.2.1 ≤ 3 → (rc t s).2.2.1 ≤ 3) (tr : Nat → Int32) (dp h : Nat) : ∀ n g s, s.2.2.1 ≤ 3 → (sinF rc tr dp h n g s).2.2.1 ≤ 3
  | 0, _, s, hs => hs
  | n + 1, g, s, hs => by
    rw [sinF]
    apply sinF_len hr tr dp h n (g + 1)
    split
    · exact hr _ _ hs
    · exact hs
theorem souF_len {rc : (Nat → Int32) → Sk → Sk} (hr : ∀ t s, s.2.2.1 ≤ 3 → (rc t s).2.2.1 ≤ 3) (tr : Nat → Int32) (dp : Nat) : ∀ n h s, s.2.2.1 ≤ 3 → (souF rc tr dp n h s).2.2.1 ≤ 3
  | 0, _, s, hs => hs
  | n + 1, h, s, hs => by
    rw [souF]
    exact souF_len hr tr dp n (h + 1) _ (sinF_len hr tr dp h _ _ s hs)
theorem seaF_len : ∀ n dp tr s, dp + n ≤ 3 → s.2.2.1 ≤ 3 → (seaF n dp tr s).2.2.1 ≤ 3
  | 0, dp, tr, s, hd, hs => by
    rw [seaF]
    split
    · exact hs
    · exact hd
  | n + 1, dp, tr, s, hd, hs => by
    rw [seaF]
    split
    · exact hs
    · exact souF_len (fun t s hs => seaF_len n (dp + 1) t s (by omega) hs) tr dp 7 0 s hs
theorem fbF_len (tr : Nat → Int32) : ∀ n k s, k + n ≤ 4 → s.2.2.1 ≤ 3 → (fbF tr n k s).2.2.1 ≤ 3
  | 0, _, s, _, hs => hs
  | n + 1, k, s, hk, hs => by
    rw [fbF]
    exact fbF_len tr n (k + 1) _ (by omega) (seaF_len k 0 tr s (by omega) hs)
theorem sea0_len (tr r0 b0 : Nat → Int32) (n0 : Nat) : (seaF 0 0 tr (r0, b0, n0, -1)).2.2.1 ≤ 3 := by
  rw [seaF, if_neg]
  · exact Nat.zero_le _
  · refine Int32.not_le.mpr ?_
    rw [Int32.lt_iff_toInt_lt, nI_toInt (by have := popc_7 (mbN tr 7); omega)]
    have : (-1 : Int32).toInt = -1 := by decide
    show (-1 : Int32).toInt < _
    omega
theorem fb_s (tr : Nat → Int32) (n k : Nat) (s : Sk) : fbF tr (n + 1) k s = fbF tr n (k + 1) (seaF k 0 tr s) := by rw [fbF]
theorem bestR_len {f : Nat → Int32} {s : Sk} (h : bestR f s) : s.2.2.1 ≤ 3 := by
  obtain ⟨tr, r0, b0, n0, _, e⟩ := h
  have h1 := sea0_len tr r0 b0 n0
  rw [fb_s tr 3 0] at e
  rw [e]
  generalize seaF 0 0 tr (r0, b0, n0, -1) = s1 at h1
  exact fbF_len tr 3 (0 + 1) s1 (by omega) h1
section MORE
variable {ad : Nat → Nat} {M : Mm} {b : Nat} {σ : Sg} {C : Nat}
theorem x_find {sw : Sw} (hX : XR M b σ) (hI : Inv σ C) (hw : aSw M (b + 64) sw) (hr : swR sw) (hN : aNw M (b + 48) σ.f) : EvM ad 6 (iX8_findBest ad) [.ref (b + 64), .ref (b + 48)] M (fun v' M' => v' = none ∧ (∃ w, aSw M' (b + 64) w ∧ bestR σ.f w.2.2.2) ∧ XR M' b σ ∧ Fr (b + 64) 6 M M') := by
  refine (e8_find hw hN hI.ok hr.1 (Or.inl (by omega))).im (fun v M' ⟨e, hc, hF⟩ => ?_)
  rcases hc with ⟨e1, hs, hw1⟩ | ⟨ff, tr, s, hs, hb, hw1⟩
  · have hbr : bestR σ.f sw.2.2.2 := by
      obtain ⟨tr, r0, b0, n0, h1, h2⟩ := hr.2 e1
      exact ⟨tr, r0, b0, n0, fun j hj => (h1 j hj).trans (hs j hj), h2⟩
    exact ⟨e, ⟨sw, hw1, hbr⟩, hX.sw hF hw1 hr, hF⟩
  · refine ⟨e, ⟨_, hw1, hb⟩, hX.sw hF hw1 ⟨Or.inr rfl, fun _ => ?_⟩, hF⟩
    obtain ⟨tr, r0, b0, n0, h1, h2⟩ := hb
    exact ⟨tr, r0, b0, n0, fun j hj => (h1 j hj).trans (hs j hj).symm, h2⟩
def spSw (σ : Sg) (g : Sk → Int32) : Option Value → Sg → Prop := if σ.T.hs.n = 0 then rf σ 1 else fun v σ' => ∃ s, bestR σ.f s ∧ an σ (g s) v σ'
theorem x_paired (hX : XR M b σ) (hI : Inv σ C) : EvM ad 7 (iX11_paired ad) [.ref b] M (Po b M (spSw σ (fun s => s.2.2.2))) := by
  have hn7 := hI.n7
  have hF := Fr.rf b 73 M
  obtain ⟨tb, sp, hts, h0, hRd, hT, hT2, hN, hTr, hPt, hWy, hFt, hSw, hRt⟩ := id hX
  unfold xTop at h0
  have t0 := hT.1.1
  have s0 := hT.2.1.1
  have s1 := hT.2.2.1.1
  have s2 := hT.2.2.2.1
  have n0 := hN.1
  obtain ⟨sw, hw, hr⟩ := hSw
  have w0 := hw.1
  unfold spSw
  refine ⟨Nat.le_of_ble_eq_true rfl, ?_⟩
  show Ev ad _ (rX11_paired ad) (0, [some (.ref b)], [], M) _
  repeat (first | refine es rfl rfl rfl ?_ | refine eg rfl (by assumption) rfl ?_ | refine ean rfl (by assumption) (by assumption) rfl ?_ | refine eal rfl (by assumption) (by assumption) rfl ?_ | refine eri rfl ?_ | refine erv rfl ?_ | refine erl rfl ?_ | refine era rfl ?_ | refine erz0 rfl ?_ | refine erz1 rfl ?_)
  try dsimp only [set1, set2, kilP, List.set_cons_zero, List.set_cons_succ, List.getElem?_cons_zero, List.getElem?_cons_succ, List.nil_append, List.cons_append, Option.toList_some, Option.toList_none]
  refine ecr rfl rfl (by assumption) rfl rfl rfl (x_noT hX (by omega)) (by first | rfl | exact Nat.blt_eq.mpr (by omega)) rfl ?_
  by_cases hno : σ.T.hs.n = 0
  · rw [if_pos hno, show bI (σ.T.hs.n = 0) = 1 from if_pos hno]
    repeat (first | refine es rfl rfl rfl ?_ | refine eg rfl (by assumption) rfl ?_ | refine ean rfl (by assumption) (by assumption) rfl ?_ | refine eal rfl (by assumption) (by assumption) rfl ?_ | refine eri rfl ?_ | refine erv rfl ?_ | refine erl rfl ?_ | refine era rfl ?_ | refine erz0 rfl ?_ | refine erz1 rfl ?_)
    try dsimp only [set1, set2, kilP, List.set_cons_zero, List.set_cons_succ, List.getElem?_cons_zero, List.getElem?_cons_succ, List.nil_append, List.cons_append, Option.toList_some, Option.toList_none]
    refine ecv rfl rfl (by assumption) rfl rfl rfl (x_ref hX) (by first | rfl | exact Nat.blt_eq.mpr (by omega)) ?_
    rintro v M9 ⟨rfl, hX9, hF9⟩
    try dsimp only [set1, set2, kilP, List.set_cons_zero, List.set_cons_succ, List.getElem?_cons_zero, List.getElem?_cons_succ, List.nil_append, List.cons_append, Option.toList_some, Option.toList_none]
    repeat (first | refine es rfl rfl rfl ?_ | refine eg rfl (by assumption) rfl ?_ | refine ean rfl (by assumption) (by assumption) rfl ?_ | refine eal rfl (by assumption) (by assumption) rfl ?_ | refine eri rfl ?_ | refine erv rfl ?_ | refine erl rfl ?_ | refine era rfl ?_ | refine erz0 rfl ?_ | refine erz1 rfl ?_)
    try dsimp only [set1, set2, kilP, List.set_cons_zero, List.set_cons_succ, List.getElem?_cons_zero, List.getElem?_cons_succ, List.nil_append, List.cons_append, Option.toList_some, Option.toList_none]
    exact ⟨_, ⟨rfl, rfl⟩, hX9, hF.tr (hF9.wide (lo2 := b) (n2 := 73) (by omega) (by omega)) (by omega) (by omega)⟩
  rw [if_neg hno, show bI (σ.T.hs.n = 0) = 0 from if_neg hno]
  repeat (first | refine es rfl rfl rfl ?_ | refine eg rfl (by assumption) rfl ?_ | refine ean rfl (by assumption) (by assumption) rfl ?_ | refine eal rfl (by assumption) (by assumption) rfl ?_ | refine eri rfl ?_ | refine erv rfl ?_ | refine erl rfl ?_ | refine era rfl ?_ | refine erz0 rfl ?_ | refine erz1 rfl ?_)
  try dsimp only [set1, set2, kilP, List.set_cons_zero, List.set_cons_succ, List.getElem?_cons_zero, List.getElem?_cons_succ, List.nil_append, List.cons_append, Option.toList_some, Option.toList_none]
  refine ecv rfl rfl (by assumption) rfl rfl rfl (x_find hX hI hw hr hN) (by first | rfl | exact Nat.blt_eq.mpr (by omega)) ?_
  rintro v M1 ⟨rfl, ⟨w, hw1, hb⟩, hX1, hF1⟩
  have w1 := hw1.1
  have h01 : M1.1 b = _ := (hF1.1 _ (by omega)).trans h0
  have hF := hF.tr (hF1.wide (lo2 := b) (n2 := 73) (by omega) (by omega)) (by omega) (by omega)
  try dsimp only [set1, set2, kilP, List.set_cons_zero, List.set_cons_succ, List.getElem?_cons_zero, List.getElem?_cons_succ, List.nil_append, List.cons_append, Option.toList_some, Option.toList_none]
  repeat (first | refine es rfl rfl rfl ?_ | refine eg rfl (by assumption) rfl ?_ | refine ean rfl (by assumption) (by assumption) rfl ?_ | refine eal rfl (by assumption) (by assumption) rfl ?_ | refine eri rfl ?_ | refine erv rfl ?_ | refine erl rfl ?_ | refine era rfl ?_ | refine erz0 rfl ?_ | refine erz1 rfl ?_)
  try dsimp only [set1, set2, kilP, List.set_cons_zero, List.set_cons_succ, List.getElem?_cons_zero, List.getElem?_cons_succ, List.nil_append, List.cons_append, Option.toList_some, Option.toList_none]
  refine ecr rfl rfl (by assumption) rfl rfl rfl (e8_count hw1) (by first | rfl | exact Nat.blt_eq.mpr (by omega)) rfl ?_
  repeat (first | refine es rfl rfl rfl ?_ | refine eg rfl (by assumption) rfl ?_ | refine ean rfl (by assumption) (by assumption) rfl ?_ | refine eal rfl (by assumption) (by assumption) rfl ?_ | refine eri rfl ?_ | refine erv rfl ?_ | refine erl rfl ?_ | refine era rfl ?_ | refine erz0 rfl ?_ | refine erz1 rfl ?_)
  try dsimp only [set1, set2, kilP, List.set_cons_zero, List.set_cons_succ, List.getElem?_cons_zero, List.getElem?_cons_succ, List.nil_append, List.cons_append, Option.toList_some, Option.toList_none]
  refine ecv rfl rfl (by assumption) rfl rfl rfl (x_ans hX1) (by first | rfl | exact Nat.blt_eq.mpr (by omega)) ?_
  rintro v M9 ⟨rfl, hX9, hF9⟩
  try dsimp only [set1, set2, kilP, List.set_cons_zero, List.set_cons_succ, List.getElem?_cons_zero, List.getElem?_cons_succ, List.nil_append, List.cons_append, Option.toList_some, Option.toList_none]
  repeat (first | refine es rfl rfl rfl ?_ | refine eg rfl (by assumption) rfl ?_ | refine ean rfl (by assumption) (by assumption) rfl ?_ | refine eal rfl (by assumption) (by assumption) rfl ?_ | refine eri rfl ?_ | refine erv rfl ?_ | refine erl rfl ?_ | refine era rfl ?_ | refine erz0 rfl ?_ | refine erz1 rfl ?_)
  try dsimp only [set1, set2, kilP, List.set_cons_zero, List.set_cons_succ, List.getElem?_cons_zero, List.getElem?_cons_succ, List.nil_append, List.cons_append, Option.toList_some, Option.toList_none]
  exact ⟨_, ⟨_, hb, rfl, rfl⟩, hX9, hF.tr (hF9.wide (lo2 := b) (n2 := 73) (by omega) (by omega)) (by omega) (by omega)⟩
theorem x_fewest (hX : XR M b σ) (hI : Inv σ C) : EvM ad 7 (iX11_fewest ad) [.ref b] M (Po b M (spSw σ (fun s => nI s.2.2.1))) := by
  have hn7 := hI.n7
  have hF := Fr.rf b 73 M
  obtain ⟨tb, sp, hts, h0, hRd, hT, hT2, hN, hTr, hPt, hWy, hFt, hSw, hRt⟩ := id hX
  unfold xTop at h0
  have t0 := hT.1.1
  have s0 := hT.2.1.1
  have s1 := hT.2.2.1.1
  have s2 := hT.2.2.2.1
  have n0 := hN.1
  obtain ⟨sw, hw, hr⟩ := hSw
  have w0 := hw.1
  unfold spSw
  refine ⟨Nat.le_of_ble_eq_true rfl, ?_⟩
  show Ev ad _ (rX11_fewest ad) (0, [some (.ref b)], [], M) _
  repeat (first | refine es rfl rfl rfl ?_ | refine eg rfl (by assumption) rfl ?_ | refine ean rfl (by assumption) (by assumption) rfl ?_ | refine eal rfl (by assumption) (by assumption) rfl ?_ | refine eri rfl ?_ | refine erv rfl ?_ | refine erl rfl ?_ | refine era rfl ?_ | refine erz0 rfl ?_ | refine erz1 rfl ?_)
  try dsimp only [set1, set2, kilP, List.set_cons_zero, List.set_cons_succ, List.getElem?_cons_zero, List.getElem?_cons_succ, List.nil_append, List.cons_append, Option.toList_some, Option.toList_none]
  refine ecr rfl rfl (by assumption) rfl rfl rfl (x_noT hX (by omega)) (by first | rfl | exact Nat.blt_eq.mpr (by omega)) rfl ?_
  by_cases hno : σ.T.hs.n = 0
  · rw [if_pos hno, show bI (σ.T.hs.n = 0) = 1 from if_pos hno]
    repeat (first | refine es rfl rfl rfl ?_ | refine eg rfl (by assumption) rfl ?_ | refine ean rfl (by assumption) (by assumption) rfl ?_ | refine eal rfl (by assumption) (by assumption) rfl ?_ | refine eri rfl ?_ | refine erv rfl ?_ | refine erl rfl ?_ | refine era rfl ?_ | refine erz0 rfl ?_ | refine erz1 rfl ?_)
    try dsimp only [set1, set2, kilP, List.set_cons_zero, List.set_cons_succ, List.getElem?_cons_zero, List.getElem?_cons_succ, List.nil_append, List.cons_append, Option.toList_some, Option.toList_none]
    refine ecv rfl rfl (by assumption) rfl rfl rfl (x_ref hX) (by first | rfl | exact Nat.blt_eq.mpr (by omega)) ?_
    rintro v M9 ⟨rfl, hX9, hF9⟩
    try dsimp only [set1, set2, kilP, List.set_cons_zero, List.set_cons_succ, List.getElem?_cons_zero, List.getElem?_cons_succ, List.nil_append, List.cons_append, Option.toList_some, Option.toList_none]
    repeat (first | refine es rfl rfl rfl ?_ | refine eg rfl (by assumption) rfl ?_ | refine ean rfl (by assumption) (by assumption) rfl ?_ | refine eal rfl (by assumption) (by assumption) rfl ?_ | refine eri rfl ?_ | refine erv rfl ?_ | refine erl rfl ?_ | refine era rfl ?_ | refine erz0 rfl ?_ | refine erz1 rfl ?_)
    try dsimp only [set1, set2, kilP, List.set_cons_zero, List.set_cons_succ, List.getElem?_cons_zero, List.getElem?_cons_succ, List.nil_append, List.cons_append, Option.toList_some, Option.toList_none]
    exact ⟨_, ⟨rfl, rfl⟩, hX9, hF.tr (hF9.wide (lo2 := b) (n2 := 73) (by omega) (by omega)) (by omega) (by omega)⟩
  rw [if_neg hno, show bI (σ.T.hs.n = 0) = 0 from if_neg hno]
  repeat (first | refine es rfl rfl rfl ?_ | refine eg rfl (by assumption) rfl ?_ | refine ean rfl (by assumption) (by assumption) rfl ?_ | refine eal rfl (by assumption) (by assumption) rfl ?_ | refine eri rfl ?_ | refine erv rfl ?_ | refine erl rfl ?_ | refine era rfl ?_ | refine erz0 rfl ?_ | refine erz1 rfl ?_)
  try dsimp only [set1, set2, kilP, List.set_cons_zero, List.set_cons_succ, List.getElem?_cons_zero, List.getElem?_cons_succ, List.nil_append, List.cons_append, Option.toList_some, Option.toList_none]
  refine ecv rfl rfl (by assumption) rfl rfl rfl (x_find hX hI hw hr hN) (by first | rfl | exact Nat.blt_eq.mpr (by omega)) ?_
  rintro v M1 ⟨rfl, ⟨w, hw1, hb⟩, hX1, hF1⟩
  have w1 := hw1.1
  have h01 : M1.1 b = _ := (hF1.1 _ (by omega)).trans h0
  have hF := hF.tr (hF1.wide (lo2 := b) (n2 := 73) (by omega) (by omega)) (by omega) (by omega)
  try dsimp only [set1, set2, kilP, List.set_cons_zero, List.set_cons_succ, List.getElem?_cons_zero, List.getElem?_cons_succ, List.nil_append, List.cons_append, Option.toList_some, Option.toList_none]
  repeat (first | refine es rfl rfl rfl ?_ | refine eg rfl (by assumption) rfl ?_ | refine ean rfl (by assumption) (by assumption) rfl ?_ | refine eal rfl (by assumption) (by assumption) rfl ?_ | refine eri rfl ?_ | refine erv rfl ?_ | refine erl rfl ?_ | refine era rfl ?_ | refine erz0 rfl ?_ | refine erz1 rfl ?_)
  try dsimp only [set1, set2, kilP, List.set_cons_zero, List.set_cons_succ, List.getElem?_cons_zero, List.getElem?_cons_succ, List.nil_append, List.cons_append, Option.toList_some, Option.toList_none]
  refine ecr rfl rfl (by assumption) rfl rfl rfl (e8_length hw1) (by first | rfl | exact Nat.blt_eq.mpr (by omega)) rfl ?_
  repeat (first | refine es rfl rfl rfl ?_ | refine eg rfl (by assumption) rfl ?_ | refine ean rfl (by assumption) (by assumption) rfl ?_ | refine eal rfl (by assumption) (by assumption) rfl ?_ | refine eri rfl ?_ | refine erv rfl ?_ | refine erl rfl ?_ | refine era rfl ?_ | refine erz0 rfl ?_ | refine erz1 rfl ?_)
  try dsimp only [set1, set2, kilP, List.set_cons_zero, List.set_cons_succ, List.getElem?_cons_zero, List.getElem?_cons_succ, List.nil_append, List.cons_append, Option.toList_some, Option.toList_none]
  refine ecv rfl rfl (by assumption) rfl rfl rfl (x_ans hX1) (by first | rfl | exact Nat.blt_eq.mpr (by omega)) ?_
  rintro v M9 ⟨rfl, hX9, hF9⟩
  try dsimp only [set1, set2, kilP, List.set_cons_zero, List.set_cons_succ, List.getElem?_cons_zero, List.getElem?_cons_succ, List.nil_append, List.cons_append, Option.toList_some, Option.toList_none]
  repeat (first | refine es rfl rfl rfl ?_ | refine eg rfl (by assumption) rfl ?_ | refine ean rfl (by assumption) (by assumption) rfl ?_ | refine eal rfl (by assumption) (by assumption) rfl ?_ | refine eri rfl ?_ | refine erv rfl ?_ | refine erl rfl ?_ | refine era rfl ?_ | refine erz0 rfl ?_ | refine erz1 rfl ?_)
  try dsimp only [set1, set2, kilP, List.set_cons_zero, List.set_cons_succ, List.getElem?_cons_zero, List.getElem?_cons_succ, List.nil_append, List.cons_append, Option.toList_some, Option.toList_none]
  exact ⟨_, ⟨_, hb, rfl, rfl⟩, hX9, hF.tr (hF9.wide (lo2 := b) (n2 := 73) (by omega) (by omega)) (by omega) (by omega)⟩
def spExAt (σ : Sg) (i : Int32) : Option Value → Sg → Prop := if σ.T.hs.n = 0 then rf σ 1 else fun v σ' => ∃ s, bestR σ.f s ∧ (if 0 ≤ i ∧ i < nI s.2.2.1 then an σ (s.2.1 i.toNatClampNeg) else rf σ 1) v σ'
theorem x_exchangeAt {i : Int32} (hX : XR M b σ) (hI : Inv σ C) : EvM ad 7 (iX11_exchangeAt ad) [.ref b, .int i] M (Po b M (spExAt σ i)) := by
  have hn7 := hI.n7
  have hF := Fr.rf b 73 M
  obtain ⟨tb, sp, hts, h0, hRd, hT, hT2, hN, hTr, hPt, hWy, hFt, hSw, hRt⟩ := id hX
  unfold xTop at h0
  have t0 := hT.1.1
  have s0 := hT.2.1.1
  have s1 := hT.2.2.1.1
  have s2 := hT.2.2.2.1
  have n0 := hN.1
  obtain ⟨sw, hw, hr⟩ := hSw
  have w0 := hw.1
  unfold spExAt
  refine ⟨Nat.le_of_ble_eq_true rfl, ?_⟩
  show Ev ad _ (rX11_exchangeAt ad) (0, [some (.ref b), some (.int i)], [], M) _
  repeat (first | refine es rfl rfl rfl ?_ | refine eg rfl (by assumption) rfl ?_ | refine ean rfl (by assumption) (by assumption) rfl ?_ | refine eal rfl (by assumption) (by assumption) rfl ?_ | refine eri rfl ?_ | refine erv rfl ?_ | refine erl rfl ?_ | refine era rfl ?_ | refine erz0 rfl ?_ | refine erz1 rfl ?_)
  try dsimp only [set1, set2, kilP, List.set_cons_zero, List.set_cons_succ, List.getElem?_cons_zero, List.getElem?_cons_succ, List.nil_append, List.cons_append, Option.toList_some, Option.toList_none]
  refine ecr rfl rfl (by assumption) rfl rfl rfl (x_noT hX (by omega)) (by first | rfl | exact Nat.blt_eq.mpr (by omega)) rfl ?_
  by_cases hno : σ.T.hs.n = 0
  · rw [if_pos hno, show bI (σ.T.hs.n = 0) = 1 from if_pos hno]
    repeat (first | refine es rfl rfl rfl ?_ | refine eg rfl (by assumption) rfl ?_ | refine ean rfl (by assumption) (by assumption) rfl ?_ | refine eal rfl (by assumption) (by assumption) rfl ?_ | refine eri rfl ?_ | refine erv rfl ?_ | refine erl rfl ?_ | refine era rfl ?_ | refine erz0 rfl ?_ | refine erz1 rfl ?_)
    try dsimp only [set1, set2, kilP, List.set_cons_zero, List.set_cons_succ, List.getElem?_cons_zero, List.getElem?_cons_succ, List.nil_append, List.cons_append, Option.toList_some, Option.toList_none]
    refine ecv rfl rfl (by assumption) rfl rfl rfl (x_ref hX) (by first | rfl | exact Nat.blt_eq.mpr (by omega)) ?_
    rintro v M9 ⟨rfl, hX9, hF9⟩
    try dsimp only [set1, set2, kilP, List.set_cons_zero, List.set_cons_succ, List.getElem?_cons_zero, List.getElem?_cons_succ, List.nil_append, List.cons_append, Option.toList_some, Option.toList_none]
    repeat (first | refine es rfl rfl rfl ?_ | refine eg rfl (by assumption) rfl ?_ | refine ean rfl (by assumption) (by assumption) rfl ?_ | refine eal rfl (by assumption) (by assumption) rfl ?_ | refine eri rfl ?_ | refine erv rfl ?_ | refine erl rfl ?_ | refine era rfl ?_ | refine erz0 rfl ?_ | refine erz1 rfl ?_)
    try dsimp only [set1, set2, kilP, List.set_cons_zero, List.set_cons_succ, List.getElem?_cons_zero, List.getElem?_cons_succ, List.nil_append, List.cons_append, Option.toList_some, Option.toList_none]
    exact ⟨_, ⟨rfl, rfl⟩, hX9, hF.tr (hF9.wide (lo2 := b) (n2 := 73) (by omega) (by omega)) (by omega) (by omega)⟩
  rw [if_neg hno, show bI (σ.T.hs.n = 0) = 0 from if_neg hno]
  repeat (first | refine es rfl rfl rfl ?_ | refine eg rfl (by assumption) rfl ?_ | refine ean rfl (by assumption) (by assumption) rfl ?_ | refine eal rfl (by assumption) (by assumption) rfl ?_ | refine eri rfl ?_ | refine erv rfl ?_ | refine erl rfl ?_ | refine era rfl ?_ | refine erz0 rfl ?_ | refine erz1 rfl ?_)
  try dsimp only [set1, set2, kilP, List.set_cons_zero, List.set_cons_succ, List.getElem?_cons_zero, List.getElem?_cons_succ, List.nil_append, List.cons_append, Option.toList_some, Option.toList_none]
  refine ecv rfl rfl (by assumption) rfl rfl rfl (x_find hX hI hw hr hN) (by first | rfl | exact Nat.blt_eq.mpr (by omega)) ?_
  rintro v M1 ⟨rfl, ⟨w, hw1, hb⟩, hX1, hF1⟩
  have w1 := hw1.1
  have h01 : M1.1 b = _ := (hF1.1 _ (by omega)).trans h0
  have hF := hF.tr (hF1.wide (lo2 := b) (n2 := 73) (by omega) (by omega)) (by omega) (by omega)
  have hl := bestR_len hb
  have hre : ¬ (0 ≤ i ∧ i < nI w.2.2.2.2.2.1) → Ev ad 7 (rX11_exchangeAt ad) (39, [some (.ref b), some (.int i)], [], M1) (Po b M (fun v σ' => ∃ s, bestR σ.f s ∧ (if 0 ≤ i ∧ i < nI s.2.2.1 then an σ (s.2.1 i.toNatClampNeg) else rf σ 1) v σ')) := by
    intro hn
    repeat (first | refine es rfl rfl rfl ?_ | refine eg rfl (by assumption) rfl ?_ | refine ean rfl (by assumption) (by assumption) rfl ?_ | refine eal rfl (by assumption) (by assumption) rfl ?_ | refine eri rfl ?_ | refine erv rfl ?_ | refine erl rfl ?_ | refine era rfl ?_ | refine erz0 rfl ?_ | refine erz1 rfl ?_)
    try dsimp only [set1, set2, kilP, List.set_cons_zero, List.set_cons_succ, List.getElem?_cons_zero, List.getElem?_cons_succ, List.nil_append, List.cons_append, Option.toList_some, Option.toList_none]
    refine ecv rfl rfl (by assumption) rfl rfl rfl (x_ref hX1) (by first | rfl | exact Nat.blt_eq.mpr (by omega)) ?_
    rintro v M9 ⟨rfl, hX9, hF9⟩
    try dsimp only [set1, set2, kilP, List.set_cons_zero, List.set_cons_succ, List.getElem?_cons_zero, List.getElem?_cons_succ, List.nil_append, List.cons_append, Option.toList_some, Option.toList_none]
    repeat (first | refine es rfl rfl rfl ?_ | refine eg rfl (by assumption) rfl ?_ | refine ean rfl (by assumption) (by assumption) rfl ?_ | refine eal rfl (by assumption) (by assumption) rfl ?_ | refine eri rfl ?_ | refine erv rfl ?_ | refine erl rfl ?_ | refine era rfl ?_ | refine erz0 rfl ?_ | refine erz1 rfl ?_)
    try dsimp only [set1, set2, kilP, List.set_cons_zero, List.set_cons_succ, List.getElem?_cons_zero, List.getElem?_cons_succ, List.nil_append, List.cons_append, Option.toList_some, Option.toList_none]
    exact ⟨_, ⟨_, hb, by rw [if_neg hn]; exact ⟨rfl, rfl⟩⟩, hX9, hF.tr (hF9.wide (lo2 := b) (n2 := 73) (by omega) (by omega)) (by omega) (by omega)⟩
  try dsimp only [set1, set2, kilP, List.set_cons_zero, List.set_cons_succ, List.getElem?_cons_zero, List.getElem?_cons_succ, List.nil_append, List.cons_append, Option.toList_some, Option.toList_none]
  repeat (first | refine es rfl rfl rfl ?_ | refine eg rfl (by assumption) rfl ?_ | refine ean rfl (by assumption) (by assumption) rfl ?_ | refine eal rfl (by assumption) (by assumption) rfl ?_ | refine eri rfl ?_ | refine erv rfl ?_ | refine erl rfl ?_ | refine era rfl ?_ | refine erz0 rfl ?_ | refine erz1 rfl ?_)
  try dsimp only [set1, set2, kilP, List.set_cons_zero, List.set_cons_succ, List.getElem?_cons_zero, List.getElem?_cons_succ, List.nil_append, List.cons_append, Option.toList_some, Option.toList_none]
  refine ei _ rfl rfl (fun c3 => ?_) (fun c3 => ?_)
  · exact hre (fun q => Int32.not_le.mpr c3 q.1)
  · repeat (first | refine es rfl rfl rfl ?_ | refine eg rfl (by assumption) rfl ?_ | refine ean rfl (by assumption) (by assumption) rfl ?_ | refine eal rfl (by assumption) (by assumption) rfl ?_ | refine eri rfl ?_ | refine erv rfl ?_ | refine erl rfl ?_ | refine era rfl ?_ | refine erz0 rfl ?_ | refine erz1 rfl ?_)
    try dsimp only [set1, set2, kilP, List.set_cons_zero, List.set_cons_succ, List.getElem?_cons_zero, List.getElem?_cons_succ, List.nil_append, List.cons_append, Option.toList_some, Option.toList_none]
    refine ecr rfl rfl (by assumption) rfl rfl rfl (e8_length hw1) (by first | rfl | exact Nat.blt_eq.mpr (by omega)) rfl ?_
    refine ei _ rfl rfl (fun c4 => ?_) (fun c4 => ?_)
    · have hin : 0 ≤ i ∧ i < nI w.2.2.2.2.2.1 := ⟨Int32.not_lt.mp c3, c4⟩
      obtain ⟨i', hi', rfl⟩ := nI_0k (by omega) hin
      repeat (first | refine es rfl rfl rfl ?_ | refine eg rfl (by assumption) rfl ?_ | refine ean rfl (by assumption) (by assumption) rfl ?_ | refine eal rfl (by assumption) (by assumption) rfl ?_ | refine eri rfl ?_ | refine erv rfl ?_ | refine erl rfl ?_ | refine era rfl ?_ | refine erz0 rfl ?_ | refine erz1 rfl ?_)
      try dsimp only [set1, set2, kilP, List.set_cons_zero, List.set_cons_succ, List.getElem?_cons_zero, List.getElem?_cons_succ, List.nil_append, List.cons_append, Option.toList_some, Option.toList_none]
      refine ecr rfl rfl (by assumption) rfl rfl rfl (e8_at hw1 (show i' < 3 by omega)) (by first | rfl | exact Nat.blt_eq.mpr (by omega)) rfl ?_
      repeat (first | refine es rfl rfl rfl ?_ | refine eg rfl (by assumption) rfl ?_ | refine ean rfl (by assumption) (by assumption) rfl ?_ | refine eal rfl (by assumption) (by assumption) rfl ?_ | refine eri rfl ?_ | refine erv rfl ?_ | refine erl rfl ?_ | refine era rfl ?_ | refine erz0 rfl ?_ | refine erz1 rfl ?_)
      try dsimp only [set1, set2, kilP, List.set_cons_zero, List.set_cons_succ, List.getElem?_cons_zero, List.getElem?_cons_succ, List.nil_append, List.cons_append, Option.toList_some, Option.toList_none]
      refine ecv rfl rfl (by assumption) rfl rfl rfl (x_ans hX1) (by first | rfl | exact Nat.blt_eq.mpr (by omega)) ?_
      rintro v M9 ⟨rfl, hX9, hF9⟩
      try dsimp only [set1, set2, kilP, List.set_cons_zero, List.set_cons_succ, List.getElem?_cons_zero, List.getElem?_cons_succ, List.nil_append, List.cons_append, Option.toList_some, Option.toList_none]
      repeat (first | refine es rfl rfl rfl ?_ | refine eg rfl (by assumption) rfl ?_ | refine ean rfl (by assumption) (by assumption) rfl ?_ | refine eal rfl (by assumption) (by assumption) rfl ?_ | refine eri rfl ?_ | refine erv rfl ?_ | refine erl rfl ?_ | refine era rfl ?_ | refine erz0 rfl ?_ | refine erz1 rfl ?_)
      try dsimp only [set1, set2, kilP, List.set_cons_zero, List.set_cons_succ, List.getElem?_cons_zero, List.getElem?_cons_succ, List.nil_append, List.cons_append, Option.toList_some, Option.toList_none]
      exact ⟨_, ⟨_, hb, by rw [if_pos hin, nI_clamp (by omega)]; exact ⟨rfl, rfl⟩⟩, hX9, hF.tr (hF9.wide (lo2 := b) (n2 := 73) (by omega) (by omega)) (by omega) (by omega)⟩
    · exact hre (fun q => c4 q.2)
/-- other houses near -/
def Tw.wn (T : Tw) (ne : Nat → Int32) : Tw := (T.1, T.hs, (T.ss.n, T.ss.mi, T.ss.sh, ne), T.cs)
def Sg.wn (σ : Sg) (ne : Nat → Int32) : Sg := (σ.tp, σ.ts, σ.T.wn ne, σ.f, σ.ac, σ.mk, σ.tr, σ.fn, σ.fp)
theorem abF_wn (T : Tw) (ne : Nat → Int32) (h : Nat) : ∀ g, abF (T.wn ne) h g = abF T h g
  | 0 => rfl
  | g + 1 => by rw [abF, abF, abF_wn T ne h g]; rfl
theorem XR.ne {tb : Nat} {M' : Mm} {ne : Nat → Int32} (h : XR M b σ) (ht : xTop M b tb σ.tr) (e : M' = up M (tb + 10 + 3) (.inl (0, 7, .inl ne))) : XR M' b (σ.wn ne) := by
  obtain ⟨tb2, sp, hts, h0, hRd, hT, ⟨T2, hT2⟩, hN, ⟨r, hTr⟩, ⟨p, hPt, hp⟩, ⟨w, hWy⟩, ⟨w2, hFt, hf⟩, ⟨w3, hSw, hs⟩, ⟨r2, hRt⟩⟩ := h
  obtain rfl := xtb (t := σ.tr) (t2 := σ.tr) h0 ht
  have hF : Fr (tb2 + 13) 1 M M' := (Fr.rf _ 1 M).up e (by omega) (by omega)
  unfold tsp at hts
  have hT' : aTw M' tb2 (σ.T.wn ne) := ⟨hT.1.kept (fun j hj => hF.1 j (by omega)), hT.2.1.fr hF (by omega), by rw [e]; exact hT.2.2.1.pne ne, hT.2.2.2.fr hF (by omega)⟩
  have hf' : ftR w2 (σ.T.wn ne) := by
    refine ⟨hf.1, fun q => ?_⟩
    obtain ⟨mb, ct, pl, fi, q1, q2, q3⟩ := hf.2 q
    exact ⟨mb, ct, pl, fi, fun j hj => by rw [abF_wn]; exact q1 j hj, q2, q3⟩
  exact ⟨tb2, sp, hts, (hF.1 _ (by omega)).trans h0, (show xRd M' b sp σ from hRd.fr hF (by omega)), hT', ⟨T2, hT2.fr hF (by omega)⟩, hN.fr hF (by omega), ⟨r, hTr.fr hF (by omega)⟩, ⟨p, hPt.fr hF (by omega), hp⟩, ⟨w, hWy.fr hF (by omega)⟩, ⟨w2, hFt.fr hF (by omega), hf'⟩, ⟨w3, hSw.fr hF (by omega), hs⟩, ⟨r2, hRt.fr hF (by omega)⟩⟩
def spStands (σ : Sg) (z : Int32) : Option Value → Sg → Prop := if σ.T.hs.n = 0 then rf σ 1 else if 0 ≤ z ∧ z ≤ 999 then (fun v σ' => v = some (.int (nI (stdF (stOk σ.T.ss.sh z σ.T.hs.n) (max 1 (2 ^ σ.T.hs.n - 1) - 1) 1 (2 ^ σ.T.hs.n - 1)))) ∧ ∃ ne, σ' = (σ.wn ne).wt 0) else rf σ 2
theorem x_stands {z : Int32} (hX : XR M b σ) (hI : Inv σ C) : EvM ad 3 (iX11_stands ad) [.ref b, .int z] M (Po b M (spStands σ z)) := by
  have hn7 := hI.n7
  have hF := Fr.rf b 73 M
  obtain ⟨tb, sp, hts, h0, hRd, hT, hT2, hN, hTr, hPt, hWy, hFt, hSw, hRt⟩ := id hX
  unfold xTop at h0
  have t0 := hT.1.1
  have s0 := hT.2.1.1
  have s1 := hT.2.2.1.1
  have s2 := hT.2.2.2.1
  have n0 := hN.1
  unfold spStands
  refine ⟨Nat.le_of_ble_eq_true rfl, ?_⟩
  show Ev ad _ (rX11_stands ad) (0, [some (.ref b), some (.int z)], [], M) _
  repeat (first | refine es rfl rfl rfl ?_ | refine eg rfl (by assumption) rfl ?_ | refine ean rfl (by assumption) (by assumption) rfl ?_ | refine eal rfl (by assumption) (by assumption) rfl ?_ | refine eri rfl ?_ | refine erv rfl ?_ | refine erl rfl ?_ | refine era rfl ?_ | refine erz0 rfl ?_ | refine erz1 rfl ?_)
  try dsimp only [set1, set2, kilP, List.set_cons_zero, List.set_cons_succ, List.getElem?_cons_zero, List.getElem?_cons_succ, List.nil_append, List.cons_append, Option.toList_some, Option.toList_none]
  refine ecr rfl rfl (by assumption) rfl rfl rfl (x_noT hX (by omega)) (by first | rfl | exact Nat.blt_eq.mpr (by omega)) rfl ?_
  by_cases hno : σ.T.hs.n = 0
  · rw [if_pos hno, show bI (σ.T.hs.n = 0) = 1 from if_pos hno]
    repeat (first | refine es rfl rfl rfl ?_ | refine eg rfl (by assumption) rfl ?_ | refine ean rfl (by assumption) (by assumption) rfl ?_ | refine eal rfl (by assumption) (by assumption) rfl ?_ | refine eri rfl ?_ | refine erv rfl ?_ | refine erl rfl ?_ | refine era rfl ?_ | refine erz0 rfl ?_ | refine erz1 rfl ?_)
    try dsimp only [set1, set2, kilP, List.set_cons_zero, List.set_cons_succ, List.getElem?_cons_zero, List.getElem?_cons_succ, List.nil_append, List.cons_append, Option.toList_some, Option.toList_none]
    refine ecv rfl rfl (by assumption) rfl rfl rfl (x_ref hX) (by first | rfl | exact Nat.blt_eq.mpr (by omega)) ?_
    rintro v M9 ⟨rfl, hX9, hF9⟩
    try dsimp only [set1, set2, kilP, List.set_cons_zero, List.set_cons_succ, List.getElem?_cons_zero, List.getElem?_cons_succ, List.nil_append, List.cons_append, Option.toList_some, Option.toList_none]
    repeat (first | refine es rfl rfl rfl ?_ | refine eg rfl (by assumption) rfl ?_ | refine ean rfl (by assumption) (by assumption) rfl ?_ | refine eal rfl (by assumption) (by assumption) rfl ?_ | refine eri rfl ?_ | refine erv rfl ?_ | refine erl rfl ?_ | refine era rfl ?_ | refine erz0 rfl ?_ | refine erz1 rfl ?_)
    try dsimp only [set1, set2, kilP, List.set_cons_zero, List.set_cons_succ, List.getElem?_cons_zero, List.getElem?_cons_succ, List.nil_append, List.cons_append, Option.toList_some, Option.toList_none]
    exact ⟨_, ⟨rfl, rfl⟩, hX9, hF.tr (hF9.wide (lo2 := b) (n2 := 73) (by omega) (by omega)) (by omega) (by omega)⟩
  rw [if_neg hno, show bI (σ.T.hs.n = 0) = 0 from if_neg hno]
  repeat (first | refine es rfl rfl rfl ?_ | refine eg rfl (by assumption) rfl ?_ | refine ean rfl (by assumption) (by assumption) rfl ?_ | refine eal rfl (by assumption) (by assumption) rfl ?_ | refine eri rfl ?_ | refine erv rfl ?_ | refine erl rfl ?_ | refine era rfl ?_ | refine erz0 rfl ?_ | refine erz1 rfl ?_)
  try dsimp only [set1, set2, kilP, List.set_cons_zero, List.set_cons_succ, List.getElem?_cons_zero, List.getElem?_cons_succ, List.nil_append, List.cons_append, Option.toList_some, Option.toList_none]
  by_cases c : 0 ≤ z ∧ z ≤ 999
  rotate_left
  · rw [if_neg c]
    refine ei _ rfl rfl (fun c1 => ?_) (fun c1 => ?_)
    · repeat (first | refine es rfl rfl rfl ?_ | refine eg rfl (by assumption) rfl ?_ | refine ean rfl (by assumption) (by assumption) rfl ?_ | refine eal rfl (by assumption) (by assumption) rfl ?_ | refine eri rfl ?_ | refine erv rfl ?_ | refine erl rfl ?_ | refine era rfl ?_ | refine erz0 rfl ?_ | refine erz1 rfl ?_)
      try dsimp only [set1, set2, kilP, List.set_cons_zero, List.set_cons_succ, List.getElem?_cons_zero, List.getElem?_cons_succ, List.nil_append, List.cons_append, Option.toList_some, Option.toList_none]
      refine ecv rfl rfl (by assumption) rfl rfl rfl (x_ref hX) (by first | rfl | exact Nat.blt_eq.mpr (by omega)) ?_
      rintro v M9 ⟨rfl, hX9, hF9⟩
      try dsimp only [set1, set2, kilP, List.set_cons_zero, List.set_cons_succ, List.getElem?_cons_zero, List.getElem?_cons_succ, List.nil_append, List.cons_append, Option.toList_some, Option.toList_none]
      repeat (first | refine es rfl rfl rfl ?_ | refine eg rfl (by assumption) rfl ?_ | refine ean rfl (by assumption) (by assumption) rfl ?_ | refine eal rfl (by assumption) (by assumption) rfl ?_ | refine eri rfl ?_ | refine erv rfl ?_ | refine erl rfl ?_ | refine era rfl ?_ | refine erz0 rfl ?_ | refine erz1 rfl ?_)
      try dsimp only [set1, set2, kilP, List.set_cons_zero, List.set_cons_succ, List.getElem?_cons_zero, List.getElem?_cons_succ, List.nil_append, List.cons_append, Option.toList_some, Option.toList_none]
      exact ⟨_, ⟨rfl, rfl⟩, hX9, hF.tr (hF9.wide (lo2 := b) (n2 := 73) (by omega) (by omega)) (by omega) (by omega)⟩
    · repeat (first | refine es rfl rfl rfl ?_ | refine eg rfl (by assumption) rfl ?_ | refine ean rfl (by assumption) (by assumption) rfl ?_ | refine eal rfl (by assumption) (by assumption) rfl ?_ | refine eri rfl ?_ | refine erv rfl ?_ | refine erl rfl ?_ | refine era rfl ?_ | refine erz0 rfl ?_ | refine erz1 rfl ?_)
      try dsimp only [set1, set2, kilP, List.set_cons_zero, List.set_cons_succ, List.getElem?_cons_zero, List.getElem?_cons_succ, List.nil_append, List.cons_append, Option.toList_some, Option.toList_none]
      refine ei _ rfl rfl (fun c2 => ?_) (fun c2 => ?_)
      · exact absurd ⟨Int32.not_lt.mp c1, c2⟩ c
      · repeat (first | refine es rfl rfl rfl ?_ | refine eg rfl (by assumption) rfl ?_ | refine ean rfl (by assumption) (by assumption) rfl ?_ | refine eal rfl (by assumption) (by assumption) rfl ?_ | refine eri rfl ?_ | refine erv rfl ?_ | refine erl rfl ?_ | refine era rfl ?_ | refine erz0 rfl ?_ | refine erz1 rfl ?_)
        try dsimp only [set1, set2, kilP, List.set_cons_zero, List.set_cons_succ, List.getElem?_cons_zero, List.getElem?_cons_succ, List.nil_append, List.cons_append, Option.toList_some, Option.toList_none]
        refine ecv rfl rfl (by assumption) rfl rfl rfl (x_ref hX) (by first | rfl | exact Nat.blt_eq.mpr (by omega)) ?_
        rintro v M9 ⟨rfl, hX9, hF9⟩
        try dsimp only [set1, set2, kilP, List.set_cons_zero, List.set_cons_succ, List.getElem?_cons_zero, List.getElem?_cons_succ, List.nil_append, List.cons_append, Option.toList_some, Option.toList_none]
        repeat (first | refine es rfl rfl rfl ?_ | refine eg rfl (by assumption) rfl ?_ | refine ean rfl (by assumption) (by assumption) rfl ?_ | refine eal rfl (by assumption) (by assumption) rfl ?_ | refine eri rfl ?_ | refine erv rfl ?_ | refine erl rfl ?_ | refine era rfl ?_ | refine erz0 rfl ?_ | refine erz1 rfl ?_)
        try dsimp only [set1, set2, kilP, List.set_cons_zero, List.set_cons_succ, List.getElem?_cons_zero, List.getElem?_cons_succ, List.nil_append, List.cons_append, Option.toList_some, Option.toList_none]
        exact ⟨_, ⟨rfl, rfl⟩, hX9, hF.tr (hF9.wide (lo2 := b) (n2 := 73) (by omega) (by omega)) (by omega) (by omega)⟩
  rw [if_pos c]
  refine ei _ rfl rfl (fun c1 => ?_) (fun c1 => ?_)
  · exact absurd c.1 (Int32.not_le.mpr c1)
  repeat (first | refine es rfl rfl rfl ?_ | refine eg rfl (by assumption) rfl ?_ | refine ean rfl (by assumption) (by assumption) rfl ?_ | refine eal rfl (by assumption) (by assumption) rfl ?_ | refine eri rfl ?_ | refine erv rfl ?_ | refine erl rfl ?_ | refine era rfl ?_ | refine erz0 rfl ?_ | refine erz1 rfl ?_)
  try dsimp only [set1, set2, kilP, List.set_cons_zero, List.set_cons_succ, List.getElem?_cons_zero, List.getElem?_cons_succ, List.nil_append, List.cons_append, Option.toList_some, Option.toList_none]
  refine ei _ rfl rfl (fun c2 => ?_) (fun c2 => ?_)
  rotate_left
  · exact absurd c.2 c2
  repeat (first | refine es rfl rfl rfl ?_ | refine eg rfl (by assumption) rfl ?_ | refine ean rfl (by assumption) (by assumption) rfl ?_ | refine eal rfl (by assumption) (by assumption) rfl ?_ | refine eri rfl ?_ | refine erv rfl ?_ | refine erl rfl ?_ | refine era rfl ?_ | refine erz0 rfl ?_ | refine erz1 rfl ?_)
  try dsimp only [set1, set2, kilP, List.set_cons_zero, List.set_cons_succ, List.getElem?_cons_zero, List.getElem?_cons_succ, List.nil_append, List.cons_append, Option.toList_some, Option.toList_none]
  refine ecv rfl rfl (by assumption) rfl rfl rfl (e7_few hn7 hT.2.2.1) (by first | rfl | exact Nat.blt_eq.mpr (by omega)) ?_
  rintro v M1 ⟨rfl, ne, eM⟩
  have hX1 := hX.ne h0 eM
  unfold tsp at hts
  have hF := hF.up eM (by omega) (by omega)
  have h01 := up_k eM h0 (by omega)
  try dsimp only [set1, set2, kilP, List.set_cons_zero, List.set_cons_succ, List.getElem?_cons_zero, List.getElem?_cons_succ, List.nil_append, List.cons_append, Option.toList_some, Option.toList_none]
  refine ecv rfl rfl (by assumption) rfl rfl rfl (x_ans hX1) (by first | rfl | exact Nat.blt_eq.mpr (by omega)) ?_
  rintro v M9 ⟨rfl, hX9, hF9⟩
  try dsimp only [set1, set2, kilP, List.set_cons_zero, List.set_cons_succ, List.getElem?_cons_zero, List.getElem?_cons_succ, List.nil_append, List.cons_append, Option.toList_some, Option.toList_none]
  repeat (first | refine es rfl rfl rfl ?_ | refine eg rfl (by assumption) rfl ?_ | refine ean rfl (by assumption) (by assumption) rfl ?_ | refine eal rfl (by assumption) (by assumption) rfl ?_ | refine eri rfl ?_ | refine erv rfl ?_ | refine erl rfl ?_ | refine era rfl ?_ | refine erz0 rfl ?_ | refine erz1 rfl ?_)
  try dsimp only [set1, set2, kilP, List.set_cons_zero, List.set_cons_succ, List.getElem?_cons_zero, List.getElem?_cons_succ, List.nil_append, List.cons_append, Option.toList_some, Option.toList_none]
  exact ⟨_, ⟨rfl, ne, rfl⟩, hX9, hF.tr (hF9.wide (lo2 := b) (n2 := 73) (by omega) (by omega)) (by omega) (by omega)⟩
abbrev isT (x : Int32) : Prop := 0 ≤ x ∧ x < 10
theorem x_isT {x : Int32} : Rd ad 0 (iX11_isTens ad) [.int x] M (some (.int (bI (isT x)))) := by
  refine ⟨Nat.le_of_ble_eq_true rfl, ?_⟩
  show Ev ad _ (rX11_isTens ad) (0, [some (.int x)], [], M) _
  repeat (first | refine es rfl rfl rfl ?_ | refine eg rfl (by assumption) rfl ?_ | refine ean rfl (by assumption) (by assumption) rfl ?_ | refine eal rfl (by assumption) (by assumption) rfl ?_ | refine eri rfl ?_ | refine erv rfl ?_ | refine erl rfl ?_ | refine era rfl ?_ | refine erz0 rfl ?_ | refine erz1 rfl ?_)
  try dsimp only [set1, set2, kilP, List.set_cons_zero, List.set_cons_succ, List.getElem?_cons_zero, List.getElem?_cons_succ, List.nil_append, List.cons_append, Option.toList_some, Option.toList_none]
  refine ei _ rfl rfl (fun c => ?_) (fun c => ?_)
  · repeat (first | refine es rfl rfl rfl ?_ | refine eg rfl (by assumption) rfl ?_ | refine ean rfl (by assumption) (by assumption) rfl ?_ | refine eal rfl (by assumption) (by assumption) rfl ?_ | refine eri rfl ?_ | refine erv rfl ?_ | refine erl rfl ?_ | refine era rfl ?_ | refine erz0 rfl ?_ | refine erz1 rfl ?_)
    try dsimp only [set1, set2, kilP, List.set_cons_zero, List.set_cons_succ, List.getElem?_cons_zero, List.getElem?_cons_succ, List.nil_append, List.cons_append, Option.toList_some, Option.toList_none]
    rw [show bI (isT x) = 0 from if_neg (fun q => Int32.not_le.mpr c q.1)]
    exact ⟨rfl, rfl⟩
  · repeat (first | refine es rfl rfl rfl ?_ | refine eg rfl (by assumption) rfl ?_ | refine ean rfl (by assumption) (by assumption) rfl ?_ | refine eal rfl (by assumption) (by assumption) rfl ?_ | refine eri rfl ?_ | refine erv rfl ?_ | refine erl rfl ?_ | refine era rfl ?_ | refine erz0 rfl ?_ | refine erz1 rfl ?_)
    try dsimp only [set1, set2, kilP, List.set_cons_zero, List.set_cons_succ, List.getElem?_cons_zero, List.getElem?_cons_succ, List.nil_append, List.cons_append, Option.toList_some, Option.toList_none]
    refine ei _ rfl rfl (fun c2 => ?_) (fun c2 => ?_)
    · repeat (first | refine es rfl rfl rfl ?_ | refine eg rfl (by assumption) rfl ?_ | refine ean rfl (by assumption) (by assumption) rfl ?_ | refine eal rfl (by assumption) (by assumption) rfl ?_ | refine eri rfl ?_ | refine erv rfl ?_ | refine erl rfl ?_ | refine era rfl ?_ | refine erz0 rfl ?_ | refine erz1 rfl ?_)
      try dsimp only [set1, set2, kilP, List.set_cons_zero, List.set_cons_succ, List.getElem?_cons_zero, List.getElem?_cons_succ, List.nil_append, List.cons_append, Option.toList_some, Option.toList_none]
      rw [show bI (isT x) = 0 from if_neg (fun q => Int32.not_le.mpr q.2 c2)]
      exact ⟨rfl, rfl⟩
    · repeat (first | refine es rfl rfl rfl ?_ | refine eg rfl (by assumption) rfl ?_ | refine ean rfl (by assumption) (by assumption) rfl ?_ | refine eal rfl (by assumption) (by assumption) rfl ?_ | refine eri rfl ?_ | refine erv rfl ?_ | refine erl rfl ?_ | refine era rfl ?_ | refine erz0 rfl ?_ | refine erz1 rfl ?_)
      try dsimp only [set1, set2, kilP, List.set_cons_zero, List.set_cons_succ, List.getElem?_cons_zero, List.getElem?_cons_succ, List.nil_append, List.cons_append, Option.toList_some, Option.toList_none]
      rw [show bI (isT x) = 1 from if_pos ⟨Int32.not_lt.mp c, Int32.not_le.mp c2⟩]
      exact ⟨rfl, rfl⟩
theorem x_btw {k j : Nat} {r : Rt} {tb : Nat} (hX : XR M b σ) (hI : Inv σ C) (hr : aRt M (b + 70) r) (hT : aTw M tb σ.T) (hN : aNw M (b + 48) σ.f) (htb : tb + 22 ≤ b + 70) (hk : k < 7) (hj : j < 7) : EvM ad 1 (iX6_between ad) [.ref (b + 70), .ref tb, .ref (b + 48), .int (nI k), .int (nI j)] M (fun v' M' => v' = none ∧ aRt M' (b + 70) (rwF σ.f σ.T k j, r.2) ∧ XR M' b σ ∧ Fr (b + 70) 3 M M') := (e6_between hr hT hN hI.ok hk hj (Or.inl htb) (Or.inl (by omega))).im (fun v M' ⟨e, h1, hF⟩ => ⟨e, h1, hX.rt hF h1, hF⟩)
noncomputable def spGain (σ : Sg) (x t y o l : Int32) : Option Value → Sg → Prop := if isU σ x y then if isT t then if isT o then an σ (if l = 0 then gn1 (rwF σ.f σ.T x.toNatClampNeg y.toNatClampNeg) t o else gn2 (rwF σ.f σ.T x.toNatClampNeg y.toNatClampNeg) t o) else rf σ 2 else rf σ 2 else rf σ 1
theorem x_gain {x t y o l : Int32} (hX : XR M b σ) (hI : Inv σ C) : EvM ad 3 (iX11_gain ad) [.ref b, .int x, .int t, .int y, .int o, .int l] M (Po b M (spGain σ x t y o l)) := by
  have hn7 := hI.n7
  have hF := Fr.rf b 73 M
  obtain ⟨tb, sp, hts, h0, hRd, hT, hT2, hN, hTr, hPt, hWy, hFt, hSw, hRt⟩ := id hX
  unfold xTop at h0
  have t0 := hT.1.1
  have s0 := hT.2.1.1
  have s1 := hT.2.2.1.1
  have s2 := hT.2.2.2.1
  have n0 := hN.1
  obtain ⟨r, hr⟩ := hRt
  have r0 := hr.1
  unfold spGain
  refine ⟨Nat.le_of_ble_eq_true rfl, ?_⟩
  show Ev ad _ (rX11_gain ad) (0, [some (.ref b), some (.int x), some (.int t), some (.int y), some (.int o), some (.int l)], [], M) _
  repeat (first | refine es rfl rfl rfl ?_ | refine eg rfl (by assumption) rfl ?_ | refine ean rfl (by assumption) (by assumption) rfl ?_ | refine eal rfl (by assumption) (by assumption) rfl ?_ | refine eri rfl ?_ | refine erv rfl ?_ | refine erl rfl ?_ | refine era rfl ?_ | refine erz0 rfl ?_ | refine erz1 rfl ?_)
  try dsimp only [set1, set2, kilP, List.set_cons_zero, List.set_cons_succ, List.getElem?_cons_zero, List.getElem?_cons_succ, List.nil_append, List.cons_append, Option.toList_some, Option.toList_none]
  refine ecr rfl rfl (by assumption) rfl rfl rfl (x_unl hX) (by first | rfl | exact Nat.blt_eq.mpr (by omega)) rfl ?_
  by_cases c : isU σ x y
  rotate_left
  · rw [if_neg c, show bI (isU σ x y) = 0 from if_neg c]
    repeat (first | refine es rfl rfl rfl ?_ | refine eg rfl (by assumption) rfl ?_ | refine ean rfl (by assumption) (by assumption) rfl ?_ | refine eal rfl (by assumption) (by assumption) rfl ?_ | refine eri rfl ?_ | refine erv rfl ?_ | refine erl rfl ?_ | refine era rfl ?_ | refine erz0 rfl ?_ | refine erz1 rfl ?_)
    try dsimp only [set1, set2, kilP, List.set_cons_zero, List.set_cons_succ, List.getElem?_cons_zero, List.getElem?_cons_succ, List.nil_append, List.cons_append, Option.toList_some, Option.toList_none]
    refine ecv rfl rfl (by assumption) rfl rfl rfl (x_ref hX) (by first | rfl | exact Nat.blt_eq.mpr (by omega)) ?_
    rintro v M9 ⟨rfl, hX9, hF9⟩
    try dsimp only [set1, set2, kilP, List.set_cons_zero, List.set_cons_succ, List.getElem?_cons_zero, List.getElem?_cons_succ, List.nil_append, List.cons_append, Option.toList_some, Option.toList_none]
    repeat (first | refine es rfl rfl rfl ?_ | refine eg rfl (by assumption) rfl ?_ | refine ean rfl (by assumption) (by assumption) rfl ?_ | refine eal rfl (by assumption) (by assumption) rfl ?_ | refine eri rfl ?_ | refine erv rfl ?_ | refine erl rfl ?_ | refine era rfl ?_ | refine erz0 rfl ?_ | refine erz1 rfl ?_)
    try dsimp only [set1, set2, kilP, List.set_cons_zero, List.set_cons_succ, List.getElem?_cons_zero, List.getElem?_cons_succ, List.nil_append, List.cons_append, Option.toList_some, Option.toList_none]
    exact ⟨_, ⟨rfl, rfl⟩, hX9, hF.tr (hF9.wide (lo2 := b) (n2 := 73) (by omega) (by omega)) (by omega) (by omega)⟩
  rw [if_pos c, show bI (isU σ x y) = 1 from if_pos c]
  obtain ⟨k, j, hk, hj, hne, rfl, rfl⟩ := isU_k hn7 c
  have hk7 : k < 7 := by omega
  have hj7 : j < 7 := by omega
  rw [nI_clamp (by omega), nI_clamp (by omega)]
  repeat (first | refine es rfl rfl rfl ?_ | refine eg rfl (by assumption) rfl ?_ | refine ean rfl (by assumption) (by assumption) rfl ?_ | refine eal rfl (by assumption) (by assumption) rfl ?_ | refine eri rfl ?_ | refine erv rfl ?_ | refine erl rfl ?_ | refine era rfl ?_ | refine erz0 rfl ?_ | refine erz1 rfl ?_)
  try dsimp only [set1, set2, kilP, List.set_cons_zero, List.set_cons_succ, List.getElem?_cons_zero, List.getElem?_cons_succ, List.nil_append, List.cons_append, Option.toList_some, Option.toList_none]
  refine ecsr rfl rfl rfl rfl rfl rfl (x_isT) (by first | rfl | exact Nat.blt_eq.mpr (by omega)) rfl ?_
  by_cases c1 : isT t
  rotate_left
  · rw [if_neg c1, show bI (isT t) = 0 from if_neg c1]
    repeat (first | refine es rfl rfl rfl ?_ | refine eg rfl (by assumption) rfl ?_ | refine ean rfl (by assumption) (by assumption) rfl ?_ | refine eal rfl (by assumption) (by assumption) rfl ?_ | refine eri rfl ?_ | refine erv rfl ?_ | refine erl rfl ?_ | refine era rfl ?_ | refine erz0 rfl ?_ | refine erz1 rfl ?_)
    try dsimp only [set1, set2, kilP, List.set_cons_zero, List.set_cons_succ, List.getElem?_cons_zero, List.getElem?_cons_succ, List.nil_append, List.cons_append, Option.toList_some, Option.toList_none]
    refine ecv rfl rfl (by assumption) rfl rfl rfl (x_ref hX) (by first | rfl | exact Nat.blt_eq.mpr (by omega)) ?_
    rintro v M9 ⟨rfl, hX9, hF9⟩
    try dsimp only [set1, set2, kilP, List.set_cons_zero, List.set_cons_succ, List.getElem?_cons_zero, List.getElem?_cons_succ, List.nil_append, List.cons_append, Option.toList_some, Option.toList_none]
    repeat (first | refine es rfl rfl rfl ?_ | refine eg rfl (by assumption) rfl ?_ | refine ean rfl (by assumption) (by assumption) rfl ?_ | refine eal rfl (by assumption) (by assumption) rfl ?_ | refine eri rfl ?_ | refine erv rfl ?_ | refine erl rfl ?_ | refine era rfl ?_ | refine erz0 rfl ?_ | refine erz1 rfl ?_)
    try dsimp only [set1, set2, kilP, List.set_cons_zero, List.set_cons_succ, List.getElem?_cons_zero, List.getElem?_cons_succ, List.nil_append, List.cons_append, Option.toList_some, Option.toList_none]
    exact ⟨_, ⟨rfl, rfl⟩, hX9, hF.tr (hF9.wide (lo2 := b) (n2 := 73) (by omega) (by omega)) (by omega) (by omega)⟩
  rw [if_pos c1, show bI (isT t) = 1 from if_pos c1]
  repeat (first | refine es rfl rfl rfl ?_ | refine eg rfl (by assumption) rfl ?_ | refine ean rfl (by assumption) (by assumption) rfl ?_ | refine eal rfl (by assumption) (by assumption) rfl ?_ | refine eri rfl ?_ | refine erv rfl ?_ | refine erl rfl ?_ | refine era rfl ?_ | refine erz0 rfl ?_ | refine erz1 rfl ?_)
  try dsimp only [set1, set2, kilP, List.set_cons_zero, List.set_cons_succ, List.getElem?_cons_zero, List.getElem?_cons_succ, List.nil_append, List.cons_append, Option.toList_some, Option.toList_none]
  refine ecsr rfl rfl rfl rfl rfl rfl (x_isT) (by first | rfl | exact Nat.blt_eq.mpr (by omega)) rfl ?_
  by_cases c2 : isT o
  rotate_left
  · rw [if_neg c2, show bI (isT o) = 0 from if_neg c2]
    repeat (first | refine es rfl rfl rfl ?_ | refine eg rfl (by assumption) rfl ?_ | refine ean rfl (by assumption) (by assumption) rfl ?_ | refine eal rfl (by assumption) (by assumption) rfl ?_ | refine eri rfl ?_ | refine erv rfl ?_ | refine erl rfl ?_ | refine era rfl ?_ | refine erz0 rfl ?_ | refine erz1 rfl ?_)
    try dsimp only [set1, set2, kilP, List.set_cons_zero, List.set_cons_succ, List.getElem?_cons_zero, List.getElem?_cons_succ, List.nil_append, List.cons_append, Option.toList_some, Option.toList_none]
    refine ecv rfl rfl (by assumption) rfl rfl rfl (x_ref hX) (by first | rfl | exact Nat.blt_eq.mpr (by omega)) ?_
    rintro v M9 ⟨rfl, hX9, hF9⟩
    try dsimp only [set1, set2, kilP, List.set_cons_zero, List.set_cons_succ, List.getElem?_cons_zero, List.getElem?_cons_succ, List.nil_append, List.cons_append, Option.toList_some, Option.toList_none]
    repeat (first | refine es rfl rfl rfl ?_ | refine eg rfl (by assumption) rfl ?_ | refine ean rfl (by assumption) (by assumption) rfl ?_ | refine eal rfl (by assumption) (by assumption) rfl ?_ | refine eri rfl ?_ | refine erv rfl ?_ | refine erl rfl ?_ | refine era rfl ?_ | refine erz0 rfl ?_ | refine erz1 rfl ?_)
    try dsimp only [set1, set2, kilP, List.set_cons_zero, List.set_cons_succ, List.getElem?_cons_zero, List.getElem?_cons_succ, List.nil_append, List.cons_append, Option.toList_some, Option.toList_none]
    exact ⟨_, ⟨rfl, rfl⟩, hX9, hF.tr (hF9.wide (lo2 := b) (n2 := 73) (by omega) (by omega)) (by omega) (by omega)⟩
  rw [if_pos c2, show bI (isT o) = 1 from if_pos c2]
  repeat (first | refine es rfl rfl rfl ?_ | refine eg rfl (by assumption) rfl ?_ | refine ean rfl (by assumption) (by assumption) rfl ?_ | refine eal rfl (by assumption) (by assumption) rfl ?_ | refine eri rfl ?_ | refine erv rfl ?_ | refine erl rfl ?_ | refine era rfl ?_ | refine erz0 rfl ?_ | refine erz1 rfl ?_)
  try dsimp only [set1, set2, kilP, List.set_cons_zero, List.set_cons_succ, List.getElem?_cons_zero, List.getElem?_cons_succ, List.nil_append, List.cons_append, Option.toList_some, Option.toList_none]
  refine ecv rfl rfl (by assumption) rfl rfl rfl (x_btw hX hI hr hT hN (by unfold tsp at hts; omega) hk7 hj7) (by first | rfl | exact Nat.blt_eq.mpr (by omega)) ?_
  rintro v M1 ⟨rfl, hr1, hX1, hF1⟩
  have r1 := hr1.1
  have h01 : M1.1 b = _ := (hF1.1 _ (by omega)).trans h0
  have hF := hF.tr (hF1.wide (lo2 := b) (n2 := 73) (by omega) (by omega)) (by omega) (by omega)
  try dsimp only [set1, set2, kilP, List.set_cons_zero, List.set_cons_succ, List.getElem?_cons_zero, List.getElem?_cons_succ, List.nil_append, List.cons_append, Option.toList_some, Option.toList_none]
  repeat (first | refine es rfl rfl rfl ?_ | refine eg rfl (by assumption) rfl ?_ | refine ean rfl (by assumption) (by assumption) rfl ?_ | refine eal rfl (by assumption) (by assumption) rfl ?_ | refine eri rfl ?_ | refine erv rfl ?_ | refine erl rfl ?_ | refine era rfl ?_ | refine erz0 rfl ?_ | refine erz1 rfl ?_)
  try dsimp only [set1, set2, kilP, List.set_cons_zero, List.set_cons_succ, List.getElem?_cons_zero, List.getElem?_cons_succ, List.nil_append, List.cons_append, Option.toList_some, Option.toList_none]
  refine ei _ rfl rfl (fun c3 => ?_) (fun c3 => ?_)
  · rw [if_pos c3]
    repeat (first | refine es rfl rfl rfl ?_ | refine eg rfl (by assumption) rfl ?_ | refine ean rfl (by assumption) (by assumption) rfl ?_ | refine eal rfl (by assumption) (by assumption) rfl ?_ | refine eri rfl ?_ | refine erv rfl ?_ | refine erl rfl ?_ | refine era rfl ?_ | refine erz0 rfl ?_ | refine erz1 rfl ?_)
    try dsimp only [set1, set2, kilP, List.set_cons_zero, List.set_cons_succ, List.getElem?_cons_zero, List.getElem?_cons_succ, List.nil_append, List.cons_append, Option.toList_some, Option.toList_none]
    refine ecr rfl rfl (by assumption) rfl rfl rfl (e6_ones hr1) (by first | rfl | exact Nat.blt_eq.mpr (by omega)) rfl ?_
    repeat (first | refine es rfl rfl rfl ?_ | refine eg rfl (by assumption) rfl ?_ | refine ean rfl (by assumption) (by assumption) rfl ?_ | refine eal rfl (by assumption) (by assumption) rfl ?_ | refine eri rfl ?_ | refine erv rfl ?_ | refine erl rfl ?_ | refine era rfl ?_ | refine erz0 rfl ?_ | refine erz1 rfl ?_)
    try dsimp only [set1, set2, kilP, List.set_cons_zero, List.set_cons_succ, List.getElem?_cons_zero, List.getElem?_cons_succ, List.nil_append, List.cons_append, Option.toList_some, Option.toList_none]
    refine ecv rfl rfl (by assumption) rfl rfl rfl (x_ans hX1) (by first | rfl | exact Nat.blt_eq.mpr (by omega)) ?_
    rintro v M9 ⟨rfl, hX9, hF9⟩
    try dsimp only [set1, set2, kilP, List.set_cons_zero, List.set_cons_succ, List.getElem?_cons_zero, List.getElem?_cons_succ, List.nil_append, List.cons_append, Option.toList_some, Option.toList_none]
    repeat (first | refine es rfl rfl rfl ?_ | refine eg rfl (by assumption) rfl ?_ | refine ean rfl (by assumption) (by assumption) rfl ?_ | refine eal rfl (by assumption) (by assumption) rfl ?_ | refine eri rfl ?_ | refine erv rfl ?_ | refine erl rfl ?_ | refine era rfl ?_ | refine erz0 rfl ?_ | refine erz1 rfl ?_)
    try dsimp only [set1, set2, kilP, List.set_cons_zero, List.set_cons_succ, List.getElem?_cons_zero, List.getElem?_cons_succ, List.nil_append, List.cons_append, Option.toList_some, Option.toList_none]
    exact ⟨_, ⟨rfl, rfl⟩, hX9, hF.tr (hF9.wide (lo2 := b) (n2 := 73) (by omega) (by omega)) (by omega) (by omega)⟩
  · rw [if_neg c3]
    repeat (first | refine es rfl rfl rfl ?_ | refine eg rfl (by assumption) rfl ?_ | refine ean rfl (by assumption) (by assumption) rfl ?_ | refine eal rfl (by assumption) (by assumption) rfl ?_ | refine eri rfl ?_ | refine erv rfl ?_ | refine erl rfl ?_ | refine era rfl ?_ | refine erz0 rfl ?_ | refine erz1 rfl ?_)
    try dsimp only [set1, set2, kilP, List.set_cons_zero, List.set_cons_succ, List.getElem?_cons_zero, List.getElem?_cons_succ, List.nil_append, List.cons_append, Option.toList_some, Option.toList_none]
    refine ecr rfl rfl (by assumption) rfl rfl rfl (e6_others hr1) (by first | rfl | exact Nat.blt_eq.mpr (by omega)) rfl ?_
    repeat (first | refine es rfl rfl rfl ?_ | refine eg rfl (by assumption) rfl ?_ | refine ean rfl (by assumption) (by assumption) rfl ?_ | refine eal rfl (by assumption) (by assumption) rfl ?_ | refine eri rfl ?_ | refine erv rfl ?_ | refine erl rfl ?_ | refine era rfl ?_ | refine erz0 rfl ?_ | refine erz1 rfl ?_)
    try dsimp only [set1, set2, kilP, List.set_cons_zero, List.set_cons_succ, List.getElem?_cons_zero, List.getElem?_cons_succ, List.nil_append, List.cons_append, Option.toList_some, Option.toList_none]
    refine ecv rfl rfl (by assumption) rfl rfl rfl (x_ans hX1) (by first | rfl | exact Nat.blt_eq.mpr (by omega)) ?_
    rintro v M9 ⟨rfl, hX9, hF9⟩
    try dsimp only [set1, set2, kilP, List.set_cons_zero, List.set_cons_succ, List.getElem?_cons_zero, List.getElem?_cons_succ, List.nil_append, List.cons_append, Option.toList_some, Option.toList_none]
    repeat (first | refine es rfl rfl rfl ?_ | refine eg rfl (by assumption) rfl ?_ | refine ean rfl (by assumption) (by assumption) rfl ?_ | refine eal rfl (by assumption) (by assumption) rfl ?_ | refine eri rfl ?_ | refine erv rfl ?_ | refine erl rfl ?_ | refine era rfl ?_ | refine erz0 rfl ?_ | refine erz1 rfl ?_)
    try dsimp only [set1, set2, kilP, List.set_cons_zero, List.set_cons_succ, List.getElem?_cons_zero, List.getElem?_cons_succ, List.nil_append, List.cons_append, Option.toList_some, Option.toList_none]
    exact ⟨_, ⟨rfl, rfl⟩, hX9, hF.tr (hF9.wide (lo2 := b) (n2 := 73) (by omega) (by omega)) (by omega) (by omega)⟩
noncomputable def rsA (σ : Sg) (k j : Nat) : Nat × Int32 := rsO (rwF σ.f σ.T k j) 10 (0, -2)
noncomputable def spRests (σ : Sg) (x y : Int32) : Option Value → Sg → Prop := if isU σ x y then an σ (nI (rsA σ x.toNatClampNeg y.toNatClampNeg).1) else rf σ 1
noncomputable def spRest (σ : Sg) (x y : Int32) : Option Value → Sg → Prop := if isU σ x y then an σ (rsA σ x.toNatClampNeg y.toNatClampNeg).2 else rf σ 1
theorem e6_cnt {ad : Nat → Nat} {M : Mm} {b : Nat} {r : Rt} (hb : aRt M b r) : Rd ad 0 (iX6_restCount ad) [.ref b] M (some (.int r.2.2.2.1)) := by
  obtain ⟨h0, h1, h2⟩ := hb
  refine ⟨Nat.le_of_ble_eq_true rfl, ?_⟩
  show Ev ad _ (rX6_restCount ad) (0, [some (.ref b)], [], M) _
  repeat (first | refine es rfl rfl rfl ?_ | refine eg rfl (by assumption) rfl ?_ | refine ean rfl (by assumption) (by assumption) rfl ?_ | refine eal rfl (by assumption) (by assumption) rfl ?_ | refine eri rfl ?_ | refine erv rfl ?_ | refine erl rfl ?_ | refine era rfl ?_ | refine erz0 rfl ?_ | refine erz1 rfl ?_)
  try dsimp only [set1, set2, kilP, List.set_cons_zero, List.set_cons_succ, List.getElem?_cons_zero, List.getElem?_cons_succ, List.nil_append, List.cons_append, Option.toList_some, Option.toList_none]
  exact ⟨rfl, rfl⟩
theorem e6_fst {ad : Nat → Nat} {M : Mm} {b : Nat} {r : Rt} (hb : aRt M b r) : Rd ad 0 (iX6_firstRest ad) [.ref b] M (some (.int r.2.2.2.2)) := by
  obtain ⟨h0, h1, h2⟩ := hb
  refine ⟨Nat.le_of_ble_eq_true rfl, ?_⟩
  show Ev ad _ (rX6_firstRest ad) (0, [some (.ref b)], [], M) _
  repeat (first | refine es rfl rfl rfl ?_ | refine eg rfl (by assumption) rfl ?_ | refine ean rfl (by assumption) (by assumption) rfl ?_ | refine eal rfl (by assumption) (by assumption) rfl ?_ | refine eri rfl ?_ | refine erv rfl ?_ | refine erl rfl ?_ | refine era rfl ?_ | refine erz0 rfl ?_ | refine erz1 rfl ?_)
  try dsimp only [set1, set2, kilP, List.set_cons_zero, List.set_cons_succ, List.getElem?_cons_zero, List.getElem?_cons_succ, List.nil_append, List.cons_append, Option.toList_some, Option.toList_none]
  exact ⟨rfl, rfl⟩
theorem x_rests {x y : Int32} (hX : XR M b σ) (hI : Inv σ C) : EvM ad 5 (iX11_rests ad) [.ref b, .int x, .int y] M (Po b M (spRests σ x y)) := by
  have hn7 := hI.n7
  have hF := Fr.rf b 73 M
  obtain ⟨tb, sp, hts, h0, hRd, hT, hT2, hN, hTr, hPt, hWy, hFt, hSw, hRt⟩ := id hX
  unfold xTop at h0
  have t0 := hT.1.1
  have s0 := hT.2.1.1
  have s1 := hT.2.2.1.1
  have s2 := hT.2.2.2.1
  have n0 := hN.1
  obtain ⟨r, hr⟩ := hRt
  have r0 := hr.1
  unfold spRests
  refine ⟨Nat.le_of_ble_eq_true rfl, ?_⟩
  show Ev ad _ (rX11_rests ad) (0, [some (.ref b), some (.int x), some (.int y)], [], M) _
  repeat (first | refine es rfl rfl rfl ?_ | refine eg rfl (by assumption) rfl ?_ | refine ean rfl (by assumption) (by assumption) rfl ?_ | refine eal rfl (by assumption) (by assumption) rfl ?_ | refine eri rfl ?_ | refine erv rfl ?_ | refine erl rfl ?_ | refine era rfl ?_ | refine erz0 rfl ?_ | refine erz1 rfl ?_)
  try dsimp only [set1, set2, kilP, List.set_cons_zero, List.set_cons_succ, List.getElem?_cons_zero, List.getElem?_cons_succ, List.nil_append, List.cons_append, Option.toList_some, Option.toList_none]
  refine ecr rfl rfl (by assumption) rfl rfl rfl (x_unl hX) (by first | rfl | exact Nat.blt_eq.mpr (by omega)) rfl ?_
  by_cases c : isU σ x y
  rotate_left
  · rw [if_neg c, show bI (isU σ x y) = 0 from if_neg c]
    repeat (first | refine es rfl rfl rfl ?_ | refine eg rfl (by assumption) rfl ?_ | refine ean rfl (by assumption) (by assumption) rfl ?_ | refine eal rfl (by assumption) (by assumption) rfl ?_ | refine eri rfl ?_ | refine erv rfl ?_ | refine erl rfl ?_ | refine era rfl ?_ | refine erz0 rfl ?_ | refine erz1 rfl ?_)
    try dsimp only [set1, set2, kilP, List.set_cons_zero, List.set_cons_succ, List.getElem?_cons_zero, List.getElem?_cons_succ, List.nil_append, List.cons_append, Option.toList_some, Option.toList_none]
    refine ecv rfl rfl (by assumption) rfl rfl rfl (x_ref hX) (by first | rfl | exact Nat.blt_eq.mpr (by omega)) ?_
    rintro v M9 ⟨rfl, hX9, hF9⟩
    try dsimp only [set1, set2, kilP, List.set_cons_zero, List.set_cons_succ, List.getElem?_cons_zero, List.getElem?_cons_succ, List.nil_append, List.cons_append, Option.toList_some, Option.toList_none]
    repeat (first | refine es rfl rfl rfl ?_ | refine eg rfl (by assumption) rfl ?_ | refine ean rfl (by assumption) (by assumption) rfl ?_ | refine eal rfl (by assumption) (by assumption) rfl ?_ | refine eri rfl ?_ | refine erv rfl ?_ | refine erl rfl ?_ | refine era rfl ?_ | refine erz0 rfl ?_ | refine erz1 rfl ?_)
    try dsimp only [set1, set2, kilP, List.set_cons_zero, List.set_cons_succ, List.getElem?_cons_zero, List.getElem?_cons_succ, List.nil_append, List.cons_append, Option.toList_some, Option.toList_none]
    exact ⟨_, ⟨rfl, rfl⟩, hX9, hF.tr (hF9.wide (lo2 := b) (n2 := 73) (by omega) (by omega)) (by omega) (by omega)⟩
  rw [if_pos c, show bI (isU σ x y) = 1 from if_pos c]
  obtain ⟨k, j, hk, hj, hne, rfl, rfl⟩ := isU_k hn7 c
  have hk7 : k < 7 := by omega
  have hj7 : j < 7 := by omega
  rw [nI_clamp (by omega), nI_clamp (by omega)]
  generalize hA : rsA σ k j = A
  repeat (first | refine es rfl rfl rfl ?_ | refine eg rfl (by assumption) rfl ?_ | refine ean rfl (by assumption) (by assumption) rfl ?_ | refine eal rfl (by assumption) (by assumption) rfl ?_ | refine eri rfl ?_ | refine erv rfl ?_ | refine erl rfl ?_ | refine era rfl ?_ | refine erz0 rfl ?_ | refine erz1 rfl ?_)
  try dsimp only [set1, set2, kilP, List.set_cons_zero, List.set_cons_succ, List.getElem?_cons_zero, List.getElem?_cons_succ, List.nil_append, List.cons_append, Option.toList_some, Option.toList_none]
  refine ecv rfl rfl (by assumption) rfl rfl rfl (x_btw hX hI hr hT hN (by unfold tsp at hts; omega) hk7 hj7) (by first | rfl | exact Nat.blt_eq.mpr (by omega)) ?_
  rintro v M1 ⟨rfl, hr1, hX1, hF1⟩
  have r1 := hr1.1
  have h01 : M1.1 b = _ := (hF1.1 _ (by omega)).trans h0
  have hF := hF.tr (hF1.wide (lo2 := b) (n2 := 73) (by omega) (by omega)) (by omega) (by omega)
  try dsimp only [set1, set2, kilP, List.set_cons_zero, List.set_cons_succ, List.getElem?_cons_zero, List.getElem?_cons_succ, List.nil_append, List.cons_append, Option.toList_some, Option.toList_none]
  repeat (first | refine es rfl rfl rfl ?_ | refine eg rfl (by assumption) rfl ?_ | refine ean rfl (by assumption) (by assumption) rfl ?_ | refine eal rfl (by assumption) (by assumption) rfl ?_ | refine eri rfl ?_ | refine erv rfl ?_ | refine erl rfl ?_ | refine era rfl ?_ | refine erz0 rfl ?_ | refine erz1 rfl ?_)
  try dsimp only [set1, set2, kilP, List.set_cons_zero, List.set_cons_succ, List.getElem?_cons_zero, List.getElem?_cons_succ, List.nil_append, List.cons_append, Option.toList_some, Option.toList_none]
  refine ecv rfl rfl (by assumption) rfl rfl rfl (e6_rests hr1) (by first | rfl | exact Nat.blt_eq.mpr (by omega)) ?_
  rintro v M2 ⟨rfl, ⟨o1, o2, hr2⟩, hF2⟩
  rw [show rsO (rwF σ.f σ.T k j, r.2).1 10 (0, -2) = A from hA] at hr2
  have r2 := hr2.1
  have hX2 := hX1.rt hF2 hr2
  have h02 : M2.1 b = _ := (hF2.1 _ (by omega)).trans h01
  have hF := hF.tr (hF2.wide (lo2 := b) (n2 := 73) (by omega) (by omega)) (by omega) (by omega)
  try dsimp only [set1, set2, kilP, List.set_cons_zero, List.set_cons_succ, List.getElem?_cons_zero, List.getElem?_cons_succ, List.nil_append, List.cons_append, Option.toList_some, Option.toList_none]
  repeat (first | refine es rfl rfl rfl ?_ | refine eg rfl (by assumption) rfl ?_ | refine ean rfl (by assumption) (by assumption) rfl ?_ | refine eal rfl (by assumption) (by assumption) rfl ?_ | refine eri rfl ?_ | refine erv rfl ?_ | refine erl rfl ?_ | refine era rfl ?_ | refine erz0 rfl ?_ | refine erz1 rfl ?_)
  try dsimp only [set1, set2, kilP, List.set_cons_zero, List.set_cons_succ, List.getElem?_cons_zero, List.getElem?_cons_succ, List.nil_append, List.cons_append, Option.toList_some, Option.toList_none]
  refine ecr rfl rfl (by assumption) rfl rfl rfl (e6_cnt hr2) (by first | rfl | exact Nat.blt_eq.mpr (by omega)) rfl ?_
  repeat (first | refine es rfl rfl rfl ?_ | refine eg rfl (by assumption) rfl ?_ | refine ean rfl (by assumption) (by assumption) rfl ?_ | refine eal rfl (by assumption) (by assumption) rfl ?_ | refine eri rfl ?_ | refine erv rfl ?_ | refine erl rfl ?_ | refine era rfl ?_ | refine erz0 rfl ?_ | refine erz1 rfl ?_)
  try dsimp only [set1, set2, kilP, List.set_cons_zero, List.set_cons_succ, List.getElem?_cons_zero, List.getElem?_cons_succ, List.nil_append, List.cons_append, Option.toList_some, Option.toList_none]
  refine ecv rfl rfl (by assumption) rfl rfl rfl (x_ans hX2) (by first | rfl | exact Nat.blt_eq.mpr (by omega)) ?_
  rintro v M9 ⟨rfl, hX9, hF9⟩
  try dsimp only [set1, set2, kilP, List.set_cons_zero, List.set_cons_succ, List.getElem?_cons_zero, List.getElem?_cons_succ, List.nil_append, List.cons_append, Option.toList_some, Option.toList_none]
  repeat (first | refine es rfl rfl rfl ?_ | refine eg rfl (by assumption) rfl ?_ | refine ean rfl (by assumption) (by assumption) rfl ?_ | refine eal rfl (by assumption) (by assumption) rfl ?_ | refine eri rfl ?_ | refine erv rfl ?_ | refine erl rfl ?_ | refine era rfl ?_ | refine erz0 rfl ?_ | refine erz1 rfl ?_)
  try dsimp only [set1, set2, kilP, List.set_cons_zero, List.set_cons_succ, List.getElem?_cons_zero, List.getElem?_cons_succ, List.nil_append, List.cons_append, Option.toList_some, Option.toList_none]
  exact ⟨_, ⟨rfl, rfl⟩, hX9, hF.tr (hF9.wide (lo2 := b) (n2 := 73) (by omega) (by omega)) (by omega) (by omega)⟩
theorem x_rest {x y : Int32} (hX : XR M b σ) (hI : Inv σ C) : EvM ad 5 (iX11_rest ad) [.ref b, .int x, .int y] M (Po b M (spRest σ x y)) := by
  have hn7 := hI.n7
  have hF := Fr.rf b 73 M
  obtain ⟨tb, sp, hts, h0, hRd, hT, hT2, hN, hTr, hPt, hWy, hFt, hSw, hRt⟩ := id hX
  unfold xTop at h0
  have t0 := hT.1.1
  have s0 := hT.2.1.1
  have s1 := hT.2.2.1.1
  have s2 := hT.2.2.2.1
  have n0 := hN.1
  obtain ⟨r, hr⟩ := hRt
  have r0 := hr.1
  unfold spRest
  refine ⟨Nat.le_of_ble_eq_true rfl, ?_⟩
  show Ev ad _ (rX11_rest ad) (0, [some (.ref b), some (.int x), some (.int y)], [], M) _
  repeat (first | refine es rfl rfl rfl ?_ | refine eg rfl (by assumption) rfl ?_ | refine ean rfl (by assumption) (by assumption) rfl ?_ | refine eal rfl (by assumption) (by assumption) rfl ?_ | refine eri rfl ?_ | refine erv rfl ?_ | refine erl rfl ?_ | refine era rfl ?_ | refine erz0 rfl ?_ | refine erz1 rfl ?_)
  try dsimp only [set1, set2, kilP, List.set_cons_zero, List.set_cons_succ, List.getElem?_cons_zero, List.getElem?_cons_succ, List.nil_append, List.cons_append, Option.toList_some, Option.toList_none]
  refine ecr rfl rfl (by assumption) rfl rfl rfl (x_unl hX) (by first | rfl | exact Nat.blt_eq.mpr (by omega)) rfl ?_
  by_cases c : isU σ x y
  rotate_left
  · rw [if_neg c, show bI (isU σ x y) = 0 from if_neg c]
    repeat (first | refine es rfl rfl rfl ?_ | refine eg rfl (by assumption) rfl ?_ | refine ean rfl (by assumption) (by assumption) rfl ?_ | refine eal rfl (by assumption) (by assumption) rfl ?_ | refine eri rfl ?_ | refine erv rfl ?_ | refine erl rfl ?_ | refine era rfl ?_ | refine erz0 rfl ?_ | refine erz1 rfl ?_)
    try dsimp only [set1, set2, kilP, List.set_cons_zero, List.set_cons_succ, List.getElem?_cons_zero, List.getElem?_cons_succ, List.nil_append, List.cons_append, Option.toList_some, Option.toList_none]
    refine ecv rfl rfl (by assumption) rfl rfl rfl (x_ref hX) (by first | rfl | exact Nat.blt_eq.mpr (by omega)) ?_
    rintro v M9 ⟨rfl, hX9, hF9⟩
    try dsimp only [set1, set2, kilP, List.set_cons_zero, List.set_cons_succ, List.getElem?_cons_zero, List.getElem?_cons_succ, List.nil_append, List.cons_append, Option.toList_some, Option.toList_none]
    repeat (first | refine es rfl rfl rfl ?_ | refine eg rfl (by assumption) rfl ?_ | refine ean rfl (by assumption) (by assumption) rfl ?_ | refine eal rfl (by assumption) (by assumption) rfl ?_ | refine eri rfl ?_ | refine erv rfl ?_ | refine erl rfl ?_ | refine era rfl ?_ | refine erz0 rfl ?_ | refine erz1 rfl ?_)
    try dsimp only [set1, set2, kilP, List.set_cons_zero, List.set_cons_succ, List.getElem?_cons_zero, List.getElem?_cons_succ, List.nil_append, List.cons_append, Option.toList_some, Option.toList_none]
    exact ⟨_, ⟨rfl, rfl⟩, hX9, hF.tr (hF9.wide (lo2 := b) (n2 := 73) (by omega) (by omega)) (by omega) (by omega)⟩
  rw [if_pos c, show bI (isU σ x y) = 1 from if_pos c]
  obtain ⟨k, j, hk, hj, hne, rfl, rfl⟩ := isU_k hn7 c
  have hk7 : k < 7 := by omega
  have hj7 : j < 7 := by omega
  rw [nI_clamp (by omega), nI_clamp (by omega)]
  generalize hA : rsA σ k j = A
  repeat (first | refine es rfl rfl rfl ?_ | refine eg rfl (by assumption) rfl ?_ | refine ean rfl (by assumption) (by assumption) rfl ?_ | refine eal rfl (by assumption) (by assumption) rfl ?_ | refine eri rfl ?_ | refine erv rfl ?_ | refine erl rfl ?_ | refine era rfl ?_ | refine erz0 rfl ?_ | refine erz1 rfl ?_)
  try dsimp only [set1, set2, kilP, List.set_cons_zero, List.set_cons_succ, List.getElem?_cons_zero, List.getElem?_cons_succ, List.nil_append, List.cons_append, Option.toList_some, Option.toList_none]
  refine ecv rfl rfl (by assumption) rfl rfl rfl (x_btw hX hI hr hT hN (by unfold tsp at hts; omega) hk7 hj7) (by first | rfl | exact Nat.blt_eq.mpr (by omega)) ?_
  rintro v M1 ⟨rfl, hr1, hX1, hF1⟩
  have r1 := hr1.1
  have h01 : M1.1 b = _ := (hF1.1 _ (by omega)).trans h0
  have hF := hF.tr (hF1.wide (lo2 := b) (n2 := 73) (by omega) (by omega)) (by omega) (by omega)
  try dsimp only [set1, set2, kilP, List.set_cons_zero, List.set_cons_succ, List.getElem?_cons_zero, List.getElem?_cons_succ, List.nil_append, List.cons_append, Option.toList_some, Option.toList_none]
  repeat (first | refine es rfl rfl rfl ?_ | refine eg rfl (by assumption) rfl ?_ | refine ean rfl (by assumption) (by assumption) rfl ?_ | refine eal rfl (by assumption) (by assumption) rfl ?_ | refine eri rfl ?_ | refine erv rfl ?_ | refine erl rfl ?_ | refine era rfl ?_ | refine erz0 rfl ?_ | refine erz1 rfl ?_)
  try dsimp only [set1, set2, kilP, List.set_cons_zero, List.set_cons_succ, List.getElem?_cons_zero, List.getElem?_cons_succ, List.nil_append, List.cons_append, Option.toList_some, Option.toList_none]
  refine ecv rfl rfl (by assumption) rfl rfl rfl (e6_rests hr1) (by first | rfl | exact Nat.blt_eq.mpr (by omega)) ?_
  rintro v M2 ⟨rfl, ⟨o1, o2, hr2⟩, hF2⟩
  rw [show rsO (rwF σ.f σ.T k j, r.2).1 10 (0, -2) = A from hA] at hr2
  have r2 := hr2.1
  have hX2 := hX1.rt hF2 hr2
  have h02 : M2.1 b = _ := (hF2.1 _ (by omega)).trans h01
  have hF := hF.tr (hF2.wide (lo2 := b) (n2 := 73) (by omega) (by omega)) (by omega) (by omega)
  try dsimp only [set1, set2, kilP, List.set_cons_zero, List.set_cons_succ, List.getElem?_cons_zero, List.getElem?_cons_succ, List.nil_append, List.cons_append, Option.toList_some, Option.toList_none]
  repeat (first | refine es rfl rfl rfl ?_ | refine eg rfl (by assumption) rfl ?_ | refine ean rfl (by assumption) (by assumption) rfl ?_ | refine eal rfl (by assumption) (by assumption) rfl ?_ | refine eri rfl ?_ | refine erv rfl ?_ | refine erl rfl ?_ | refine era rfl ?_ | refine erz0 rfl ?_ | refine erz1 rfl ?_)
  try dsimp only [set1, set2, kilP, List.set_cons_zero, List.set_cons_succ, List.getElem?_cons_zero, List.getElem?_cons_succ, List.nil_append, List.cons_append, Option.toList_some, Option.toList_none]
  refine ecr rfl rfl (by assumption) rfl rfl rfl (e6_fst hr2) (by first | rfl | exact Nat.blt_eq.mpr (by omega)) rfl ?_
  repeat (first | refine es rfl rfl rfl ?_ | refine eg rfl (by assumption) rfl ?_ | refine ean rfl (by assumption) (by assumption) rfl ?_ | refine eal rfl (by assumption) (by assumption) rfl ?_ | refine eri rfl ?_ | refine erv rfl ?_ | refine erl rfl ?_ | refine era rfl ?_ | refine erz0 rfl ?_ | refine erz1 rfl ?_)
  try dsimp only [set1, set2, kilP, List.set_cons_zero, List.set_cons_succ, List.getElem?_cons_zero, List.getElem?_cons_succ, List.nil_append, List.cons_append, Option.toList_some, Option.toList_none]
  refine ecv rfl rfl (by assumption) rfl rfl rfl (x_ans hX2) (by first | rfl | exact Nat.blt_eq.mpr (by omega)) ?_
  rintro v M9 ⟨rfl, hX9, hF9⟩
  try dsimp only [set1, set2, kilP, List.set_cons_zero, List.set_cons_succ, List.getElem?_cons_zero, List.getElem?_cons_succ, List.nil_append, List.cons_append, Option.toList_some, Option.toList_none]
  repeat (first | refine es rfl rfl rfl ?_ | refine eg rfl (by assumption) rfl ?_ | refine ean rfl (by assumption) (by assumption) rfl ?_ | refine eal rfl (by assumption) (by assumption) rfl ?_ | refine eri rfl ?_ | refine erv rfl ?_ | refine erl rfl ?_ | refine era rfl ?_ | refine erz0 rfl ?_ | refine erz1 rfl ?_)
  try dsimp only [set1, set2, kilP, List.set_cons_zero, List.set_cons_succ, List.getElem?_cons_zero, List.getElem?_cons_succ, List.nil_append, List.cons_append, Option.toList_some, Option.toList_none]
  exact ⟨_, ⟨rfl, rfl⟩, hX9, hF.tr (hF9.wide (lo2 := b) (n2 := 73) (by omega) (by omega)) (by omega) (by omega)⟩
abbrev isW (s n : Int32) : Prop := (0 ≤ s ∧ s < 65537) ∧ 0 ≤ n ∧ n ≤ 60
theorem x_isW {s n : Int32} : Rd ad 0 (iX11_areDraws ad) [.int s, .int n] M (some (.int (bI (isW s n)))) := by
  refine ⟨Nat.le_of_ble_eq_true rfl, ?_⟩
  show Ev ad _ (rX11_areDraws ad) (0, [some (.int s), some (.int n)], [], M) _
  repeat (first | refine es rfl rfl rfl ?_ | refine eg rfl (by assumption) rfl ?_ | refine ean rfl (by assumption) (by assumption) rfl ?_ | refine eal rfl (by assumption) (by assumption) rfl ?_ | refine eri rfl ?_ | refine erv rfl ?_ | refine erl rfl ?_ | refine era rfl ?_ | refine erz0 rfl ?_ | refine erz1 rfl ?_)
  try dsimp only [set1, set2, kilP, List.set_cons_zero, List.set_cons_succ, List.getElem?_cons_zero, List.getElem?_cons_succ, List.nil_append, List.cons_append, Option.toList_some, Option.toList_none]
  refine ei _ rfl rfl (fun c => ?_) (fun c => ?_)
  · repeat (first | refine es rfl rfl rfl ?_ | refine eg rfl (by assumption) rfl ?_ | refine ean rfl (by assumption) (by assumption) rfl ?_ | refine eal rfl (by assumption) (by assumption) rfl ?_ | refine eri rfl ?_ | refine erv rfl ?_ | refine erl rfl ?_ | refine era rfl ?_ | refine erz0 rfl ?_ | refine erz1 rfl ?_)
    try dsimp only [set1, set2, kilP, List.set_cons_zero, List.set_cons_succ, List.getElem?_cons_zero, List.getElem?_cons_succ, List.nil_append, List.cons_append, Option.toList_some, Option.toList_none]
    rw [show bI (isW s n) = 0 from if_neg (fun q => Int32.not_le.mpr c q.1.1)]
    exact ⟨rfl, rfl⟩
  repeat (first | refine es rfl rfl rfl ?_ | refine eg rfl (by assumption) rfl ?_ | refine ean rfl (by assumption) (by assumption) rfl ?_ | refine eal rfl (by assumption) (by assumption) rfl ?_ | refine eri rfl ?_ | refine erv rfl ?_ | refine erl rfl ?_ | refine era rfl ?_ | refine erz0 rfl ?_ | refine erz1 rfl ?_)
  try dsimp only [set1, set2, kilP, List.set_cons_zero, List.set_cons_succ, List.getElem?_cons_zero, List.getElem?_cons_succ, List.nil_append, List.cons_append, Option.toList_some, Option.toList_none]
  refine ei _ rfl rfl (fun c2 => ?_) (fun c2 => ?_)
  · repeat (first | refine es rfl rfl rfl ?_ | refine eg rfl (by assumption) rfl ?_ | refine ean rfl (by assumption) (by assumption) rfl ?_ | refine eal rfl (by assumption) (by assumption) rfl ?_ | refine eri rfl ?_ | refine erv rfl ?_ | refine erl rfl ?_ | refine era rfl ?_ | refine erz0 rfl ?_ | refine erz1 rfl ?_)
    try dsimp only [set1, set2, kilP, List.set_cons_zero, List.set_cons_succ, List.getElem?_cons_zero, List.getElem?_cons_succ, List.nil_append, List.cons_append, Option.toList_some, Option.toList_none]
    rw [show bI (isW s n) = 0 from if_neg (fun q => Int32.not_le.mpr q.1.2 c2)]
    exact ⟨rfl, rfl⟩
  repeat (first | refine es rfl rfl rfl ?_ | refine eg rfl (by assumption) rfl ?_ | refine ean rfl (by assumption) (by assumption) rfl ?_ | refine eal rfl (by assumption) (by assumption) rfl ?_ | refine eri rfl ?_ | refine erv rfl ?_ | refine erl rfl ?_ | refine era rfl ?_ | refine erz0 rfl ?_ | refine erz1 rfl ?_)
  try dsimp only [set1, set2, kilP, List.set_cons_zero, List.set_cons_succ, List.getElem?_cons_zero, List.getElem?_cons_succ, List.nil_append, List.cons_append, Option.toList_some, Option.toList_none]
  refine ei _ rfl rfl (fun c3 => ?_) (fun c3 => ?_)
  · repeat (first | refine es rfl rfl rfl ?_ | refine eg rfl (by assumption) rfl ?_ | refine ean rfl (by assumption) (by assumption) rfl ?_ | refine eal rfl (by assumption) (by assumption) rfl ?_ | refine eri rfl ?_ | refine erv rfl ?_ | refine erl rfl ?_ | refine era rfl ?_ | refine erz0 rfl ?_ | refine erz1 rfl ?_)
    try dsimp only [set1, set2, kilP, List.set_cons_zero, List.set_cons_succ, List.getElem?_cons_zero, List.getElem?_cons_succ, List.nil_append, List.cons_append, Option.toList_some, Option.toList_none]
    rw [show bI (isW s n) = 0 from if_neg (fun q => Int32.not_le.mpr c3 q.2.1)]
    exact ⟨rfl, rfl⟩
  repeat (first | refine es rfl rfl rfl ?_ | refine eg rfl (by assumption) rfl ?_ | refine ean rfl (by assumption) (by assumption) rfl ?_ | refine eal rfl (by assumption) (by assumption) rfl ?_ | refine eri rfl ?_ | refine erv rfl ?_ | refine erl rfl ?_ | refine era rfl ?_ | refine erz0 rfl ?_ | refine erz1 rfl ?_)
  try dsimp only [set1, set2, kilP, List.set_cons_zero, List.set_cons_succ, List.getElem?_cons_zero, List.getElem?_cons_succ, List.nil_append, List.cons_append, Option.toList_some, Option.toList_none]
  refine ei _ rfl rfl (fun c4 => ?_) (fun c4 => ?_)
  · repeat (first | refine es rfl rfl rfl ?_ | refine eg rfl (by assumption) rfl ?_ | refine ean rfl (by assumption) (by assumption) rfl ?_ | refine eal rfl (by assumption) (by assumption) rfl ?_ | refine eri rfl ?_ | refine erv rfl ?_ | refine erl rfl ?_ | refine era rfl ?_ | refine erz0 rfl ?_ | refine erz1 rfl ?_)
    try dsimp only [set1, set2, kilP, List.set_cons_zero, List.set_cons_succ, List.getElem?_cons_zero, List.getElem?_cons_succ, List.nil_append, List.cons_append, Option.toList_some, Option.toList_none]
    rw [show bI (isW s n) = 0 from if_neg (fun q => Int32.not_le.mpr c4 q.2.2)]
    exact ⟨rfl, rfl⟩
  repeat (first | refine es rfl rfl rfl ?_ | refine eg rfl (by assumption) rfl ?_ | refine ean rfl (by assumption) (by assumption) rfl ?_ | refine eal rfl (by assumption) (by assumption) rfl ?_ | refine eri rfl ?_ | refine erv rfl ?_ | refine erl rfl ?_ | refine era rfl ?_ | refine erz0 rfl ?_ | refine erz1 rfl ?_)
  try dsimp only [set1, set2, kilP, List.set_cons_zero, List.set_cons_succ, List.getElem?_cons_zero, List.getElem?_cons_succ, List.nil_append, List.cons_append, Option.toList_some, Option.toList_none]
  rw [show bI (isW s n) = 1 from if_pos ⟨⟨Int32.not_lt.mp c, Int32.not_le.mp c2⟩, Int32.not_lt.mp c3, Int32.not_lt.mp c4⟩]
  exact ⟨rfl, rfl⟩
def nxS (s : Nat) : Nat := (75 * s + 74) % 65537
theorem x_nxS {s : Nat} (hs : s < 65537) : Rd ad 0 (iX11_nextSeed ad) [.int (nI s)] M (some (.int (nI (nxS s)))) := by
  refine ⟨Nat.le_of_ble_eq_true rfl, ?_⟩
  show Ev ad _ (rX11_nextSeed ad) (0, [some (.int (nI s))], [], M) _
  repeat (first | refine es rfl rfl rfl ?_ | refine eg rfl (by assumption) rfl ?_ | refine ean rfl (by assumption) (by assumption) rfl ?_ | refine eal rfl (by assumption) (by assumption) rfl ?_ | refine eri rfl ?_ | refine erv rfl ?_ | refine erl rfl ?_ | refine era rfl ?_ | refine erz0 rfl ?_ | refine erz1 rfl ?_)
  try dsimp only [set1, set2, kilP, List.set_cons_zero, List.set_cons_succ, List.getElem?_cons_zero, List.getElem?_cons_succ, List.nil_append, List.cons_append, Option.toList_some, Option.toList_none]
  rw [show (75 : Int32) * nI s + 74 = nI (75 * s + 74) from by rw [show (75 : Int32) = nI 75 from rfl, pk_mul, show (74 : Int32) = nI 74 from rfl, nI_add], show (65537 : Int32) = nI 65537 from rfl, pk_rem (by omega) (by omega) (by omega)]
  exact ⟨rfl, rfl⟩
/-- n pairs of draws -/
def bldF (N : Nat) : Nat → (Nat → Int32) → Nat → (Nat → Int32)
  | 0, r, _ => r
  | n + 1, r, s => bldF N n (if canS r (nxS s % N) (nxS (nxS s) % N) then swpF r (nxS s % N) (nxS (nxS s) % N) else r) (nxS (nxS s))
theorem nxS_lt (s : Nat) : nxS s < 65537 := Nat.mod_lt _ (by omega)
theorem x_bld_loop {N x1 : Nat} {n0 x0 : Int32} {tb : Nat} (hN7 : N ≤ 7) (hN1 : 0 < N) {M0 : Mm} (hx1 : x1 ≤ 60) : ∀ (n i s : Nat) (M : Mm) (r : Nat → Int32) (L6 L7 : Option Value), xTop M b tb n0 → aNw M (b + 50) r → Fr (b + 50) 2 M0 M → i + n = x1 → s < 65537 → (L6 = none ∨ ∃ q, L6 = some (.int q)) → (L7 = none ∨ ∃ q, L7 = some (.int q)) → Ev ad 2 (rX11_build ad) (33, [some (.ref b), some (.int x0), some (.int (nI x1)), some (.int (nI N)), some (.int (nI s)), some (.int (nI i)), L6, L7], [], M) (fun v' M' => v' = none ∧ aNw M' (b + 50) (bldF N n r s) ∧ Fr (b + 50) 2 M0 M') := by
  intro n
  induction n with
  | zero =>
    intro i s M r L6 L7 h0 hr hF hn hs h6 h7
    repeat (first | refine es rfl rfl rfl ?_ | refine eg rfl (by assumption) rfl ?_ | refine ean rfl (by assumption) (by assumption) rfl ?_ | refine eal rfl (by assumption) (by assumption) rfl ?_ | refine eri rfl ?_ | refine erv rfl ?_ | refine erl rfl ?_ | refine era rfl ?_ | refine erz0 rfl ?_ | refine erz1 rfl ?_)
    try dsimp only [set1, set2, kilP, List.set_cons_zero, List.set_cons_succ, List.getElem?_cons_zero, List.getElem?_cons_succ, List.nil_append, List.cons_append, Option.toList_some, Option.toList_none]
    refine ei _ rfl rfl (fun c => ?_) (fun c => ?_)
    · repeat (first | refine es rfl rfl rfl ?_ | refine eg rfl (by assumption) rfl ?_ | refine ean rfl (by assumption) (by assumption) rfl ?_ | refine eal rfl (by assumption) (by assumption) rfl ?_ | refine eri rfl ?_ | refine erv rfl ?_ | refine erl rfl ?_ | refine era rfl ?_ | refine erz0 rfl ?_ | refine erz1 rfl ?_)
      try dsimp only [set1, set2, kilP, List.set_cons_zero, List.set_cons_succ, List.getElem?_cons_zero, List.getElem?_cons_succ, List.nil_append, List.cons_append, Option.toList_some, Option.toList_none]
      exact ⟨rfl, hr, hF⟩
    · exact absurd (nI_le (by omega) (by omega)) c
  | succ n ih =>
    intro i s M r L6 L7 h0' hr hF hn hs h6 h7
    have h0 := h0'
    unfold xTop at h0
    have r0 := hr.1
    have l1 : nxS s % N < 7 := Nat.lt_of_lt_of_le (Nat.mod_lt _ hN1) hN7
    have l2 : nxS (nxS s) % N < 7 := Nat.lt_of_lt_of_le (Nat.mod_lt _ hN1) hN7
    have e1 := nxS_lt s
    have e2 := nxS_lt (nxS s)
    rw [bldF]
    rcases h6 with rfl | ⟨q6, rfl⟩ <;> rcases h7 with rfl | ⟨q7, rfl⟩
    · repeat (first | refine es rfl rfl rfl ?_ | refine eg rfl (by assumption) rfl ?_ | refine ean rfl (by assumption) (by assumption) rfl ?_ | refine eal rfl (by assumption) (by assumption) rfl ?_ | refine eri rfl ?_ | refine erv rfl ?_ | refine erl rfl ?_ | refine era rfl ?_ | refine erz0 rfl ?_ | refine erz1 rfl ?_)
      try dsimp only [set1, set2, kilP, List.set_cons_zero, List.set_cons_succ, List.getElem?_cons_zero, List.getElem?_cons_succ, List.nil_append, List.cons_append, Option.toList_some, Option.toList_none]
      refine ei _ rfl rfl (fun c => ?_) (fun c => ?_)
      · exact absurd c (nI_ge (by omega) (by omega))
      repeat (first | refine es rfl rfl rfl ?_ | refine eg rfl (by assumption) rfl ?_ | refine ean rfl (by assumption) (by assumption) rfl ?_ | refine eal rfl (by assumption) (by assumption) rfl ?_ | refine eri rfl ?_ | refine erv rfl ?_ | refine erl rfl ?_ | refine era rfl ?_ | refine erz0 rfl ?_ | refine erz1 rfl ?_)
      try dsimp only [set1, set2, kilP, List.set_cons_zero, List.set_cons_succ, List.getElem?_cons_zero, List.getElem?_cons_succ, List.nil_append, List.cons_append, Option.toList_some, Option.toList_none]
      refine ecsr rfl rfl rfl rfl rfl rfl (x_nxS hs) (by first | rfl | exact Nat.blt_eq.mpr (by omega)) rfl ?_
      repeat (first | refine es rfl rfl rfl ?_ | refine eg rfl (by assumption) rfl ?_ | refine ean rfl (by assumption) (by assumption) rfl ?_ | refine eal rfl (by assumption) (by assumption) rfl ?_ | refine eri rfl ?_ | refine erv rfl ?_ | refine erl rfl ?_ | refine era rfl ?_ | refine erz0 rfl ?_ | refine erz1 rfl ?_)
      try dsimp only [set1, set2, kilP, List.set_cons_zero, List.set_cons_succ, List.getElem?_cons_zero, List.getElem?_cons_succ, List.nil_append, List.cons_append, Option.toList_some, Option.toList_none]
      refine ebd rfl (nI_ne0 hN1 (by omega)) ?_
      rw [pk_rem (by omega) hN1 (by omega)]
      repeat (first | refine es rfl rfl rfl ?_ | refine eg rfl (by assumption) rfl ?_ | refine ean rfl (by assumption) (by assumption) rfl ?_ | refine eal rfl (by assumption) (by assumption) rfl ?_ | refine eri rfl ?_ | refine erv rfl ?_ | refine erl rfl ?_ | refine era rfl ?_ | refine erz0 rfl ?_ | refine erz1 rfl ?_)
      try dsimp only [set1, set2, kilP, List.set_cons_zero, List.set_cons_succ, List.getElem?_cons_zero, List.getElem?_cons_succ, List.nil_append, List.cons_append, Option.toList_some, Option.toList_none]
      refine ecsr rfl rfl rfl rfl rfl rfl (x_nxS e1) (by first | rfl | exact Nat.blt_eq.mpr (by omega)) rfl ?_
      repeat (first | refine es rfl rfl rfl ?_ | refine eg rfl (by assumption) rfl ?_ | refine ean rfl (by assumption) (by assumption) rfl ?_ | refine eal rfl (by assumption) (by assumption) rfl ?_ | refine eri rfl ?_ | refine erv rfl ?_ | refine erl rfl ?_ | refine era rfl ?_ | refine erz0 rfl ?_ | refine erz1 rfl ?_)
      try dsimp only [set1, set2, kilP, List.set_cons_zero, List.set_cons_succ, List.getElem?_cons_zero, List.getElem?_cons_succ, List.nil_append, List.cons_append, Option.toList_some, Option.toList_none]
      refine ebd rfl (nI_ne0 hN1 (by omega)) ?_
      rw [pk_rem (by omega) hN1 (by omega)]
      repeat (first | refine es rfl rfl rfl ?_ | refine eg rfl (by assumption) rfl ?_ | refine ean rfl (by assumption) (by assumption) rfl ?_ | refine eal rfl (by assumption) (by assumption) rfl ?_ | refine eri rfl ?_ | refine erv rfl ?_ | refine erl rfl ?_ | refine era rfl ?_ | refine erz0 rfl ?_ | refine erz1 rfl ?_)
      try dsimp only [set1, set2, kilP, List.set_cons_zero, List.set_cons_succ, List.getElem?_cons_zero, List.getElem?_cons_succ, List.nil_append, List.cons_append, Option.toList_some, Option.toList_none]
      refine ecr rfl rfl (by assumption) rfl rfl rfl (e3_canSwap hr l1 l2) (by first | rfl | exact Nat.blt_eq.mpr (by omega)) rfl ?_
      by_cases c1 : canS r (nxS s % N) (nxS (nxS s) % N)
      · rw [if_pos c1, show bI (canS r (nxS s % N) (nxS (nxS s) % N)) = 1 from if_pos c1]
        repeat (first | refine es rfl rfl rfl ?_ | refine eg rfl (by assumption) rfl ?_ | refine ean rfl (by assumption) (by assumption) rfl ?_ | refine eal rfl (by assumption) (by assumption) rfl ?_ | refine eri rfl ?_ | refine erv rfl ?_ | refine erl rfl ?_ | refine era rfl ?_ | refine erz0 rfl ?_ | refine erz1 rfl ?_)
        try dsimp only [set1, set2, kilP, List.set_cons_zero, List.set_cons_succ, List.getElem?_cons_zero, List.getElem?_cons_succ, List.nil_append, List.cons_append, Option.toList_some, Option.toList_none]
        refine ecv rfl rfl (by assumption) rfl rfl rfl (e3_swap hr l1 l2) (by first | rfl | exact Nat.blt_eq.mpr (by omega)) ?_
        rintro v M2 ⟨rfl, eM⟩
        have hr2 : aNw M2 (b + 50) (swpF r (nxS s % N) (nxS (nxS s) % N)) := by rw [eM]; exact hr.put
        try dsimp only [set1, set2, kilP, List.set_cons_zero, List.set_cons_succ, List.getElem?_cons_zero, List.getElem?_cons_succ, List.nil_append, List.cons_append, Option.toList_some, Option.toList_none]
        repeat (refine ng 33 rfl ?_; first | refine es rfl rfl rfl ?_ | refine eg rfl (by assumption) rfl ?_ | refine ean rfl (by assumption) (by assumption) rfl ?_ | refine eal rfl (by assumption) (by assumption) rfl ?_ | refine eri rfl ?_ | refine erv rfl ?_ | refine erl rfl ?_ | refine era rfl ?_ | refine erz0 rfl ?_ | refine erz1 rfl ?_)
        try dsimp only [set1, set2, kilP, List.set_cons_zero, List.set_cons_succ, List.getElem?_cons_zero, List.getElem?_cons_succ, List.nil_append, List.cons_append, Option.toList_some, Option.toList_none]
        rw [nI_1]
        exact ih (i + 1) (nxS (nxS s)) M2 _ _ _ (up_k eM h0 (by omega)) hr2 (hF.up eM (by omega) (by omega)) (by omega) e2 (Or.inr ⟨_, rfl⟩) (Or.inr ⟨_, rfl⟩)
      · rw [if_neg c1, show bI (canS r (nxS s % N) (nxS (nxS s) % N)) = 0 from if_neg c1]
        repeat (refine ng 33 rfl ?_; first | refine es rfl rfl rfl ?_ | refine eg rfl (by assumption) rfl ?_ | refine ean rfl (by assumption) (by assumption) rfl ?_ | refine eal rfl (by assumption) (by assumption) rfl ?_ | refine eri rfl ?_ | refine erv rfl ?_ | refine erl rfl ?_ | refine era rfl ?_ | refine erz0 rfl ?_ | refine erz1 rfl ?_)
        try dsimp only [set1, set2, kilP, List.set_cons_zero, List.set_cons_succ, List.getElem?_cons_zero, List.getElem?_cons_succ, List.nil_append, List.cons_append, Option.toList_some, Option.toList_none]
        rw [nI_1]
        exact ih (i + 1) (nxS (nxS s)) M r _ _ h0' hr hF (by omega) e2 (Or.inr ⟨_, rfl⟩) (Or.inr ⟨_, rfl⟩)
    · repeat (first | refine es rfl rfl rfl ?_ | refine eg rfl (by assumption) rfl ?_ | refine ean rfl (by assumption) (by assumption) rfl ?_ | refine eal rfl (by assumption) (by assumption) rfl ?_ | refine eri rfl ?_ | refine erv rfl ?_ | refine erl rfl ?_ | refine era rfl ?_ | refine erz0 rfl ?_ | refine erz1 rfl ?_)
      try dsimp only [set1, set2, kilP, List.set_cons_zero, List.set_cons_succ, List.getElem?_cons_zero, List.getElem?_cons_succ, List.nil_append, List.cons_append, Option.toList_some, Option.toList_none]
      refine ei _ rfl rfl (fun c => ?_) (fun c => ?_)
      · exact absurd c (nI_ge (by omega) (by omega))
      repeat (first | refine es rfl rfl rfl ?_ | refine eg rfl (by assumption) rfl ?_ | refine ean rfl (by assumption) (by assumption) rfl ?_ | refine eal rfl (by assumption) (by assumption) rfl ?_ | refine eri rfl ?_ | refine erv rfl ?_ | refine erl rfl ?_ | refine era rfl ?_ | refine erz0 rfl ?_ | refine erz1 rfl ?_)
      try dsimp only [set1, set2, kilP, List.set_cons_zero, List.set_cons_succ, List.getElem?_cons_zero, List.getElem?_cons_succ, List.nil_append, List.cons_append, Option.toList_some, Option.toList_none]
      refine ecsr rfl rfl rfl rfl rfl rfl (x_nxS hs) (by first | rfl | exact Nat.blt_eq.mpr (by omega)) rfl ?_
      repeat (first | refine es rfl rfl rfl ?_ | refine eg rfl (by assumption) rfl ?_ | refine ean rfl (by assumption) (by assumption) rfl ?_ | refine eal rfl (by assumption) (by assumption) rfl ?_ | refine eri rfl ?_ | refine erv rfl ?_ | refine erl rfl ?_ | refine era rfl ?_ | refine erz0 rfl ?_ | refine erz1 rfl ?_)
      try dsimp only [set1, set2, kilP, List.set_cons_zero, List.set_cons_succ, List.getElem?_cons_zero, List.getElem?_cons_succ, List.nil_append, List.cons_append, Option.toList_some, Option.toList_none]
      refine ebd rfl (nI_ne0 hN1 (by omega)) ?_
      rw [pk_rem (by omega) hN1 (by omega)]
      repeat (first | refine es rfl rfl rfl ?_ | refine eg rfl (by assumption) rfl ?_ | refine ean rfl (by assumption) (by assumption) rfl ?_ | refine eal rfl (by assumption) (by assumption) rfl ?_ | refine eri rfl ?_ | refine erv rfl ?_ | refine erl rfl ?_ | refine era rfl ?_ | refine erz0 rfl ?_ | refine erz1 rfl ?_)
      try dsimp only [set1, set2, kilP, List.set_cons_zero, List.set_cons_succ, List.getElem?_cons_zero, List.getElem?_cons_succ, List.nil_append, List.cons_append, Option.toList_some, Option.toList_none]
      refine ecsr rfl rfl rfl rfl rfl rfl (x_nxS e1) (by first | rfl | exact Nat.blt_eq.mpr (by omega)) rfl ?_
      repeat (first | refine es rfl rfl rfl ?_ | refine eg rfl (by assumption) rfl ?_ | refine ean rfl (by assumption) (by assumption) rfl ?_ | refine eal rfl (by assumption) (by assumption) rfl ?_ | refine eri rfl ?_ | refine erv rfl ?_ | refine erl rfl ?_ | refine era rfl ?_ | refine erz0 rfl ?_ | refine erz1 rfl ?_)
      try dsimp only [set1, set2, kilP, List.set_cons_zero, List.set_cons_succ, List.getElem?_cons_zero, List.getElem?_cons_succ, List.nil_append, List.cons_append, Option.toList_some, Option.toList_none]
      refine ebd rfl (nI_ne0 hN1 (by omega)) ?_
      rw [pk_rem (by omega) hN1 (by omega)]
      repeat (first | refine es rfl rfl rfl ?_ | refine eg rfl (by assumption) rfl ?_ | refine ean rfl (by assumption) (by assumption) rfl ?_ | refine eal rfl (by assumption) (by assumption) rfl ?_ | refine eri rfl ?_ | refine erv rfl ?_ | refine erl rfl ?_ | refine era rfl ?_ | refine erz0 rfl ?_ | refine erz1 rfl ?_)
      try dsimp only [set1, set2, kilP, List.set_cons_zero, List.set_cons_succ, List.getElem?_cons_zero, List.getElem?_cons_succ, List.nil_append, List.cons_append, Option.toList_some, Option.toList_none]
      refine ecr rfl rfl (by assumption) rfl rfl rfl (e3_canSwap hr l1 l2) (by first | rfl | exact Nat.blt_eq.mpr (by omega)) rfl ?_
      by_cases c1 : canS r (nxS s % N) (nxS (nxS s) % N)
      · rw [if_pos c1, show bI (canS r (nxS s % N) (nxS (nxS s) % N)) = 1 from if_pos c1]
        repeat (first | refine es rfl rfl rfl ?_ | refine eg rfl (by assumption) rfl ?_ | refine ean rfl (by assumption) (by assumption) rfl ?_ | refine eal rfl (by assumption) (by assumption) rfl ?_ | refine eri rfl ?_ | refine erv rfl ?_ | refine erl rfl ?_ | refine era rfl ?_ | refine erz0 rfl ?_ | refine erz1 rfl ?_)
        try dsimp only [set1, set2, kilP, List.set_cons_zero, List.set_cons_succ, List.getElem?_cons_zero, List.getElem?_cons_succ, List.nil_append, List.cons_append, Option.toList_some, Option.toList_none]
        refine ecv rfl rfl (by assumption) rfl rfl rfl (e3_swap hr l1 l2) (by first | rfl | exact Nat.blt_eq.mpr (by omega)) ?_
        rintro v M2 ⟨rfl, eM⟩
        have hr2 : aNw M2 (b + 50) (swpF r (nxS s % N) (nxS (nxS s) % N)) := by rw [eM]; exact hr.put
        try dsimp only [set1, set2, kilP, List.set_cons_zero, List.set_cons_succ, List.getElem?_cons_zero, List.getElem?_cons_succ, List.nil_append, List.cons_append, Option.toList_some, Option.toList_none]
        repeat (refine ng 33 rfl ?_; first | refine es rfl rfl rfl ?_ | refine eg rfl (by assumption) rfl ?_ | refine ean rfl (by assumption) (by assumption) rfl ?_ | refine eal rfl (by assumption) (by assumption) rfl ?_ | refine eri rfl ?_ | refine erv rfl ?_ | refine erl rfl ?_ | refine era rfl ?_ | refine erz0 rfl ?_ | refine erz1 rfl ?_)
        try dsimp only [set1, set2, kilP, List.set_cons_zero, List.set_cons_succ, List.getElem?_cons_zero, List.getElem?_cons_succ, List.nil_append, List.cons_append, Option.toList_some, Option.toList_none]
        rw [nI_1]
        exact ih (i + 1) (nxS (nxS s)) M2 _ _ _ (up_k eM h0 (by omega)) hr2 (hF.up eM (by omega) (by omega)) (by omega) e2 (Or.inr ⟨_, rfl⟩) (Or.inr ⟨_, rfl⟩)
      · rw [if_neg c1, show bI (canS r (nxS s % N) (nxS (nxS s) % N)) = 0 from if_neg c1]
        repeat (refine ng 33 rfl ?_; first | refine es rfl rfl rfl ?_ | refine eg rfl (by assumption) rfl ?_ | refine ean rfl (by assumption) (by assumption) rfl ?_ | refine eal rfl (by assumption) (by assumption) rfl ?_ | refine eri rfl ?_ | refine erv rfl ?_ | refine erl rfl ?_ | refine era rfl ?_ | refine erz0 rfl ?_ | refine erz1 rfl ?_)
        try dsimp only [set1, set2, kilP, List.set_cons_zero, List.set_cons_succ, List.getElem?_cons_zero, List.getElem?_cons_succ, List.nil_append, List.cons_append, Option.toList_some, Option.toList_none]
        rw [nI_1]
        exact ih (i + 1) (nxS (nxS s)) M r _ _ h0' hr hF (by omega) e2 (Or.inr ⟨_, rfl⟩) (Or.inr ⟨_, rfl⟩)
    · repeat (first | refine es rfl rfl rfl ?_ | refine eg rfl (by assumption) rfl ?_ | refine ean rfl (by assumption) (by assumption) rfl ?_ | refine eal rfl (by assumption) (by assumption) rfl ?_ | refine eri rfl ?_ | refine erv rfl ?_ | refine erl rfl ?_ | refine era rfl ?_ | refine erz0 rfl ?_ | refine erz1 rfl ?_)
      try dsimp only [set1, set2, kilP, List.set_cons_zero, List.set_cons_succ, List.getElem?_cons_zero, List.getElem?_cons_succ, List.nil_append, List.cons_append, Option.toList_some, Option.toList_none]
      refine ei _ rfl rfl (fun c => ?_) (fun c => ?_)
      · exact absurd c (nI_ge (by omega) (by omega))
      repeat (first | refine es rfl rfl rfl ?_ | refine eg rfl (by assumption) rfl ?_ | refine ean rfl (by assumption) (by assumption) rfl ?_ | refine eal rfl (by assumption) (by assumption) rfl ?_ | refine eri rfl ?_ | refine erv rfl ?_ | refine erl rfl ?_ | refine era rfl ?_ | refine erz0 rfl ?_ | refine erz1 rfl ?_)
      try dsimp only [set1, set2, kilP, List.set_cons_zero, List.set_cons_succ, List.getElem?_cons_zero, List.getElem?_cons_succ, List.nil_append, List.cons_append, Option.toList_some, Option.toList_none]
      refine ecsr rfl rfl rfl rfl rfl rfl (x_nxS hs) (by first | rfl | exact Nat.blt_eq.mpr (by omega)) rfl ?_
      repeat (first | refine es rfl rfl rfl ?_ | refine eg rfl (by assumption) rfl ?_ | refine ean rfl (by assumption) (by assumption) rfl ?_ | refine eal rfl (by assumption) (by assumption) rfl ?_ | refine eri rfl ?_ | refine erv rfl ?_ | refine erl rfl ?_ | refine era rfl ?_ | refine erz0 rfl ?_ | refine erz1 rfl ?_)
      try dsimp only [set1, set2, kilP, List.set_cons_zero, List.set_cons_succ, List.getElem?_cons_zero, List.getElem?_cons_succ, List.nil_append, List.cons_append, Option.toList_some, Option.toList_none]
      refine ebd rfl (nI_ne0 hN1 (by omega)) ?_
      rw [pk_rem (by omega) hN1 (by omega)]
      repeat (first | refine es rfl rfl rfl ?_ | refine eg rfl (by assumption) rfl ?_ | refine ean rfl (by assumption) (by assumption) rfl ?_ | refine eal rfl (by assumption) (by assumption) rfl ?_ | refine eri rfl ?_ | refine erv rfl ?_ | refine erl rfl ?_ | refine era rfl ?_ | refine erz0 rfl ?_ | refine erz1 rfl ?_)
      try dsimp only [set1, set2, kilP, List.set_cons_zero, List.set_cons_succ, List.getElem?_cons_zero, List.getElem?_cons_succ, List.nil_append, List.cons_append, Option.toList_some, Option.toList_none]
      refine ecsr rfl rfl rfl rfl rfl rfl (x_nxS e1) (by first | rfl | exact Nat.blt_eq.mpr (by omega)) rfl ?_
      repeat (first | refine es rfl rfl rfl ?_ | refine eg rfl (by assumption) rfl ?_ | refine ean rfl (by assumption) (by assumption) rfl ?_ | refine eal rfl (by assumption) (by assumption) rfl ?_ | refine eri rfl ?_ | refine erv rfl ?_ | refine erl rfl ?_ | refine era rfl ?_ | refine erz0 rfl ?_ | refine erz1 rfl ?_)
      try dsimp only [set1, set2, kilP, List.set_cons_zero, List.set_cons_succ, List.getElem?_cons_zero, List.getElem?_cons_succ, List.nil_append, List.cons_append, Option.toList_some, Option.toList_none]
      refine ebd rfl (nI_ne0 hN1 (by omega)) ?_
      rw [pk_rem (by omega) hN1 (by omega)]
      repeat (first | refine es rfl rfl rfl ?_ | refine eg rfl (by assumption) rfl ?_ | refine ean rfl (by assumption) (by assumption) rfl ?_ | refine eal rfl (by assumption) (by assumption) rfl ?_ | refine eri rfl ?_ | refine erv rfl ?_ | refine erl rfl ?_ | refine era rfl ?_ | refine erz0 rfl ?_ | refine erz1 rfl ?_)
      try dsimp only [set1, set2, kilP, List.set_cons_zero, List.set_cons_succ, List.getElem?_cons_zero, List.getElem?_cons_succ, List.nil_append, List.cons_append, Option.toList_some, Option.toList_none]
      refine ecr rfl rfl (by assumption) rfl rfl rfl (e3_canSwap hr l1 l2) (by first | rfl | exact Nat.blt_eq.mpr (by omega)) rfl ?_
      by_cases c1 : canS r (nxS s % N) (nxS (nxS s) % N)
      · rw [if_pos c1, show bI (canS r (nxS s % N) (nxS (nxS s) % N)) = 1 from if_pos c1]
        repeat (first | refine es rfl rfl rfl ?_ | refine eg rfl (by assumption) rfl ?_ | refine ean rfl (by assumption) (by assumption) rfl ?_ | refine eal rfl (by assumption) (by assumption) rfl ?_ | refine eri rfl ?_ | refine erv rfl ?_ | refine erl rfl ?_ | refine era rfl ?_ | refine erz0 rfl ?_ | refine erz1 rfl ?_)
        try dsimp only [set1, set2, kilP, List.set_cons_zero, List.set_cons_succ, List.getElem?_cons_zero, List.getElem?_cons_succ, List.nil_append, List.cons_append, Option.toList_some, Option.toList_none]
        refine ecv rfl rfl (by assumption) rfl rfl rfl (e3_swap hr l1 l2) (by first | rfl | exact Nat.blt_eq.mpr (by omega)) ?_
        rintro v M2 ⟨rfl, eM⟩
        have hr2 : aNw M2 (b + 50) (swpF r (nxS s % N) (nxS (nxS s) % N)) := by rw [eM]; exact hr.put
        try dsimp only [set1, set2, kilP, List.set_cons_zero, List.set_cons_succ, List.getElem?_cons_zero, List.getElem?_cons_succ, List.nil_append, List.cons_append, Option.toList_some, Option.toList_none]
        repeat (refine ng 33 rfl ?_; first | refine es rfl rfl rfl ?_ | refine eg rfl (by assumption) rfl ?_ | refine ean rfl (by assumption) (by assumption) rfl ?_ | refine eal rfl (by assumption) (by assumption) rfl ?_ | refine eri rfl ?_ | refine erv rfl ?_ | refine erl rfl ?_ | refine era rfl ?_ | refine erz0 rfl ?_ | refine erz1 rfl ?_)
        try dsimp only [set1, set2, kilP, List.set_cons_zero, List.set_cons_succ, List.getElem?_cons_zero, List.getElem?_cons_succ, List.nil_append, List.cons_append, Option.toList_some, Option.toList_none]
        rw [nI_1]
        exact ih (i + 1) (nxS (nxS s)) M2 _ _ _ (up_k eM h0 (by omega)) hr2 (hF.up eM (by omega) (by omega)) (by omega) e2 (Or.inr ⟨_, rfl⟩) (Or.inr ⟨_, rfl⟩)
      · rw [if_neg c1, show bI (canS r (nxS s % N) (nxS (nxS s) % N)) = 0 from if_neg c1]
        repeat (refine ng 33 rfl ?_; first | refine es rfl rfl rfl ?_ | refine eg rfl (by assumption) rfl ?_ | refine ean rfl (by assumption) (by assumption) rfl ?_ | refine eal rfl (by assumption) (by assumption) rfl ?_ | refine eri rfl ?_ | refine erv rfl ?_ | refine erl rfl ?_ | refine era rfl ?_ | refine erz0 rfl ?_ | refine erz1 rfl ?_)
        try dsimp only [set1, set2, kilP, List.set_cons_zero, List.set_cons_succ, List.getElem?_cons_zero, List.getElem?_cons_succ, List.nil_append, List.cons_append, Option.toList_some, Option.toList_none]
        rw [nI_1]
        exact ih (i + 1) (nxS (nxS s)) M r _ _ h0' hr hF (by omega) e2 (Or.inr ⟨_, rfl⟩) (Or.inr ⟨_, rfl⟩)
    · repeat (first | refine es rfl rfl rfl ?_ | refine eg rfl (by assumption) rfl ?_ | refine ean rfl (by assumption) (by assumption) rfl ?_ | refine eal rfl (by assumption) (by assumption) rfl ?_ | refine eri rfl ?_ | refine erv rfl ?_ | refine erl rfl ?_ | refine era rfl ?_ | refine erz0 rfl ?_ | refine erz1 rfl ?_)
      try dsimp only [set1, set2, kilP, List.set_cons_zero, List.set_cons_succ, List.getElem?_cons_zero, List.getElem?_cons_succ, List.nil_append, List.cons_append, Option.toList_some, Option.toList_none]
      refine ei _ rfl rfl (fun c => ?_) (fun c => ?_)
      · exact absurd c (nI_ge (by omega) (by omega))
      repeat (first | refine es rfl rfl rfl ?_ | refine eg rfl (by assumption) rfl ?_ | refine ean rfl (by assumption) (by assumption) rfl ?_ | refine eal rfl (by assumption) (by assumption) rfl ?_ | refine eri rfl ?_ | refine erv rfl ?_ | refine erl rfl ?_ | refine era rfl ?_ | refine erz0 rfl ?_ | refine erz1 rfl ?_)
      try dsimp only [set1, set2, kilP, List.set_cons_zero, List.set_cons_succ, List.getElem?_cons_zero, List.getElem?_cons_succ, List.nil_append, List.cons_append, Option.toList_some, Option.toList_none]
      refine ecsr rfl rfl rfl rfl rfl rfl (x_nxS hs) (by first | rfl | exact Nat.blt_eq.mpr (by omega)) rfl ?_
      repeat (first | refine es rfl rfl rfl ?_ | refine eg rfl (by assumption) rfl ?_ | refine ean rfl (by assumption) (by assumption) rfl ?_ | refine eal rfl (by assumption) (by assumption) rfl ?_ | refine eri rfl ?_ | refine erv rfl ?_ | refine erl rfl ?_ | refine era rfl ?_ | refine erz0 rfl ?_ | refine erz1 rfl ?_)
      try dsimp only [set1, set2, kilP, List.set_cons_zero, List.set_cons_succ, List.getElem?_cons_zero, List.getElem?_cons_succ, List.nil_append, List.cons_append, Option.toList_some, Option.toList_none]
      refine ebd rfl (nI_ne0 hN1 (by omega)) ?_
      rw [pk_rem (by omega) hN1 (by omega)]
      repeat (first | refine es rfl rfl rfl ?_ | refine eg rfl (by assumption) rfl ?_ | refine ean rfl (by assumption) (by assumption) rfl ?_ | refine eal rfl (by assumption) (by assumption) rfl ?_ | refine eri rfl ?_ | refine erv rfl ?_ | refine erl rfl ?_ | refine era rfl ?_ | refine erz0 rfl ?_ | refine erz1 rfl ?_)
      try dsimp only [set1, set2, kilP, List.set_cons_zero, List.set_cons_succ, List.getElem?_cons_zero, List.getElem?_cons_succ, List.nil_append, List.cons_append, Option.toList_some, Option.toList_none]
      refine ecsr rfl rfl rfl rfl rfl rfl (x_nxS e1) (by first | rfl | exact Nat.blt_eq.mpr (by omega)) rfl ?_
      repeat (first | refine es rfl rfl rfl ?_ | refine eg rfl (by assumption) rfl ?_ | refine ean rfl (by assumption) (by assumption) rfl ?_ | refine eal rfl (by assumption) (by assumption) rfl ?_ | refine eri rfl ?_ | refine erv rfl ?_ | refine erl rfl ?_ | refine era rfl ?_ | refine erz0 rfl ?_ | refine erz1 rfl ?_)
      try dsimp only [set1, set2, kilP, List.set_cons_zero, List.set_cons_succ, List.getElem?_cons_zero, List.getElem?_cons_succ, List.nil_append, List.cons_append, Option.toList_some, Option.toList_none]
      refine ebd rfl (nI_ne0 hN1 (by omega)) ?_
      rw [pk_rem (by omega) hN1 (by omega)]
      repeat (first | refine es rfl rfl rfl ?_ | refine eg rfl (by assumption) rfl ?_ | refine ean rfl (by assumption) (by assumption) rfl ?_ | refine eal rfl (by assumption) (by assumption) rfl ?_ | refine eri rfl ?_ | refine erv rfl ?_ | refine erl rfl ?_ | refine era rfl ?_ | refine erz0 rfl ?_ | refine erz1 rfl ?_)
      try dsimp only [set1, set2, kilP, List.set_cons_zero, List.set_cons_succ, List.getElem?_cons_zero, List.getElem?_cons_succ, List.nil_append, List.cons_append, Option.toList_some, Option.toList_none]
      refine ecr rfl rfl (by assumption) rfl rfl rfl (e3_canSwap hr l1 l2) (by first | rfl | exact Nat.blt_eq.mpr (by omega)) rfl ?_
      by_cases c1 : canS r (nxS s % N) (nxS (nxS s) % N)
      · rw [if_pos c1, show bI (canS r (nxS s % N) (nxS (nxS s) % N)) = 1 from if_pos c1]
        repeat (first | refine es rfl rfl rfl ?_ | refine eg rfl (by assumption) rfl ?_ | refine ean rfl (by assumption) (by assumption) rfl ?_ | refine eal rfl (by assumption) (by assumption) rfl ?_ | refine eri rfl ?_ | refine erv rfl ?_ | refine erl rfl ?_ | refine era rfl ?_ | refine erz0 rfl ?_ | refine erz1 rfl ?_)
        try dsimp only [set1, set2, kilP, List.set_cons_zero, List.set_cons_succ, List.getElem?_cons_zero, List.getElem?_cons_succ, List.nil_append, List.cons_append, Option.toList_some, Option.toList_none]
        refine ecv rfl rfl (by assumption) rfl rfl rfl (e3_swap hr l1 l2) (by first | rfl | exact Nat.blt_eq.mpr (by omega)) ?_
        rintro v M2 ⟨rfl, eM⟩
        have hr2 : aNw M2 (b + 50) (swpF r (nxS s % N) (nxS (nxS s) % N)) := by rw [eM]; exact hr.put
        try dsimp only [set1, set2, kilP, List.set_cons_zero, List.set_cons_succ, List.getElem?_cons_zero, List.getElem?_cons_succ, List.nil_append, List.cons_append, Option.toList_some, Option.toList_none]
        repeat (refine ng 33 rfl ?_; first | refine es rfl rfl rfl ?_ | refine eg rfl (by assumption) rfl ?_ | refine ean rfl (by assumption) (by assumption) rfl ?_ | refine eal rfl (by assumption) (by assumption) rfl ?_ | refine eri rfl ?_ | refine erv rfl ?_ | refine erl rfl ?_ | refine era rfl ?_ | refine erz0 rfl ?_ | refine erz1 rfl ?_)
        try dsimp only [set1, set2, kilP, List.set_cons_zero, List.set_cons_succ, List.getElem?_cons_zero, List.getElem?_cons_succ, List.nil_append, List.cons_append, Option.toList_some, Option.toList_none]
        rw [nI_1]
        exact ih (i + 1) (nxS (nxS s)) M2 _ _ _ (up_k eM h0 (by omega)) hr2 (hF.up eM (by omega) (by omega)) (by omega) e2 (Or.inr ⟨_, rfl⟩) (Or.inr ⟨_, rfl⟩)
      · rw [if_neg c1, show bI (canS r (nxS s % N) (nxS (nxS s) % N)) = 0 from if_neg c1]
        repeat (refine ng 33 rfl ?_; first | refine es rfl rfl rfl ?_ | refine eg rfl (by assumption) rfl ?_ | refine ean rfl (by assumption) (by assumption) rfl ?_ | refine eal rfl (by assumption) (by assumption) rfl ?_ | refine eri rfl ?_ | refine erv rfl ?_ | refine erl rfl ?_ | refine era rfl ?_ | refine erz0 rfl ?_ | refine erz1 rfl ?_)
        try dsimp only [set1, set2, kilP, List.set_cons_zero, List.set_cons_succ, List.getElem?_cons_zero, List.getElem?_cons_succ, List.nil_append, List.cons_append, Option.toList_some, Option.toList_none]
        rw [nI_1]
        exact ih (i + 1) (nxS (nxS s)) M r _ _ h0' hr hF (by omega) e2 (Or.inr ⟨_, rfl⟩) (Or.inr ⟨_, rfl⟩)
theorem x_build {x0 x1 : Nat} (hX : XR M b σ) (hI : Inv σ C) (hn : 0 < σ.T.hs.n) (h0x : x0 < 65537) (h1x : x1 ≤ 60) : EvM ad 3 (iX11_build ad) [.ref b, .int (nI x0), .int (nI x1)] M (fun v' M' => v' = none ∧ (∃ r, (∀ j, j < 7 → r j = σ.f j) ∧ aNw M' (b + 50) (bldF σ.T.hs.n x1 r x0)) ∧ XR M' b σ ∧ Fr (b + 50) 2 M M') := by
  have hn7 := hI.n7
  obtain ⟨tb, sp, hts, h0, hRd, hT, hT2, hN, hTr, hPt, hWy, hFt, hSw, hRt⟩ := id hX
  unfold xTop at h0
  have t0 := hT.1.1
  have s0 := hT.2.1.1
  have s1 := hT.2.2.1.1
  have s2 := hT.2.2.2.1
  have n0 := hN.1
  obtain ⟨r, hr⟩ := hTr
  have r0 := hr.1
  refine ⟨Nat.le_of_ble_eq_true rfl, ?_⟩
  show Ev ad _ (rX11_build ad) (0, [some (.ref b), some (.int (nI x0)), some (.int (nI x1)), none, none, none, none, none], [], M) _
  repeat (first | refine es rfl rfl rfl ?_ | refine eg rfl (by assumption) rfl ?_ | refine ean rfl (by assumption) (by assumption) rfl ?_ | refine eal rfl (by assumption) (by assumption) rfl ?_ | refine eri rfl ?_ | refine erv rfl ?_ | refine erl rfl ?_ | refine era rfl ?_ | refine erz0 rfl ?_ | refine erz1 rfl ?_)
  try dsimp only [set1, set2, kilP, List.set_cons_zero, List.set_cons_succ, List.getElem?_cons_zero, List.getElem?_cons_succ, List.nil_append, List.cons_append, Option.toList_some, Option.toList_none]
  refine ecv rfl rfl (by assumption) rfl rfl rfl (e3_copy hr hN) (by first | rfl | exact Nat.blt_eq.mpr (by omega)) ?_
  rintro v M1 ⟨rfl, eM⟩
  have hF1 : Fr (b + 50) 2 M M1 := (Fr.rf _ _ _).up eM (by omega) (by omega)
  have h01 : M1.1 b = _ := (hF1.1 _ (by omega)).trans h0
  unfold tsp at hts
  have hT1 := hT.fr hF1 (by omega)
  have t1 := hT1.1.1
  have s1' := hT1.2.1.1
  have hr1 : aNw M1 (b + 50) (va_cpy σ.f r 0 0 16) := by rw [eM]; exact hr.put
  try dsimp only [set1, set2, kilP, List.set_cons_zero, List.set_cons_succ, List.getElem?_cons_zero, List.getElem?_cons_succ, List.nil_append, List.cons_append, Option.toList_some, Option.toList_none]
  repeat (first | refine es rfl rfl rfl ?_ | refine eg rfl (by assumption) rfl ?_ | refine ean rfl (by assumption) (by assumption) rfl ?_ | refine eal rfl (by assumption) (by assumption) rfl ?_ | refine eri rfl ?_ | refine erv rfl ?_ | refine erl rfl ?_ | refine era rfl ?_ | refine erz0 rfl ?_ | refine erz1 rfl ?_)
  try dsimp only [set1, set2, kilP, List.set_cons_zero, List.set_cons_succ, List.getElem?_cons_zero, List.getElem?_cons_succ, List.nil_append, List.cons_append, Option.toList_some, Option.toList_none]
  refine ei _ rfl rfl (fun c => ?_) (fun c => ?_)
  rotate_left
  · exact absurd (nI_ne0 (n := σ.T.hs.n) (by omega) (by omega)) c
  repeat (refine ng 33 rfl ?_; first | refine es rfl rfl rfl ?_ | refine eg rfl (by assumption) rfl ?_ | refine ean rfl (by assumption) (by assumption) rfl ?_ | refine eal rfl (by assumption) (by assumption) rfl ?_ | refine eri rfl ?_ | refine erv rfl ?_ | refine erl rfl ?_ | refine era rfl ?_ | refine erz0 rfl ?_ | refine erz1 rfl ?_)
  try dsimp only [set1, set2, kilP, List.set_cons_zero, List.set_cons_succ, List.getElem?_cons_zero, List.getElem?_cons_succ, List.nil_append, List.cons_append, Option.toList_some, Option.toList_none]
  refine ((x_bld_loop hn7 hn h1x x1 0 x0 M1 _ _ _ h01 hr1 hF1 (by omega) h0x (Or.inl rfl) (Or.inl rfl)).up (d2 := 3) (by omega)).im (fun v M' ⟨e, h1, h2⟩ => ⟨e, ⟨_, fun j hj => ?_, h1⟩, hX.trl h2 h1, h2⟩)
  rw [cpy_in (by omega) (by omega)]
  congr 1
  omega
theorem okR_bld {N : Nat} (hN1 : 0 < N) (hN7 : N ≤ 7) : ∀ n r s, okR r → okR (bldF N n r s)
  | 0, r, _, h => h
  | n + 1, r, s, h => by
    rw [bldF]
    apply okR_bld hN1 hN7 n
    split
    · exact okR_swp h (Nat.lt_of_lt_of_le (Nat.mod_lt _ hN1) hN7) (Nat.lt_of_lt_of_le (Nat.mod_lt _ hN1) hN7)
    · exact h
theorem isW_k {s n : Int32} (h : isW s n) : ∃ a c, a < 65537 ∧ c ≤ 60 ∧ s = nI a ∧ n = nI c := by
  obtain ⟨a, ha, rfl⟩ := nI_0k (n := 65537) (by omega) h.1
  obtain ⟨c, hc, rfl⟩ := nI_0k (n := 61) (by omega) ⟨h.2.1, Int32.lt_of_le_of_lt h.2.2 (by decide)⟩
  exact ⟨a, c, ha, by omega, rfl, rfl⟩
noncomputable def spBuilders (σ : Sg) (s n : Int32) : Option Value → Sg → Prop := if σ.T.hs.n = 0 then rf σ 1 else if isW s n then (fun v σ' => ∃ r, (∀ j, j < 7 → r j = σ.f j) ∧ an σ (nI (popc (mbN (bldF σ.T.hs.n n.toNatClampNeg r s.toNatClampNeg) 7))) v σ') else rf σ 2
theorem x_builders {s n : Int32} (hX : XR M b σ) (hI : Inv σ C) : EvM ad 4 (iX11_builders ad) [.ref b, .int s, .int n] M (Po b M (spBuilders σ s n)) := by
  have hn7 := hI.n7
  have hF := Fr.rf b 73 M
  obtain ⟨tb, sp, hts, h0, hRd, hT, hT2, hN, hTr, hPt, hWy, hFt, hSw, hRt⟩ := id hX
  unfold xTop at h0
  have t0 := hT.1.1
  have s0 := hT.2.1.1
  have s1 := hT.2.2.1.1
  have s2 := hT.2.2.2.1
  have n0 := hN.1
  unfold spBuilders
  refine ⟨Nat.le_of_ble_eq_true rfl, ?_⟩
  show Ev ad _ (rX11_builders ad) (0, [some (.ref b), some (.int s), some (.int n)], [], M) _
  repeat (first | refine es rfl rfl rfl ?_ | refine eg rfl (by assumption) rfl ?_ | refine ean rfl (by assumption) (by assumption) rfl ?_ | refine eal rfl (by assumption) (by assumption) rfl ?_ | refine eri rfl ?_ | refine erv rfl ?_ | refine erl rfl ?_ | refine era rfl ?_ | refine erz0 rfl ?_ | refine erz1 rfl ?_)
  try dsimp only [set1, set2, kilP, List.set_cons_zero, List.set_cons_succ, List.getElem?_cons_zero, List.getElem?_cons_succ, List.nil_append, List.cons_append, Option.toList_some, Option.toList_none]
  refine ecr rfl rfl (by assumption) rfl rfl rfl (x_noT hX (by omega)) (by first | rfl | exact Nat.blt_eq.mpr (by omega)) rfl ?_
  by_cases hno : σ.T.hs.n = 0
  · rw [if_pos hno, show bI (σ.T.hs.n = 0) = 1 from if_pos hno]
    repeat (first | refine es rfl rfl rfl ?_ | refine eg rfl (by assumption) rfl ?_ | refine ean rfl (by assumption) (by assumption) rfl ?_ | refine eal rfl (by assumption) (by assumption) rfl ?_ | refine eri rfl ?_ | refine erv rfl ?_ | refine erl rfl ?_ | refine era rfl ?_ | refine erz0 rfl ?_ | refine erz1 rfl ?_)
    try dsimp only [set1, set2, kilP, List.set_cons_zero, List.set_cons_succ, List.getElem?_cons_zero, List.getElem?_cons_succ, List.nil_append, List.cons_append, Option.toList_some, Option.toList_none]
    refine ecv rfl rfl (by assumption) rfl rfl rfl (x_ref hX) (by first | rfl | exact Nat.blt_eq.mpr (by omega)) ?_
    rintro v M9 ⟨rfl, hX9, hF9⟩
    try dsimp only [set1, set2, kilP, List.set_cons_zero, List.set_cons_succ, List.getElem?_cons_zero, List.getElem?_cons_succ, List.nil_append, List.cons_append, Option.toList_some, Option.toList_none]
    repeat (first | refine es rfl rfl rfl ?_ | refine eg rfl (by assumption) rfl ?_ | refine ean rfl (by assumption) (by assumption) rfl ?_ | refine eal rfl (by assumption) (by assumption) rfl ?_ | refine eri rfl ?_ | refine erv rfl ?_ | refine erl rfl ?_ | refine era rfl ?_ | refine erz0 rfl ?_ | refine erz1 rfl ?_)
    try dsimp only [set1, set2, kilP, List.set_cons_zero, List.set_cons_succ, List.getElem?_cons_zero, List.getElem?_cons_succ, List.nil_append, List.cons_append, Option.toList_some, Option.toList_none]
    exact ⟨_, ⟨rfl, rfl⟩, hX9, hF.tr (hF9.wide (lo2 := b) (n2 := 73) (by omega) (by omega)) (by omega) (by omega)⟩
  rw [if_neg hno, show bI (σ.T.hs.n = 0) = 0 from if_neg hno]
  repeat (first | refine es rfl rfl rfl ?_ | refine eg rfl (by assumption) rfl ?_ | refine ean rfl (by assumption) (by assumption) rfl ?_ | refine eal rfl (by assumption) (by assumption) rfl ?_ | refine eri rfl ?_ | refine erv rfl ?_ | refine erl rfl ?_ | refine era rfl ?_ | refine erz0 rfl ?_ | refine erz1 rfl ?_)
  try dsimp only [set1, set2, kilP, List.set_cons_zero, List.set_cons_succ, List.getElem?_cons_zero, List.getElem?_cons_succ, List.nil_append, List.cons_append, Option.toList_some, Option.toList_none]
  refine ecsr rfl rfl rfl rfl rfl rfl (x_isW) (by first | rfl | exact Nat.blt_eq.mpr (by omega)) rfl ?_
  by_cases c : isW s n
  rotate_left
  · rw [if_neg c, show bI (isW s n) = 0 from if_neg c]
    repeat (first | refine es rfl rfl rfl ?_ | refine eg rfl (by assumption) rfl ?_ | refine ean rfl (by assumption) (by assumption) rfl ?_ | refine eal rfl (by assumption) (by assumption) rfl ?_ | refine eri rfl ?_ | refine erv rfl ?_ | refine erl rfl ?_ | refine era rfl ?_ | refine erz0 rfl ?_ | refine erz1 rfl ?_)
    try dsimp only [set1, set2, kilP, List.set_cons_zero, List.set_cons_succ, List.getElem?_cons_zero, List.getElem?_cons_succ, List.nil_append, List.cons_append, Option.toList_some, Option.toList_none]
    refine ecv rfl rfl (by assumption) rfl rfl rfl (x_ref hX) (by first | rfl | exact Nat.blt_eq.mpr (by omega)) ?_
    rintro v M9 ⟨rfl, hX9, hF9⟩
    try dsimp only [set1, set2, kilP, List.set_cons_zero, List.set_cons_succ, List.getElem?_cons_zero, List.getElem?_cons_succ, List.nil_append, List.cons_append, Option.toList_some, Option.toList_none]
    repeat (first | refine es rfl rfl rfl ?_ | refine eg rfl (by assumption) rfl ?_ | refine ean rfl (by assumption) (by assumption) rfl ?_ | refine eal rfl (by assumption) (by assumption) rfl ?_ | refine eri rfl ?_ | refine erv rfl ?_ | refine erl rfl ?_ | refine era rfl ?_ | refine erz0 rfl ?_ | refine erz1 rfl ?_)
    try dsimp only [set1, set2, kilP, List.set_cons_zero, List.set_cons_succ, List.getElem?_cons_zero, List.getElem?_cons_succ, List.nil_append, List.cons_append, Option.toList_some, Option.toList_none]
    exact ⟨_, ⟨rfl, rfl⟩, hX9, hF.tr (hF9.wide (lo2 := b) (n2 := 73) (by omega) (by omega)) (by omega) (by omega)⟩
  rw [if_pos c, show bI (isW s n) = 1 from if_pos c]
  obtain ⟨a, d, ha, hd, rfl, rfl⟩ := isW_k c
  rw [nI_clamp (by omega), nI_clamp (by omega)]
  repeat (first | refine es rfl rfl rfl ?_ | refine eg rfl (by assumption) rfl ?_ | refine ean rfl (by assumption) (by assumption) rfl ?_ | refine eal rfl (by assumption) (by assumption) rfl ?_ | refine eri rfl ?_ | refine erv rfl ?_ | refine erl rfl ?_ | refine era rfl ?_ | refine erz0 rfl ?_ | refine erz1 rfl ?_)
  try dsimp only [set1, set2, kilP, List.set_cons_zero, List.set_cons_succ, List.getElem?_cons_zero, List.getElem?_cons_succ, List.nil_append, List.cons_append, Option.toList_some, Option.toList_none]
  refine ecv rfl rfl (by assumption) rfl rfl rfl (x_build hX hI (by omega) ha hd) (by first | rfl | exact Nat.blt_eq.mpr (by omega)) ?_
  rintro v M1 ⟨rfl, ⟨r, hr, hw1⟩, hX1, hF1⟩
  have w1 := hw1.1
  have h01 : M1.1 b = _ := (hF1.1 _ (by omega)).trans h0
  have hF := hF.tr (hF1.wide (lo2 := b) (n2 := 73) (by omega) (by omega)) (by omega) (by omega)
  have hok := okR_bld (N := σ.T.hs.n) (by omega) hn7 d r a (okR_cp hI.ok hr)
  try dsimp only [set1, set2, kilP, List.set_cons_zero, List.set_cons_succ, List.getElem?_cons_zero, List.getElem?_cons_succ, List.nil_append, List.cons_append, Option.toList_some, Option.toList_none]
  repeat (first | refine es rfl rfl rfl ?_ | refine eg rfl (by assumption) rfl ?_ | refine ean rfl (by assumption) (by assumption) rfl ?_ | refine eal rfl (by assumption) (by assumption) rfl ?_ | refine eri rfl ?_ | refine erv rfl ?_ | refine erl rfl ?_ | refine era rfl ?_ | refine erz0 rfl ?_ | refine erz1 rfl ?_)
  try dsimp only [set1, set2, kilP, List.set_cons_zero, List.set_cons_succ, List.getElem?_cons_zero, List.getElem?_cons_succ, List.nil_append, List.cons_append, Option.toList_some, Option.toList_none]
  refine ecr rfl rfl (by assumption) rfl rfl rfl (e3_mbits hw1 hok) (by first | rfl | exact Nat.blt_eq.mpr (by omega)) rfl ?_
  rw [mbF_N _ 7 (Nat.le_refl _)]
  repeat (first | refine es rfl rfl rfl ?_ | refine eg rfl (by assumption) rfl ?_ | refine ean rfl (by assumption) (by assumption) rfl ?_ | refine eal rfl (by assumption) (by assumption) rfl ?_ | refine eri rfl ?_ | refine erv rfl ?_ | refine erl rfl ?_ | refine era rfl ?_ | refine erz0 rfl ?_ | refine erz1 rfl ?_)
  try dsimp only [set1, set2, kilP, List.set_cons_zero, List.set_cons_succ, List.getElem?_cons_zero, List.getElem?_cons_succ, List.nil_append, List.cons_append, Option.toList_some, Option.toList_none]
  refine ecsr rfl rfl rfl rfl rfl rfl (ej_bits (mbN_128 _)) (by first | rfl | exact Nat.blt_eq.mpr (by omega)) rfl ?_
  repeat (first | refine es rfl rfl rfl ?_ | refine eg rfl (by assumption) rfl ?_ | refine ean rfl (by assumption) (by assumption) rfl ?_ | refine eal rfl (by assumption) (by assumption) rfl ?_ | refine eri rfl ?_ | refine erv rfl ?_ | refine erl rfl ?_ | refine era rfl ?_ | refine erz0 rfl ?_ | refine erz1 rfl ?_)
  try dsimp only [set1, set2, kilP, List.set_cons_zero, List.set_cons_succ, List.getElem?_cons_zero, List.getElem?_cons_succ, List.nil_append, List.cons_append, Option.toList_some, Option.toList_none]
  refine ecv rfl rfl (by assumption) rfl rfl rfl (x_ans hX1) (by first | rfl | exact Nat.blt_eq.mpr (by omega)) ?_
  rintro v M9 ⟨rfl, hX9, hF9⟩
  try dsimp only [set1, set2, kilP, List.set_cons_zero, List.set_cons_succ, List.getElem?_cons_zero, List.getElem?_cons_succ, List.nil_append, List.cons_append, Option.toList_some, Option.toList_none]
  repeat (first | refine es rfl rfl rfl ?_ | refine eg rfl (by assumption) rfl ?_ | refine ean rfl (by assumption) (by assumption) rfl ?_ | refine eal rfl (by assumption) (by assumption) rfl ?_ | refine eri rfl ?_ | refine erv rfl ?_ | refine erl rfl ?_ | refine era rfl ?_ | refine erz0 rfl ?_ | refine erz1 rfl ?_)
  try dsimp only [set1, set2, kilP, List.set_cons_zero, List.set_cons_succ, List.getElem?_cons_zero, List.getElem?_cons_succ, List.nil_append, List.cons_append, Option.toList_some, Option.toList_none]
  exact ⟨_, ⟨_, hr, rfl, rfl⟩, hX9, hF.tr (hF9.wide (lo2 := b) (n2 := 73) (by omega) (by omega)) (by omega) (by omega)⟩
def spBuiltOf (σ : Sg) (x s n : Int32) : Option Value → Sg → Prop := if isH σ x then if isW s n then (fun v σ' => ∃ r, (∀ j, j < 7 → r j = σ.f j) ∧ an σ (bldF σ.T.hs.n n.toNatClampNeg r s.toNatClampNeg x.toNatClampNeg) v σ') else rf σ 2 else rf σ 1
theorem x_builtOf {x s n : Int32} (hX : XR M b σ) (hI : Inv σ C) : EvM ad 4 (iX11_builtOf ad) [.ref b, .int x, .int s, .int n] M (Po b M (spBuiltOf σ x s n)) := by
  have hn7 := hI.n7
  have hF := Fr.rf b 73 M
  obtain ⟨tb, sp, hts, h0, hRd, hT, hT2, hN, hTr, hPt, hWy, hFt, hSw, hRt⟩ := id hX
  unfold xTop at h0
  have t0 := hT.1.1
  have s0 := hT.2.1.1
  have s1 := hT.2.2.1.1
  have s2 := hT.2.2.2.1
  have n0 := hN.1
  unfold spBuiltOf
  refine ⟨Nat.le_of_ble_eq_true rfl, ?_⟩
  show Ev ad _ (rX11_builtOf ad) (0, [some (.ref b), some (.int x), some (.int s), some (.int n)], [], M) _
  repeat (first | refine es rfl rfl rfl ?_ | refine eg rfl (by assumption) rfl ?_ | refine ean rfl (by assumption) (by assumption) rfl ?_ | refine eal rfl (by assumption) (by assumption) rfl ?_ | refine eri rfl ?_ | refine erv rfl ?_ | refine erl rfl ?_ | refine era rfl ?_ | refine erz0 rfl ?_ | refine erz1 rfl ?_)
  try dsimp only [set1, set2, kilP, List.set_cons_zero, List.set_cons_succ, List.getElem?_cons_zero, List.getElem?_cons_succ, List.nil_append, List.cons_append, Option.toList_some, Option.toList_none]
  refine ecr rfl rfl (by assumption) rfl rfl rfl (x_isH hX) (by first | rfl | exact Nat.blt_eq.mpr (by omega)) rfl ?_
  by_cases c0 : isH σ x
  rotate_left
  · rw [if_neg c0, show bI (isH σ x) = 0 from if_neg c0]
    repeat (first | refine es rfl rfl rfl ?_ | refine eg rfl (by assumption) rfl ?_ | refine ean rfl (by assumption) (by assumption) rfl ?_ | refine eal rfl (by assumption) (by assumption) rfl ?_ | refine eri rfl ?_ | refine erv rfl ?_ | refine erl rfl ?_ | refine era rfl ?_ | refine erz0 rfl ?_ | refine erz1 rfl ?_)
    try dsimp only [set1, set2, kilP, List.set_cons_zero, List.set_cons_succ, List.getElem?_cons_zero, List.getElem?_cons_succ, List.nil_append, List.cons_append, Option.toList_some, Option.toList_none]
    refine ecv rfl rfl (by assumption) rfl rfl rfl (x_ref hX) (by first | rfl | exact Nat.blt_eq.mpr (by omega)) ?_
    rintro v M9 ⟨rfl, hX9, hF9⟩
    try dsimp only [set1, set2, kilP, List.set_cons_zero, List.set_cons_succ, List.getElem?_cons_zero, List.getElem?_cons_succ, List.nil_append, List.cons_append, Option.toList_some, Option.toList_none]
    repeat (first | refine es rfl rfl rfl ?_ | refine eg rfl (by assumption) rfl ?_ | refine ean rfl (by assumption) (by assumption) rfl ?_ | refine eal rfl (by assumption) (by assumption) rfl ?_ | refine eri rfl ?_ | refine erv rfl ?_ | refine erl rfl ?_ | refine era rfl ?_ | refine erz0 rfl ?_ | refine erz1 rfl ?_)
    try dsimp only [set1, set2, kilP, List.set_cons_zero, List.set_cons_succ, List.getElem?_cons_zero, List.getElem?_cons_succ, List.nil_append, List.cons_append, Option.toList_some, Option.toList_none]
    exact ⟨_, ⟨rfl, rfl⟩, hX9, hF.tr (hF9.wide (lo2 := b) (n2 := 73) (by omega) (by omega)) (by omega) (by omega)⟩
  rw [if_pos c0, show bI (isH σ x) = 1 from if_pos c0]
  obtain ⟨k, hk, rfl⟩ := isH_k hn7 c0
  have hk7 : k < 7 := by omega
  repeat (first | refine es rfl rfl rfl ?_ | refine eg rfl (by assumption) rfl ?_ | refine ean rfl (by assumption) (by assumption) rfl ?_ | refine eal rfl (by assumption) (by assumption) rfl ?_ | refine eri rfl ?_ | refine erv rfl ?_ | refine erl rfl ?_ | refine era rfl ?_ | refine erz0 rfl ?_ | refine erz1 rfl ?_)
  try dsimp only [set1, set2, kilP, List.set_cons_zero, List.set_cons_succ, List.getElem?_cons_zero, List.getElem?_cons_succ, List.nil_append, List.cons_append, Option.toList_some, Option.toList_none]
  refine ecsr rfl rfl rfl rfl rfl rfl (x_isW) (by first | rfl | exact Nat.blt_eq.mpr (by omega)) rfl ?_
  by_cases c : isW s n
  rotate_left
  · rw [if_neg c, show bI (isW s n) = 0 from if_neg c]
    repeat (first | refine es rfl rfl rfl ?_ | refine eg rfl (by assumption) rfl ?_ | refine ean rfl (by assumption) (by assumption) rfl ?_ | refine eal rfl (by assumption) (by assumption) rfl ?_ | refine eri rfl ?_ | refine erv rfl ?_ | refine erl rfl ?_ | refine era rfl ?_ | refine erz0 rfl ?_ | refine erz1 rfl ?_)
    try dsimp only [set1, set2, kilP, List.set_cons_zero, List.set_cons_succ, List.getElem?_cons_zero, List.getElem?_cons_succ, List.nil_append, List.cons_append, Option.toList_some, Option.toList_none]
    refine ecv rfl rfl (by assumption) rfl rfl rfl (x_ref hX) (by first | rfl | exact Nat.blt_eq.mpr (by omega)) ?_
    rintro v M9 ⟨rfl, hX9, hF9⟩
    try dsimp only [set1, set2, kilP, List.set_cons_zero, List.set_cons_succ, List.getElem?_cons_zero, List.getElem?_cons_succ, List.nil_append, List.cons_append, Option.toList_some, Option.toList_none]
    repeat (first | refine es rfl rfl rfl ?_ | refine eg rfl (by assumption) rfl ?_ | refine ean rfl (by assumption) (by assumption) rfl ?_ | refine eal rfl (by assumption) (by assumption) rfl ?_ | refine eri rfl ?_ | refine erv rfl ?_ | refine erl rfl ?_ | refine era rfl ?_ | refine erz0 rfl ?_ | refine erz1 rfl ?_)
    try dsimp only [set1, set2, kilP, List.set_cons_zero, List.set_cons_succ, List.getElem?_cons_zero, List.getElem?_cons_succ, List.nil_append, List.cons_append, Option.toList_some, Option.toList_none]
    exact ⟨_, ⟨rfl, rfl⟩, hX9, hF.tr (hF9.wide (lo2 := b) (n2 := 73) (by omega) (by omega)) (by omega) (by omega)⟩
  rw [if_pos c, show bI (isW s n) = 1 from if_pos c]
  obtain ⟨a, d, ha, hd, rfl, rfl⟩ := isW_k c
  rw [nI_clamp (show d < 2 ^ 31 by omega), nI_clamp (show a < 2 ^ 31 by omega), nI_clamp (show k < 2 ^ 31 by omega)]
  repeat (first | refine es rfl rfl rfl ?_ | refine eg rfl (by assumption) rfl ?_ | refine ean rfl (by assumption) (by assumption) rfl ?_ | refine eal rfl (by assumption) (by assumption) rfl ?_ | refine eri rfl ?_ | refine erv rfl ?_ | refine erl rfl ?_ | refine era rfl ?_ | refine erz0 rfl ?_ | refine erz1 rfl ?_)
  try dsimp only [set1, set2, kilP, List.set_cons_zero, List.set_cons_succ, List.getElem?_cons_zero, List.getElem?_cons_succ, List.nil_append, List.cons_append, Option.toList_some, Option.toList_none]
  refine ecv rfl rfl (by assumption) rfl rfl rfl (x_build hX hI (by omega) ha hd) (by first | rfl | exact Nat.blt_eq.mpr (by omega)) ?_
  rintro v M1 ⟨rfl, ⟨r, hr, hw1⟩, hX1, hF1⟩
  have w1 := hw1.1
  have h01 : M1.1 b = _ := (hF1.1 _ (by omega)).trans h0
  have hF := hF.tr (hF1.wide (lo2 := b) (n2 := 73) (by omega) (by omega)) (by omega) (by omega)
  try dsimp only [set1, set2, kilP, List.set_cons_zero, List.set_cons_succ, List.getElem?_cons_zero, List.getElem?_cons_succ, List.nil_append, List.cons_append, Option.toList_some, Option.toList_none]
  repeat (first | refine es rfl rfl rfl ?_ | refine eg rfl (by assumption) rfl ?_ | refine ean rfl (by assumption) (by assumption) rfl ?_ | refine eal rfl (by assumption) (by assumption) rfl ?_ | refine eri rfl ?_ | refine erv rfl ?_ | refine erl rfl ?_ | refine era rfl ?_ | refine erz0 rfl ?_ | refine erz1 rfl ?_)
  try dsimp only [set1, set2, kilP, List.set_cons_zero, List.set_cons_succ, List.getElem?_cons_zero, List.getElem?_cons_succ, List.nil_append, List.cons_append, Option.toList_some, Option.toList_none]
  refine ecr rfl rfl (by assumption) rfl rfl rfl (e3_roomOf hw1 (k := k) (by omega)) (by first | rfl | exact Nat.blt_eq.mpr (by omega)) rfl ?_
  repeat (first | refine es rfl rfl rfl ?_ | refine eg rfl (by assumption) rfl ?_ | refine ean rfl (by assumption) (by assumption) rfl ?_ | refine eal rfl (by assumption) (by assumption) rfl ?_ | refine eri rfl ?_ | refine erv rfl ?_ | refine erl rfl ?_ | refine era rfl ?_ | refine erz0 rfl ?_ | refine erz1 rfl ?_)
  try dsimp only [set1, set2, kilP, List.set_cons_zero, List.set_cons_succ, List.getElem?_cons_zero, List.getElem?_cons_succ, List.nil_append, List.cons_append, Option.toList_some, Option.toList_none]
  refine ecv rfl rfl (by assumption) rfl rfl rfl (x_ans hX1) (by first | rfl | exact Nat.blt_eq.mpr (by omega)) ?_
  rintro v M9 ⟨rfl, hX9, hF9⟩
  try dsimp only [set1, set2, kilP, List.set_cons_zero, List.set_cons_succ, List.getElem?_cons_zero, List.getElem?_cons_succ, List.nil_append, List.cons_append, Option.toList_some, Option.toList_none]
  repeat (first | refine es rfl rfl rfl ?_ | refine eg rfl (by assumption) rfl ?_ | refine ean rfl (by assumption) (by assumption) rfl ?_ | refine eal rfl (by assumption) (by assumption) rfl ?_ | refine eri rfl ?_ | refine erv rfl ?_ | refine erl rfl ?_ | refine era rfl ?_ | refine erz0 rfl ?_ | refine erz1 rfl ?_)
  try dsimp only [set1, set2, kilP, List.set_cons_zero, List.set_cons_succ, List.getElem?_cons_zero, List.getElem?_cons_succ, List.nil_append, List.cons_append, Option.toList_some, Option.toList_none]
  exact ⟨_, ⟨_, hr, rfl, rfl⟩, hX9, hF.tr (hF9.wide (lo2 := b) (n2 := 73) (by omega) (by omega)) (by omega) (by omega)⟩
end MORE
