/-! Clues -/
abbrev Cs : Type := Nat × (Nat → Int32) × (Nat → Int64) × Nat × (Nat → Int32) × (Nat → Int32)
abbrev Cs.sg (c : Cs) : Nat := c.1
abbrev Cs.sh (c : Cs) : Nat → Int32 := c.2.1
abbrev Cs.ss (c : Cs) : Nat → Int64 := c.2.2.1
abbrev Cs.nz (c : Cs) : Nat := c.2.2.2.1
abbrev Cs.nh (c : Cs) : Nat → Int32 := c.2.2.2.2.1
abbrev Cs.nr (c : Cs) : Nat → Int32 := c.2.2.2.2.2
def aCs (M : Mm) (b : Nat) (c : Cs) : Prop := M.1 b = some (.inr (0, [.int (nI c.sg), .ref (b + 1), .ref (b + 2), .int (nI c.nz), .ref (b + 3), .ref (b + 4)])) ∧ M.1 (b + 1) = ints 8 c.sh ∧ M.1 (b + 2) = lngs 8 c.ss ∧ M.1 (b + 3) = ints 4 c.nh ∧ M.1 (b + 4) = ints 4 c.nr
theorem aCs.kept {M M' : Mm} {b : Nat} {c : Cs} (hb : aCs M b c) (hq : ∀ q, b ≤ q → q < b + 5 → M'.1 q = M.1 q) : aCs M' b c := by
  obtain ⟨h0, h1, h2, h3, h4⟩ := hb
  exact ⟨(hq _ (by omega) (by omega)).trans h0, (hq _ (by omega) (by omega)).trans h1, (hq _ (by omega) (by omega)).trans h2, (hq _ (by omega) (by omega)).trans h3, (hq _ (by omega) (by omega)).trans h4⟩
theorem e0_clear {ad : Nat → Nat} {M : Mm} {b : Nat} {c : Cs} (hb : aCs M b c) : EvM ad 0 (iX0_clear ad) [.ref b] M (fun v' M' => v' = none ∧ aCs M' b (0, c.sh, c.ss, 0, c.nh, c.nr) ∧ Fr b 5 M M') := by
  obtain ⟨h0, h1, h2, h3, h4⟩ := hb
  have hF := Fr.rf b 5 M
  refine ⟨Nat.le_of_ble_eq_true rfl, ?_⟩
  show Ev ad _ (rX0_clear ad) (0, [some (.ref b)], [], M) _
  repeat (first | refine es rfl rfl rfl ?_ | refine eg rfl (by assumption) rfl ?_ | refine ean rfl (by assumption) (by assumption) rfl ?_ | refine eal rfl (by assumption) (by assumption) rfl ?_ | refine eri rfl ?_ | refine erv rfl ?_ | refine erl rfl ?_ | refine era rfl ?_ | refine erz0 rfl ?_ | refine erz1 rfl ?_)
  try dsimp only [set1, set2, kilP, List.set_cons_zero, List.set_cons_succ, List.getElem?_cons_zero, List.getElem?_cons_succ, List.nil_append, List.cons_append, Option.toList_some, Option.toList_none]
  refine epM rfl (by assumption) rfl rfl rfl (fun M2 eM => ?_)
  have k0 := up_w eM
  replace h1 := up_k eM h1 (by omega)
  replace h2 := up_k eM h2 (by omega)
  replace h3 := up_k eM h3 (by omega)
  replace h4 := up_k eM h4 (by omega)
  replace hF := hF.up eM (by omega) (by omega)
  repeat (first | refine es rfl rfl rfl ?_ | refine eg rfl (by assumption) rfl ?_ | refine ean rfl (by assumption) (by assumption) rfl ?_ | refine eal rfl (by assumption) (by assumption) rfl ?_ | refine eri rfl ?_ | refine erv rfl ?_ | refine erl rfl ?_ | refine era rfl ?_ | refine erz0 rfl ?_ | refine erz1 rfl ?_)
  try dsimp only [set1, set2, kilP, List.set_cons_zero, List.set_cons_succ, List.getElem?_cons_zero, List.getElem?_cons_succ, List.nil_append, List.cons_append, Option.toList_some, Option.toList_none]
  refine epM rfl (by assumption) rfl rfl rfl (fun M3 eM3 => ?_)
  have k1 := up_w eM3
  replace h1 := up_k eM3 h1 (by omega)
  replace h2 := up_k eM3 h2 (by omega)
  replace h3 := up_k eM3 h3 (by omega)
  replace h4 := up_k eM3 h4 (by omega)
  replace hF := hF.up eM3 (by omega) (by omega)
  repeat (first | refine es rfl rfl rfl ?_ | refine eg rfl (by assumption) rfl ?_ | refine ean rfl (by assumption) (by assumption) rfl ?_ | refine eal rfl (by assumption) (by assumption) rfl ?_ | refine eri rfl ?_ | refine erv rfl ?_ | refine erl rfl ?_ | refine era rfl ?_ | refine erz0 rfl ?_ | refine erz1 rfl ?_)
  try dsimp only [set1, set2, kilP, List.set_cons_zero, List.set_cons_succ, List.getElem?_cons_zero, List.getElem?_cons_succ, List.nil_append, List.cons_append, Option.toList_some, Option.toList_none]
  exact ⟨rfl, ⟨k1, h1, h2, h3, h4⟩, hF⟩
theorem e0_addSign {ad : Nat → Nat} {M : Mm} {b : Nat} {c : Cs} (hb : aCs M b c) (hs : c.sg < 8) {x : Int32} {w : Int64} : EvM ad 0 (iX0_addSign ad) [.ref b, .int x, .long w] M (fun v' M' => v' = none ∧ aCs M' b (c.sg + 1, upd c.sh c.sg x, vp_updL c.ss c.sg w, c.nz, c.nh, c.nr) ∧ Fr b 5 M M') := by
  obtain ⟨h0, h1, h2, h3, h4⟩ := hb
  have hF := Fr.rf b 5 M
  refine ⟨Nat.le_of_ble_eq_true rfl, ?_⟩
  show Ev ad _ (rX0_addSign ad) (0, [some (.ref b), some (.int x), some (.long w), none], [], M) _
  repeat (first | refine es rfl rfl rfl ?_ | refine eg rfl (by assumption) rfl ?_ | refine ean rfl (by assumption) (by assumption) rfl ?_ | refine eal rfl (by assumption) (by assumption) rfl ?_ | refine eri rfl ?_ | refine erv rfl ?_ | refine erl rfl ?_ | refine era rfl ?_ | refine erz0 rfl ?_ | refine erz1 rfl ?_)
  try dsimp only [set1, set2, kilP, List.set_cons_zero, List.set_cons_succ, List.getElem?_cons_zero, List.getElem?_cons_succ, List.nil_append, List.cons_append, Option.toList_some, Option.toList_none]
  refine ei _ rfl rfl (fun c1 => ?_) (fun c1 => ?_)
  · exact absurd c1 (nI_ge (b := 8) (by omega) (by omega))
  · repeat (first | refine es rfl rfl rfl ?_ | refine eg rfl (by assumption) rfl ?_ | refine ean rfl (by assumption) (by assumption) rfl ?_ | refine eal rfl (by assumption) (by assumption) rfl ?_ | refine eri rfl ?_ | refine erv rfl ?_ | refine erl rfl ?_ | refine era rfl ?_ | refine erz0 rfl ?_ | refine erz1 rfl ?_)
    try dsimp only [set1, set2, kilP, List.set_cons_zero, List.set_cons_succ, List.getElem?_cons_zero, List.getElem?_cons_succ, List.nil_append, List.cons_append, Option.toList_some, Option.toList_none]
    refine etM rfl (by assumption) (by assumption) rfl (fun M2 eM => ?_)
    have k1 := up_w eM
    replace h0 := up_k eM h0 (by omega)
    replace h2 := up_k eM h2 (by omega)
    replace h3 := up_k eM h3 (by omega)
    replace h4 := up_k eM h4 (by omega)
    replace hF := hF.up eM (by omega) (by omega)
    repeat (first | refine es rfl rfl rfl ?_ | refine eg rfl (by assumption) rfl ?_ | refine ean rfl (by assumption) (by assumption) rfl ?_ | refine eal rfl (by assumption) (by assumption) rfl ?_ | refine eri rfl ?_ | refine erv rfl ?_ | refine erl rfl ?_ | refine era rfl ?_ | refine erz0 rfl ?_ | refine erz1 rfl ?_)
    try dsimp only [set1, set2, kilP, List.set_cons_zero, List.set_cons_succ, List.getElem?_cons_zero, List.getElem?_cons_succ, List.nil_append, List.cons_append, Option.toList_some, Option.toList_none]
    refine etlM rfl (by assumption) (by assumption) rfl (fun M3 eM3 => ?_)
    have k2 := up_w eM3
    replace h0 := up_k eM3 h0 (by omega)
    replace k1 := up_k eM3 k1 (by omega)
    replace h3 := up_k eM3 h3 (by omega)
    replace h4 := up_k eM3 h4 (by omega)
    replace hF := hF.up eM3 (by omega) (by omega)
    repeat (first | refine es rfl rfl rfl ?_ | refine eg rfl (by assumption) rfl ?_ | refine ean rfl (by assumption) (by assumption) rfl ?_ | refine eal rfl (by assumption) (by assumption) rfl ?_ | refine eri rfl ?_ | refine erv rfl ?_ | refine erl rfl ?_ | refine era rfl ?_ | refine erz0 rfl ?_ | refine erz1 rfl ?_)
    try dsimp only [set1, set2, kilP, List.set_cons_zero, List.set_cons_succ, List.getElem?_cons_zero, List.getElem?_cons_succ, List.nil_append, List.cons_append, Option.toList_some, Option.toList_none]
    refine epM rfl (by assumption) rfl rfl rfl (fun M4 eM4 => ?_)
    have k0 := up_w eM4
    replace k1 := up_k eM4 k1 (by omega)
    replace k2 := up_k eM4 k2 (by omega)
    replace h3 := up_k eM4 h3 (by omega)
    replace h4 := up_k eM4 h4 (by omega)
    replace hF := hF.up eM4 (by omega) (by omega)
    rw [nI_1] at k0
    repeat (first | refine es rfl rfl rfl ?_ | refine eg rfl (by assumption) rfl ?_ | refine ean rfl (by assumption) (by assumption) rfl ?_ | refine eal rfl (by assumption) (by assumption) rfl ?_ | refine eri rfl ?_ | refine erv rfl ?_ | refine erl rfl ?_ | refine era rfl ?_ | refine erz0 rfl ?_ | refine erz1 rfl ?_)
    try dsimp only [set1, set2, kilP, List.set_cons_zero, List.set_cons_succ, List.getElem?_cons_zero, List.getElem?_cons_succ, List.nil_append, List.cons_append, Option.toList_some, Option.toList_none]
    exact ⟨rfl, ⟨k0, k1, k2, h3, h4⟩, hF⟩
theorem e0_addNoise {ad : Nat → Nat} {M : Mm} {b : Nat} {c : Cs} (hb : aCs M b c) (hs : c.nz < 4) {x y : Int32} : EvM ad 0 (iX0_addNoise ad) [.ref b, .int x, .int y] M (fun v' M' => v' = none ∧ aCs M' b (c.sg, c.sh, c.ss, c.nz + 1, upd c.nh c.nz x, upd c.nr c.nz y) ∧ Fr b 5 M M') := by
  obtain ⟨h0, h1, h2, h3, h4⟩ := hb
  have hF := Fr.rf b 5 M
  refine ⟨Nat.le_of_ble_eq_true rfl, ?_⟩
  show Ev ad _ (rX0_addNoise ad) (0, [some (.ref b), some (.int x), some (.int y)], [], M) _
  repeat (first | refine es rfl rfl rfl ?_ | refine eg rfl (by assumption) rfl ?_ | refine ean rfl (by assumption) (by assumption) rfl ?_ | refine eal rfl (by assumption) (by assumption) rfl ?_ | refine eri rfl ?_ | refine erv rfl ?_ | refine erl rfl ?_ | refine era rfl ?_ | refine erz0 rfl ?_ | refine erz1 rfl ?_)
  try dsimp only [set1, set2, kilP, List.set_cons_zero, List.set_cons_succ, List.getElem?_cons_zero, List.getElem?_cons_succ, List.nil_append, List.cons_append, Option.toList_some, Option.toList_none]
  refine ei _ rfl rfl (fun c1 => ?_) (fun c1 => ?_)
  · exact absurd c1 (nI_ge (b := 4) (by omega) (by omega))
  · repeat (first | refine es rfl rfl rfl ?_ | refine eg rfl (by assumption) rfl ?_ | refine ean rfl (by assumption) (by assumption) rfl ?_ | refine eal rfl (by assumption) (by assumption) rfl ?_ | refine eri rfl ?_ | refine erv rfl ?_ | refine erl rfl ?_ | refine era rfl ?_ | refine erz0 rfl ?_ | refine erz1 rfl ?_)
    try dsimp only [set1, set2, kilP, List.set_cons_zero, List.set_cons_succ, List.getElem?_cons_zero, List.getElem?_cons_succ, List.nil_append, List.cons_append, Option.toList_some, Option.toList_none]
    refine etM rfl (by assumption) (by assumption) rfl (fun M2 eM => ?_)
    have k3 := up_w eM
    replace h0 := up_k eM h0 (by omega)
    replace h1 := up_k eM h1 (by omega)
    replace h2 := up_k eM h2 (by omega)
    replace h4 := up_k eM h4 (by omega)
    replace hF := hF.up eM (by omega) (by omega)
    repeat (first | refine es rfl rfl rfl ?_ | refine eg rfl (by assumption) rfl ?_ | refine ean rfl (by assumption) (by assumption) rfl ?_ | refine eal rfl (by assumption) (by assumption) rfl ?_ | refine eri rfl ?_ | refine erv rfl ?_ | refine erl rfl ?_ | refine era rfl ?_ | refine erz0 rfl ?_ | refine erz1 rfl ?_)
    try dsimp only [set1, set2, kilP, List.set_cons_zero, List.set_cons_succ, List.getElem?_cons_zero, List.getElem?_cons_succ, List.nil_append, List.cons_append, Option.toList_some, Option.toList_none]
    refine etM rfl (by assumption) (by assumption) rfl (fun M3 eM3 => ?_)
    have k4 := up_w eM3
    replace h0 := up_k eM3 h0 (by omega)
    replace h1 := up_k eM3 h1 (by omega)
    replace h2 := up_k eM3 h2 (by omega)
    replace k3 := up_k eM3 k3 (by omega)
    replace hF := hF.up eM3 (by omega) (by omega)
    repeat (first | refine es rfl rfl rfl ?_ | refine eg rfl (by assumption) rfl ?_ | refine ean rfl (by assumption) (by assumption) rfl ?_ | refine eal rfl (by assumption) (by assumption) rfl ?_ | refine eri rfl ?_ | refine erv rfl ?_ | refine erl rfl ?_ | refine era rfl ?_ | refine erz0 rfl ?_ | refine erz1 rfl ?_)
    try dsimp only [set1, set2, kilP, List.set_cons_zero, List.set_cons_succ, List.getElem?_cons_zero, List.getElem?_cons_succ, List.nil_append, List.cons_append, Option.toList_some, Option.toList_none]
    refine epM rfl (by assumption) rfl rfl rfl (fun M4 eM4 => ?_)
    have k0 := up_w eM4
    replace h1 := up_k eM4 h1 (by omega)
    replace h2 := up_k eM4 h2 (by omega)
    replace k3 := up_k eM4 k3 (by omega)
    replace k4 := up_k eM4 k4 (by omega)
    replace hF := hF.up eM4 (by omega) (by omega)
    rw [nI_1] at k0
    repeat (first | refine es rfl rfl rfl ?_ | refine eg rfl (by assumption) rfl ?_ | refine ean rfl (by assumption) (by assumption) rfl ?_ | refine eal rfl (by assumption) (by assumption) rfl ?_ | refine eri rfl ?_ | refine erv rfl ?_ | refine erl rfl ?_ | refine era rfl ?_ | refine erz0 rfl ?_ | refine erz1 rfl ?_)
    try dsimp only [set1, set2, kilP, List.set_cons_zero, List.set_cons_succ, List.getElem?_cons_zero, List.getElem?_cons_succ, List.nil_append, List.cons_append, Option.toList_some, Option.toList_none]
    exact ⟨rfl, ⟨k0, h1, h2, k3, k4⟩, hF⟩
/-- no sign and no noise of room h speaks against a house of this smell and so many rooms -/
def alwB (c : Cs) (h : Int32) (w : Int64) (r : Int32) : Prop := (∀ j, j < c.sg → c.sh j = h → c.ss j = w) ∧ ∀ j, j < c.nz → c.nh j = h → c.nr j ≤ r
noncomputable def alwI (c : Cs) (h : Int32) (w : Int64) (r : Int32) : Int32 := @ite _ (alwB c h w r) (Classical.propDecidable _) 1 0
theorem e0_alw2 {ad : Nat → Nat} {M : Mm} {b : Nat} {c : Cs} (hb : aCs M b c) (hz : c.nz ≤ 4) {h : Int32} {w : Int64} {r : Int32} (hs : ∀ j, j < c.sg → c.sh j = h → c.ss j = w) : ∀ (n i : Nat), i + n = c.nz → (∀ j, j < i → c.nh j = h → c.nr j ≤ r) → Ev ad 0 (rX0_allow ad) (46, [some (.ref b), some (.int h), some (.long w), none, some (.int r), some (.int (nI i))], [], M) (fun v' M' => v' = some (.int (alwI c h w r)) ∧ M' = M) := by
  obtain ⟨h0, h1, h2, h3, h4⟩ := hb
  intro n
  induction n with
  | zero =>
    intro i hn ho
    repeat (first | refine es rfl rfl rfl ?_ | refine eg rfl (by assumption) rfl ?_ | refine ean rfl (by assumption) (by assumption) rfl ?_ | refine eal rfl (by assumption) (by assumption) rfl ?_ | refine eri rfl ?_ | refine erv rfl ?_ | refine erl rfl ?_ | refine era rfl ?_ | refine erz0 rfl ?_ | refine erz1 rfl ?_)
    try dsimp only [set1, set2, kilP, List.set_cons_zero, List.set_cons_succ, List.getElem?_cons_zero, List.getElem?_cons_succ, List.nil_append, List.cons_append, Option.toList_some, Option.toList_none]
    refine ei _ rfl rfl (fun c1 => ?_) (fun c1 => ?_)
    · repeat (first | refine es rfl rfl rfl ?_ | refine eg rfl (by assumption) rfl ?_ | refine ean rfl (by assumption) (by assumption) rfl ?_ | refine eal rfl (by assumption) (by assumption) rfl ?_ | refine eri rfl ?_ | refine erv rfl ?_ | refine erl rfl ?_ | refine era rfl ?_ | refine erz0 rfl ?_ | refine erz1 rfl ?_)
      try dsimp only [set1, set2, kilP, List.set_cons_zero, List.set_cons_succ, List.getElem?_cons_zero, List.getElem?_cons_succ, List.nil_append, List.cons_append, Option.toList_some, Option.toList_none]
      have hB : alwB c h w r := ⟨hs, fun j hj => ho j (by omega)⟩
      rw [alwI, if_pos hB]
      exact ⟨rfl, rfl⟩
    · exact absurd (nI_le (by omega) (by omega)) c1
  | succ n ih =>
    intro i hn ho
    have hi : i < 4 := by omega
    repeat (first | refine es rfl rfl rfl ?_ | refine eg rfl (by assumption) rfl ?_ | refine ean rfl (by assumption) (by assumption) rfl ?_ | refine eal rfl (by assumption) (by assumption) rfl ?_ | refine eri rfl ?_ | refine erv rfl ?_ | refine erl rfl ?_ | refine era rfl ?_ | refine erz0 rfl ?_ | refine erz1 rfl ?_)
    try dsimp only [set1, set2, kilP, List.set_cons_zero, List.set_cons_succ, List.getElem?_cons_zero, List.getElem?_cons_succ, List.nil_append, List.cons_append, Option.toList_some, Option.toList_none]
    refine ei _ rfl rfl (fun c1 => ?_) (fun c1 => ?_)
    · exact absurd c1 (nI_ge (by omega) (by omega))
    · repeat (first | refine es rfl rfl rfl ?_ | refine eg rfl (by assumption) rfl ?_ | refine ean rfl (by assumption) (by assumption) rfl ?_ | refine eal rfl (by assumption) (by assumption) rfl ?_ | refine eri rfl ?_ | refine erv rfl ?_ | refine erl rfl ?_ | refine era rfl ?_ | refine erz0 rfl ?_ | refine erz1 rfl ?_)
      try dsimp only [set1, set2, kilP, List.set_cons_zero, List.set_cons_succ, List.getElem?_cons_zero, List.getElem?_cons_succ, List.nil_append, List.cons_append, Option.toList_some, Option.toList_none]
      refine ei _ rfl rfl (fun c2 => ?_) (fun c2 => ?_)
      · repeat (refine ng 46 rfl ?_; first | refine es rfl rfl rfl ?_ | refine eg rfl (by assumption) rfl ?_ | refine ean rfl (by assumption) (by assumption) rfl ?_ | refine eal rfl (by assumption) (by assumption) rfl ?_ | refine eri rfl ?_ | refine erv rfl ?_ | refine erl rfl ?_ | refine era rfl ?_ | refine erz0 rfl ?_ | refine erz1 rfl ?_)
        try dsimp only [set1, set2, kilP, List.set_cons_zero, List.set_cons_succ, List.getElem?_cons_zero, List.getElem?_cons_succ, List.nil_append, List.cons_append, Option.toList_some, Option.toList_none]
        rw [nI_1]
        refine ih (i + 1) (by omega) (fun j hj e => ?_)
        by_cases ej : j = i
        · rw [ej] at e; exact absurd e c2
        · exact ho j (by omega) e
      · repeat (first | refine es rfl rfl rfl ?_ | refine eg rfl (by assumption) rfl ?_ | refine ean rfl (by assumption) (by assumption) rfl ?_ | refine eal rfl (by assumption) (by assumption) rfl ?_ | refine eri rfl ?_ | refine erv rfl ?_ | refine erl rfl ?_ | refine era rfl ?_ | refine erz0 rfl ?_ | refine erz1 rfl ?_)
        try dsimp only [set1, set2, kilP, List.set_cons_zero, List.set_cons_succ, List.getElem?_cons_zero, List.getElem?_cons_succ, List.nil_append, List.cons_append, Option.toList_some, Option.toList_none]
        refine ei _ rfl rfl (fun c3 => ?_) (fun c3 => ?_)
        · repeat (refine ng 46 rfl ?_; first | refine es rfl rfl rfl ?_ | refine eg rfl (by assumption) rfl ?_ | refine ean rfl (by assumption) (by assumption) rfl ?_ | refine eal rfl (by assumption) (by assumption) rfl ?_ | refine eri rfl ?_ | refine erv rfl ?_ | refine erl rfl ?_ | refine era rfl ?_ | refine erz0 rfl ?_ | refine erz1 rfl ?_)
          try dsimp only [set1, set2, kilP, List.set_cons_zero, List.set_cons_succ, List.getElem?_cons_zero, List.getElem?_cons_succ, List.nil_append, List.cons_append, Option.toList_some, Option.toList_none]
          rw [nI_1]
          refine ih (i + 1) (by omega) (fun j hj e => ?_)
          by_cases ej : j = i
          · rw [ej]; exact c3
          · exact ho j (by omega) e
        · repeat (first | refine es rfl rfl rfl ?_ | refine eg rfl (by assumption) rfl ?_ | refine ean rfl (by assumption) (by assumption) rfl ?_ | refine eal rfl (by assumption) (by assumption) rfl ?_ | refine eri rfl ?_ | refine erv rfl ?_ | refine erl rfl ?_ | refine era rfl ?_ | refine erz0 rfl ?_ | refine erz1 rfl ?_)
          try dsimp only [set1, set2, kilP, List.set_cons_zero, List.set_cons_succ, List.getElem?_cons_zero, List.getElem?_cons_succ, List.nil_append, List.cons_append, Option.toList_some, Option.toList_none]
          have hB : ¬ alwB c h w r := fun q => c3 (q.2 i (by omega) (Decidable.not_not.mp c2))
          rw [alwI, if_neg hB]
          exact ⟨rfl, rfl⟩
theorem e0_alw1 {ad : Nat → Nat} {M : Mm} {b : Nat} {c : Cs} (hb : aCs M b c) (hg : c.sg ≤ 8) (hz : c.nz ≤ 4) {h : Int32} {w : Int64} {r : Int32} : ∀ (n i : Nat), i + n = c.sg → (∀ j, j < i → c.sh j = h → c.ss j = w) → Ev ad 0 (rX0_allow ad) (3, [some (.ref b), some (.int h), some (.long w), none, some (.int r), some (.int (nI i))], [], M) (fun v' M' => v' = some (.int (alwI c h w r)) ∧ M' = M) := by
  have hb' := hb
  obtain ⟨h0, h1, h2, h3, h4⟩ := hb
  intro n
  induction n with
  | zero =>
    intro i hn ho
    repeat (first | refine es rfl rfl rfl ?_ | refine eg rfl (by assumption) rfl ?_ | refine ean rfl (by assumption) (by assumption) rfl ?_ | refine eal rfl (by assumption) (by assumption) rfl ?_ | refine eri rfl ?_ | refine erv rfl ?_ | refine erl rfl ?_ | refine era rfl ?_ | refine erz0 rfl ?_ | refine erz1 rfl ?_)
    try dsimp only [set1, set2, kilP, List.set_cons_zero, List.set_cons_succ, List.getElem?_cons_zero, List.getElem?_cons_succ, List.nil_append, List.cons_append, Option.toList_some, Option.toList_none]
    refine ei _ rfl rfl (fun c1 => ?_) (fun c1 => ?_)
    · repeat (refine ng 46 rfl ?_; first | refine es rfl rfl rfl ?_ | refine eg rfl (by assumption) rfl ?_ | refine ean rfl (by assumption) (by assumption) rfl ?_ | refine eal rfl (by assumption) (by assumption) rfl ?_ | refine eri rfl ?_ | refine erv rfl ?_ | refine erl rfl ?_ | refine era rfl ?_ | refine erz0 rfl ?_ | refine erz1 rfl ?_)
      try dsimp only [set1, set2, kilP, List.set_cons_zero, List.set_cons_succ, List.getElem?_cons_zero, List.getElem?_cons_succ, List.nil_append, List.cons_append, Option.toList_some, Option.toList_none]
      exact e0_alw2 hb' hz (fun j hj => ho j (by omega)) c.nz 0 (by omega) (fun j hj => absurd hj (by omega))
    · exact absurd (nI_le (by omega) (by omega)) c1
  | succ n ih =>
    intro i hn ho
    have hi : i < 8 := by omega
    repeat (first | refine es rfl rfl rfl ?_ | refine eg rfl (by assumption) rfl ?_ | refine ean rfl (by assumption) (by assumption) rfl ?_ | refine eal rfl (by assumption) (by assumption) rfl ?_ | refine eri rfl ?_ | refine erv rfl ?_ | refine erl rfl ?_ | refine era rfl ?_ | refine erz0 rfl ?_ | refine erz1 rfl ?_)
    try dsimp only [set1, set2, kilP, List.set_cons_zero, List.set_cons_succ, List.getElem?_cons_zero, List.getElem?_cons_succ, List.nil_append, List.cons_append, Option.toList_some, Option.toList_none]
    refine ei _ rfl rfl (fun c1 => ?_) (fun c1 => ?_)
    · exact absurd c1 (nI_ge (by omega) (by omega))
    · repeat (first | refine es rfl rfl rfl ?_ | refine eg rfl (by assumption) rfl ?_ | refine ean rfl (by assumption) (by assumption) rfl ?_ | refine eal rfl (by assumption) (by assumption) rfl ?_ | refine eri rfl ?_ | refine erv rfl ?_ | refine erl rfl ?_ | refine era rfl ?_ | refine erz0 rfl ?_ | refine erz1 rfl ?_)
      try dsimp only [set1, set2, kilP, List.set_cons_zero, List.set_cons_succ, List.getElem?_cons_zero, List.getElem?_cons_succ, List.nil_append, List.cons_append, Option.toList_some, Option.toList_none]
      refine ei _ rfl rfl (fun c2 => ?_) (fun c2 => ?_)
      · repeat (refine ng 3 rfl ?_; first | refine es rfl rfl rfl ?_ | refine eg rfl (by assumption) rfl ?_ | refine ean rfl (by assumption) (by assumption) rfl ?_ | refine eal rfl (by assumption) (by assumption) rfl ?_ | refine eri rfl ?_ | refine erv rfl ?_ | refine erl rfl ?_ | refine era rfl ?_ | refine erz0 rfl ?_ | refine erz1 rfl ?_)
        try dsimp only [set1, set2, kilP, List.set_cons_zero, List.set_cons_succ, List.getElem?_cons_zero, List.getElem?_cons_succ, List.nil_append, List.cons_append, Option.toList_some, Option.toList_none]
        rw [nI_1]
        refine ih (i + 1) (by omega) (fun j hj e => ?_)
        by_cases ej : j = i
        · rw [ej] at e; exact absurd e c2
        · exact ho j (by omega) e
      · repeat (first | refine es rfl rfl rfl ?_ | refine eg rfl (by assumption) rfl ?_ | refine ean rfl (by assumption) (by assumption) rfl ?_ | refine eal rfl (by assumption) (by assumption) rfl ?_ | refine eri rfl ?_ | refine erv rfl ?_ | refine erl rfl ?_ | refine era rfl ?_ | refine erz0 rfl ?_ | refine erz1 rfl ?_)
        try dsimp only [set1, set2, kilP, List.set_cons_zero, List.set_cons_succ, List.getElem?_cons_zero, List.getElem?_cons_succ, List.nil_append, List.cons_append, Option.toList_some, Option.toList_none]
        refine ei _ rfl rfl (fun c3 => ?_) (fun c3 => ?_)
        · repeat (refine ng 3 rfl ?_; first | refine es rfl rfl rfl ?_ | refine eg rfl (by assumption) rfl ?_ | refine ean rfl (by assumption) (by assumption) rfl ?_ | refine eal rfl (by assumption) (by assumption) rfl ?_ | refine eri rfl ?_ | refine erv rfl ?_ | refine erl rfl ?_ | refine era rfl ?_ | refine erz0 rfl ?_ | refine erz1 rfl ?_)
          try dsimp only [set1, set2, kilP, List.set_cons_zero, List.set_cons_succ, List.getElem?_cons_zero, List.getElem?_cons_succ, List.nil_append, List.cons_append, Option.toList_some, Option.toList_none]
          rw [nI_1]
          refine ih (i + 1) (by omega) (fun j hj e => ?_)
          by_cases ej : j = i
          · rw [ej]; exact lcmp_eq.mp c3
          · exact ho j (by omega) e
        · repeat (first | refine es rfl rfl rfl ?_ | refine eg rfl (by assumption) rfl ?_ | refine ean rfl (by assumption) (by assumption) rfl ?_ | refine eal rfl (by assumption) (by assumption) rfl ?_ | refine eri rfl ?_ | refine erv rfl ?_ | refine erl rfl ?_ | refine era rfl ?_ | refine erz0 rfl ?_ | refine erz1 rfl ?_)
          try dsimp only [set1, set2, kilP, List.set_cons_zero, List.set_cons_succ, List.getElem?_cons_zero, List.getElem?_cons_succ, List.nil_append, List.cons_append, Option.toList_some, Option.toList_none]
          have hB : ¬ alwB c h w r := fun q => c3 (lcmp_eq.mpr (q.1 i (by omega) (Decidable.not_not.mp c2)))
          rw [alwI, if_neg hB]
          exact ⟨rfl, rfl⟩
theorem e0_allow {ad : Nat → Nat} {M : Mm} {b : Nat} {c : Cs} (hb : aCs M b c) (hg : c.sg ≤ 8) (hz : c.nz ≤ 4) {h : Int32} {w : Int64} {r : Int32} : Rd ad 0 (iX0_allow ad) [.ref b, .int h, .long w, .int r] M (some (.int (alwI c h w r))) := by
  refine ⟨Nat.le_of_ble_eq_true rfl, ?_⟩
  show Ev ad _ (rX0_allow ad) (0, [some (.ref b), some (.int h), some (.long w), none, some (.int r), none], [], M) _
  repeat (refine ng 3 rfl ?_; first | refine es rfl rfl rfl ?_ | refine eg rfl (by assumption) rfl ?_ | refine ean rfl (by assumption) (by assumption) rfl ?_ | refine eal rfl (by assumption) (by assumption) rfl ?_ | refine eri rfl ?_ | refine erv rfl ?_ | refine erl rfl ?_ | refine era rfl ?_ | refine erz0 rfl ?_ | refine erz1 rfl ?_)
  try dsimp only [set1, set2, kilP, List.set_cons_zero, List.set_cons_succ, List.getElem?_cons_zero, List.getElem?_cons_succ, List.nil_append, List.cons_append, Option.toList_some, Option.toList_none]
  exact e0_alw1 hb hg hz c.sg 0 (by omega) (fun j hj => absurd hj (by omega))
