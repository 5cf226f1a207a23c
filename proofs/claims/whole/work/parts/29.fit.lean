/-! Fitting -/
abbrev Fs4 : Type := (Nat → Int32) × (Nat → Int32) × (Nat → Int32) × Int32
abbrev Ft : Type := (Nat → Int32) × Fs4 × Int32
/-- mayBe; counts, placed, first row, rows; isCounted -/
def aFt (M : Mm) (b : Nat) (w : Ft) : Prop := M.1 b = some (.inr (1, [.ref (b + 1), .ref (b + 2), .ref (b + 3), .ref (b + 4), .int w.2.1.2.2.2, .int w.2.2])) ∧ M.1 (b + 1) = ints 7 w.1 ∧ M.1 (b + 2) = ints 49 w.2.1.1 ∧ M.1 (b + 3) = ints 7 w.2.1.2.1 ∧ M.1 (b + 4) = ints 7 w.2.1.2.2.1
theorem aFt.kept {M M' : Mm} {b : Nat} {p : Ft} (hb : aFt M b p) (hq : ∀ q, b ≤ q → q < b + 5 → M'.1 q = M.1 q) : aFt M' b p := by
  obtain ⟨h0, h1, h2, h3, h4⟩ := hb
  exact ⟨(hq _ (by omega) (by omega)).trans h0, (hq _ (by omega) (by omega)).trans h1, (hq _ (by omega) (by omega)).trans h2, (hq _ (by omega) (by omega)).trans h3, (hq _ (by omega) (by omega)).trans h4⟩
theorem e1_forget {ad : Nat → Nat} {M : Mm} {b : Nat} {w : Ft} (hb : aFt M b w) : EvM ad 0 (iX1_forget ad) [.ref b] M (fun v' M' => v' = none ∧ aFt M' b (w.1, w.2.1, 0) ∧ Fr b 5 M M') := by
  obtain ⟨h0, h1, h2, h3, h4⟩ := hb
  have hF := Fr.rf b 5 M
  refine ⟨Nat.le_of_ble_eq_true rfl, ?_⟩
  show Ev ad _ (rX1_forget ad) (0, [some (.ref b)], [], M) _
  repeat (first | refine es rfl rfl rfl ?_ | refine eg rfl (by assumption) rfl ?_ | refine ean rfl (by assumption) (by assumption) rfl ?_ | refine eal rfl (by assumption) (by assumption) rfl ?_ | refine eri rfl ?_ | refine erv rfl ?_ | refine erl rfl ?_ | refine era rfl ?_ | refine erz0 rfl ?_ | refine erz1 rfl ?_)
  try dsimp only [set1, set2, kilP, List.set_cons_zero, List.set_cons_succ, List.getElem?_cons_zero, List.getElem?_cons_succ, List.nil_append, List.cons_append, Option.toList_some, Option.toList_none]
  refine epM rfl (by assumption) rfl rfl rfl (fun M2 eM => ?_)
  have k0 := up_w eM
  replace h1 := up_k eM h1 (by omega)
  replace h2 := up_k eM h2 (by omega)
  replace h3 := up_k eM h3 (by omega)
  replace h4 := up_k eM h4 (by omega)
  replace hF := hF.up eM (by omega) (by omega)
  repeat (first | refine es rfl rfl rfl ?_ | refine eg rfl (by assumption) rfl ?_ | refine ean rfl (by assumption) (by assumption) rfl ?_ | refine eal rfl (by assumption) (by assumption) rfl ?_ | refine eri rfl ?_ | refine erv rfl ?_ | refine erl rfl ?_ | refine era rfl ?_ | refine erz0 rfl ?_ | refine erz1 rfl ?_)
  try dsimp only [set1, set2, kilP, List.set_cons_zero, List.set_cons_succ, List.getElem?_cons_zero, List.getElem?_cons_succ, List.nil_append, List.cons_append, Option.toList_some, Option.toList_none]
  exact ⟨rfl, ⟨k0, h1, h2, h3, h4⟩, hF⟩
theorem e1_rowCount {ad : Nat → Nat} {M : Mm} {b : Nat} {w : Ft} (hb : aFt M b w) : Rd ad 0 (iX1_rowCount ad) [.ref b] M (some (.int w.2.1.2.2.2)) := by
  obtain ⟨h0, h1, h2, h3, h4⟩ := hb
  refine ⟨Nat.le_of_ble_eq_true rfl, ?_⟩
  show Ev ad _ (rX1_rowCount ad) (0, [some (.ref b)], [], M) _
  repeat (first | refine es rfl rfl rfl ?_ | refine eg rfl (by assumption) rfl ?_ | refine ean rfl (by assumption) (by assumption) rfl ?_ | refine eal rfl (by assumption) (by assumption) rfl ?_ | refine eri rfl ?_ | refine erv rfl ?_ | refine erl rfl ?_ | refine era rfl ?_ | refine erz0 rfl ?_ | refine erz1 rfl ?_)
  try dsimp only [set1, set2, kilP, List.set_cons_zero, List.set_cons_succ, List.getElem?_cons_zero, List.getElem?_cons_succ, List.nil_append, List.cons_append, Option.toList_some, Option.toList_none]
  exact ⟨rfl, rfl⟩
theorem e1_inFirst {ad : Nat → Nat} {M : Mm} {b k : Nat} {w : Ft} (hb : aFt M b w) (hk : k < 7) : Rd ad 0 (iX1_inFirstRow ad) [.ref b, .int (nI k)] M (some (.int (w.2.1.2.2.1 k))) := by
  obtain ⟨h0, h1, h2, h3, h4⟩ := hb
  refine ⟨Nat.le_of_ble_eq_true rfl, ?_⟩
  show Ev ad _ (rX1_inFirstRow ad) (0, [some (.ref b), some (.int (nI k))], [], M) _
  repeat (first | refine es rfl rfl rfl ?_ | refine eg rfl (by assumption) rfl ?_ | refine ean rfl (by assumption) (by assumption) rfl ?_ | refine eal rfl (by assumption) (by assumption) rfl ?_ | refine eri rfl ?_ | refine erv rfl ?_ | refine erl rfl ?_ | refine era rfl ?_ | refine erz0 rfl ?_ | refine erz1 rfl ?_)
  try dsimp only [set1, set2, kilP, List.set_cons_zero, List.set_cons_succ, List.getElem?_cons_zero, List.getElem?_cons_succ, List.nil_append, List.cons_append, Option.toList_some, Option.toList_none]
  exact ⟨rfl, rfl⟩
/-- the houses that a row has, as bits -/
def pbF (ct : Nat → Int32) (h : Nat) : Nat → Int32
  | 0 => 0
  | g + 1 => if 0 < ct (h * 7 + g) then pbF ct h g ||| ((1 : Int32) <<< (nI g &&& 31)) else pbF ct h g
theorem e1_pb_loop {ad : Nat → Nat} {M : Mm} {b h : Nat} {w : Ft} (hb : aFt M b w) (hh : h < 7) : ∀ (n g : Nat), g + n = 7 → Ev ad 0 (rX1_possibleBits ad) (4, [some (.ref b), some (.int (nI h)), some (.int (pbF w.2.1.1 h g)), some (.int (nI g))], [], M) (fun v' M' => v' = some (.int (pbF w.2.1.1 h 7)) ∧ M' = M) := by
  obtain ⟨h0, h1, h2, h3, h4⟩ := hb
  intro n
  induction n with
  | zero =>
    intro g hn
    have e7 : g = 7 := by omega
    repeat (first | refine es rfl rfl rfl ?_ | refine eg rfl (by assumption) rfl ?_ | refine ean rfl (by assumption) (by assumption) rfl ?_ | refine eal rfl (by assumption) (by assumption) rfl ?_ | refine eri rfl ?_ | refine erv rfl ?_ | refine erl rfl ?_ | refine era rfl ?_ | refine erz0 rfl ?_ | refine erz1 rfl ?_)
    try dsimp only [set1, set2, kilP, List.set_cons_zero, List.set_cons_succ, List.getElem?_cons_zero, List.getElem?_cons_succ, List.nil_append, List.cons_append, Option.toList_some, Option.toList_none]
    refine ei _ rfl rfl (fun c => ?_) (fun c => ?_)
    · repeat (first | refine es rfl rfl rfl ?_ | refine eg rfl (by assumption) rfl ?_ | refine ean rfl (by assumption) (by assumption) rfl ?_ | refine eal rfl (by assumption) (by assumption) rfl ?_ | refine eri rfl ?_ | refine erv rfl ?_ | refine erl rfl ?_ | refine era rfl ?_ | refine erz0 rfl ?_ | refine erz1 rfl ?_)
      try dsimp only [set1, set2, kilP, List.set_cons_zero, List.set_cons_succ, List.getElem?_cons_zero, List.getElem?_cons_succ, List.nil_append, List.cons_append, Option.toList_some, Option.toList_none]
      rw [e7]; exact ⟨rfl, rfl⟩
    · exact absurd (nI_le (a := 7) (by omega) (by omega)) c
  | succ n ih =>
    intro g hn
    have hx : h * 7 + g < 49 := by omega
    have h9 := ih (g + 1) (by omega)
    rw [pbF] at h9
    repeat (first | refine es rfl rfl rfl ?_ | refine eg rfl (by assumption) rfl ?_ | refine ean rfl (by assumption) (by assumption) rfl ?_ | refine eal rfl (by assumption) (by assumption) rfl ?_ | refine eri rfl ?_ | refine erv rfl ?_ | refine erl rfl ?_ | refine era rfl ?_ | refine erz0 rfl ?_ | refine erz1 rfl ?_)
    try dsimp only [set1, set2, kilP, List.set_cons_zero, List.set_cons_succ, List.getElem?_cons_zero, List.getElem?_cons_succ, List.nil_append, List.cons_append, Option.toList_some, Option.toList_none]
    refine ei _ rfl rfl (fun c => ?_) (fun c => ?_)
    · exact absurd c (nI_ge (b := 7) (by omega) (by omega))
    · repeat (first | refine es rfl rfl rfl ?_ | refine eg rfl (by assumption) rfl ?_ | refine ean rfl (by assumption) (by assumption) rfl ?_ | refine eal rfl (by assumption) (by assumption) rfl ?_ | refine eri rfl ?_ | refine erv rfl ?_ | refine erl rfl ?_ | refine era rfl ?_ | refine erz0 rfl ?_ | refine erz1 rfl ?_)
      try dsimp only [set1, set2, kilP, List.set_cons_zero, List.set_cons_succ, List.getElem?_cons_zero, List.getElem?_cons_succ, List.nil_append, List.cons_append, Option.toList_some, Option.toList_none]
      rw [ix7]
      repeat (first | refine es rfl rfl rfl ?_ | refine eg rfl (by assumption) rfl ?_ | refine ean rfl (by assumption) (by assumption) rfl ?_ | refine eal rfl (by assumption) (by assumption) rfl ?_ | refine eri rfl ?_ | refine erv rfl ?_ | refine erl rfl ?_ | refine era rfl ?_ | refine erz0 rfl ?_ | refine erz1 rfl ?_)
      try dsimp only [set1, set2, kilP, List.set_cons_zero, List.set_cons_succ, List.getElem?_cons_zero, List.getElem?_cons_succ, List.nil_append, List.cons_append, Option.toList_some, Option.toList_none]
      refine ei _ rfl rfl (fun c1 => ?_) (fun c1 => ?_)
      · rw [if_neg (Int32.not_lt.mpr c1)] at h9
        repeat (refine ng 4 rfl ?_; first | refine es rfl rfl rfl ?_ | refine eg rfl (by assumption) rfl ?_ | refine ean rfl (by assumption) (by assumption) rfl ?_ | refine eal rfl (by assumption) (by assumption) rfl ?_ | refine eri rfl ?_ | refine erv rfl ?_ | refine erl rfl ?_ | refine era rfl ?_ | refine erz0 rfl ?_ | refine erz1 rfl ?_)
        try dsimp only [set1, set2, kilP, List.set_cons_zero, List.set_cons_succ, List.getElem?_cons_zero, List.getElem?_cons_succ, List.nil_append, List.cons_append, Option.toList_some, Option.toList_none]
        rw [nI_1]; exact h9
      · rw [if_pos (Int32.not_le.mp c1)] at h9
        repeat (refine ng 4 rfl ?_; first | refine es rfl rfl rfl ?_ | refine eg rfl (by assumption) rfl ?_ | refine ean rfl (by assumption) (by assumption) rfl ?_ | refine eal rfl (by assumption) (by assumption) rfl ?_ | refine eri rfl ?_ | refine erv rfl ?_ | refine erl rfl ?_ | refine era rfl ?_ | refine erz0 rfl ?_ | refine erz1 rfl ?_)
        try dsimp only [set1, set2, kilP, List.set_cons_zero, List.set_cons_succ, List.getElem?_cons_zero, List.getElem?_cons_succ, List.nil_append, List.cons_append, Option.toList_some, Option.toList_none]
        rw [nI_1]; exact h9
theorem e1_pb {ad : Nat → Nat} {M : Mm} {b h : Nat} {w : Ft} (hb : aFt M b w) (hh : h < 7) : Rd ad 0 (iX1_possibleBits ad) [.ref b, .int (nI h)] M (some (.int (pbF w.2.1.1 h 7))) := by
  refine ⟨Nat.le_of_ble_eq_true rfl, ?_⟩
  show Ev ad _ (rX1_possibleBits ad) (0, [some (.ref b), some (.int (nI h)), none, none], [], M) _
  repeat (refine ng 4 rfl ?_; first | refine es rfl rfl rfl ?_ | refine eg rfl (by assumption) rfl ?_ | refine ean rfl (by assumption) (by assumption) rfl ?_ | refine eal rfl (by assumption) (by assumption) rfl ?_ | refine eri rfl ?_ | refine erv rfl ?_ | refine erl rfl ?_ | refine era rfl ?_ | refine erz0 rfl ?_ | refine erz1 rfl ?_)
  try dsimp only [set1, set2, kilP, List.set_cons_zero, List.set_cons_succ, List.getElem?_cons_zero, List.getElem?_cons_succ, List.nil_append, List.cons_append, Option.toList_some, Option.toList_none]
  exact e1_pb_loop hb hh 7 0 rfl
/-- the one house of the bits x, from g on -/
def saF (x : Int32) : Nat → Nat → Int32
  | 0, _ => -2
  | n + 1, g => if x = (1 : Int32) <<< (nI g &&& 31) then nI g else saF x n (g + 1)
theorem e1_sa_loop {ad : Nat → Nat} {M : Mm} {b h : Nat} {x : Int32} : ∀ (n g : Nat), g + n = 7 → Ev ad 1 (rX1_sameInAll ad) (8, [some (.ref b), some (.int (nI h)), some (.int x), some (.int (nI g))], [], M) (fun v' M' => v' = some (.int (saF x n g)) ∧ M' = M) := by
  intro n
  induction n with
  | zero =>
    intro g hn
    repeat (first | refine es rfl rfl rfl ?_ | refine eg rfl (by assumption) rfl ?_ | refine ean rfl (by assumption) (by assumption) rfl ?_ | refine eal rfl (by assumption) (by assumption) rfl ?_ | refine eri rfl ?_ | refine erv rfl ?_ | refine erl rfl ?_ | refine era rfl ?_ | refine erz0 rfl ?_ | refine erz1 rfl ?_)
    try dsimp only [set1, set2, kilP, List.set_cons_zero, List.set_cons_succ, List.getElem?_cons_zero, List.getElem?_cons_succ, List.nil_append, List.cons_append, Option.toList_some, Option.toList_none]
    refine ei _ rfl rfl (fun c => ?_) (fun c => ?_)
    · repeat (first | refine es rfl rfl rfl ?_ | refine eg rfl (by assumption) rfl ?_ | refine ean rfl (by assumption) (by assumption) rfl ?_ | refine eal rfl (by assumption) (by assumption) rfl ?_ | refine eri rfl ?_ | refine erv rfl ?_ | refine erl rfl ?_ | refine era rfl ?_ | refine erz0 rfl ?_ | refine erz1 rfl ?_)
      try dsimp only [set1, set2, kilP, List.set_cons_zero, List.set_cons_succ, List.getElem?_cons_zero, List.getElem?_cons_succ, List.nil_append, List.cons_append, Option.toList_some, Option.toList_none]
      exact ⟨rfl, rfl⟩
    · exact absurd (nI_le (a := 7) (by omega) (by omega)) c
  | succ n ih =>
    intro g hn
    repeat (first | refine es rfl rfl rfl ?_ | refine eg rfl (by assumption) rfl ?_ | refine ean rfl (by assumption) (by assumption) rfl ?_ | refine eal rfl (by assumption) (by assumption) rfl ?_ | refine eri rfl ?_ | refine erv rfl ?_ | refine erl rfl ?_ | refine era rfl ?_ | refine erz0 rfl ?_ | refine erz1 rfl ?_)
    try dsimp only [set1, set2, kilP, List.set_cons_zero, List.set_cons_succ, List.getElem?_cons_zero, List.getElem?_cons_succ, List.nil_append, List.cons_append, Option.toList_some, Option.toList_none]
    refine ei _ rfl rfl (fun c => ?_) (fun c => ?_)
    · exact absurd c (nI_ge (b := 7) (by omega) (by omega))
    · repeat (first | refine es rfl rfl rfl ?_ | refine eg rfl (by assumption) rfl ?_ | refine ean rfl (by assumption) (by assumption) rfl ?_ | refine eal rfl (by assumption) (by assumption) rfl ?_ | refine eri rfl ?_ | refine erv rfl ?_ | refine erl rfl ?_ | refine era rfl ?_ | refine erz0 rfl ?_ | refine erz1 rfl ?_)
      try dsimp only [set1, set2, kilP, List.set_cons_zero, List.set_cons_succ, List.getElem?_cons_zero, List.getElem?_cons_succ, List.nil_append, List.cons_append, Option.toList_some, Option.toList_none]
      refine ei _ rfl rfl (fun c1 => ?_) (fun c1 => ?_)
      · repeat (refine ng 8 rfl ?_; first | refine es rfl rfl rfl ?_ | refine eg rfl (by assumption) rfl ?_ | refine ean rfl (by assumption) (by assumption) rfl ?_ | refine eal rfl (by assumption) (by assumption) rfl ?_ | refine eri rfl ?_ | refine erv rfl ?_ | refine erl rfl ?_ | refine era rfl ?_ | refine erz0 rfl ?_ | refine erz1 rfl ?_)
        try dsimp only [set1, set2, kilP, List.set_cons_zero, List.set_cons_succ, List.getElem?_cons_zero, List.getElem?_cons_succ, List.nil_append, List.cons_append, Option.toList_some, Option.toList_none]
        rw [nI_1, saF, if_neg c1]
        exact ih (g + 1) (by omega)
      · repeat (first | refine es rfl rfl rfl ?_ | refine eg rfl (by assumption) rfl ?_ | refine ean rfl (by assumption) (by assumption) rfl ?_ | refine eal rfl (by assumption) (by assumption) rfl ?_ | refine eri rfl ?_ | refine erv rfl ?_ | refine erl rfl ?_ | refine era rfl ?_ | refine erz0 rfl ?_ | refine erz1 rfl ?_)
        try dsimp only [set1, set2, kilP, List.set_cons_zero, List.set_cons_succ, List.getElem?_cons_zero, List.getElem?_cons_succ, List.nil_append, List.cons_append, Option.toList_some, Option.toList_none]
        rw [saF, if_pos (Decidable.not_not.mp c1)]
        exact ⟨rfl, rfl⟩
theorem e1_sa {ad : Nat → Nat} {M : Mm} {b h : Nat} {w : Ft} (hb : aFt M b w) (hh : h < 7) : Rd ad 1 (iX1_sameInAll ad) [.ref b, .int (nI h)] M (some (.int (saF (pbF w.2.1.1 h 7) 7 0))) := by
  have h0 := hb.1
  refine ⟨Nat.le_of_ble_eq_true rfl, ?_⟩
  show Ev ad _ (rX1_sameInAll ad) (0, [some (.ref b), some (.int (nI h)), none, none], [], M) _
  repeat (first | refine es rfl rfl rfl ?_ | refine eg rfl (by assumption) rfl ?_ | refine ean rfl (by assumption) (by assumption) rfl ?_ | refine eal rfl (by assumption) (by assumption) rfl ?_ | refine eri rfl ?_ | refine erv rfl ?_ | refine erl rfl ?_ | refine era rfl ?_ | refine erz0 rfl ?_ | refine erz1 rfl ?_)
  try dsimp only [set1, set2, kilP, List.set_cons_zero, List.set_cons_succ, List.getElem?_cons_zero, List.getElem?_cons_succ, List.nil_append, List.cons_append, Option.toList_some, Option.toList_none]
  refine ecr rfl rfl (by assumption) rfl rfl rfl (e1_pb hb hh) (by first | rfl | exact Nat.blt_eq.mpr (by omega)) rfl ?_
  repeat (refine ng 8 rfl ?_; first | refine es rfl rfl rfl ?_ | refine eg rfl (by assumption) rfl ?_ | refine ean rfl (by assumption) (by assumption) rfl ?_ | refine eal rfl (by assumption) (by assumption) rfl ?_ | refine eri rfl ?_ | refine erv rfl ?_ | refine erl rfl ?_ | refine era rfl ?_ | refine erz0 rfl ?_ | refine erz1 rfl ?_)
  try dsimp only [set1, set2, kilP, List.set_cons_zero, List.set_cons_succ, List.getElem?_cons_zero, List.getElem?_cons_succ, List.nil_append, List.cons_append, Option.toList_some, Option.toList_none]
  exact e1_sa_loop 7 0 rfl
/-- the most that one answer leaves -/
def mlF (ct : Nat → Int32) (h : Nat) : Nat → Int32
  | 0 => 0
  | g + 1 => maxF (mlF ct h g) (ct (h * 7 + g))
theorem e1_ml_loop {ad : Nat → Nat} {M : Mm} {b h : Nat} {w : Ft} (hb : aFt M b w) (hh : h < 7) : ∀ (n g : Nat), g + n = 7 → Ev ad 1 (rX1_mostLeftBy ad) (4, [some (.ref b), some (.int (nI h)), some (.int (mlF w.2.1.1 h g)), some (.int (nI g))], [], M) (fun v' M' => v' = some (.int (mlF w.2.1.1 h 7)) ∧ M' = M) := by
  obtain ⟨h0, h1, h2, h3, h4⟩ := hb
  intro n
  induction n with
  | zero =>
    intro g hn
    have e7 : g = 7 := by omega
    repeat (first | refine es rfl rfl rfl ?_ | refine eg rfl (by assumption) rfl ?_ | refine ean rfl (by assumption) (by assumption) rfl ?_ | refine eal rfl (by assumption) (by assumption) rfl ?_ | refine eri rfl ?_ | refine erv rfl ?_ | refine erl rfl ?_ | refine era rfl ?_ | refine erz0 rfl ?_ | refine erz1 rfl ?_)
    try dsimp only [set1, set2, kilP, List.set_cons_zero, List.set_cons_succ, List.getElem?_cons_zero, List.getElem?_cons_succ, List.nil_append, List.cons_append, Option.toList_some, Option.toList_none]
    refine ei _ rfl rfl (fun c => ?_) (fun c => ?_)
    · repeat (first | refine es rfl rfl rfl ?_ | refine eg rfl (by assumption) rfl ?_ | refine ean rfl (by assumption) (by assumption) rfl ?_ | refine eal rfl (by assumption) (by assumption) rfl ?_ | refine eri rfl ?_ | refine erv rfl ?_ | refine erl rfl ?_ | refine era rfl ?_ | refine erz0 rfl ?_ | refine erz1 rfl ?_)
      try dsimp only [set1, set2, kilP, List.set_cons_zero, List.set_cons_succ, List.getElem?_cons_zero, List.getElem?_cons_succ, List.nil_append, List.cons_append, Option.toList_some, Option.toList_none]
      rw [e7]; exact ⟨rfl, rfl⟩
    · exact absurd (nI_le (a := 7) (by omega) (by omega)) c
  | succ n ih =>
    intro g hn
    have hx : h * 7 + g < 49 := by omega
    repeat (first | refine es rfl rfl rfl ?_ | refine eg rfl (by assumption) rfl ?_ | refine ean rfl (by assumption) (by assumption) rfl ?_ | refine eal rfl (by assumption) (by assumption) rfl ?_ | refine eri rfl ?_ | refine erv rfl ?_ | refine erl rfl ?_ | refine era rfl ?_ | refine erz0 rfl ?_ | refine erz1 rfl ?_)
    try dsimp only [set1, set2, kilP, List.set_cons_zero, List.set_cons_succ, List.getElem?_cons_zero, List.getElem?_cons_succ, List.nil_append, List.cons_append, Option.toList_some, Option.toList_none]
    refine ei _ rfl rfl (fun c => ?_) (fun c => ?_)
    · exact absurd c (nI_ge (b := 7) (by omega) (by omega))
    · repeat (first | refine es rfl rfl rfl ?_ | refine eg rfl (by assumption) rfl ?_ | refine ean rfl (by assumption) (by assumption) rfl ?_ | refine eal rfl (by assumption) (by assumption) rfl ?_ | refine eri rfl ?_ | refine erv rfl ?_ | refine erl rfl ?_ | refine era rfl ?_ | refine erz0 rfl ?_ | refine erz1 rfl ?_)
      try dsimp only [set1, set2, kilP, List.set_cons_zero, List.set_cons_succ, List.getElem?_cons_zero, List.getElem?_cons_succ, List.nil_append, List.cons_append, Option.toList_some, Option.toList_none]
      rw [ix7]
      repeat (first | refine es rfl rfl rfl ?_ | refine eg rfl (by assumption) rfl ?_ | refine ean rfl (by assumption) (by assumption) rfl ?_ | refine eal rfl (by assumption) (by assumption) rfl ?_ | refine eri rfl ?_ | refine erv rfl ?_ | refine erl rfl ?_ | refine era rfl ?_ | refine erz0 rfl ?_ | refine erz1 rfl ?_)
      try dsimp only [set1, set2, kilP, List.set_cons_zero, List.set_cons_succ, List.getElem?_cons_zero, List.getElem?_cons_succ, List.nil_append, List.cons_append, Option.toList_some, Option.toList_none]
      refine ecsr rfl rfl rfl rfl rfl rfl (ej_max) (by first | rfl | exact Nat.blt_eq.mpr (by omega)) rfl ?_
      repeat (refine ng 4 rfl ?_; first | refine es rfl rfl rfl ?_ | refine eg rfl (by assumption) rfl ?_ | refine ean rfl (by assumption) (by assumption) rfl ?_ | refine eal rfl (by assumption) (by assumption) rfl ?_ | refine eri rfl ?_ | refine erv rfl ?_ | refine erl rfl ?_ | refine era rfl ?_ | refine erz0 rfl ?_ | refine erz1 rfl ?_)
      try dsimp only [set1, set2, kilP, List.set_cons_zero, List.set_cons_succ, List.getElem?_cons_zero, List.getElem?_cons_succ, List.nil_append, List.cons_append, Option.toList_some, Option.toList_none]
      rw [nI_1]
      exact ih (g + 1) (by omega)
theorem e1_ml {ad : Nat → Nat} {M : Mm} {b h : Nat} {w : Ft} (hb : aFt M b w) (hh : h < 7) : Rd ad 1 (iX1_mostLeftBy ad) [.ref b, .int (nI h)] M (some (.int (mlF w.2.1.1 h 7))) := by
  refine ⟨Nat.le_of_ble_eq_true rfl, ?_⟩
  show Ev ad _ (rX1_mostLeftBy ad) (0, [some (.ref b), some (.int (nI h)), none, none], [], M) _
  repeat (refine ng 4 rfl ?_; first | refine es rfl rfl rfl ?_ | refine eg rfl (by assumption) rfl ?_ | refine ean rfl (by assumption) (by assumption) rfl ?_ | refine eal rfl (by assumption) (by assumption) rfl ?_ | refine eri rfl ?_ | refine erv rfl ?_ | refine erl rfl ?_ | refine era rfl ?_ | refine erz0 rfl ?_ | refine erz1 rfl ?_)
  try dsimp only [set1, set2, kilP, List.set_cons_zero, List.set_cons_succ, List.getElem?_cons_zero, List.getElem?_cons_succ, List.nil_append, List.cons_append, Option.toList_some, Option.toList_none]
  exact e1_ml_loop hb hh 7 0 rfl
def askL (ml : Nat → Int32) (h : Nat) (a : Option Nat) : Bool := match a with
  | none => true
  | some k => decide (ml h < ml k)
/-- which house to ask, among those from h on -/
def askF (ml : Nat → Int32) : Nat → Nat → Option Nat → Option Nat
  | 0, _, a => a
  | n + 1, h, a => askF ml n (h + 1) (if 0 < ml h ∧ askL ml h a = true then some h else a)
abbrev oI (a : Option Nat) : Int32 := match a with
  | none => -2
  | some k => nI k
theorem e1_ask_loop {ad : Nat → Nat} {M : Mm} {b : Nat} {w : Ft} (hb : aFt M b w) : ∀ (n h : Nat) (a : Option Nat) (L3 : Option Value), h + n = 7 → (∀ k, a = some k → k < 7) → Ev ad 2 (rX1_houseToAsk ad) (5, [some (.ref b), some (.int (oI a)), some (.int (nI h)), L3], [], M) (fun v' M' => v' = some (.int (oI (askF (fun k => mlF w.2.1.1 k 7) n h a))) ∧ M' = M) := by
  have h0 := hb.1
  intro n
  induction n with
  | zero =>
    intro h a L3 hn ha
    repeat (first | refine es rfl rfl rfl ?_ | refine eg rfl (by assumption) rfl ?_ | refine ean rfl (by assumption) (by assumption) rfl ?_ | refine eal rfl (by assumption) (by assumption) rfl ?_ | refine eri rfl ?_ | refine erv rfl ?_ | refine erl rfl ?_ | refine era rfl ?_ | refine erz0 rfl ?_ | refine erz1 rfl ?_)
    try dsimp only [set1, set2, kilP, List.set_cons_zero, List.set_cons_succ, List.getElem?_cons_zero, List.getElem?_cons_succ, List.nil_append, List.cons_append, Option.toList_some, Option.toList_none]
    refine ei _ rfl rfl (fun c => ?_) (fun c => ?_)
    · repeat (first | refine es rfl rfl rfl ?_ | refine eg rfl (by assumption) rfl ?_ | refine ean rfl (by assumption) (by assumption) rfl ?_ | refine eal rfl (by assumption) (by assumption) rfl ?_ | refine eri rfl ?_ | refine erv rfl ?_ | refine erl rfl ?_ | refine era rfl ?_ | refine erz0 rfl ?_ | refine erz1 rfl ?_)
      try dsimp only [set1, set2, kilP, List.set_cons_zero, List.set_cons_succ, List.getElem?_cons_zero, List.getElem?_cons_succ, List.nil_append, List.cons_append, Option.toList_some, Option.toList_none]
      exact ⟨rfl, rfl⟩
    · exact absurd (nI_le (a := 7) (by omega) (by omega)) c
  | succ n ih =>
    intro h a L3 hn ha
    have hh : h < 7 := by omega
    rw [askF]
    repeat (first | refine es rfl rfl rfl ?_ | refine eg rfl (by assumption) rfl ?_ | refine ean rfl (by assumption) (by assumption) rfl ?_ | refine eal rfl (by assumption) (by assumption) rfl ?_ | refine eri rfl ?_ | refine erv rfl ?_ | refine erl rfl ?_ | refine era rfl ?_ | refine erz0 rfl ?_ | refine erz1 rfl ?_)
    try dsimp only [set1, set2, kilP, List.set_cons_zero, List.set_cons_succ, List.getElem?_cons_zero, List.getElem?_cons_succ, List.nil_append, List.cons_append, Option.toList_some, Option.toList_none]
    refine ei _ rfl rfl (fun c => ?_) (fun c => ?_)
    · exact absurd c (nI_ge (b := 7) (by omega) (by omega))
    · repeat (first | refine es rfl rfl rfl ?_ | refine eg rfl (by assumption) rfl ?_ | refine ean rfl (by assumption) (by assumption) rfl ?_ | refine eal rfl (by assumption) (by assumption) rfl ?_ | refine eri rfl ?_ | refine erv rfl ?_ | refine erl rfl ?_ | refine era rfl ?_ | refine erz0 rfl ?_ | refine erz1 rfl ?_)
      try dsimp only [set1, set2, kilP, List.set_cons_zero, List.set_cons_succ, List.getElem?_cons_zero, List.getElem?_cons_succ, List.nil_append, List.cons_append, Option.toList_some, Option.toList_none]
      refine ecr rfl rfl (by assumption) rfl rfl rfl (e1_ml hb hh) (by first | rfl | exact Nat.blt_eq.mpr (by omega)) rfl ?_
      repeat (first | refine es rfl rfl rfl ?_ | refine eg rfl (by assumption) rfl ?_ | refine ean rfl (by assumption) (by assumption) rfl ?_ | refine eal rfl (by assumption) (by assumption) rfl ?_ | refine eri rfl ?_ | refine erv rfl ?_ | refine erl rfl ?_ | refine era rfl ?_ | refine erz0 rfl ?_ | refine erz1 rfl ?_)
      try dsimp only [set1, set2, kilP, List.set_cons_zero, List.set_cons_succ, List.getElem?_cons_zero, List.getElem?_cons_succ, List.nil_append, List.cons_append, Option.toList_some, Option.toList_none]
      refine ei _ rfl rfl (fun c1 => ?_) (fun c1 => ?_)
      · have hx : ¬ (0 < mlF w.2.1.1 h 7) := Int32.not_lt.mpr c1
        repeat (refine ng 5 rfl ?_; first | refine es rfl rfl rfl ?_ | refine eg rfl (by assumption) rfl ?_ | refine ean rfl (by assumption) (by assumption) rfl ?_ | refine eal rfl (by assumption) (by assumption) rfl ?_ | refine eri rfl ?_ | refine erv rfl ?_ | refine erl rfl ?_ | refine era rfl ?_ | refine erz0 rfl ?_ | refine erz1 rfl ?_)
        try dsimp only [set1, set2, kilP, List.set_cons_zero, List.set_cons_succ, List.getElem?_cons_zero, List.getElem?_cons_succ, List.nil_append, List.cons_append, Option.toList_some, Option.toList_none]
        rw [nI_1, if_neg (fun q => hx q.1)]
        exact ih (h + 1) a _ (by omega) ha
      · have hx : 0 < mlF w.2.1.1 h 7 := Int32.not_le.mp c1
        cases a with
        | none =>
          repeat (refine ng 5 rfl ?_; first | refine es rfl rfl rfl ?_ | refine eg rfl (by assumption) rfl ?_ | refine ean rfl (by assumption) (by assumption) rfl ?_ | refine eal rfl (by assumption) (by assumption) rfl ?_ | refine eri rfl ?_ | refine erv rfl ?_ | refine erl rfl ?_ | refine era rfl ?_ | refine erz0 rfl ?_ | refine erz1 rfl ?_)
          try dsimp only [set1, set2, kilP, List.set_cons_zero, List.set_cons_succ, List.getElem?_cons_zero, List.getElem?_cons_succ, List.nil_append, List.cons_append, Option.toList_some, Option.toList_none]
          rw [nI_1, if_pos ⟨hx, rfl⟩]
          exact ih (h + 1) (some h) _ (by omega) (fun k hk => by cases hk; exact hh)
        | some k =>
          have hk7 := ha k rfl
          repeat (first | refine es rfl rfl rfl ?_ | refine eg rfl (by assumption) rfl ?_ | refine ean rfl (by assumption) (by assumption) rfl ?_ | refine eal rfl (by assumption) (by assumption) rfl ?_ | refine eri rfl ?_ | refine erv rfl ?_ | refine erl rfl ?_ | refine era rfl ?_ | refine erz0 rfl ?_ | refine erz1 rfl ?_)
          try dsimp only [set1, set2, kilP, List.set_cons_zero, List.set_cons_succ, List.getElem?_cons_zero, List.getElem?_cons_succ, List.nil_append, List.cons_append, Option.toList_some, Option.toList_none]
          refine ei _ rfl rfl (fun c2 => ?_) (fun c2 => ?_)
          · exact absurd c2 (nI_n2 (by omega))
          · repeat (first | refine es rfl rfl rfl ?_ | refine eg rfl (by assumption) rfl ?_ | refine ean rfl (by assumption) (by assumption) rfl ?_ | refine eal rfl (by assumption) (by assumption) rfl ?_ | refine eri rfl ?_ | refine erv rfl ?_ | refine erl rfl ?_ | refine era rfl ?_ | refine erz0 rfl ?_ | refine erz1 rfl ?_)
            try dsimp only [set1, set2, kilP, List.set_cons_zero, List.set_cons_succ, List.getElem?_cons_zero, List.getElem?_cons_succ, List.nil_append, List.cons_append, Option.toList_some, Option.toList_none]
            refine ecr rfl rfl (by assumption) rfl rfl rfl (e1_ml hb hk7) (by first | rfl | exact Nat.blt_eq.mpr (by omega)) rfl ?_
            repeat (first | refine es rfl rfl rfl ?_ | refine eg rfl (by assumption) rfl ?_ | refine ean rfl (by assumption) (by assumption) rfl ?_ | refine eal rfl (by assumption) (by assumption) rfl ?_ | refine eri rfl ?_ | refine erv rfl ?_ | refine erl rfl ?_ | refine era rfl ?_ | refine erz0 rfl ?_ | refine erz1 rfl ?_)
            try dsimp only [set1, set2, kilP, List.set_cons_zero, List.set_cons_succ, List.getElem?_cons_zero, List.getElem?_cons_succ, List.nil_append, List.cons_append, Option.toList_some, Option.toList_none]
            refine ei _ rfl rfl (fun c3 => ?_) (fun c3 => ?_)
            · repeat (refine ng 5 rfl ?_; first | refine es rfl rfl rfl ?_ | refine eg rfl (by assumption) rfl ?_ | refine ean rfl (by assumption) (by assumption) rfl ?_ | refine eal rfl (by assumption) (by assumption) rfl ?_ | refine eri rfl ?_ | refine erv rfl ?_ | refine erl rfl ?_ | refine era rfl ?_ | refine erz0 rfl ?_ | refine erz1 rfl ?_)
              try dsimp only [set1, set2, kilP, List.set_cons_zero, List.set_cons_succ, List.getElem?_cons_zero, List.getElem?_cons_succ, List.nil_append, List.cons_append, Option.toList_some, Option.toList_none]
              rw [nI_1, if_neg (fun q => absurd (of_decide_eq_true q.2) (Int32.not_lt.mpr c3))]
              exact ih (h + 1) (some k) _ (by omega) ha
            · repeat (refine ng 5 rfl ?_; first | refine es rfl rfl rfl ?_ | refine eg rfl (by assumption) rfl ?_ | refine ean rfl (by assumption) (by assumption) rfl ?_ | refine eal rfl (by assumption) (by assumption) rfl ?_ | refine eri rfl ?_ | refine erv rfl ?_ | refine erl rfl ?_ | refine era rfl ?_ | refine erz0 rfl ?_ | refine erz1 rfl ?_)
              try dsimp only [set1, set2, kilP, List.set_cons_zero, List.set_cons_succ, List.getElem?_cons_zero, List.getElem?_cons_succ, List.nil_append, List.cons_append, Option.toList_some, Option.toList_none]
              rw [nI_1, if_pos ⟨hx, decide_eq_true (Int32.not_le.mp c3)⟩]
              exact ih (h + 1) (some h) _ (by omega) (fun k hk => by cases hk; exact hh)
theorem e1_ask {ad : Nat → Nat} {M : Mm} {b : Nat} {w : Ft} (hb : aFt M b w) : Rd ad 2 (iX1_houseToAsk ad) [.ref b] M (some (.int (oI (askF (fun k => mlF w.2.1.1 k 7) 7 0 none)))) := by
  refine ⟨Nat.le_of_ble_eq_true rfl, ?_⟩
  show Ev ad _ (rX1_houseToAsk ad) (0, [some (.ref b), none, none, none], [], M) _
  repeat (refine ng 5 rfl ?_; first | refine es rfl rfl rfl ?_ | refine eg rfl (by assumption) rfl ?_ | refine ean rfl (by assumption) (by assumption) rfl ?_ | refine eal rfl (by assumption) (by assumption) rfl ?_ | refine eri rfl ?_ | refine erv rfl ?_ | refine erl rfl ?_ | refine era rfl ?_ | refine erz0 rfl ?_ | refine erz1 rfl ?_)
  try dsimp only [set1, set2, kilP, List.set_cons_zero, List.set_cons_succ, List.getElem?_cons_zero, List.getElem?_cons_succ, List.nil_append, List.cons_append, Option.toList_some, Option.toList_none]
  exact e1_ask_loop hb 7 0 none _ rfl (fun k hk => by cases hk)
/-- which houses' rooms it may be, as bits -/
noncomputable def abF (t : Tw) (h : Nat) : Nat → Int32
  | 0 => 0
  | g + 1 => if (¬ g = h ∧ isoF t.hs.to (nI g) t.hs.n 0 = 0) ∧ ¬ alwI t.cs (nI h) (t.hs.sm g) (t.hs.ro g) = 0 then abF t h g ||| ((1 : Int32) <<< (nI g &&& 31)) else abF t h g
theorem isoF_01 (to : Nat → Int32) (x : Int32) : ∀ n i, isoF to x n i = 0 ∨ isoF to x n i = 1
  | 0, _ => Or.inl rfl
  | n + 1, i => by
    rw [isoF]
    split
    · exact Or.inr rfl
    · exact isoF_01 to x n (i + 1)
theorem e1_ab_loop {ad : Nat → Nat} {M : Mm} {b tb h : Nat} {t : Tw} (ht : aTw M tb t) (wt : wfT t) (hh : h < 7) : ∀ (n g : Nat) (L6 : Option Value), g + n = t.hs.n → Ev ad 1 (rX1_allowedBits ad) (11, [some (.ref b), some (.ref tb), some (.int (nI h)), some (.ref (tb + 1)), some (.int (abF t h g)), some (.int (nI g)), L6], [], M) (fun v' M' => v' = some (.int (abF t h t.hs.n)) ∧ M' = M) := by
  obtain ⟨⟨t0, -, -, -⟩, hH, hS, hC⟩ := id ht
  have hn7 := wt.2.2.2.1
  have c0 := hC.1
  obtain ⟨u0, u1, u2, u3, u4, u5, u6, u7, u8⟩ := id hH
  intro n
  induction n with
  | zero =>
    intro g L6 hn
    have e7 : g = t.hs.n := by omega
    repeat (first | refine es rfl rfl rfl ?_ | refine eg rfl (by assumption) rfl ?_ | refine ean rfl (by assumption) (by assumption) rfl ?_ | refine eal rfl (by assumption) (by assumption) rfl ?_ | refine eri rfl ?_ | refine erv rfl ?_ | refine erl rfl ?_ | refine era rfl ?_ | refine erz0 rfl ?_ | refine erz1 rfl ?_)
    try dsimp only [set1, set2, kilP, List.set_cons_zero, List.set_cons_succ, List.getElem?_cons_zero, List.getElem?_cons_succ, List.nil_append, List.cons_append, Option.toList_some, Option.toList_none]
    refine ei _ rfl rfl (fun c => ?_) (fun c => ?_)
    · repeat (first | refine es rfl rfl rfl ?_ | refine eg rfl (by assumption) rfl ?_ | refine ean rfl (by assumption) (by assumption) rfl ?_ | refine eal rfl (by assumption) (by assumption) rfl ?_ | refine eri rfl ?_ | refine erv rfl ?_ | refine erl rfl ?_ | refine era rfl ?_ | refine erz0 rfl ?_ | refine erz1 rfl ?_)
      try dsimp only [set1, set2, kilP, List.set_cons_zero, List.set_cons_succ, List.getElem?_cons_zero, List.getElem?_cons_succ, List.nil_append, List.cons_append, Option.toList_some, Option.toList_none]
      rw [e7]; exact ⟨rfl, rfl⟩
    · exact absurd (nI_le (a := t.hs.n) (by omega) (by omega)) c
  | succ n ih =>
    intro g L6 hn
    have hg : g < 7 := by omega
    have h9 := fun L6 => ih (g + 1) L6 (by omega)
    rw [abF] at h9
    repeat (first | refine es rfl rfl rfl ?_ | refine eg rfl (by assumption) rfl ?_ | refine ean rfl (by assumption) (by assumption) rfl ?_ | refine eal rfl (by assumption) (by assumption) rfl ?_ | refine eri rfl ?_ | refine erv rfl ?_ | refine erl rfl ?_ | refine era rfl ?_ | refine erz0 rfl ?_ | refine erz1 rfl ?_)
    try dsimp only [set1, set2, kilP, List.set_cons_zero, List.set_cons_succ, List.getElem?_cons_zero, List.getElem?_cons_succ, List.nil_append, List.cons_append, Option.toList_some, Option.toList_none]
    refine ei _ rfl rfl (fun c => ?_) (fun c => ?_)
    · exact absurd c (nI_ge (b := t.hs.n) (by omega) (by omega))
    · repeat (first | refine es rfl rfl rfl ?_ | refine eg rfl (by assumption) rfl ?_ | refine ean rfl (by assumption) (by assumption) rfl ?_ | refine eal rfl (by assumption) (by assumption) rfl ?_ | refine eri rfl ?_ | refine erv rfl ?_ | refine erl rfl ?_ | refine era rfl ?_ | refine erz0 rfl ?_ | refine erz1 rfl ?_)
      try dsimp only [set1, set2, kilP, List.set_cons_zero, List.set_cons_succ, List.getElem?_cons_zero, List.getElem?_cons_succ, List.nil_append, List.cons_append, Option.toList_some, Option.toList_none]
      refine ei _ rfl rfl (fun c1 => ?_) (fun c1 => ?_)
      · have hx : g = h := (nI_eq (by omega) (by omega)).mp c1
        rw [if_neg (fun q => q.1.1 hx)] at h9
        repeat (refine ng 11 rfl ?_; first | refine es rfl rfl rfl ?_ | refine eg rfl (by assumption) rfl ?_ | refine ean rfl (by assumption) (by assumption) rfl ?_ | refine eal rfl (by assumption) (by assumption) rfl ?_ | refine eri rfl ?_ | refine erv rfl ?_ | refine erl rfl ?_ | refine era rfl ?_ | refine erz0 rfl ?_ | refine erz1 rfl ?_)
        try dsimp only [set1, set2, kilP, List.set_cons_zero, List.set_cons_succ, List.getElem?_cons_zero, List.getElem?_cons_succ, List.nil_append, List.cons_append, Option.toList_some, Option.toList_none]
        rw [nI_1]; exact h9 _
      · have hx : ¬ g = h := fun q => c1 (by rw [q])
        repeat (first | refine es rfl rfl rfl ?_ | refine eg rfl (by assumption) rfl ?_ | refine ean rfl (by assumption) (by assumption) rfl ?_ | refine eal rfl (by assumption) (by assumption) rfl ?_ | refine eri rfl ?_ | refine erv rfl ?_ | refine erl rfl ?_ | refine era rfl ?_ | refine erz0 rfl ?_ | refine erz1 rfl ?_)
        try dsimp only [set1, set2, kilP, List.set_cons_zero, List.set_cons_succ, List.getElem?_cons_zero, List.getElem?_cons_succ, List.nil_append, List.cons_append, Option.toList_some, Option.toList_none]
        refine ecr rfl rfl (by assumption) rfl rfl rfl (e2_iso hH hn7) (by first | rfl | exact Nat.blt_eq.mpr (by omega)) rfl ?_
        repeat (first | refine es rfl rfl rfl ?_ | refine eg rfl (by assumption) rfl ?_ | refine ean rfl (by assumption) (by assumption) rfl ?_ | refine eal rfl (by assumption) (by assumption) rfl ?_ | refine eri rfl ?_ | refine erv rfl ?_ | refine erl rfl ?_ | refine era rfl ?_ | refine erz0 rfl ?_ | refine erz1 rfl ?_)
        try dsimp only [set1, set2, kilP, List.set_cons_zero, List.set_cons_succ, List.getElem?_cons_zero, List.getElem?_cons_succ, List.nil_append, List.cons_append, Option.toList_some, Option.toList_none]
        refine ei _ rfl rfl (fun c2 => ?_) (fun c2 => ?_)
        · rw [if_neg (fun q => c2 q.1.2)] at h9
          repeat (refine ng 11 rfl ?_; first | refine es rfl rfl rfl ?_ | refine eg rfl (by assumption) rfl ?_ | refine ean rfl (by assumption) (by assumption) rfl ?_ | refine eal rfl (by assumption) (by assumption) rfl ?_ | refine eri rfl ?_ | refine erv rfl ?_ | refine erl rfl ?_ | refine era rfl ?_ | refine erz0 rfl ?_ | refine erz1 rfl ?_)
          try dsimp only [set1, set2, kilP, List.set_cons_zero, List.set_cons_succ, List.getElem?_cons_zero, List.getElem?_cons_succ, List.nil_append, List.cons_append, Option.toList_some, Option.toList_none]
          rw [nI_1]; exact h9 _
        · have c2' := Decidable.not_not.mp c2
          repeat (first | refine es rfl rfl rfl ?_ | refine eg rfl (by assumption) rfl ?_ | refine ean rfl (by assumption) (by assumption) rfl ?_ | refine eal rfl (by assumption) (by assumption) rfl ?_ | refine eri rfl ?_ | refine erv rfl ?_ | refine erl rfl ?_ | refine era rfl ?_ | refine erz0 rfl ?_ | refine erz1 rfl ?_)
          try dsimp only [set1, set2, kilP, List.set_cons_zero, List.set_cons_succ, List.getElem?_cons_zero, List.getElem?_cons_succ, List.nil_append, List.cons_append, Option.toList_some, Option.toList_none]
          refine ecr rfl rfl (by assumption) rfl rfl rfl (e0_allow hC wt.2.2.2.2.2.2.2.1 wt.2.2.2.2.2.2.2.2) (by first | rfl | exact Nat.blt_eq.mpr (by omega)) rfl ?_
          repeat (first | refine es rfl rfl rfl ?_ | refine eg rfl (by assumption) rfl ?_ | refine ean rfl (by assumption) (by assumption) rfl ?_ | refine eal rfl (by assumption) (by assumption) rfl ?_ | refine eri rfl ?_ | refine erv rfl ?_ | refine erl rfl ?_ | refine era rfl ?_ | refine erz0 rfl ?_ | refine erz1 rfl ?_)
          try dsimp only [set1, set2, kilP, List.set_cons_zero, List.set_cons_succ, List.getElem?_cons_zero, List.getElem?_cons_succ, List.nil_append, List.cons_append, Option.toList_some, Option.toList_none]
          refine ei _ rfl rfl (fun c3 => ?_) (fun c3 => ?_)
          · rw [if_neg (fun q => q.2 c3)] at h9
            repeat (refine ng 11 rfl ?_; first | refine es rfl rfl rfl ?_ | refine eg rfl (by assumption) rfl ?_ | refine ean rfl (by assumption) (by assumption) rfl ?_ | refine eal rfl (by assumption) (by assumption) rfl ?_ | refine eri rfl ?_ | refine erv rfl ?_ | refine erl rfl ?_ | refine era rfl ?_ | refine erz0 rfl ?_ | refine erz1 rfl ?_)
            try dsimp only [set1, set2, kilP, List.set_cons_zero, List.set_cons_succ, List.getElem?_cons_zero, List.getElem?_cons_succ, List.nil_append, List.cons_append, Option.toList_some, Option.toList_none]
            rw [nI_1]; exact h9 _
          · rw [if_pos ⟨⟨hx, c2'⟩, c3⟩] at h9
            repeat (refine ng 11 rfl ?_; first | refine es rfl rfl rfl ?_ | refine eg rfl (by assumption) rfl ?_ | refine ean rfl (by assumption) (by assumption) rfl ?_ | refine eal rfl (by assumption) (by assumption) rfl ?_ | refine eri rfl ?_ | refine erv rfl ?_ | refine erl rfl ?_ | refine era rfl ?_ | refine erz0 rfl ?_ | refine erz1 rfl ?_)
            try dsimp only [set1, set2, kilP, List.set_cons_zero, List.set_cons_succ, List.getElem?_cons_zero, List.getElem?_cons_succ, List.nil_append, List.cons_append, Option.toList_some, Option.toList_none]
            rw [nI_1]; exact h9 _
theorem e1_ab {ad : Nat → Nat} {M : Mm} {b tb h : Nat} {t : Tw} (ht : aTw M tb t) (wt : wfT t) (hh : h < 7) : Rd ad 1 (iX1_allowedBits ad) [.ref b, .ref tb, .int (nI h)] M (some (.int (abF t h t.hs.n))) := by
  have t0 := ht.1.1
  refine ⟨Nat.le_of_ble_eq_true rfl, ?_⟩
  show Ev ad _ (rX1_allowedBits ad) (0, [some (.ref b), some (.ref tb), some (.int (nI h)), none, none, none, none], [], M) _
  repeat (refine ng 11 rfl ?_; first | refine es rfl rfl rfl ?_ | refine eg rfl (by assumption) rfl ?_ | refine ean rfl (by assumption) (by assumption) rfl ?_ | refine eal rfl (by assumption) (by assumption) rfl ?_ | refine eri rfl ?_ | refine erv rfl ?_ | refine erl rfl ?_ | refine era rfl ?_ | refine erz0 rfl ?_ | refine erz1 rfl ?_)
  try dsimp only [set1, set2, kilP, List.set_cons_zero, List.set_cons_succ, List.getElem?_cons_zero, List.getElem?_cons_succ, List.nil_append, List.cons_append, Option.toList_some, Option.toList_none]
  exact e1_ab_loop ht wt hh t.hs.n 0 _ (by omega)
/-! the rows that fit, counted -/
theorem e1_first {ad : Nat → Nat} {M : Mm} {b : Nat} {w : Ft} (hb : aFt M b w) : EvM ad 0 (iX1_keepFirst ad) [.ref b] M (fun v' M' => v' = none ∧ aFt M' b (w.1, (if w.2.1.2.2.2 = 0 then (w.2.1.1, w.2.1.2.1, va_cpy w.2.1.2.1 w.2.1.2.2.1 0 0 7, 1) else w.2.1), w.2.2) ∧ Fr b 5 M M') := by
  have hb' := hb
  obtain ⟨h0, h1, h2, h3, h4⟩ := hb
  have hF := Fr.rf b 5 M
  refine ⟨Nat.le_of_ble_eq_true rfl, ?_⟩
  show Ev ad _ (rX1_keepFirst ad) (0, [some (.ref b)], [], M) _
  repeat (first | refine es rfl rfl rfl ?_ | refine eg rfl (by assumption) rfl ?_ | refine ean rfl (by assumption) (by assumption) rfl ?_ | refine eal rfl (by assumption) (by assumption) rfl ?_ | refine eri rfl ?_ | refine erv rfl ?_ | refine erl rfl ?_ | refine era rfl ?_ | refine erz0 rfl ?_ | refine erz1 rfl ?_)
  try dsimp only [set1, set2, kilP, List.set_cons_zero, List.set_cons_succ, List.getElem?_cons_zero, List.getElem?_cons_succ, List.nil_append, List.cons_append, Option.toList_some, Option.toList_none]
  refine ei _ rfl rfl (fun c => ?_) (fun c => ?_)
  · repeat (first | refine es rfl rfl rfl ?_ | refine eg rfl (by assumption) rfl ?_ | refine ean rfl (by assumption) (by assumption) rfl ?_ | refine eal rfl (by assumption) (by assumption) rfl ?_ | refine eri rfl ?_ | refine erv rfl ?_ | refine erl rfl ?_ | refine era rfl ?_ | refine erz0 rfl ?_ | refine erz1 rfl ?_)
    try dsimp only [set1, set2, kilP, List.set_cons_zero, List.set_cons_succ, List.getElem?_cons_zero, List.getElem?_cons_succ, List.nil_append, List.cons_append, Option.toList_some, Option.toList_none]
    rw [if_neg c]
    exact ⟨rfl, hb', hF⟩
  · repeat (first | refine es rfl rfl rfl ?_ | refine eg rfl (by assumption) rfl ?_ | refine ean rfl (by assumption) (by assumption) rfl ?_ | refine eal rfl (by assumption) (by assumption) rfl ?_ | refine eri rfl ?_ | refine erv rfl ?_ | refine erl rfl ?_ | refine era rfl ?_ | refine erz0 rfl ?_ | refine erz1 rfl ?_)
    try dsimp only [set1, set2, kilP, List.set_cons_zero, List.set_cons_succ, List.getElem?_cons_zero, List.getElem?_cons_succ, List.nil_append, List.cons_append, Option.toList_some, Option.toList_none]
    refine ecp (sp := 0) (dp := 0) (n := 7) rfl h3 h4 (by omega) (by omega) rfl rfl rfl (fun M2 eM => ?_)
    have k4 := up_w eM
    replace h0 := up_k eM h0 (by omega)
    replace h1 := up_k eM h1 (by omega)
    replace h2 := up_k eM h2 (by omega)
    replace h3 := up_k eM h3 (by omega)
    replace hF := hF.up eM (by omega) (by omega)
    repeat (first | refine es rfl rfl rfl ?_ | refine eg rfl (by assumption) rfl ?_ | refine ean rfl (by assumption) (by assumption) rfl ?_ | refine eal rfl (by assumption) (by assumption) rfl ?_ | refine eri rfl ?_ | refine erv rfl ?_ | refine erl rfl ?_ | refine era rfl ?_ | refine erz0 rfl ?_ | refine erz1 rfl ?_)
    try dsimp only [set1, set2, kilP, List.set_cons_zero, List.set_cons_succ, List.getElem?_cons_zero, List.getElem?_cons_succ, List.nil_append, List.cons_append, Option.toList_some, Option.toList_none]
    refine epM rfl (by assumption) rfl rfl rfl (fun M3 eM3 => ?_)
    have k0 := up_w eM3
    replace h1 := up_k eM3 h1 (by omega)
    replace h2 := up_k eM3 h2 (by omega)
    replace h3 := up_k eM3 h3 (by omega)
    replace k4 := up_k eM3 k4 (by omega)
    replace hF := hF.up eM3 (by omega) (by omega)
    repeat (first | refine es rfl rfl rfl ?_ | refine eg rfl (by assumption) rfl ?_ | refine ean rfl (by assumption) (by assumption) rfl ?_ | refine eal rfl (by assumption) (by assumption) rfl ?_ | refine eri rfl ?_ | refine erv rfl ?_ | refine erl rfl ?_ | refine era rfl ?_ | refine erz0 rfl ?_ | refine erz1 rfl ?_)
    try dsimp only [set1, set2, kilP, List.set_cons_zero, List.set_cons_succ, List.getElem?_cons_zero, List.getElem?_cons_succ, List.nil_append, List.cons_append, Option.toList_some, Option.toList_none]
    rw [if_pos (Decidable.not_not.mp c)]
    exact ⟨rfl, ⟨k0, h1, h2, h3, k4⟩, hF⟩
/-- the houses for one room, one by one from g on: all that were found, and the counts -/
def lplF (rc : Int32 → Fs4 → Int32 × Fs4) (mb : Int32) (h : Nat) (tk : Int32) : Nat → Nat → Int32 → Fs4 → Int32 × Fs4
  | 0, _, al, s => (al, s)
  | n + 1, g, al, s =>
    if mb &&& (tk ^^^ (-1)) &&& ((1 : Int32) <<< (nI g &&& 31)) = 0 then lplF rc mb h tk n (g + 1) al s
    else
      let r := rc (tk ||| ((1 : Int32) <<< (nI g &&& 31))) (s.1, upd s.2.1 h (nI g), s.2.2.1, s.2.2.2)
      lplF rc mb h tk n (g + 1) (al + r.1) (upd r.2.1 (h * 7 + g) (r.2.1 (h * 7 + g) + r.1), r.2.2.1, r.2.2.2.1, r.2.2.2.2)
/-- rows for the houses from h on; k houses are left -/
def plF (H : Hs) (mb : Nat → Int32) : Nat → Nat → Int32 → Fs4 → Int32 × Fs4
  | 0, _, _, s => (1, if s.2.2.2 = 0 then (s.1, s.2.1, va_cpy s.2.1 s.2.2.1 0 0 7, 1) else s)
  | k + 1, h, tk, s => if H.to h = -2 then lplF (plF H mb k (h + 1)) (mb h) h tk H.n 0 0 s else plF H mb k (h + 1) tk s
def plOk (ad : Nat → Nat) (H : Hs) (b hb k : Nat) : Prop := ∀ (M : Mm) (w : Ft) (h : Nat) (tk : Int32), aFt M b w → aHs M hb H → h + k = H.n → EvM ad (k + 1) (iX1_placeFrom ad) [.ref b, .ref hb, .int (nI h), .int tk] M (fun v' M' => v' = some (.int (plF H w.1 k h tk w.2.1).1) ∧ aFt M' b (w.1, (plF H w.1 k h tk w.2.1).2, w.2.2) ∧ Fr b 5 M M')
theorem e1_pl_loop {ad : Nat → Nat} {H : Hs} {b hb k h : Nat} {tk ic : Int32} {mb : Nat → Int32} (hn7 : H.n ≤ 7) (d1 : hb + 9 ≤ b ∨ b + 5 ≤ hb) (ih : plOk ad H b hb k) (hh : h + (k + 1) = H.n) : ∀ (n g : Nat) (M0 M : Mm) (al : Int32) (s : Fs4) (L6 : Option Value), aFt M b (mb, s, ic) → aHs M hb H → Fr b 5 M0 M → g + n = H.n → Ev ad (k + 2) (rX1_placeFrom ad) (41, [some (.ref b), some (.ref hb), some (.int (nI h)), some (.int tk), some (.int al), some (.int (nI g)), L6], [], M) (fun v' M' => v' = some (.int (lplF (plF H mb k (h + 1)) (mb h) h tk n g al s).1) ∧ aFt M' b (mb, (lplF (plF H mb k (h + 1)) (mb h) h tk n g al s).2, ic) ∧ Fr b 5 M0 M') := by
  intro n
  induction n with
  | zero =>
    intro g M0 M al s L6 hf hH hF hn
    have u0 := hH.1
    repeat (first | refine es rfl rfl rfl ?_ | refine eg rfl (by assumption) rfl ?_ | refine ean rfl (by assumption) (by assumption) rfl ?_ | refine eal rfl (by assumption) (by assumption) rfl ?_ | refine eri rfl ?_ | refine erv rfl ?_ | refine erl rfl ?_ | refine era rfl ?_ | refine erz0 rfl ?_ | refine erz1 rfl ?_)
    try dsimp only [set1, set2, kilP, List.set_cons_zero, List.set_cons_succ, List.getElem?_cons_zero, List.getElem?_cons_succ, List.nil_append, List.cons_append, Option.toList_some, Option.toList_none]
    refine ei _ rfl rfl (fun c => ?_) (fun c => ?_)
    · repeat (first | refine es rfl rfl rfl ?_ | refine eg rfl (by assumption) rfl ?_ | refine ean rfl (by assumption) (by assumption) rfl ?_ | refine eal rfl (by assumption) (by assumption) rfl ?_ | refine eri rfl ?_ | refine erv rfl ?_ | refine erl rfl ?_ | refine era rfl ?_ | refine erz0 rfl ?_ | refine erz1 rfl ?_)
      try dsimp only [set1, set2, kilP, List.set_cons_zero, List.set_cons_succ, List.getElem?_cons_zero, List.getElem?_cons_succ, List.nil_append, List.cons_append, Option.toList_some, Option.toList_none]
      exact ⟨rfl, hf, hF⟩
    · exact absurd (nI_le (a := H.n) (by omega) (by omega)) c
  | succ n ihn =>
    intro g M0 M al s L6 hf hH hF hn
    have u0 := hH.1
    have hf' := hf
    obtain ⟨h0, h1, h2, h3, h4⟩ := hf
    have hg : g < 7 := by omega
    have hh7 : h < 7 := by omega
    have hx : h * 7 + g < 49 := by omega
    rw [lplF]
    repeat (first | refine es rfl rfl rfl ?_ | refine eg rfl (by assumption) rfl ?_ | refine ean rfl (by assumption) (by assumption) rfl ?_ | refine eal rfl (by assumption) (by assumption) rfl ?_ | refine eri rfl ?_ | refine erv rfl ?_ | refine erl rfl ?_ | refine era rfl ?_ | refine erz0 rfl ?_ | refine erz1 rfl ?_)
    try dsimp only [set1, set2, kilP, List.set_cons_zero, List.set_cons_succ, List.getElem?_cons_zero, List.getElem?_cons_succ, List.nil_append, List.cons_append, Option.toList_some, Option.toList_none]
    refine ei _ rfl rfl (fun c => ?_) (fun c => ?_)
    · exact absurd c (nI_ge (b := H.n) (by omega) (by omega))
    · repeat (first | refine es rfl rfl rfl ?_ | refine eg rfl (by assumption) rfl ?_ | refine ean rfl (by assumption) (by assumption) rfl ?_ | refine eal rfl (by assumption) (by assumption) rfl ?_ | refine eri rfl ?_ | refine erv rfl ?_ | refine erl rfl ?_ | refine era rfl ?_ | refine erz0 rfl ?_ | refine erz1 rfl ?_)
      try dsimp only [set1, set2, kilP, List.set_cons_zero, List.set_cons_succ, List.getElem?_cons_zero, List.getElem?_cons_succ, List.nil_append, List.cons_append, Option.toList_some, Option.toList_none]
      refine ei _ rfl rfl (fun c1 => ?_) (fun c1 => ?_)
      · rw [if_pos c1]
        repeat (refine ng 41 rfl ?_; first | refine es rfl rfl rfl ?_ | refine eg rfl (by assumption) rfl ?_ | refine ean rfl (by assumption) (by assumption) rfl ?_ | refine eal rfl (by assumption) (by assumption) rfl ?_ | refine eri rfl ?_ | refine erv rfl ?_ | refine erl rfl ?_ | refine era rfl ?_ | refine erz0 rfl ?_ | refine erz1 rfl ?_)
        try dsimp only [set1, set2, kilP, List.set_cons_zero, List.set_cons_succ, List.getElem?_cons_zero, List.getElem?_cons_succ, List.nil_append, List.cons_append, Option.toList_some, Option.toList_none]
        rw [nI_1]
        exact ihn (g + 1) M0 M al s _ hf' hH hF (by omega)
      · rw [if_neg c1]
        repeat (first | refine es rfl rfl rfl ?_ | refine eg rfl (by assumption) rfl ?_ | refine ean rfl (by assumption) (by assumption) rfl ?_ | refine eal rfl (by assumption) (by assumption) rfl ?_ | refine eri rfl ?_ | refine erv rfl ?_ | refine erl rfl ?_ | refine era rfl ?_ | refine erz0 rfl ?_ | refine erz1 rfl ?_)
        try dsimp only [set1, set2, kilP, List.set_cons_zero, List.set_cons_succ, List.getElem?_cons_zero, List.getElem?_cons_succ, List.nil_append, List.cons_append, Option.toList_some, Option.toList_none]
        refine etM rfl (by assumption) (by assumption) rfl (fun M2 eM => ?_)
        have k3 := up_w eM
        replace h0 := up_k eM h0 (by omega)
        replace h1 := up_k eM h1 (by omega)
        replace h2 := up_k eM h2 (by omega)
        replace h4 := up_k eM h4 (by omega)
        have fr2 := (Fr.rf b 5 M).up eM (by omega) (by omega)
        replace hF := hF.up eM (by omega) (by omega)
        have hf2 : aFt M2 b (mb, (s.1, upd s.2.1 h (nI g), s.2.2.1, s.2.2.2), ic) := ⟨h0, h1, h2, k3, h4⟩
        have hH2 := hH.fr fr2 (by omega)
        have v0 := hH2.1
        repeat (first | refine es rfl rfl rfl ?_ | refine eg rfl (by assumption) rfl ?_ | refine ean rfl (by assumption) (by assumption) rfl ?_ | refine eal rfl (by assumption) (by assumption) rfl ?_ | refine eri rfl ?_ | refine erv rfl ?_ | refine erl rfl ?_ | refine era rfl ?_ | refine erz0 rfl ?_ | refine erz1 rfl ?_)
        try dsimp only [set1, set2, kilP, List.set_cons_zero, List.set_cons_succ, List.getElem?_cons_zero, List.getElem?_cons_succ, List.nil_append, List.cons_append, Option.toList_some, Option.toList_none]
        rw [nI_1]
        refine ecv rfl rfl (by assumption) rfl rfl rfl (ih M2 (mb, (s.1, upd s.2.1 h (nI g), s.2.2.1, s.2.2.2), ic) (h + 1) (tk ||| ((1 : Int32) <<< (nI g &&& 31))) hf2 hH2 (by omega)) (by first | rfl | exact Nat.blt_eq.mpr (by omega)) ?_
        rintro v M3 ⟨rfl, hf3, fr3⟩
        have hH3 := hH2.fr fr3 (by omega)
        replace hF := hF.tr fr3 (by omega) (by omega)
        dsimp only at hf3 ⊢
        generalize plF H mb k (h + 1) (tk ||| ((1 : Int32) <<< (nI g &&& 31))) (s.1, upd s.2.1 h (nI g), s.2.2.1, s.2.2.2) = r at hf3 ⊢
        obtain ⟨h0, h1, h2, h3, h4⟩ := hf3
        have v0 := hH3.1
        try dsimp only [set1, set2, kilP, List.set_cons_zero, List.set_cons_succ, List.getElem?_cons_zero, List.getElem?_cons_succ, List.nil_append, List.cons_append, Option.toList_some, Option.toList_none]
        repeat (first | refine es rfl rfl rfl ?_ | refine eg rfl (by assumption) rfl ?_ | refine ean rfl (by assumption) (by assumption) rfl ?_ | refine eal rfl (by assumption) (by assumption) rfl ?_ | refine eri rfl ?_ | refine erv rfl ?_ | refine erl rfl ?_ | refine era rfl ?_ | refine erz0 rfl ?_ | refine erz1 rfl ?_)
        try dsimp only [set1, set2, kilP, List.set_cons_zero, List.set_cons_succ, List.getElem?_cons_zero, List.getElem?_cons_succ, List.nil_append, List.cons_append, Option.toList_some, Option.toList_none]
        rw [ix7]
        repeat (first | refine es rfl rfl rfl ?_ | refine eg rfl (by assumption) rfl ?_ | refine ean rfl (by assumption) (by assumption) rfl ?_ | refine eal rfl (by assumption) (by assumption) rfl ?_ | refine eri rfl ?_ | refine erv rfl ?_ | refine erl rfl ?_ | refine era rfl ?_ | refine erz0 rfl ?_ | refine erz1 rfl ?_)
        try dsimp only [set1, set2, kilP, List.set_cons_zero, List.set_cons_succ, List.getElem?_cons_zero, List.getElem?_cons_succ, List.nil_append, List.cons_append, Option.toList_some, Option.toList_none]
        refine etM rfl (by assumption) (by assumption) rfl (fun M4 eM4 => ?_)
        have k2 := up_w eM4
        replace h0 := up_k eM4 h0 (by omega)
        replace h1 := up_k eM4 h1 (by omega)
        replace h3 := up_k eM4 h3 (by omega)
        replace h4 := up_k eM4 h4 (by omega)
        have fr4 := (Fr.rf b 5 M3).up eM4 (by omega) (by omega)
        replace hF := hF.up eM4 (by omega) (by omega)
        have hH4 := hH3.fr fr4 (by omega)
        repeat (refine ng 41 rfl ?_; first | refine es rfl rfl rfl ?_ | refine eg rfl (by assumption) rfl ?_ | refine ean rfl (by assumption) (by assumption) rfl ?_ | refine eal rfl (by assumption) (by assumption) rfl ?_ | refine eri rfl ?_ | refine erv rfl ?_ | refine erl rfl ?_ | refine era rfl ?_ | refine erz0 rfl ?_ | refine erz1 rfl ?_)
        try dsimp only [set1, set2, kilP, List.set_cons_zero, List.set_cons_succ, List.getElem?_cons_zero, List.getElem?_cons_succ, List.nil_append, List.cons_append, Option.toList_some, Option.toList_none]
        rw [nI_1]
        exact ihn (g + 1) M0 M4 (al + r.1) (upd r.2.1 (h * 7 + g) (r.2.1 (h * 7 + g) + r.1), r.2.2.1, r.2.2.2.1, r.2.2.2.2) _ ⟨h0, h1, k2, h3, h4⟩ hH4 hF (by omega)
theorem e1_pl {ad : Nat → Nat} {H : Hs} {b hb : Nat} (hn7 : H.n ≤ 7) (d1 : hb + 9 ≤ b ∨ b + 5 ≤ hb) : ∀ k, plOk ad H b hb k := by
  intro k
  induction k with
  | zero =>
    intro M w h tk hf hH hh
    have u0 := hH.1
    have h0 := hf.1
    refine ⟨Nat.le_of_ble_eq_true rfl, ?_⟩
    show Ev ad _ (rX1_placeFrom ad) (0, [some (.ref b), some (.ref hb), some (.int (nI h)), some (.int tk), none, none, none], [], M) _
    repeat (first | refine es rfl rfl rfl ?_ | refine eg rfl (by assumption) rfl ?_ | refine ean rfl (by assumption) (by assumption) rfl ?_ | refine eal rfl (by assumption) (by assumption) rfl ?_ | refine eri rfl ?_ | refine erv rfl ?_ | refine erl rfl ?_ | refine era rfl ?_ | refine erz0 rfl ?_ | refine erz1 rfl ?_)
    try dsimp only [set1, set2, kilP, List.set_cons_zero, List.set_cons_succ, List.getElem?_cons_zero, List.getElem?_cons_succ, List.nil_append, List.cons_append, Option.toList_some, Option.toList_none]
    refine ei _ rfl rfl (fun c => ?_) (fun c => ?_)
    · exact absurd c (nI_nlt (by omega) (by omega))
    · repeat (first | refine es rfl rfl rfl ?_ | refine eg rfl (by assumption) rfl ?_ | refine ean rfl (by assumption) (by assumption) rfl ?_ | refine eal rfl (by assumption) (by assumption) rfl ?_ | refine eri rfl ?_ | refine erv rfl ?_ | refine erl rfl ?_ | refine era rfl ?_ | refine erz0 rfl ?_ | refine erz1 rfl ?_)
      try dsimp only [set1, set2, kilP, List.set_cons_zero, List.set_cons_succ, List.getElem?_cons_zero, List.getElem?_cons_succ, List.nil_append, List.cons_append, Option.toList_some, Option.toList_none]
      refine ecv rfl rfl (by assumption) rfl rfl rfl (e1_first hf) (by first | rfl | exact Nat.blt_eq.mpr (by omega)) ?_
      rintro v M2 ⟨rfl, hf2, hF⟩
      try dsimp only [set1, set2, kilP, List.set_cons_zero, List.set_cons_succ, List.getElem?_cons_zero, List.getElem?_cons_succ, List.nil_append, List.cons_append, Option.toList_some, Option.toList_none]
      repeat (first | refine es rfl rfl rfl ?_ | refine eg rfl (by assumption) rfl ?_ | refine ean rfl (by assumption) (by assumption) rfl ?_ | refine eal rfl (by assumption) (by assumption) rfl ?_ | refine eri rfl ?_ | refine erv rfl ?_ | refine erl rfl ?_ | refine era rfl ?_ | refine erz0 rfl ?_ | refine erz1 rfl ?_)
      try dsimp only [set1, set2, kilP, List.set_cons_zero, List.set_cons_succ, List.getElem?_cons_zero, List.getElem?_cons_succ, List.nil_append, List.cons_append, Option.toList_some, Option.toList_none]
      exact ⟨rfl, hf2, hF⟩
  | succ k ih =>
    intro M w h tk hf hH hh
    obtain ⟨u0, u1, u2, u3, u4, u5, u6, u7, u8⟩ := id hH
    have h0 := hf.1
    have hh7 : h < 7 := by omega
    refine ⟨Nat.le_of_ble_eq_true rfl, ?_⟩
    show Ev ad _ (rX1_placeFrom ad) (0, [some (.ref b), some (.ref hb), some (.int (nI h)), some (.int tk), none, none, none], [], M) _
    repeat (first | refine es rfl rfl rfl ?_ | refine eg rfl (by assumption) rfl ?_ | refine ean rfl (by assumption) (by assumption) rfl ?_ | refine eal rfl (by assumption) (by assumption) rfl ?_ | refine eri rfl ?_ | refine erv rfl ?_ | refine erl rfl ?_ | refine era rfl ?_ | refine erz0 rfl ?_ | refine erz1 rfl ?_)
    try dsimp only [set1, set2, kilP, List.set_cons_zero, List.set_cons_succ, List.getElem?_cons_zero, List.getElem?_cons_succ, List.nil_append, List.cons_append, Option.toList_some, Option.toList_none]
    refine ei _ rfl rfl (fun c => ?_) (fun c => ?_)
    · repeat (first | refine es rfl rfl rfl ?_ | refine eg rfl (by assumption) rfl ?_ | refine ean rfl (by assumption) (by assumption) rfl ?_ | refine eal rfl (by assumption) (by assumption) rfl ?_ | refine eri rfl ?_ | refine erv rfl ?_ | refine erl rfl ?_ | refine era rfl ?_ | refine erz0 rfl ?_ | refine erz1 rfl ?_)
      try dsimp only [set1, set2, kilP, List.set_cons_zero, List.set_cons_succ, List.getElem?_cons_zero, List.getElem?_cons_succ, List.nil_append, List.cons_append, Option.toList_some, Option.toList_none]
      refine ei _ rfl rfl (fun c1 => ?_) (fun c1 => ?_)
      · rw [plF, if_pos c1]
        repeat (refine ng 41 rfl ?_; first | refine es rfl rfl rfl ?_ | refine eg rfl (by assumption) rfl ?_ | refine ean rfl (by assumption) (by assumption) rfl ?_ | refine eal rfl (by assumption) (by assumption) rfl ?_ | refine eri rfl ?_ | refine erv rfl ?_ | refine erl rfl ?_ | refine era rfl ?_ | refine erz0 rfl ?_ | refine erz1 rfl ?_)
        try dsimp only [set1, set2, kilP, List.set_cons_zero, List.set_cons_succ, List.getElem?_cons_zero, List.getElem?_cons_succ, List.nil_append, List.cons_append, Option.toList_some, Option.toList_none]
        exact e1_pl_loop hn7 d1 ih (by omega) H.n 0 M M 0 w.2.1 _ hf hH (Fr.rf _ _ _) (by omega)
      · rw [plF, if_neg c1]
        repeat (first | refine es rfl rfl rfl ?_ | refine eg rfl (by assumption) rfl ?_ | refine ean rfl (by assumption) (by assumption) rfl ?_ | refine eal rfl (by assumption) (by assumption) rfl ?_ | refine eri rfl ?_ | refine erv rfl ?_ | refine erl rfl ?_ | refine era rfl ?_ | refine erz0 rfl ?_ | refine erz1 rfl ?_)
        try dsimp only [set1, set2, kilP, List.set_cons_zero, List.set_cons_succ, List.getElem?_cons_zero, List.getElem?_cons_succ, List.nil_append, List.cons_append, Option.toList_some, Option.toList_none]
        rw [nI_1]
        refine ecv rfl rfl (by assumption) rfl rfl rfl (ih M w (h + 1) tk hf hH (by omega)) (by first | rfl | exact Nat.blt_eq.mpr (by omega)) ?_
        rintro v M2 ⟨rfl, hf2, hF⟩
        try dsimp only [set1, set2, kilP, List.set_cons_zero, List.set_cons_succ, List.getElem?_cons_zero, List.getElem?_cons_succ, List.nil_append, List.cons_append, Option.toList_some, Option.toList_none]
        repeat (first | refine es rfl rfl rfl ?_ | refine eg rfl (by assumption) rfl ?_ | refine ean rfl (by assumption) (by assumption) rfl ?_ | refine eal rfl (by assumption) (by assumption) rfl ?_ | refine eri rfl ?_ | refine erv rfl ?_ | refine erl rfl ?_ | refine era rfl ?_ | refine erz0 rfl ?_ | refine erz1 rfl ?_)
        try dsimp only [set1, set2, kilP, List.set_cons_zero, List.set_cons_succ, List.getElem?_cons_zero, List.getElem?_cons_succ, List.nil_append, List.cons_append, Option.toList_some, Option.toList_none]
        exact ⟨rfl, hf2, hF⟩
    · exact absurd (nI_lt (by omega) (by omega)) c
theorem e1_cr1 {ad : Nat → Nat} {b : Nat} {L1 : Option Value} {P : Option Value → Mm → Prop} {mb pl fr : Nat → Int32} {rw ic : Int32} : ∀ (n i : Nat) (M0 M : Mm) (ct : Nat → Int32), aFt M b (mb, (ct, pl, fr, rw), ic) → Fr b 5 M0 M → i + n = 49 → (∀ j, j < i → ct j = 0) → (∀ L2 M' ct', (∀ j, j < 49 → ct' j = 0) → aFt M' b (mb, (ct', pl, fr, rw), ic) → Fr b 5 M0 M' → Ev ad 9 (rX1_countRows ad) (42, [some (.ref b), L1, L2], [], M') P) → L1 = none ∨ (∃ a, L1 = some (.ref a)) → Ev ad 9 (rX1_countRows ad) (20, [some (.ref b), L1, some (.int (nI i))], [], M) P := by
  intro n
  induction n with
  | zero =>
    intro i M0 M ct hb hF hn hz hk hL
    have hb' := hb
    obtain ⟨h0, h1, h2, h3, h4⟩ := hb
    repeat (first | refine es rfl rfl rfl ?_ | refine eg rfl (by assumption) rfl ?_ | refine ean rfl (by assumption) (by assumption) rfl ?_ | refine eal rfl (by assumption) (by assumption) rfl ?_ | refine eri rfl ?_ | refine erv rfl ?_ | refine erl rfl ?_ | refine era rfl ?_ | refine erz0 rfl ?_ | refine erz1 rfl ?_)
    try dsimp only [set1, set2, kilP, List.set_cons_zero, List.set_cons_succ, List.getElem?_cons_zero, List.getElem?_cons_succ, List.nil_append, List.cons_append, Option.toList_some, Option.toList_none]
    refine eln rfl h2 ?_
    refine ei _ rfl rfl (fun c => ?_) (fun c => ?_)
    · exact hk _ M ct (fun j hj => hz j (by omega)) hb' hF
    · exact absurd (nI_le (a := 49) (by omega) (by omega)) c
  | succ n ih =>
    intro i M0 M ct hb hF hn hz hk hL
    obtain ⟨h0, h1, h2, h3, h4⟩ := hb
    have hi : i < 49 := by omega
    repeat (first | refine es rfl rfl rfl ?_ | refine eg rfl (by assumption) rfl ?_ | refine ean rfl (by assumption) (by assumption) rfl ?_ | refine eal rfl (by assumption) (by assumption) rfl ?_ | refine eri rfl ?_ | refine erv rfl ?_ | refine erl rfl ?_ | refine era rfl ?_ | refine erz0 rfl ?_ | refine erz1 rfl ?_)
    try dsimp only [set1, set2, kilP, List.set_cons_zero, List.set_cons_succ, List.getElem?_cons_zero, List.getElem?_cons_succ, List.nil_append, List.cons_append, Option.toList_some, Option.toList_none]
    refine eln rfl h2 ?_
    refine ei _ rfl rfl (fun c => ?_) (fun c => ?_)
    · exact absurd c (nI_ge (b := 49) (by omega) (by omega))
    · repeat (first | refine es rfl rfl rfl ?_ | refine eg rfl (by assumption) rfl ?_ | refine ean rfl (by assumption) (by assumption) rfl ?_ | refine eal rfl (by assumption) (by assumption) rfl ?_ | refine eri rfl ?_ | refine erv rfl ?_ | refine erl rfl ?_ | refine era rfl ?_ | refine erz0 rfl ?_ | refine erz1 rfl ?_)
      try dsimp only [set1, set2, kilP, List.set_cons_zero, List.set_cons_succ, List.getElem?_cons_zero, List.getElem?_cons_succ, List.nil_append, List.cons_append, Option.toList_some, Option.toList_none]
      refine etM rfl (by assumption) (by assumption) rfl (fun M2 eM => ?_)
      have k2 := up_w eM
      replace h0 := up_k eM h0 (by omega)
      replace h1 := up_k eM h1 (by omega)
      replace h3 := up_k eM h3 (by omega)
      replace h4 := up_k eM h4 (by omega)
      replace hF := hF.up eM (by omega) (by omega)
      have h9 := ih (i + 1) M0 M2 (upd ct i 0) ⟨h0, h1, k2, h3, h4⟩ hF (by omega) (fun j hj => by
        by_cases e : j = i
        · rw [e]; exact pk_us
        · exact (pk_un e).trans (hz j (by omega))) hk hL
      rw [← nI_1] at h9
      rcases hL with rfl | ⟨a, rfl⟩
      · repeat (refine ng 20 rfl ?_; first | refine es rfl rfl rfl ?_ | refine eg rfl (by assumption) rfl ?_ | refine ean rfl (by assumption) (by assumption) rfl ?_ | refine eal rfl (by assumption) (by assumption) rfl ?_ | refine eri rfl ?_ | refine erv rfl ?_ | refine erl rfl ?_ | refine era rfl ?_ | refine erz0 rfl ?_ | refine erz1 rfl ?_)
        try dsimp only [set1, set2, kilP, List.set_cons_zero, List.set_cons_succ, List.getElem?_cons_zero, List.getElem?_cons_succ, List.nil_append, List.cons_append, Option.toList_some, Option.toList_none]
        exact h9
      · repeat (refine ng 20 rfl ?_; first | refine es rfl rfl rfl ?_ | refine eg rfl (by assumption) rfl ?_ | refine ean rfl (by assumption) (by assumption) rfl ?_ | refine eal rfl (by assumption) (by assumption) rfl ?_ | refine eri rfl ?_ | refine erv rfl ?_ | refine erl rfl ?_ | refine era rfl ?_ | refine erz0 rfl ?_ | refine erz1 rfl ?_)
        try dsimp only [set1, set2, kilP, List.set_cons_zero, List.set_cons_succ, List.getElem?_cons_zero, List.getElem?_cons_succ, List.nil_append, List.cons_append, Option.toList_some, Option.toList_none]
        exact h9
theorem e1_cr2 {ad : Nat → Nat} {b tb : Nat} {t : Tw} (wt : wfT t) (d1 : tb + 22 ≤ b ∨ b + 5 ≤ tb) {P : Option Value → Mm → Prop} {s : Fs4} {ic : Int32} : ∀ (n i : Nat) (M0 M : Mm) (mb : Nat → Int32), aFt M b (mb, s, ic) → aTw M tb t → Fr b 5 M0 M → i + n = 7 → (∀ j, j < i → mb j = abF t j t.hs.n) → (∀ L2 M' mb', (∀ j, j < 7 → mb' j = abF t j t.hs.n) → aFt M' b (mb', s, ic) → aTw M' tb t → Fr b 5 M0 M' → Ev ad 9 (rX1_countRows ad) (68, [some (.ref b), some (.ref tb), L2], [], M') P) → Ev ad 9 (rX1_countRows ad) (44, [some (.ref b), some (.ref tb), some (.int (nI i))], [], M) P := by
  intro n
  induction n with
  | zero =>
    intro i M0 M mb hb ht hF hn hz hk
    repeat (first | refine es rfl rfl rfl ?_ | refine eg rfl (by assumption) rfl ?_ | refine ean rfl (by assumption) (by assumption) rfl ?_ | refine eal rfl (by assumption) (by assumption) rfl ?_ | refine eri rfl ?_ | refine erv rfl ?_ | refine erl rfl ?_ | refine era rfl ?_ | refine erz0 rfl ?_ | refine erz1 rfl ?_)
    try dsimp only [set1, set2, kilP, List.set_cons_zero, List.set_cons_succ, List.getElem?_cons_zero, List.getElem?_cons_succ, List.nil_append, List.cons_append, Option.toList_some, Option.toList_none]
    refine ei _ rfl rfl (fun c => ?_) (fun c => ?_)
    · exact hk _ M mb (fun j hj => hz j (by omega)) hb ht hF
    · exact absurd (nI_le (a := 7) (by omega) (by omega)) c
  | succ n ih =>
    intro i M0 M mb hb ht hF hn hz hk
    have hi : i < 7 := by omega
    obtain ⟨h0, h1, h2, h3, h4⟩ := hb
    repeat (first | refine es rfl rfl rfl ?_ | refine eg rfl (by assumption) rfl ?_ | refine ean rfl (by assumption) (by assumption) rfl ?_ | refine eal rfl (by assumption) (by assumption) rfl ?_ | refine eri rfl ?_ | refine erv rfl ?_ | refine erl rfl ?_ | refine era rfl ?_ | refine erz0 rfl ?_ | refine erz1 rfl ?_)
    try dsimp only [set1, set2, kilP, List.set_cons_zero, List.set_cons_succ, List.getElem?_cons_zero, List.getElem?_cons_succ, List.nil_append, List.cons_append, Option.toList_some, Option.toList_none]
    refine ei _ rfl rfl (fun c => ?_) (fun c => ?_)
    · exact absurd c (nI_ge (b := 7) (by omega) (by omega))
    · repeat (first | refine es rfl rfl rfl ?_ | refine eg rfl (by assumption) rfl ?_ | refine ean rfl (by assumption) (by assumption) rfl ?_ | refine eal rfl (by assumption) (by assumption) rfl ?_ | refine eri rfl ?_ | refine erv rfl ?_ | refine erl rfl ?_ | refine era rfl ?_ | refine erz0 rfl ?_ | refine erz1 rfl ?_)
      try dsimp only [set1, set2, kilP, List.set_cons_zero, List.set_cons_succ, List.getElem?_cons_zero, List.getElem?_cons_succ, List.nil_append, List.cons_append, Option.toList_some, Option.toList_none]
      refine ecr rfl rfl (by assumption) rfl rfl rfl (e1_ab ht wt hi) (by first | rfl | exact Nat.blt_eq.mpr (by omega)) rfl ?_
      refine etM rfl (by assumption) (by assumption) rfl (fun M2 eM => ?_)
      have k1 := up_w eM
      replace h0 := up_k eM h0 (by omega)
      replace h2 := up_k eM h2 (by omega)
      replace h3 := up_k eM h3 (by omega)
      replace h4 := up_k eM h4 (by omega)
      have fr := (Fr.rf b 5 M).up eM (by omega) (by omega)
      replace hF := hF.up eM (by omega) (by omega)
      repeat (refine ng 44 rfl ?_; first | refine es rfl rfl rfl ?_ | refine eg rfl (by assumption) rfl ?_ | refine ean rfl (by assumption) (by assumption) rfl ?_ | refine eal rfl (by assumption) (by assumption) rfl ?_ | refine eri rfl ?_ | refine erv rfl ?_ | refine erl rfl ?_ | refine era rfl ?_ | refine erz0 rfl ?_ | refine erz1 rfl ?_)
      try dsimp only [set1, set2, kilP, List.set_cons_zero, List.set_cons_succ, List.getElem?_cons_zero, List.getElem?_cons_succ, List.nil_append, List.cons_append, Option.toList_some, Option.toList_none]
      rw [nI_1]
      refine ih (i + 1) M0 M2 (upd mb i (abF t i t.hs.n)) ⟨h0, k1, h2, h3, h4⟩ (ht.fr fr (by omega)) hF (by omega) (fun j hj => ?_) hk
      by_cases e : j = i
      · rw [e]; exact pk_us
      · exact (pk_un e).trans (hz j (by omega))
/-- counting is done once -/
theorem e1_count {ad : Nat → Nat} {M : Mm} {b tb : Nat} {t : Tw} {w : Ft} (wt : wfT t) (hb : aFt M b w) (ht : aTw M tb t) (hic : w.2.2 = 0 ∨ w.2.2 = 1) (d1 : tb + 22 ≤ b ∨ b + 5 ≤ tb) : EvM ad 9 (iX1_countRows ad) [.ref b, .ref tb] M (fun v' M' => v' = none ∧ ((w.2.2 = 1 ∧ aFt M' b w) ∨ (w.2.2 = 0 ∧ ∃ mb ct, (∀ j, j < 7 → mb j = abF t j t.hs.n) ∧ (∀ j, j < 49 → ct j = 0) ∧ aFt M' b (mb, ((plF t.hs mb t.hs.n 0 0 (ct, w.2.1.2.1, w.2.1.2.2.1, 0)).2.1, (plF t.hs mb t.hs.n 0 0 (ct, w.2.1.2.1, w.2.1.2.2.1, 0)).2.2.1, (plF t.hs mb t.hs.n 0 0 (ct, w.2.1.2.1, w.2.1.2.2.1, 0)).2.2.2.1, (plF t.hs mb t.hs.n 0 0 (ct, w.2.1.2.1, w.2.1.2.2.1, 0)).1), 1))) ∧ Fr b 5 M M') := by
  have hb' := hb
  obtain ⟨h0, h1, h2, h3, h4⟩ := hb
  have hF := Fr.rf b 5 M
  refine ⟨Nat.le_of_ble_eq_true rfl, ?_⟩
  show Ev ad _ (rX1_countRows ad) (0, [some (.ref b), some (.ref tb), none], [], M) _
  repeat (first | refine es rfl rfl rfl ?_ | refine eg rfl (by assumption) rfl ?_ | refine ean rfl (by assumption) (by assumption) rfl ?_ | refine eal rfl (by assumption) (by assumption) rfl ?_ | refine eri rfl ?_ | refine erv rfl ?_ | refine erl rfl ?_ | refine era rfl ?_ | refine erz0 rfl ?_ | refine erz1 rfl ?_)
  try dsimp only [set1, set2, kilP, List.set_cons_zero, List.set_cons_succ, List.getElem?_cons_zero, List.getElem?_cons_succ, List.nil_append, List.cons_append, Option.toList_some, Option.toList_none]
  refine ei _ rfl rfl (fun c => ?_) (fun c => ?_)
  · repeat (first | refine es rfl rfl rfl ?_ | refine eg rfl (by assumption) rfl ?_ | refine ean rfl (by assumption) (by assumption) rfl ?_ | refine eal rfl (by assumption) (by assumption) rfl ?_ | refine eri rfl ?_ | refine erv rfl ?_ | refine erl rfl ?_ | refine era rfl ?_ | refine erz0 rfl ?_ | refine erz1 rfl ?_)
    try dsimp only [set1, set2, kilP, List.set_cons_zero, List.set_cons_succ, List.getElem?_cons_zero, List.getElem?_cons_succ, List.nil_append, List.cons_append, Option.toList_some, Option.toList_none]
    refine epM rfl (by assumption) rfl rfl rfl (fun M2 eM => ?_)
    have k0 := up_w eM
    replace h1 := up_k eM h1 (by omega)
    replace h2 := up_k eM h2 (by omega)
    replace h3 := up_k eM h3 (by omega)
    replace h4 := up_k eM h4 (by omega)
    replace hF := hF.up eM (by omega) (by omega)
    repeat (first | refine es rfl rfl rfl ?_ | refine eg rfl (by assumption) rfl ?_ | refine ean rfl (by assumption) (by assumption) rfl ?_ | refine eal rfl (by assumption) (by assumption) rfl ?_ | refine eri rfl ?_ | refine erv rfl ?_ | refine erl rfl ?_ | refine era rfl ?_ | refine erz0 rfl ?_ | refine erz1 rfl ?_)
    try dsimp only [set1, set2, kilP, List.set_cons_zero, List.set_cons_succ, List.getElem?_cons_zero, List.getElem?_cons_succ, List.nil_append, List.cons_append, Option.toList_some, Option.toList_none]
    refine epM rfl (by assumption) rfl rfl rfl (fun M3 eM3 => ?_)
    have k1 := up_w eM3
    replace h1 := up_k eM3 h1 (by omega)
    replace h2 := up_k eM3 h2 (by omega)
    replace h3 := up_k eM3 h3 (by omega)
    replace h4 := up_k eM3 h4 (by omega)
    replace hF := hF.up eM3 (by omega) (by omega)
    repeat (refine ng 20 rfl ?_; first | refine es rfl rfl rfl ?_ | refine eg rfl (by assumption) rfl ?_ | refine ean rfl (by assumption) (by assumption) rfl ?_ | refine eal rfl (by assumption) (by assumption) rfl ?_ | refine eri rfl ?_ | refine erv rfl ?_ | refine erl rfl ?_ | refine era rfl ?_ | refine erz0 rfl ?_ | refine erz1 rfl ?_)
    try dsimp only [set1, set2, kilP, List.set_cons_zero, List.set_cons_succ, List.getElem?_cons_zero, List.getElem?_cons_succ, List.nil_append, List.cons_append, Option.toList_some, Option.toList_none]
    refine e1_cr1 (mb := w.1) (pl := w.2.1.2.1) (fr := w.2.1.2.2.1) (rw := 0) (ic := 1) 49 0 M M3 w.2.1.1 ⟨k1, h1, h2, h3, h4⟩ hF rfl (fun j hj => absurd hj (by omega)) (fun L2 M4 ct hct hb4 hF4 => ?_) (Or.inr ⟨tb, rfl⟩)
    repeat (refine ng 44 rfl ?_; first | refine es rfl rfl rfl ?_ | refine eg rfl (by assumption) rfl ?_ | refine ean rfl (by assumption) (by assumption) rfl ?_ | refine eal rfl (by assumption) (by assumption) rfl ?_ | refine eri rfl ?_ | refine erv rfl ?_ | refine erl rfl ?_ | refine era rfl ?_ | refine erz0 rfl ?_ | refine erz1 rfl ?_)
    try dsimp only [set1, set2, kilP, List.set_cons_zero, List.set_cons_succ, List.getElem?_cons_zero, List.getElem?_cons_succ, List.nil_append, List.cons_append, Option.toList_some, Option.toList_none]
    refine e1_cr2 wt d1 7 0 M M4 w.1 hb4 (ht.fr hF4 (by omega)) hF4 rfl (fun j hj => absurd hj (by omega)) (fun L2 M5 mb hmb hb5 ht5 hF5 => ?_)
    obtain ⟨⟨t0, -, -, -⟩, hH, -, -⟩ := id ht5
    have g0 := hb5.1
    repeat (first | refine es rfl rfl rfl ?_ | refine eg rfl (by assumption) rfl ?_ | refine ean rfl (by assumption) (by assumption) rfl ?_ | refine eal rfl (by assumption) (by assumption) rfl ?_ | refine eri rfl ?_ | refine erv rfl ?_ | refine erl rfl ?_ | refine era rfl ?_ | refine erz0 rfl ?_ | refine erz1 rfl ?_)
    try dsimp only [set1, set2, kilP, List.set_cons_zero, List.set_cons_succ, List.getElem?_cons_zero, List.getElem?_cons_succ, List.nil_append, List.cons_append, Option.toList_some, Option.toList_none]
    refine ecv rfl rfl (by assumption) rfl rfl rfl ((e1_pl wt.2.2.2.1 (by omega) t.hs.n M5 _ 0 0 hb5 hH (by omega)).up (d2 := 8) (by have := wt.2.2.2.1; omega)) (by first | rfl | exact Nat.blt_eq.mpr (by omega)) ?_
    rintro v M6 ⟨rfl, hb6, hF6⟩
    obtain ⟨h0, h1, h2, h3, h4⟩ := hb6
    replace hF5 := hF5.tr hF6 (by omega) (by omega)
    try dsimp only [set1, set2, kilP, List.set_cons_zero, List.set_cons_succ, List.getElem?_cons_zero, List.getElem?_cons_succ, List.nil_append, List.cons_append, Option.toList_some, Option.toList_none]
    repeat (first | refine es rfl rfl rfl ?_ | refine eg rfl (by assumption) rfl ?_ | refine ean rfl (by assumption) (by assumption) rfl ?_ | refine eal rfl (by assumption) (by assumption) rfl ?_ | refine eri rfl ?_ | refine erv rfl ?_ | refine erl rfl ?_ | refine era rfl ?_ | refine erz0 rfl ?_ | refine erz1 rfl ?_)
    try dsimp only [set1, set2, kilP, List.set_cons_zero, List.set_cons_succ, List.getElem?_cons_zero, List.getElem?_cons_succ, List.nil_append, List.cons_append, Option.toList_some, Option.toList_none]
    refine epM rfl (by assumption) rfl rfl rfl (fun M7 eM7 => ?_)
    have k7 := up_w eM7
    replace h1 := up_k eM7 h1 (by omega)
    replace h2 := up_k eM7 h2 (by omega)
    replace h3 := up_k eM7 h3 (by omega)
    replace h4 := up_k eM7 h4 (by omega)
    replace hF5 := hF5.up eM7 (by omega) (by omega)
    repeat (first | refine es rfl rfl rfl ?_ | refine eg rfl (by assumption) rfl ?_ | refine ean rfl (by assumption) (by assumption) rfl ?_ | refine eal rfl (by assumption) (by assumption) rfl ?_ | refine eri rfl ?_ | refine erv rfl ?_ | refine erl rfl ?_ | refine era rfl ?_ | refine erz0 rfl ?_ | refine erz1 rfl ?_)
    try dsimp only [set1, set2, kilP, List.set_cons_zero, List.set_cons_succ, List.getElem?_cons_zero, List.getElem?_cons_succ, List.nil_append, List.cons_append, Option.toList_some, Option.toList_none]
    exact ⟨rfl, Or.inr ⟨c, mb, ct, hmb, hct, k7, h1, h2, h3, h4⟩, hF5⟩
  · repeat (first | refine es rfl rfl rfl ?_ | refine eg rfl (by assumption) rfl ?_ | refine ean rfl (by assumption) (by assumption) rfl ?_ | refine eal rfl (by assumption) (by assumption) rfl ?_ | refine eri rfl ?_ | refine erv rfl ?_ | refine erl rfl ?_ | refine era rfl ?_ | refine erz0 rfl ?_ | refine erz1 rfl ?_)
    try dsimp only [set1, set2, kilP, List.set_cons_zero, List.set_cons_succ, List.getElem?_cons_zero, List.getElem?_cons_succ, List.nil_append, List.cons_append, Option.toList_some, Option.toList_none]
    exact ⟨rfl, Or.inl ⟨hic.resolve_left c, hb'⟩, hF⟩
