/-! Streets -/
abbrev Ss : Type := Nat × (Nat → Int32) × (Nat → Int32) × (Nat → Int32)
abbrev Ss.n (s : Ss) : Nat := s.1
abbrev Ss.mi (s : Ss) : Nat → Int32 := s.2.1
abbrev Ss.sh (s : Ss) : Nat → Int32 := s.2.2.1
abbrev Ss.ne (s : Ss) : Nat → Int32 := s.2.2.2
def aSs (M : Mm) (b : Nat) (s : Ss) : Prop := M.1 b = some (.inr (7, [.int (nI s.n), .ref (b + 1), .ref (b + 2), .ref (b + 3)])) ∧ M.1 (b + 1) = ints 49 s.mi ∧ M.1 (b + 2) = ints 49 s.sh ∧ M.1 (b + 3) = ints 7 s.ne
theorem aSs.kept {M M' : Mm} {b : Nat} {s : Ss} (hb : aSs M b s) (hq : ∀ q, b ≤ q → q < b + 4 → M'.1 q = M.1 q) : aSs M' b s := by
  obtain ⟨h0, h1, h2, h3⟩ := hb
  exact ⟨(hq _ (by omega) (by omega)).trans h0, (hq _ (by omega) (by omega)).trans h1, (hq _ (by omega) (by omega)).trans h2, (hq _ (by omega) (by omega)).trans h3⟩
theorem aSs.pmi {M : Mm} {b : Nat} {s : Ss} (hb : aSs M b s) (f : Nat → Int32) : aSs (up M (b + 1) (.inl (0, 49, .inl f))) b (s.n, f, s.sh, s.ne) := by
  obtain ⟨h0, h1, h2, h3⟩ := hb
  exact ⟨(up_n M _ (by omega)).trans h0, up_s M _ _, (up_n M _ (by omega)).trans h2, (up_n M _ (by omega)).trans h3⟩
theorem aSs.psh {M : Mm} {b : Nat} {s : Ss} (hb : aSs M b s) (f : Nat → Int32) : aSs (up M (b + 2) (.inl (0, 49, .inl f))) b (s.n, s.mi, f, s.ne) := by
  obtain ⟨h0, h1, h2, h3⟩ := hb
  exact ⟨(up_n M _ (by omega)).trans h0, (up_n M _ (by omega)).trans h1, up_s M _ _, (up_n M _ (by omega)).trans h3⟩
theorem aSs.pne {M : Mm} {b : Nat} {s : Ss} (hb : aSs M b s) (f : Nat → Int32) : aSs (up M (b + 3) (.inl (0, 7, .inl f))) b (s.n, s.mi, s.sh, f) := by
  obtain ⟨h0, h1, h2, h3⟩ := hb
  exact ⟨(up_n M _ (by omega)).trans h0, (up_n M _ (by omega)).trans h1, (up_n M _ (by omega)).trans h2, up_s M _ _⟩
theorem ix7 (h g : Nat) : nI h * 7 + nI g = nI (h * 7 + g) := by
  rw [show (7 : Int32) = nI 7 from rfl, pk_mul, nI_add]
theorem e7_between {ad : Nat → Nat} {M : Mm} {b : Nat} {s : Ss} (hb : aSs M b s) {h g : Nat} (hh : h < 7) (hg : g < 7) : Rd ad 0 (iX7_between ad) [.ref b, .int (nI h), .int (nI g)] M (some (.int (s.mi (h * 7 + g)))) := by
  obtain ⟨h0, h1, h2, h3⟩ := hb
  have hx : h * 7 + g < 49 := by omega
  refine ⟨Nat.le_of_ble_eq_true rfl, ?_⟩
  show Ev ad _ (rX7_between ad) (0, [some (.ref b), some (.int (nI h)), some (.int (nI g))], [], M) _
  repeat (first | refine es rfl rfl rfl ?_ | refine eg rfl (by assumption) rfl ?_ | refine ean rfl (by assumption) (by assumption) rfl ?_ | refine eal rfl (by assumption) (by assumption) rfl ?_ | refine eri rfl ?_ | refine erv rfl ?_ | refine erl rfl ?_ | refine era rfl ?_ | refine erz0 rfl ?_ | refine erz1 rfl ?_)
  try dsimp only [set1, set2, kilP, List.set_cons_zero, List.set_cons_succ, List.getElem?_cons_zero, List.getElem?_cons_succ, List.nil_append, List.cons_append, Option.toList_some, Option.toList_none]
  rw [ix7]
  repeat (first | refine es rfl rfl rfl ?_ | refine eg rfl (by assumption) rfl ?_ | refine ean rfl (by assumption) (by assumption) rfl ?_ | refine eal rfl (by assumption) (by assumption) rfl ?_ | refine eri rfl ?_ | refine erv rfl ?_ | refine erl rfl ?_ | refine era rfl ?_ | refine erz0 rfl ?_ | refine erz1 rfl ?_)
  try dsimp only [set1, set2, kilP, List.set_cons_zero, List.set_cons_succ, List.getElem?_cons_zero, List.getElem?_cons_succ, List.nil_append, List.cons_append, Option.toList_some, Option.toList_none]
  exact ⟨rfl, rfl⟩
theorem e7_apart {ad : Nat → Nat} {M : Mm} {b : Nat} {s : Ss} (hb : aSs M b s) {h g : Nat} (hh : h < 7) (hg : g < 7) : Rd ad 0 (iX7_apart ad) [.ref b, .int (nI h), .int (nI g)] M (some (.int (s.sh (h * 7 + g)))) := by
  obtain ⟨h0, h1, h2, h3⟩ := hb
  have hx : h * 7 + g < 49 := by omega
  refine ⟨Nat.le_of_ble_eq_true rfl, ?_⟩
  show Ev ad _ (rX7_apart ad) (0, [some (.ref b), some (.int (nI h)), some (.int (nI g))], [], M) _
  repeat (first | refine es rfl rfl rfl ?_ | refine eg rfl (by assumption) rfl ?_ | refine ean rfl (by assumption) (by assumption) rfl ?_ | refine eal rfl (by assumption) (by assumption) rfl ?_ | refine eri rfl ?_ | refine erv rfl ?_ | refine erl rfl ?_ | refine era rfl ?_ | refine erz0 rfl ?_ | refine erz1 rfl ?_)
  try dsimp only [set1, set2, kilP, List.set_cons_zero, List.set_cons_succ, List.getElem?_cons_zero, List.getElem?_cons_succ, List.nil_append, List.cons_append, Option.toList_some, Option.toList_none]
  rw [ix7]
  repeat (first | refine es rfl rfl rfl ?_ | refine eg rfl (by assumption) rfl ?_ | refine ean rfl (by assumption) (by assumption) rfl ?_ | refine eal rfl (by assumption) (by assumption) rfl ?_ | refine eri rfl ?_ | refine erv rfl ?_ | refine erl rfl ?_ | refine era rfl ?_ | refine erz0 rfl ?_ | refine erz1 rfl ?_)
  try dsimp only [set1, set2, kilP, List.set_cons_zero, List.set_cons_succ, List.getElem?_cons_zero, List.getElem?_cons_succ, List.nil_append, List.cons_append, Option.toList_some, Option.toList_none]
  exact ⟨rfl, rfl⟩
theorem e7_clear_loop {ad : Nat → Nat} {b : Nat} : ∀ (n i : Nat) (M : Mm) (s : Ss), aSs M b s → i + n = 49 → (∀ j, j < i → s.mi j = 0) → Ev ad 0 (rX7_clear ad) (7, [some (.ref b), some (.int (nI i))], [], M) (fun v' M' => v' = none ∧ ∃ f, (∀ j, j < 49 → f j = 0) ∧ M' = up M (b + 1) (.inl (0, 49, .inl f))) := by
  intro n
  induction n with
  | zero =>
    intro i M s hb hn hz
    obtain ⟨h0, h1, h2, h3⟩ := hb
    repeat (first | refine es rfl rfl rfl ?_ | refine eg rfl (by assumption) rfl ?_ | refine ean rfl (by assumption) (by assumption) rfl ?_ | refine eal rfl (by assumption) (by assumption) rfl ?_ | refine eri rfl ?_ | refine erv rfl ?_ | refine erl rfl ?_ | refine era rfl ?_ | refine erz0 rfl ?_ | refine erz1 rfl ?_)
    try dsimp only [set1, set2, kilP, List.set_cons_zero, List.set_cons_succ, List.getElem?_cons_zero, List.getElem?_cons_succ, List.nil_append, List.cons_append, Option.toList_some, Option.toList_none]
    refine eln rfl h1 ?_
    refine ei _ rfl rfl (fun c => ?_) (fun c => ?_)
    · repeat (first | refine es rfl rfl rfl ?_ | refine eg rfl (by assumption) rfl ?_ | refine ean rfl (by assumption) (by assumption) rfl ?_ | refine eal rfl (by assumption) (by assumption) rfl ?_ | refine eri rfl ?_ | refine erv rfl ?_ | refine erl rfl ?_ | refine era rfl ?_ | refine erz0 rfl ?_ | refine erz1 rfl ?_)
      try dsimp only [set1, set2, kilP, List.set_cons_zero, List.set_cons_succ, List.getElem?_cons_zero, List.getElem?_cons_succ, List.nil_append, List.cons_append, Option.toList_some, Option.toList_none]
      refine ⟨rfl, s.mi, fun j hj => hz j (by omega), ?_⟩
      have e : up M (b + 1) (.inl (0, 49, .inl s.mi)) = M := by
        unfold up
        refine Prod.ext ?_ rfl
        funext q
        by_cases hq : q = b + 1
        · simp only [if_pos hq]; rw [hq]; exact h1.symm
        · simp only [if_neg hq]
      exact e.symm
    · exact absurd (nI_le (by omega) (by omega)) c
  | succ n ih =>
    intro i M s hb hn hz
    have hb' := hb
    obtain ⟨h0, h1, h2, h3⟩ := hb
    have hi : i < 49 := by omega
    repeat (first | refine es rfl rfl rfl ?_ | refine eg rfl (by assumption) rfl ?_ | refine ean rfl (by assumption) (by assumption) rfl ?_ | refine eal rfl (by assumption) (by assumption) rfl ?_ | refine eri rfl ?_ | refine erv rfl ?_ | refine erl rfl ?_ | refine era rfl ?_ | refine erz0 rfl ?_ | refine erz1 rfl ?_)
    try dsimp only [set1, set2, kilP, List.set_cons_zero, List.set_cons_succ, List.getElem?_cons_zero, List.getElem?_cons_succ, List.nil_append, List.cons_append, Option.toList_some, Option.toList_none]
    refine eln rfl h1 ?_
    refine ei _ rfl rfl (fun c => ?_) (fun c => ?_)
    · exact absurd c (nI_ge (by omega) (by omega))
    · repeat (first | refine es rfl rfl rfl ?_ | refine eg rfl (by assumption) rfl ?_ | refine ean rfl (by assumption) (by assumption) rfl ?_ | refine eal rfl (by assumption) (by assumption) rfl ?_ | refine eri rfl ?_ | refine erv rfl ?_ | refine erl rfl ?_ | refine era rfl ?_ | refine erz0 rfl ?_ | refine erz1 rfl ?_)
      try dsimp only [set1, set2, kilP, List.set_cons_zero, List.set_cons_succ, List.getElem?_cons_zero, List.getElem?_cons_succ, List.nil_append, List.cons_append, Option.toList_some, Option.toList_none]
      refine et rfl h1 hi rfl ?_
      repeat (refine ng 7 rfl ?_; first | refine es rfl rfl rfl ?_ | refine eg rfl (by assumption) rfl ?_ | refine ean rfl (by assumption) (by assumption) rfl ?_ | refine eal rfl (by assumption) (by assumption) rfl ?_ | refine eri rfl ?_ | refine erv rfl ?_ | refine erl rfl ?_ | refine era rfl ?_ | refine erz0 rfl ?_ | refine erz1 rfl ?_)
      try dsimp only [set1, set2, kilP, List.set_cons_zero, List.set_cons_succ, List.getElem?_cons_zero, List.getElem?_cons_succ, List.nil_append, List.cons_append, Option.toList_some, Option.toList_none]
      rw [nI_1]
      refine (ih (i + 1) _ _ (hb'.pmi (upd s.mi i 0)) (by omega) (fun j hj => ?_)).im (fun v M1 q => ?_)
      · show upd s.mi i 0 j = 0
        by_cases e : j = i
        · rw [e, pk_us]
        · rw [pk_un e]; exact hz j (by omega)
      · obtain ⟨q1, f, q2, q3⟩ := q
        exact ⟨q1, f, q2, by rw [q3, up_up]⟩
theorem e7_clear {ad : Nat → Nat} {M : Mm} {b : Nat} {s : Ss} (hb : aSs M b s) : EvM ad 0 (iX7_clear ad) [.ref b] M (fun v' M' => v' = none ∧ (∃ f, (∀ j, j < 49 → f j = 0) ∧ aSs M' b (0, f, s.sh, s.ne)) ∧ (∀ q, q < b ∨ b + 4 ≤ q → M'.1 q = M.1 q) ∧ M'.2 = M.2) := by
  obtain ⟨h0, h1, h2, h3⟩ := hb
  refine ⟨Nat.le_of_ble_eq_true rfl, ?_⟩
  show Ev ad _ (rX7_clear ad) (0, [some (.ref b), none], [], M) _
  repeat (first | refine es rfl rfl rfl ?_ | refine eg rfl (by assumption) rfl ?_ | refine ean rfl (by assumption) (by assumption) rfl ?_ | refine eal rfl (by assumption) (by assumption) rfl ?_ | refine eri rfl ?_ | refine erv rfl ?_ | refine erl rfl ?_ | refine era rfl ?_ | refine erz0 rfl ?_ | refine erz1 rfl ?_)
  try dsimp only [set1, set2, kilP, List.set_cons_zero, List.set_cons_succ, List.getElem?_cons_zero, List.getElem?_cons_succ, List.nil_append, List.cons_append, Option.toList_some, Option.toList_none]
  refine ep rfl h0 rfl rfl rfl ?_
  repeat (refine ng 7 rfl ?_; first | refine es rfl rfl rfl ?_ | refine eg rfl (by assumption) rfl ?_ | refine ean rfl (by assumption) (by assumption) rfl ?_ | refine eal rfl (by assumption) (by assumption) rfl ?_ | refine eri rfl ?_ | refine erv rfl ?_ | refine erl rfl ?_ | refine era rfl ?_ | refine erz0 rfl ?_ | refine erz1 rfl ?_)
  try dsimp only [set1, set2, kilP, List.set_cons_zero, List.set_cons_succ, List.getElem?_cons_zero, List.getElem?_cons_succ, List.nil_append, List.cons_append, Option.toList_some, Option.toList_none]
  have hb2 : aSs (up M b (.inr (7, [.int 0, .ref (b + 1), .ref (b + 2), .ref (b + 3)]))) b (0, s.mi, s.sh, s.ne) := ⟨up_s M _ _, (up_n M _ (by omega)).trans h1, (up_n M _ (by omega)).trans h2, (up_n M _ (by omega)).trans h3⟩
  refine (e7_clear_loop 49 0 _ _ hb2 rfl (fun j hj => absurd hj (by omega))).im (fun v M1 q => ?_)
  obtain ⟨q1, f, q2, rfl⟩ := q
  refine ⟨q1, ⟨f, q2, hb2.pmi f⟩, fun q hq => ?_, rfl⟩
  rw [up_n _ _ (by omega), up_n _ _ (by omega)]
theorem e7_add {ad : Nat → Nat} {M : Mm} {b : Nat} {s : Ss} (hb : aSs M b s) {h g : Nat} (hh : h < 7) (hg : g < 7) {z : Int32} : EvM ad 0 (iX7_addStreet ad) [.ref b, .int (nI h), .int (nI g), .int z] M (fun v' M' => v' = none ∧ aSs M' b (s.n + 1, upd (upd s.mi (h * 7 + g) z) (g * 7 + h) z, s.sh, s.ne) ∧ (∀ q, q < b ∨ b + 4 ≤ q → M'.1 q = M.1 q) ∧ M'.2 = M.2) := by
  have hb' := hb
  obtain ⟨h0, h1, h2, h3⟩ := hb
  have hx : h * 7 + g < 49 := by omega
  have hy : g * 7 + h < 49 := by omega
  refine ⟨Nat.le_of_ble_eq_true rfl, ?_⟩
  show Ev ad _ (rX7_addStreet ad) (0, [some (.ref b), some (.int (nI h)), some (.int (nI g)), some (.int z)], [], M) _
  repeat (first | refine es rfl rfl rfl ?_ | refine eg rfl (by assumption) rfl ?_ | refine ean rfl (by assumption) (by assumption) rfl ?_ | refine eal rfl (by assumption) (by assumption) rfl ?_ | refine eri rfl ?_ | refine erv rfl ?_ | refine erl rfl ?_ | refine era rfl ?_ | refine erz0 rfl ?_ | refine erz1 rfl ?_)
  try dsimp only [set1, set2, kilP, List.set_cons_zero, List.set_cons_succ, List.getElem?_cons_zero, List.getElem?_cons_succ, List.nil_append, List.cons_append, Option.toList_some, Option.toList_none]
  rw [ix7]
  repeat (first | refine es rfl rfl rfl ?_ | refine eg rfl (by assumption) rfl ?_ | refine ean rfl (by assumption) (by assumption) rfl ?_ | refine eal rfl (by assumption) (by assumption) rfl ?_ | refine eri rfl ?_ | refine erv rfl ?_ | refine erl rfl ?_ | refine era rfl ?_ | refine erz0 rfl ?_ | refine erz1 rfl ?_)
  try dsimp only [set1, set2, kilP, List.set_cons_zero, List.set_cons_succ, List.getElem?_cons_zero, List.getElem?_cons_succ, List.nil_append, List.cons_append, Option.toList_some, Option.toList_none]
  refine et rfl h1 hx rfl ?_
  have hb2 := hb'.pmi (upd s.mi (h * 7 + g) z)
  obtain ⟨h0, h1, h2, h3⟩ := id hb2
  repeat (first | refine es rfl rfl rfl ?_ | refine eg rfl (by assumption) rfl ?_ | refine ean rfl (by assumption) (by assumption) rfl ?_ | refine eal rfl (by assumption) (by assumption) rfl ?_ | refine eri rfl ?_ | refine erv rfl ?_ | refine erl rfl ?_ | refine era rfl ?_ | refine erz0 rfl ?_ | refine erz1 rfl ?_)
  try dsimp only [set1, set2, kilP, List.set_cons_zero, List.set_cons_succ, List.getElem?_cons_zero, List.getElem?_cons_succ, List.nil_append, List.cons_append, Option.toList_some, Option.toList_none]
  rw [ix7]
  repeat (first | refine es rfl rfl rfl ?_ | refine eg rfl (by assumption) rfl ?_ | refine ean rfl (by assumption) (by assumption) rfl ?_ | refine eal rfl (by assumption) (by assumption) rfl ?_ | refine eri rfl ?_ | refine erv rfl ?_ | refine erl rfl ?_ | refine era rfl ?_ | refine erz0 rfl ?_ | refine erz1 rfl ?_)
  try dsimp only [set1, set2, kilP, List.set_cons_zero, List.set_cons_succ, List.getElem?_cons_zero, List.getElem?_cons_succ, List.nil_append, List.cons_append, Option.toList_some, Option.toList_none]
  refine et rfl h1 hy rfl ?_
  have hb3 := hb2.pmi (upd (upd s.mi (h * 7 + g) z) (g * 7 + h) z)
  obtain ⟨h0, h1, h2, h3⟩ := id hb3
  repeat (first | refine es rfl rfl rfl ?_ | refine eg rfl (by assumption) rfl ?_ | refine ean rfl (by assumption) (by assumption) rfl ?_ | refine eal rfl (by assumption) (by assumption) rfl ?_ | refine eri rfl ?_ | refine erv rfl ?_ | refine erl rfl ?_ | refine era rfl ?_ | refine erz0 rfl ?_ | refine erz1 rfl ?_)
  try dsimp only [set1, set2, kilP, List.set_cons_zero, List.set_cons_succ, List.getElem?_cons_zero, List.getElem?_cons_succ, List.nil_append, List.cons_append, Option.toList_some, Option.toList_none]
  refine ep rfl h0 rfl rfl rfl ?_
  repeat (first | refine es rfl rfl rfl ?_ | refine eg rfl (by assumption) rfl ?_ | refine ean rfl (by assumption) (by assumption) rfl ?_ | refine eal rfl (by assumption) (by assumption) rfl ?_ | refine eri rfl ?_ | refine erv rfl ?_ | refine erl rfl ?_ | refine era rfl ?_ | refine erz0 rfl ?_ | refine erz1 rfl ?_)
  try dsimp only [set1, set2, kilP, List.set_cons_zero, List.set_cons_succ, List.getElem?_cons_zero, List.getElem?_cons_succ, List.nil_append, List.cons_append, Option.toList_some, Option.toList_none]
  refine ⟨rfl, ⟨?_, (up_n _ _ (by omega)).trans h1, (up_n _ _ (by omega)).trans h2, (up_n _ _ (by omega)).trans h3⟩, fun q hq => ?_, rfl⟩
  · rw [up_s]
    show some (Sum.inr (7, [Value.int (nI s.n + 1), _, _, _])) = _
    rw [nI_1]
  · rw [up_n _ _ (by omega), up_n _ _ (by omega), up_n _ _ (by omega)]
/-- a way through another house, from g on -/
def shoF (h t : Nat) (first : Int32) : Nat → Nat → (Nat → Int32) → (Nat → Int32)
  | 0, _, f => f
  | n + 1, g, f => shoF h t first n (g + 1) (if ¬ f (t * 7 + g) = -2 ∧ (f (h * 7 + g) = -2 ∨ first + f (t * 7 + g) < f (h * 7 + g)) then upd f (h * 7 + g) (first + f (t * 7 + g)) else f)
theorem e7_sho_loop {ad : Nat → Nat} {b h t : Nat} (hh : h < 7) (ht : t < 7) {first : Int32} : ∀ (n g : Nat) (M : Mm) (s : Ss) (L5 L6 : Option Value), aSs M b s → g + n = 7 → Ev ad 1 (rX7_shortenThrough ad) (17, [some (.ref b), some (.int (nI h)), some (.int (nI t)), some (.int first), some (.int (nI g)), L5, L6], [], M) (fun v' M' => v' = none ∧ M' = up M (b + 2) (.inl (0, 49, .inl (shoF h t first n g s.sh)))) := by
  intro n
  induction n with
  | zero =>
    intro g M s L5 L6 hb hn
    obtain ⟨h0, h1, h2, h3⟩ := hb
    repeat (first | refine es rfl rfl rfl ?_ | refine eg rfl (by assumption) rfl ?_ | refine ean rfl (by assumption) (by assumption) rfl ?_ | refine eal rfl (by assumption) (by assumption) rfl ?_ | refine eri rfl ?_ | refine erv rfl ?_ | refine erl rfl ?_ | refine era rfl ?_ | refine erz0 rfl ?_ | refine erz1 rfl ?_)
    try dsimp only [set1, set2, kilP, List.set_cons_zero, List.set_cons_succ, List.getElem?_cons_zero, List.getElem?_cons_succ, List.nil_append, List.cons_append, Option.toList_some, Option.toList_none]
    refine ei _ rfl rfl (fun c => ?_) (fun c => ?_)
    · repeat (first | refine es rfl rfl rfl ?_ | refine eg rfl (by assumption) rfl ?_ | refine ean rfl (by assumption) (by assumption) rfl ?_ | refine eal rfl (by assumption) (by assumption) rfl ?_ | refine eri rfl ?_ | refine erv rfl ?_ | refine erl rfl ?_ | refine era rfl ?_ | refine erz0 rfl ?_ | refine erz1 rfl ?_)
      try dsimp only [set1, set2, kilP, List.set_cons_zero, List.set_cons_succ, List.getElem?_cons_zero, List.getElem?_cons_succ, List.nil_append, List.cons_append, Option.toList_some, Option.toList_none]
      refine ⟨rfl, ?_⟩
      have e : up M (b + 2) (.inl (0, 49, .inl s.sh)) = M := by
        unfold up
        refine Prod.ext ?_ rfl
        funext q
        by_cases hq : q = b + 2
        · simp only [if_pos hq]; rw [hq]; exact h2.symm
        · simp only [if_neg hq]
      exact e.symm
    · exact absurd (nI_le (a := 7) (by omega) (by omega)) c
  | succ n ih =>
    intro g M s L5 L6 hb hn
    have hb' := hb
    obtain ⟨h0, h1, h2, h3⟩ := hb
    have hg : g < 7 := by omega
    have hx : h * 7 + g < 49 := by omega
    repeat (first | refine es rfl rfl rfl ?_ | refine eg rfl (by assumption) rfl ?_ | refine ean rfl (by assumption) (by assumption) rfl ?_ | refine eal rfl (by assumption) (by assumption) rfl ?_ | refine eri rfl ?_ | refine erv rfl ?_ | refine erl rfl ?_ | refine era rfl ?_ | refine erz0 rfl ?_ | refine erz1 rfl ?_)
    try dsimp only [set1, set2, kilP, List.set_cons_zero, List.set_cons_succ, List.getElem?_cons_zero, List.getElem?_cons_succ, List.nil_append, List.cons_append, Option.toList_some, Option.toList_none]
    refine ei _ rfl rfl (fun c => ?_) (fun c => ?_)
    · exact absurd c (nI_ge (b := 7) (by omega) (by omega))
    · repeat (first | refine es rfl rfl rfl ?_ | refine eg rfl (by assumption) rfl ?_ | refine ean rfl (by assumption) (by assumption) rfl ?_ | refine eal rfl (by assumption) (by assumption) rfl ?_ | refine eri rfl ?_ | refine erv rfl ?_ | refine erl rfl ?_ | refine era rfl ?_ | refine erz0 rfl ?_ | refine erz1 rfl ?_)
      try dsimp only [set1, set2, kilP, List.set_cons_zero, List.set_cons_succ, List.getElem?_cons_zero, List.getElem?_cons_succ, List.nil_append, List.cons_append, Option.toList_some, Option.toList_none]
      refine ecr rfl rfl (by assumption) rfl rfl rfl (e7_apart hb' ht hg) (by first | rfl | exact Nat.blt_eq.mpr (by omega)) rfl ?_
      repeat (first | refine es rfl rfl rfl ?_ | refine eg rfl (by assumption) rfl ?_ | refine ean rfl (by assumption) (by assumption) rfl ?_ | refine eal rfl (by assumption) (by assumption) rfl ?_ | refine eri rfl ?_ | refine erv rfl ?_ | refine erl rfl ?_ | refine era rfl ?_ | refine erz0 rfl ?_ | refine erz1 rfl ?_)
      try dsimp only [set1, set2, kilP, List.set_cons_zero, List.set_cons_succ, List.getElem?_cons_zero, List.getElem?_cons_succ, List.nil_append, List.cons_append, Option.toList_some, Option.toList_none]
      refine ecr rfl rfl (by assumption) rfl rfl rfl (e7_apart hb' hh hg) (by first | rfl | exact Nat.blt_eq.mpr (by omega)) rfl ?_
      repeat (first | refine es rfl rfl rfl ?_ | refine eg rfl (by assumption) rfl ?_ | refine ean rfl (by assumption) (by assumption) rfl ?_ | refine eal rfl (by assumption) (by assumption) rfl ?_ | refine eri rfl ?_ | refine erv rfl ?_ | refine erl rfl ?_ | refine era rfl ?_ | refine erz0 rfl ?_ | refine erz1 rfl ?_)
      try dsimp only [set1, set2, kilP, List.set_cons_zero, List.set_cons_succ, List.getElem?_cons_zero, List.getElem?_cons_succ, List.nil_append, List.cons_append, Option.toList_some, Option.toList_none]
      refine ei _ rfl rfl (fun c1 => ?_) (fun c1 => ?_)
      · repeat (refine ng 17 rfl ?_; first | refine es rfl rfl rfl ?_ | refine eg rfl (by assumption) rfl ?_ | refine ean rfl (by assumption) (by assumption) rfl ?_ | refine eal rfl (by assumption) (by assumption) rfl ?_ | refine eri rfl ?_ | refine erv rfl ?_ | refine erl rfl ?_ | refine era rfl ?_ | refine erz0 rfl ?_ | refine erz1 rfl ?_)
        try dsimp only [set1, set2, kilP, List.set_cons_zero, List.set_cons_succ, List.getElem?_cons_zero, List.getElem?_cons_succ, List.nil_append, List.cons_append, Option.toList_some, Option.toList_none]
        rw [nI_1, shoF, if_neg (fun q => q.1 c1)]
        exact ih (g + 1) M s _ _ hb' (by omega)
      · repeat (first | refine es rfl rfl rfl ?_ | refine eg rfl (by assumption) rfl ?_ | refine ean rfl (by assumption) (by assumption) rfl ?_ | refine eal rfl (by assumption) (by assumption) rfl ?_ | refine eri rfl ?_ | refine erv rfl ?_ | refine erl rfl ?_ | refine era rfl ?_ | refine erz0 rfl ?_ | refine erz1 rfl ?_)
        try dsimp only [set1, set2, kilP, List.set_cons_zero, List.set_cons_succ, List.getElem?_cons_zero, List.getElem?_cons_succ, List.nil_append, List.cons_append, Option.toList_some, Option.toList_none]
        refine ei _ rfl rfl (fun c2 => ?_) (fun c2 => ?_)
        · repeat (first | refine es rfl rfl rfl ?_ | refine eg rfl (by assumption) rfl ?_ | refine ean rfl (by assumption) (by assumption) rfl ?_ | refine eal rfl (by assumption) (by assumption) rfl ?_ | refine eri rfl ?_ | refine erv rfl ?_ | refine erl rfl ?_ | refine era rfl ?_ | refine erz0 rfl ?_ | refine erz1 rfl ?_)
          try dsimp only [set1, set2, kilP, List.set_cons_zero, List.set_cons_succ, List.getElem?_cons_zero, List.getElem?_cons_succ, List.nil_append, List.cons_append, Option.toList_some, Option.toList_none]
          rw [ix7]
          repeat (first | refine es rfl rfl rfl ?_ | refine eg rfl (by assumption) rfl ?_ | refine ean rfl (by assumption) (by assumption) rfl ?_ | refine eal rfl (by assumption) (by assumption) rfl ?_ | refine eri rfl ?_ | refine erv rfl ?_ | refine erl rfl ?_ | refine era rfl ?_ | refine erz0 rfl ?_ | refine erz1 rfl ?_)
          try dsimp only [set1, set2, kilP, List.set_cons_zero, List.set_cons_succ, List.getElem?_cons_zero, List.getElem?_cons_succ, List.nil_append, List.cons_append, Option.toList_some, Option.toList_none]
          refine et rfl h2 hx rfl ?_
          repeat (refine ng 17 rfl ?_; first | refine es rfl rfl rfl ?_ | refine eg rfl (by assumption) rfl ?_ | refine ean rfl (by assumption) (by assumption) rfl ?_ | refine eal rfl (by assumption) (by assumption) rfl ?_ | refine eri rfl ?_ | refine erv rfl ?_ | refine erl rfl ?_ | refine era rfl ?_ | refine erz0 rfl ?_ | refine erz1 rfl ?_)
          try dsimp only [set1, set2, kilP, List.set_cons_zero, List.set_cons_succ, List.getElem?_cons_zero, List.getElem?_cons_succ, List.nil_append, List.cons_append, Option.toList_some, Option.toList_none]
          rw [nI_1, shoF, if_pos ⟨c1, Or.inl c2⟩]
          refine (ih (g + 1) _ _ _ _ (hb'.psh _) (by omega)).im (fun v M1 q => ⟨q.1, ?_⟩)
          rw [q.2, up_up]
        · repeat (first | refine es rfl rfl rfl ?_ | refine eg rfl (by assumption) rfl ?_ | refine ean rfl (by assumption) (by assumption) rfl ?_ | refine eal rfl (by assumption) (by assumption) rfl ?_ | refine eri rfl ?_ | refine erv rfl ?_ | refine erl rfl ?_ | refine era rfl ?_ | refine erz0 rfl ?_ | refine erz1 rfl ?_)
          try dsimp only [set1, set2, kilP, List.set_cons_zero, List.set_cons_succ, List.getElem?_cons_zero, List.getElem?_cons_succ, List.nil_append, List.cons_append, Option.toList_some, Option.toList_none]
          refine ei _ rfl rfl (fun c3 => ?_) (fun c3 => ?_)
          · repeat (refine ng 17 rfl ?_; first | refine es rfl rfl rfl ?_ | refine eg rfl (by assumption) rfl ?_ | refine ean rfl (by assumption) (by assumption) rfl ?_ | refine eal rfl (by assumption) (by assumption) rfl ?_ | refine eri rfl ?_ | refine erv rfl ?_ | refine erl rfl ?_ | refine era rfl ?_ | refine erz0 rfl ?_ | refine erz1 rfl ?_)
            try dsimp only [set1, set2, kilP, List.set_cons_zero, List.set_cons_succ, List.getElem?_cons_zero, List.getElem?_cons_succ, List.nil_append, List.cons_append, Option.toList_some, Option.toList_none]
            rw [nI_1, shoF, if_neg (fun q => q.2.elim c2 (fun z => absurd z (Int32.not_lt.mpr c3)))]
            exact ih (g + 1) M s _ _ hb' (by omega)
          · repeat (first | refine es rfl rfl rfl ?_ | refine eg rfl (by assumption) rfl ?_ | refine ean rfl (by assumption) (by assumption) rfl ?_ | refine eal rfl (by assumption) (by assumption) rfl ?_ | refine eri rfl ?_ | refine erv rfl ?_ | refine erl rfl ?_ | refine era rfl ?_ | refine erz0 rfl ?_ | refine erz1 rfl ?_)
            try dsimp only [set1, set2, kilP, List.set_cons_zero, List.set_cons_succ, List.getElem?_cons_zero, List.getElem?_cons_succ, List.nil_append, List.cons_append, Option.toList_some, Option.toList_none]
            rw [ix7]
            repeat (first | refine es rfl rfl rfl ?_ | refine eg rfl (by assumption) rfl ?_ | refine ean rfl (by assumption) (by assumption) rfl ?_ | refine eal rfl (by assumption) (by assumption) rfl ?_ | refine eri rfl ?_ | refine erv rfl ?_ | refine erl rfl ?_ | refine era rfl ?_ | refine erz0 rfl ?_ | refine erz1 rfl ?_)
            try dsimp only [set1, set2, kilP, List.set_cons_zero, List.set_cons_succ, List.getElem?_cons_zero, List.getElem?_cons_succ, List.nil_append, List.cons_append, Option.toList_some, Option.toList_none]
            refine et rfl h2 hx rfl ?_
            repeat (refine ng 17 rfl ?_; first | refine es rfl rfl rfl ?_ | refine eg rfl (by assumption) rfl ?_ | refine ean rfl (by assumption) (by assumption) rfl ?_ | refine eal rfl (by assumption) (by assumption) rfl ?_ | refine eri rfl ?_ | refine erv rfl ?_ | refine erl rfl ?_ | refine era rfl ?_ | refine erz0 rfl ?_ | refine erz1 rfl ?_)
            try dsimp only [set1, set2, kilP, List.set_cons_zero, List.set_cons_succ, List.getElem?_cons_zero, List.getElem?_cons_succ, List.nil_append, List.cons_append, Option.toList_some, Option.toList_none]
            rw [nI_1, shoF, if_pos ⟨c1, Or.inr (Int32.not_le.mp c3)⟩]
            refine (ih (g + 1) _ _ _ _ (hb'.psh _) (by omega)).im (fun v M1 q => ⟨q.1, ?_⟩)
            rw [q.2, up_up]
def shtF (h t : Nat) (f : Nat → Int32) : Nat → Int32 := if f (h * 7 + t) = -2 then f else shoF h t (f (h * 7 + t)) 7 0 f
theorem up_id {M : Mm} {a : Nat} {x : Ce} (h : M.1 a = some x) : up M a x = M := by
  unfold up
  refine Prod.ext ?_ rfl
  funext q
  by_cases hq : q = a
  · simp only [if_pos hq]; rw [hq]; exact h.symm
  · simp only [if_neg hq]
theorem e7_sht {ad : Nat → Nat} {M : Mm} {b : Nat} {s : Ss} (hb : aSs M b s) {h t : Nat} (hh : h < 7) (ht : t < 7) : EvM ad 1 (iX7_shortenThrough ad) [.ref b, .int (nI h), .int (nI t)] M (fun v' M' => v' = none ∧ M' = up M (b + 2) (.inl (0, 49, .inl (shtF h t s.sh)))) := by
  have hb' := hb
  obtain ⟨h0, h1, h2, h3⟩ := hb
  refine ⟨Nat.le_of_ble_eq_true rfl, ?_⟩
  show Ev ad _ (rX7_shortenThrough ad) (0, [some (.ref b), some (.int (nI h)), some (.int (nI t)), none, none, none, none], [], M) _
  repeat (first | refine es rfl rfl rfl ?_ | refine eg rfl (by assumption) rfl ?_ | refine ean rfl (by assumption) (by assumption) rfl ?_ | refine eal rfl (by assumption) (by assumption) rfl ?_ | refine eri rfl ?_ | refine erv rfl ?_ | refine erl rfl ?_ | refine era rfl ?_ | refine erz0 rfl ?_ | refine erz1 rfl ?_)
  try dsimp only [set1, set2, kilP, List.set_cons_zero, List.set_cons_succ, List.getElem?_cons_zero, List.getElem?_cons_succ, List.nil_append, List.cons_append, Option.toList_some, Option.toList_none]
  refine ecr rfl rfl (by assumption) rfl rfl rfl (e7_apart hb' hh ht) (by first | rfl | exact Nat.blt_eq.mpr (by omega)) rfl ?_
  repeat (first | refine es rfl rfl rfl ?_ | refine eg rfl (by assumption) rfl ?_ | refine ean rfl (by assumption) (by assumption) rfl ?_ | refine eal rfl (by assumption) (by assumption) rfl ?_ | refine eri rfl ?_ | refine erv rfl ?_ | refine erl rfl ?_ | refine era rfl ?_ | refine erz0 rfl ?_ | refine erz1 rfl ?_)
  try dsimp only [set1, set2, kilP, List.set_cons_zero, List.set_cons_succ, List.getElem?_cons_zero, List.getElem?_cons_succ, List.nil_append, List.cons_append, Option.toList_some, Option.toList_none]
  refine ei _ rfl rfl (fun c => ?_) (fun c => ?_)
  · repeat (refine ng 17 rfl ?_; first | refine es rfl rfl rfl ?_ | refine eg rfl (by assumption) rfl ?_ | refine ean rfl (by assumption) (by assumption) rfl ?_ | refine eal rfl (by assumption) (by assumption) rfl ?_ | refine eri rfl ?_ | refine erv rfl ?_ | refine erl rfl ?_ | refine era rfl ?_ | refine erz0 rfl ?_ | refine erz1 rfl ?_)
    try dsimp only [set1, set2, kilP, List.set_cons_zero, List.set_cons_succ, List.getElem?_cons_zero, List.getElem?_cons_succ, List.nil_append, List.cons_append, Option.toList_some, Option.toList_none]
    rw [shtF, if_neg c]
    exact e7_sho_loop hh ht 7 0 M s _ _ hb' rfl
  · repeat (first | refine es rfl rfl rfl ?_ | refine eg rfl (by assumption) rfl ?_ | refine ean rfl (by assumption) (by assumption) rfl ?_ | refine eal rfl (by assumption) (by assumption) rfl ?_ | refine eri rfl ?_ | refine erv rfl ?_ | refine erl rfl ?_ | refine era rfl ?_ | refine erz0 rfl ?_ | refine erz1 rfl ?_)
    try dsimp only [set1, set2, kilP, List.set_cons_zero, List.set_cons_succ, List.getElem?_cons_zero, List.getElem?_cons_succ, List.nil_append, List.cons_append, Option.toList_some, Option.toList_none]
    rw [shtF, if_pos (Decidable.not_not.mp c), up_id h2]
    exact ⟨rfl, rfl⟩
/-- first: a street, or none -/
def ms1 (mi : Nat → Int32) : Nat → (Nat → Int32) → (Nat → Int32)
  | 0, f => f
  | n + 1, f => upd (ms1 mi n f) n (if 0 < mi n then mi n else -2)
theorem ms1_at (mi f : Nat → Int32) : ∀ n i, i < n → ms1 mi n f i = if 0 < mi i then mi i else -2
  | n + 1, i, h => by
    rw [ms1]
    by_cases e : i = n
    · rw [e, pk_us]
    · rw [pk_un e]; exact ms1_at mi f n i (by omega)
theorem e7_ms1 {ad : Nat → Nat} {b : Nat} {s : Ss} : ∀ (n i : Nat) (M : Mm) (L2 : Option Value) (P : Option Value → Mm → Prop), aSs M b (s.n, s.mi, ms1 s.mi i s.sh, s.ne) → i + n = 49 → (∀ L1, Ev ad 2 (rX7_measure ad) (43, [some (.ref b), L1, L2], [], up M (b + 2) (.inl (0, 49, .inl (ms1 s.mi 49 s.sh)))) P) → Ev ad 2 (rX7_measure ad) (2, [some (.ref b), some (.int (nI i)), L2], [], M) P := by
  intro n
  induction n with
  | zero =>
    intro i M L2 P hb hn hk
    obtain ⟨h0, h1, h2, h3⟩ := hb
    have e9 : i = 49 := by omega
    repeat (first | refine es rfl rfl rfl ?_ | refine eg rfl (by assumption) rfl ?_ | refine ean rfl (by assumption) (by assumption) rfl ?_ | refine eal rfl (by assumption) (by assumption) rfl ?_ | refine eri rfl ?_ | refine erv rfl ?_ | refine erl rfl ?_ | refine era rfl ?_ | refine erz0 rfl ?_ | refine erz1 rfl ?_)
    try dsimp only [set1, set2, kilP, List.set_cons_zero, List.set_cons_succ, List.getElem?_cons_zero, List.getElem?_cons_succ, List.nil_append, List.cons_append, Option.toList_some, Option.toList_none]
    refine eln rfl h1 ?_
    refine ei _ rfl rfl (fun c => ?_) (fun c => ?_)
    · have h9 := hk (some (.int (nI i)))
      have h2' : M.1 (b + 2) = ints 49 (ms1 s.mi 49 s.sh) := by rw [e9] at h2; exact h2
      rw [up_id h2'] at h9
      exact h9
    · exact absurd (nI_le (by omega) (by omega)) c
  | succ n ih =>
    intro i M L2 P hb hn hk
    have hb' := hb
    obtain ⟨h0, h1, h2, h3⟩ := hb
    have hi : i < 49 := by omega
    have h9 := ih (i + 1) (up M (b + 2) (.inl (0, 49, .inl (ms1 s.mi (i + 1) s.sh)))) L2 P (hb'.psh _) (by omega) (fun L1 => by rw [up_up]; exact hk L1)
    rw [ms1] at h9
    repeat (first | refine es rfl rfl rfl ?_ | refine eg rfl (by assumption) rfl ?_ | refine ean rfl (by assumption) (by assumption) rfl ?_ | refine eal rfl (by assumption) (by assumption) rfl ?_ | refine eri rfl ?_ | refine erv rfl ?_ | refine erl rfl ?_ | refine era rfl ?_ | refine erz0 rfl ?_ | refine erz1 rfl ?_)
    try dsimp only [set1, set2, kilP, List.set_cons_zero, List.set_cons_succ, List.getElem?_cons_zero, List.getElem?_cons_succ, List.nil_append, List.cons_append, Option.toList_some, Option.toList_none]
    refine eln rfl h1 ?_
    refine ei _ rfl rfl (fun c => ?_) (fun c => ?_)
    · exact absurd c (nI_ge (by omega) (by omega))
    · repeat (first | refine es rfl rfl rfl ?_ | refine eg rfl (by assumption) rfl ?_ | refine ean rfl (by assumption) (by assumption) rfl ?_ | refine eal rfl (by assumption) (by assumption) rfl ?_ | refine eri rfl ?_ | refine erv rfl ?_ | refine erl rfl ?_ | refine era rfl ?_ | refine erz0 rfl ?_ | refine erz1 rfl ?_)
      try dsimp only [set1, set2, kilP, List.set_cons_zero, List.set_cons_succ, List.getElem?_cons_zero, List.getElem?_cons_succ, List.nil_append, List.cons_append, Option.toList_some, Option.toList_none]
      refine ei _ rfl rfl (fun c2 => ?_) (fun c2 => ?_)
      · repeat (first | refine es rfl rfl rfl ?_ | refine eg rfl (by assumption) rfl ?_ | refine ean rfl (by assumption) (by assumption) rfl ?_ | refine eal rfl (by assumption) (by assumption) rfl ?_ | refine eri rfl ?_ | refine erv rfl ?_ | refine erl rfl ?_ | refine era rfl ?_ | refine erz0 rfl ?_ | refine erz1 rfl ?_)
        try dsimp only [set1, set2, kilP, List.set_cons_zero, List.set_cons_succ, List.getElem?_cons_zero, List.getElem?_cons_succ, List.nil_append, List.cons_append, Option.toList_some, Option.toList_none]
        refine et rfl h2 hi rfl ?_
        repeat (refine ng 2 rfl ?_; first | refine es rfl rfl rfl ?_ | refine eg rfl (by assumption) rfl ?_ | refine ean rfl (by assumption) (by assumption) rfl ?_ | refine eal rfl (by assumption) (by assumption) rfl ?_ | refine eri rfl ?_ | refine erv rfl ?_ | refine erl rfl ?_ | refine era rfl ?_ | refine erz0 rfl ?_ | refine erz1 rfl ?_)
        try dsimp only [set1, set2, kilP, List.set_cons_zero, List.set_cons_succ, List.getElem?_cons_zero, List.getElem?_cons_succ, List.nil_append, List.cons_append, Option.toList_some, Option.toList_none]
        rw [nI_1]
        rw [if_neg (Int32.not_lt.mpr c2)] at h9
        exact h9
      · repeat (first | refine es rfl rfl rfl ?_ | refine eg rfl (by assumption) rfl ?_ | refine ean rfl (by assumption) (by assumption) rfl ?_ | refine eal rfl (by assumption) (by assumption) rfl ?_ | refine eri rfl ?_ | refine erv rfl ?_ | refine erl rfl ?_ | refine era rfl ?_ | refine erz0 rfl ?_ | refine erz1 rfl ?_)
        try dsimp only [set1, set2, kilP, List.set_cons_zero, List.set_cons_succ, List.getElem?_cons_zero, List.getElem?_cons_succ, List.nil_append, List.cons_append, Option.toList_some, Option.toList_none]
        refine et rfl h2 hi rfl ?_
        repeat (refine ng 2 rfl ?_; first | refine es rfl rfl rfl ?_ | refine eg rfl (by assumption) rfl ?_ | refine ean rfl (by assumption) (by assumption) rfl ?_ | refine eal rfl (by assumption) (by assumption) rfl ?_ | refine eri rfl ?_ | refine erv rfl ?_ | refine erl rfl ?_ | refine era rfl ?_ | refine erz0 rfl ?_ | refine erz1 rfl ?_)
        try dsimp only [set1, set2, kilP, List.set_cons_zero, List.set_cons_succ, List.getElem?_cons_zero, List.getElem?_cons_succ, List.nil_append, List.cons_append, Option.toList_some, Option.toList_none]
        rw [nI_1]
        rw [if_pos (Int32.not_le.mp c2)] at h9
        exact h9
def ms2 : Nat → (Nat → Int32) → (Nat → Int32)
  | 0, f => f
  | n + 1, f => upd (ms2 n f) (n * 7 + n) 0
theorem e7_ms2 {ad : Nat → Nat} {b : Nat} {s : Ss} : ∀ (n i : Nat) (M : Mm) (L2 : Option Value) (P : Option Value → Mm → Prop), aSs M b (s.n, s.mi, ms2 i s.sh, s.ne) → i + n = 7 → (∀ L1, Ev ad 2 (rX7_measure ad) (69, [some (.ref b), L1, L2], [], up M (b + 2) (.inl (0, 49, .inl (ms2 7 s.sh)))) P) → Ev ad 2 (rX7_measure ad) (45, [some (.ref b), some (.int (nI i)), L2], [], M) P := by
  intro n
  induction n with
  | zero =>
    intro i M L2 P hb hn hk
    obtain ⟨h0, h1, h2, h3⟩ := hb
    have e9 : i = 7 := by omega
    repeat (first | refine es rfl rfl rfl ?_ | refine eg rfl (by assumption) rfl ?_ | refine ean rfl (by assumption) (by assumption) rfl ?_ | refine eal rfl (by assumption) (by assumption) rfl ?_ | refine eri rfl ?_ | refine erv rfl ?_ | refine erl rfl ?_ | refine era rfl ?_ | refine erz0 rfl ?_ | refine erz1 rfl ?_)
    try dsimp only [set1, set2, kilP, List.set_cons_zero, List.set_cons_succ, List.getElem?_cons_zero, List.getElem?_cons_succ, List.nil_append, List.cons_append, Option.toList_some, Option.toList_none]
    refine ei _ rfl rfl (fun c => ?_) (fun c => ?_)
    · have h9 := hk (some (.int (nI i)))
      rw [← e9, up_id h2] at h9
      exact h9
    · exact absurd (nI_le (a := 7) (by omega) (by omega)) c
  | succ n ih =>
    intro i M L2 P hb hn hk
    have hb' := hb
    obtain ⟨h0, h1, h2, h3⟩ := hb
    have hi : i * 7 + i < 49 := by omega
    have h9 := ih (i + 1) (up M (b + 2) (.inl (0, 49, .inl (ms2 (i + 1) s.sh)))) L2 P (hb'.psh _) (by omega) (fun L1 => by rw [up_up]; exact hk L1)
    rw [ms2] at h9
    repeat (first | refine es rfl rfl rfl ?_ | refine eg rfl (by assumption) rfl ?_ | refine ean rfl (by assumption) (by assumption) rfl ?_ | refine eal rfl (by assumption) (by assumption) rfl ?_ | refine eri rfl ?_ | refine erv rfl ?_ | refine erl rfl ?_ | refine era rfl ?_ | refine erz0 rfl ?_ | refine erz1 rfl ?_)
    try dsimp only [set1, set2, kilP, List.set_cons_zero, List.set_cons_succ, List.getElem?_cons_zero, List.getElem?_cons_succ, List.nil_append, List.cons_append, Option.toList_some, Option.toList_none]
    refine ei _ rfl rfl (fun c => ?_) (fun c => ?_)
    · exact absurd c (nI_ge (b := 7) (by omega) (by omega))
    · repeat (first | refine es rfl rfl rfl ?_ | refine eg rfl (by assumption) rfl ?_ | refine ean rfl (by assumption) (by assumption) rfl ?_ | refine eal rfl (by assumption) (by assumption) rfl ?_ | refine eri rfl ?_ | refine erv rfl ?_ | refine erl rfl ?_ | refine era rfl ?_ | refine erz0 rfl ?_ | refine erz1 rfl ?_)
      try dsimp only [set1, set2, kilP, List.set_cons_zero, List.set_cons_succ, List.getElem?_cons_zero, List.getElem?_cons_succ, List.nil_append, List.cons_append, Option.toList_some, Option.toList_none]
      rw [ix7]
      repeat (first | refine es rfl rfl rfl ?_ | refine eg rfl (by assumption) rfl ?_ | refine ean rfl (by assumption) (by assumption) rfl ?_ | refine eal rfl (by assumption) (by assumption) rfl ?_ | refine eri rfl ?_ | refine erv rfl ?_ | refine erl rfl ?_ | refine era rfl ?_ | refine erz0 rfl ?_ | refine erz1 rfl ?_)
      try dsimp only [set1, set2, kilP, List.set_cons_zero, List.set_cons_succ, List.getElem?_cons_zero, List.getElem?_cons_succ, List.nil_append, List.cons_append, Option.toList_some, Option.toList_none]
      refine et rfl h2 hi rfl ?_
      repeat (refine ng 45 rfl ?_; first | refine es rfl rfl rfl ?_ | refine eg rfl (by assumption) rfl ?_ | refine ean rfl (by assumption) (by assumption) rfl ?_ | refine eal rfl (by assumption) (by assumption) rfl ?_ | refine eri rfl ?_ | refine erv rfl ?_ | refine erl rfl ?_ | refine era rfl ?_ | refine erz0 rfl ?_ | refine erz1 rfl ?_)
      try dsimp only [set1, set2, kilP, List.set_cons_zero, List.set_cons_succ, List.getElem?_cons_zero, List.getElem?_cons_succ, List.nil_append, List.cons_append, Option.toList_some, Option.toList_none]
      rw [nI_1]
      exact h9
def ms3 (t : Nat) : Nat → (Nat → Int32) → (Nat → Int32)
  | 0, f => f
  | n + 1, f => shtF n t (ms3 t n f)
def ms4 : Nat → (Nat → Int32) → (Nat → Int32)
  | 0, f => f
  | n + 1, f => ms3 n 7 (ms4 n f)
theorem e7_ms3 {ad : Nat → Nat} {b t : Nat} (ht : t < 7) {s : Ss} : ∀ (n i : Nat) (M : Mm) (P : Option Value → Mm → Prop), aSs M b (s.n, s.mi, ms3 t i s.sh, s.ne) → i + n = 7 → (∀ L2, Ev ad 2 (rX7_measure ad) (97, [some (.ref b), some (.int (nI t)), L2], [], up M (b + 2) (.inl (0, 49, .inl (ms3 t 7 s.sh)))) P) → Ev ad 2 (rX7_measure ad) (79, [some (.ref b), some (.int (nI t)), some (.int (nI i))], [], M) P := by
  intro n
  induction n with
  | zero =>
    intro i M P hb hn hk
    obtain ⟨h0, h1, h2, h3⟩ := hb
    have e9 : i = 7 := by omega
    repeat (first | refine es rfl rfl rfl ?_ | refine eg rfl (by assumption) rfl ?_ | refine ean rfl (by assumption) (by assumption) rfl ?_ | refine eal rfl (by assumption) (by assumption) rfl ?_ | refine eri rfl ?_ | refine erv rfl ?_ | refine erl rfl ?_ | refine era rfl ?_ | refine erz0 rfl ?_ | refine erz1 rfl ?_)
    try dsimp only [set1, set2, kilP, List.set_cons_zero, List.set_cons_succ, List.getElem?_cons_zero, List.getElem?_cons_succ, List.nil_append, List.cons_append, Option.toList_some, Option.toList_none]
    refine ei _ rfl rfl (fun c => ?_) (fun c => ?_)
    · have h9 := hk (some (.int (nI i)))
      rw [← e9, up_id h2] at h9
      exact h9
    · exact absurd (nI_le (a := 7) (by omega) (by omega)) c
  | succ n ih =>
    intro i M P hb hn hk
    have hb' := hb
    obtain ⟨h0, h1, h2, h3⟩ := hb
    have hi : i < 7 := by omega
    have h9 := ih (i + 1) (up M (b + 2) (.inl (0, 49, .inl (ms3 t (i + 1) s.sh)))) P (hb'.psh _) (by omega) (fun L1 => by rw [up_up]; exact hk L1)
    rw [ms3] at h9
    repeat (first | refine es rfl rfl rfl ?_ | refine eg rfl (by assumption) rfl ?_ | refine ean rfl (by assumption) (by assumption) rfl ?_ | refine eal rfl (by assumption) (by assumption) rfl ?_ | refine eri rfl ?_ | refine erv rfl ?_ | refine erl rfl ?_ | refine era rfl ?_ | refine erz0 rfl ?_ | refine erz1 rfl ?_)
    try dsimp only [set1, set2, kilP, List.set_cons_zero, List.set_cons_succ, List.getElem?_cons_zero, List.getElem?_cons_succ, List.nil_append, List.cons_append, Option.toList_some, Option.toList_none]
    refine ei _ rfl rfl (fun c => ?_) (fun c => ?_)
    · exact absurd c (nI_ge (b := 7) (by omega) (by omega))
    · repeat (first | refine es rfl rfl rfl ?_ | refine eg rfl (by assumption) rfl ?_ | refine ean rfl (by assumption) (by assumption) rfl ?_ | refine eal rfl (by assumption) (by assumption) rfl ?_ | refine eri rfl ?_ | refine erv rfl ?_ | refine erl rfl ?_ | refine era rfl ?_ | refine erz0 rfl ?_ | refine erz1 rfl ?_)
      try dsimp only [set1, set2, kilP, List.set_cons_zero, List.set_cons_succ, List.getElem?_cons_zero, List.getElem?_cons_succ, List.nil_append, List.cons_append, Option.toList_some, Option.toList_none]
      refine ecv rfl rfl (by assumption) rfl rfl rfl (e7_sht hb' hi ht) (by first | rfl | exact Nat.blt_eq.mpr (by omega)) ?_
      rintro v M1 ⟨rfl, rfl⟩
      repeat (refine ng 79 rfl ?_; first | refine es rfl rfl rfl ?_ | refine eg rfl (by assumption) rfl ?_ | refine ean rfl (by assumption) (by assumption) rfl ?_ | refine eal rfl (by assumption) (by assumption) rfl ?_ | refine eri rfl ?_ | refine erv rfl ?_ | refine erl rfl ?_ | refine era rfl ?_ | refine erz0 rfl ?_ | refine erz1 rfl ?_)
      try dsimp only [set1, set2, kilP, List.set_cons_zero, List.set_cons_succ, List.getElem?_cons_zero, List.getElem?_cons_succ, List.nil_append, List.cons_append, Option.toList_some, Option.toList_none]
      rw [nI_1]
      exact h9
theorem e7_ms4 {ad : Nat → Nat} {b : Nat} {s : Ss} : ∀ (n i : Nat) (M : Mm) (L2 : Option Value), aSs M b (s.n, s.mi, ms4 i s.sh, s.ne) → i + n = 7 → Ev ad 2 (rX7_measure ad) (71, [some (.ref b), some (.int (nI i)), L2], [], M) (fun v' M' => v' = none ∧ M' = up M (b + 2) (.inl (0, 49, .inl (ms4 7 s.sh)))) := by
  intro n
  induction n with
  | zero =>
    intro i M L2 hb hn
    obtain ⟨h0, h1, h2, h3⟩ := hb
    have e9 : i = 7 := by omega
    repeat (first | refine es rfl rfl rfl ?_ | refine eg rfl (by assumption) rfl ?_ | refine ean rfl (by assumption) (by assumption) rfl ?_ | refine eal rfl (by assumption) (by assumption) rfl ?_ | refine eri rfl ?_ | refine erv rfl ?_ | refine erl rfl ?_ | refine era rfl ?_ | refine erz0 rfl ?_ | refine erz1 rfl ?_)
    try dsimp only [set1, set2, kilP, List.set_cons_zero, List.set_cons_succ, List.getElem?_cons_zero, List.getElem?_cons_succ, List.nil_append, List.cons_append, Option.toList_some, Option.toList_none]
    refine ei _ rfl rfl (fun c => ?_) (fun c => ?_)
    · repeat (first | refine es rfl rfl rfl ?_ | refine eg rfl (by assumption) rfl ?_ | refine ean rfl (by assumption) (by assumption) rfl ?_ | refine eal rfl (by assumption) (by assumption) rfl ?_ | refine eri rfl ?_ | refine erv rfl ?_ | refine erl rfl ?_ | refine era rfl ?_ | refine erz0 rfl ?_ | refine erz1 rfl ?_)
      try dsimp only [set1, set2, kilP, List.set_cons_zero, List.set_cons_succ, List.getElem?_cons_zero, List.getElem?_cons_succ, List.nil_append, List.cons_append, Option.toList_some, Option.toList_none]
      rw [← e9, up_id h2]
      exact ⟨rfl, rfl⟩
    · exact absurd (nI_le (a := 7) (by omega) (by omega)) c
  | succ n ih =>
    intro i M L2 hb hn
    have hb' := hb
    obtain ⟨h0, h1, h2, h3⟩ := hb
    have hi : i < 7 := by omega
    repeat (first | refine es rfl rfl rfl ?_ | refine eg rfl (by assumption) rfl ?_ | refine ean rfl (by assumption) (by assumption) rfl ?_ | refine eal rfl (by assumption) (by assumption) rfl ?_ | refine eri rfl ?_ | refine erv rfl ?_ | refine erl rfl ?_ | refine era rfl ?_ | refine erz0 rfl ?_ | refine erz1 rfl ?_)
    try dsimp only [set1, set2, kilP, List.set_cons_zero, List.set_cons_succ, List.getElem?_cons_zero, List.getElem?_cons_succ, List.nil_append, List.cons_append, Option.toList_some, Option.toList_none]
    refine ei _ rfl rfl (fun c => ?_) (fun c => ?_)
    · exact absurd c (nI_ge (b := 7) (by omega) (by omega))
    · repeat (refine ng 79 rfl ?_; first | refine es rfl rfl rfl ?_ | refine eg rfl (by assumption) rfl ?_ | refine ean rfl (by assumption) (by assumption) rfl ?_ | refine eal rfl (by assumption) (by assumption) rfl ?_ | refine eri rfl ?_ | refine erv rfl ?_ | refine erl rfl ?_ | refine era rfl ?_ | refine erz0 rfl ?_ | refine erz1 rfl ?_)
      try dsimp only [set1, set2, kilP, List.set_cons_zero, List.set_cons_succ, List.getElem?_cons_zero, List.getElem?_cons_succ, List.nil_append, List.cons_append, Option.toList_some, Option.toList_none]
      refine e7_ms3 hi (s := (s.n, s.mi, ms4 i s.sh, s.ne)) 7 0 M _ hb' rfl (fun L2 => ?_)
      repeat (refine ng 71 rfl ?_; first | refine es rfl rfl rfl ?_ | refine eg rfl (by assumption) rfl ?_ | refine ean rfl (by assumption) (by assumption) rfl ?_ | refine eal rfl (by assumption) (by assumption) rfl ?_ | refine eri rfl ?_ | refine erv rfl ?_ | refine erl rfl ?_ | refine era rfl ?_ | refine erz0 rfl ?_ | refine erz1 rfl ?_)
      try dsimp only [set1, set2, kilP, List.set_cons_zero, List.set_cons_succ, List.getElem?_cons_zero, List.getElem?_cons_succ, List.nil_append, List.cons_append, Option.toList_some, Option.toList_none]
      rw [nI_1]
      refine (ih (i + 1) _ _ (hb'.psh _) (by omega)).im (fun v M1 q => ⟨q.1, ?_⟩)
      rw [q.2, up_up]
/-- how far houses are apart by streets -/
def mesF (mi f : Nat → Int32) : Nat → Int32 := ms4 7 (ms2 7 (ms1 mi 49 f))
theorem e7_measure {ad : Nat → Nat} {M : Mm} {b : Nat} {s : Ss} (hb : aSs M b s) : EvM ad 2 (iX7_measure ad) [.ref b] M (fun v' M' => v' = none ∧ M' = up M (b + 2) (.inl (0, 49, .inl (mesF s.mi s.sh)))) := by
  have h2 := hb.2.2.1
  refine ⟨Nat.le_of_ble_eq_true rfl, ?_⟩
  show Ev ad _ (rX7_measure ad) (0, [some (.ref b), none, none], [], M) _
  repeat (refine ng 2 rfl ?_; first | refine es rfl rfl rfl ?_ | refine eg rfl (by assumption) rfl ?_ | refine ean rfl (by assumption) (by assumption) rfl ?_ | refine eal rfl (by assumption) (by assumption) rfl ?_ | refine eri rfl ?_ | refine erv rfl ?_ | refine erl rfl ?_ | refine era rfl ?_ | refine erz0 rfl ?_ | refine erz1 rfl ?_)
  try dsimp only [set1, set2, kilP, List.set_cons_zero, List.set_cons_succ, List.getElem?_cons_zero, List.getElem?_cons_succ, List.nil_append, List.cons_append, Option.toList_some, Option.toList_none]
  refine e7_ms1 (s := s) 49 0 M _ _ hb rfl (fun L1 => ?_)
  repeat (refine ng 45 rfl ?_; first | refine es rfl rfl rfl ?_ | refine eg rfl (by assumption) rfl ?_ | refine ean rfl (by assumption) (by assumption) rfl ?_ | refine eal rfl (by assumption) (by assumption) rfl ?_ | refine eri rfl ?_ | refine erv rfl ?_ | refine erl rfl ?_ | refine era rfl ?_ | refine erz0 rfl ?_ | refine erz1 rfl ?_)
  try dsimp only [set1, set2, kilP, List.set_cons_zero, List.set_cons_succ, List.getElem?_cons_zero, List.getElem?_cons_succ, List.nil_append, List.cons_append, Option.toList_some, Option.toList_none]
  refine e7_ms2 (s := (s.n, s.mi, ms1 s.mi 49 s.sh, s.ne)) 7 0 _ _ _ (hb.psh _) rfl (fun L1 => ?_)
  rw [up_up]
  repeat (refine ng 71 rfl ?_; first | refine es rfl rfl rfl ?_ | refine eg rfl (by assumption) rfl ?_ | refine ean rfl (by assumption) (by assumption) rfl ?_ | refine eal rfl (by assumption) (by assumption) rfl ?_ | refine eri rfl ?_ | refine erv rfl ?_ | refine erl rfl ?_ | refine era rfl ?_ | refine erz0 rfl ?_ | refine erz1 rfl ?_)
  try dsimp only [set1, set2, kilP, List.set_cons_zero, List.set_cons_succ, List.getElem?_cons_zero, List.getElem?_cons_succ, List.nil_append, List.cons_append, Option.toList_some, Option.toList_none]
  refine (e7_ms4 (s := (s.n, s.mi, ms2 7 (ms1 s.mi 49 s.sh), s.ne)) 7 0 _ _ (hb.psh _) rfl).im (fun v M1 q => ⟨q.1, ?_⟩)
  rw [q.2, up_up]
  rfl
/-! bits -/
def popc (k : Nat) : Nat := fb_ct0 (fun i => k.testBit i) 7
def bcF (x : Int32) : Int32 :=
  let a := x - ((x.toUInt32 >>> ((1 : Int32).toUInt32 &&& Int32.toUInt32 31)).toInt32 &&& 1431655765)
  let b := (a &&& 858993459) + ((a.toUInt32 >>> ((2 : Int32).toUInt32 &&& Int32.toUInt32 31)).toInt32 &&& 858993459)
  let c := (b + (b.toUInt32 >>> ((4 : Int32).toUInt32 &&& Int32.toUInt32 31)).toInt32) &&& 252645135
  let d := c + (c.toUInt32 >>> ((8 : Int32).toUInt32 &&& Int32.toUInt32 31)).toInt32
  let e := d + (d.toUInt32 >>> ((16 : Int32).toUInt32 &&& Int32.toUInt32 31)).toInt32
  e &&& 63
theorem bcF_pop : ∀ k, k < 128 → bcF (nI k) = nI (popc k) := by decide +kernel
theorem ej_bits {ad : Nat → Nat} {M : Mm} {k : Nat} (hk : k < 128) : Rd ad 0 (iJ6_bitCount_0f7a4 ad) [.int (nI k)] M (some (.int (nI (popc k)))) := by
  rw [← bcF_pop k hk]
  generalize nI k = x
  refine ⟨Nat.le_of_ble_eq_true rfl, ?_⟩
  show Ev ad _ (rJ6_bitCount_0f7a4 ad) (0, [some (.int x)], [], M) _
  repeat (first | refine es rfl rfl rfl ?_ | refine eg rfl (by assumption) rfl ?_ | refine ean rfl (by assumption) (by assumption) rfl ?_ | refine eal rfl (by assumption) (by assumption) rfl ?_ | refine eri rfl ?_ | refine erv rfl ?_ | refine erl rfl ?_ | refine era rfl ?_ | refine erz0 rfl ?_ | refine erz1 rfl ?_)
  try dsimp only [set1, set2, kilP, List.set_cons_zero, List.set_cons_succ, List.getElem?_cons_zero, List.getElem?_cons_succ, List.nil_append, List.cons_append, Option.toList_some, Option.toList_none]
  exact ⟨rfl, rfl⟩
theorem e3_shutCount {ad : Nat → Nat} {M : Mm} {b : Nat} {f : Nat → Int32} (hb : aNw M b f) {k : Nat} (hk : k < 128) (ek : f 7 = nI k) : Rd ad 1 (iX3_shutCount ad) [.ref b] M (some (.int (nI (popc k)))) := by
  obtain ⟨h0, h1⟩ := hb
  have h7 : 7 < 16 := by omega
  refine ⟨Nat.le_of_ble_eq_true rfl, ?_⟩
  show Ev ad _ (rX3_shutCount ad) (0, [some (.ref b)], [], M) _
  repeat (first | refine es rfl rfl rfl ?_ | refine eg rfl (by assumption) rfl ?_ | refine ean rfl (by assumption) (by assumption) rfl ?_ | refine eal rfl (by assumption) (by assumption) rfl ?_ | refine eri rfl ?_ | refine erv rfl ?_ | refine erl rfl ?_ | refine era rfl ?_ | refine erz0 rfl ?_ | refine erz1 rfl ?_)
  try dsimp only [set1, set2, kilP, List.set_cons_zero, List.set_cons_succ, List.getElem?_cons_zero, List.getElem?_cons_succ, List.nil_append, List.cons_append, Option.toList_some, Option.toList_none]
  rw [ek]
  refine ecsr rfl rfl rfl rfl rfl rfl (ej_bits hk) (by first | rfl | exact Nat.blt_eq.mpr (by omega)) rfl ?_
  repeat (first | refine es rfl rfl rfl ?_ | refine eg rfl (by assumption) rfl ?_ | refine ean rfl (by assumption) (by assumption) rfl ?_ | refine eal rfl (by assumption) (by assumption) rfl ?_ | refine eri rfl ?_ | refine erv rfl ?_ | refine erl rfl ?_ | refine era rfl ?_ | refine erz0 rfl ?_ | refine erz1 rfl ?_)
  try dsimp only [set1, set2, kilP, List.set_cons_zero, List.set_cons_succ, List.getElem?_cons_zero, List.getElem?_cons_succ, List.nil_append, List.cons_append, Option.toList_some, Option.toList_none]
  exact ⟨rfl, rfl⟩
/-! where to stand -/
/-- the houses that are near to h, as bits -/
def nrF (sh : Nat → Int32) (z : Int32) (h : Nat) : Nat → Int32
  | 0 => 0
  | g + 1 => if ¬ sh (h * 7 + g) = -2 ∧ sh (h * 7 + g) ≤ z then nrF sh z h g ||| ((1 : Int32) <<< (nI g &&& 31)) else nrF sh z h g
theorem e7_near_in {ad : Nat → Nat} {b N h : Nat} (hN : N ≤ 7) (hh : h < N) {z : Int32} {s : Ss} : ∀ (n g : Nat) (M : Mm) (L5 : Option Value) (P : Option Value → Mm → Prop), aSs M b (s.n, s.mi, s.sh, upd s.ne h (nrF s.sh z h g)) → g + n = N → (∀ L4 L5, Ev ad 1 (rX7_findNear ad) (64, [some (.ref b), some (.int (nI N)), some (.int z), some (.int (nI h)), L4, L5], [], up M (b + 3) (.inl (0, 7, .inl (upd s.ne h (nrF s.sh z h N))))) P) → Ev ad 1 (rX7_findNear ad) (17, [some (.ref b), some (.int (nI N)), some (.int z), some (.int (nI h)), some (.int (nI g)), L5], [], M) P := by
  intro n
  induction n with
  | zero =>
    intro g M L5 P hb hn hk
    obtain ⟨h0, h1, h2, h3⟩ := hb
    have e9 : g = N := by omega
    repeat (first | refine es rfl rfl rfl ?_ | refine eg rfl (by assumption) rfl ?_ | refine ean rfl (by assumption) (by assumption) rfl ?_ | refine eal rfl (by assumption) (by assumption) rfl ?_ | refine eri rfl ?_ | refine erv rfl ?_ | refine erl rfl ?_ | refine era rfl ?_ | refine erz0 rfl ?_ | refine erz1 rfl ?_)
    try dsimp only [set1, set2, kilP, List.set_cons_zero, List.set_cons_succ, List.getElem?_cons_zero, List.getElem?_cons_succ, List.nil_append, List.cons_append, Option.toList_some, Option.toList_none]
    refine ei _ rfl rfl (fun c => ?_) (fun c => ?_)
    · have h9 := hk (some (.int (nI g))) L5
      have h3' : M.1 (b + 3) = ints 7 (upd s.ne h (nrF s.sh z h N)) := by rw [e9] at h3; exact h3
      rw [up_id h3'] at h9
      exact h9
    · exact absurd (nI_le (by omega) (by omega)) c
  | succ n ih =>
    intro g M L5 P hb hn hk
    have hb' := hb
    obtain ⟨h0, h1, h2, h3⟩ := hb
    have hg : g < 7 := by omega
    have hh7 : h < 7 := by omega
    have ih9 := fun L5 => ih (g + 1) (up M (b + 3) (.inl (0, 7, .inl (upd s.ne h (nrF s.sh z h (g + 1)))))) L5 P (hb'.pne _) (by omega) (fun L4 L5 => by rw [up_up]; exact hk L4 L5)
    rw [nrF] at ih9
    repeat (first | refine es rfl rfl rfl ?_ | refine eg rfl (by assumption) rfl ?_ | refine ean rfl (by assumption) (by assumption) rfl ?_ | refine eal rfl (by assumption) (by assumption) rfl ?_ | refine eri rfl ?_ | refine erv rfl ?_ | refine erl rfl ?_ | refine era rfl ?_ | refine erz0 rfl ?_ | refine erz1 rfl ?_)
    try dsimp only [set1, set2, kilP, List.set_cons_zero, List.set_cons_succ, List.getElem?_cons_zero, List.getElem?_cons_succ, List.nil_append, List.cons_append, Option.toList_some, Option.toList_none]
    refine ei _ rfl rfl (fun c => ?_) (fun c => ?_)
    · exact absurd c (nI_ge (by omega) (by omega))
    · repeat (first | refine es rfl rfl rfl ?_ | refine eg rfl (by assumption) rfl ?_ | refine ean rfl (by assumption) (by assumption) rfl ?_ | refine eal rfl (by assumption) (by assumption) rfl ?_ | refine eri rfl ?_ | refine erv rfl ?_ | refine erl rfl ?_ | refine era rfl ?_ | refine erz0 rfl ?_ | refine erz1 rfl ?_)
      try dsimp only [set1, set2, kilP, List.set_cons_zero, List.set_cons_succ, List.getElem?_cons_zero, List.getElem?_cons_succ, List.nil_append, List.cons_append, Option.toList_some, Option.toList_none]
      refine ecr rfl rfl (by assumption) rfl rfl rfl (e7_apart hb' hh7 hg) (by first | rfl | exact Nat.blt_eq.mpr (by omega)) rfl ?_
      repeat (first | refine es rfl rfl rfl ?_ | refine eg rfl (by assumption) rfl ?_ | refine ean rfl (by assumption) (by assumption) rfl ?_ | refine eal rfl (by assumption) (by assumption) rfl ?_ | refine eri rfl ?_ | refine erv rfl ?_ | refine erl rfl ?_ | refine era rfl ?_ | refine erz0 rfl ?_ | refine erz1 rfl ?_)
      try dsimp only [set1, set2, kilP, List.set_cons_zero, List.set_cons_succ, List.getElem?_cons_zero, List.getElem?_cons_succ, List.nil_append, List.cons_append, Option.toList_some, Option.toList_none]
      refine ei _ rfl rfl (fun c1 => ?_) (fun c1 => ?_)
      · rw [if_neg (fun q => q.1 c1), up_id h3] at ih9
        repeat (refine ng 17 rfl ?_; first | refine es rfl rfl rfl ?_ | refine eg rfl (by assumption) rfl ?_ | refine ean rfl (by assumption) (by assumption) rfl ?_ | refine eal rfl (by assumption) (by assumption) rfl ?_ | refine eri rfl ?_ | refine erv rfl ?_ | refine erl rfl ?_ | refine era rfl ?_ | refine erz0 rfl ?_ | refine erz1 rfl ?_)
        try dsimp only [set1, set2, kilP, List.set_cons_zero, List.set_cons_succ, List.getElem?_cons_zero, List.getElem?_cons_succ, List.nil_append, List.cons_append, Option.toList_some, Option.toList_none]
        rw [nI_1]
        exact ih9 _
      · repeat (first | refine es rfl rfl rfl ?_ | refine eg rfl (by assumption) rfl ?_ | refine ean rfl (by assumption) (by assumption) rfl ?_ | refine eal rfl (by assumption) (by assumption) rfl ?_ | refine eri rfl ?_ | refine erv rfl ?_ | refine erl rfl ?_ | refine era rfl ?_ | refine erz0 rfl ?_ | refine erz1 rfl ?_)
        try dsimp only [set1, set2, kilP, List.set_cons_zero, List.set_cons_succ, List.getElem?_cons_zero, List.getElem?_cons_succ, List.nil_append, List.cons_append, Option.toList_some, Option.toList_none]
        refine ei _ rfl rfl (fun c2 => ?_) (fun c2 => ?_)
        · rw [if_neg (fun q => absurd q.2 (Int32.not_le.mpr c2)), up_id h3] at ih9
          repeat (refine ng 17 rfl ?_; first | refine es rfl rfl rfl ?_ | refine eg rfl (by assumption) rfl ?_ | refine ean rfl (by assumption) (by assumption) rfl ?_ | refine eal rfl (by assumption) (by assumption) rfl ?_ | refine eri rfl ?_ | refine erv rfl ?_ | refine erl rfl ?_ | refine era rfl ?_ | refine erz0 rfl ?_ | refine erz1 rfl ?_)
          try dsimp only [set1, set2, kilP, List.set_cons_zero, List.set_cons_succ, List.getElem?_cons_zero, List.getElem?_cons_succ, List.nil_append, List.cons_append, Option.toList_some, Option.toList_none]
          rw [nI_1]
          exact ih9 _
        · rw [if_pos ⟨c1, Int32.not_lt.mp c2⟩] at ih9
          repeat (first | refine es rfl rfl rfl ?_ | refine eg rfl (by assumption) rfl ?_ | refine ean rfl (by assumption) (by assumption) rfl ?_ | refine eal rfl (by assumption) (by assumption) rfl ?_ | refine eri rfl ?_ | refine erv rfl ?_ | refine erl rfl ?_ | refine era rfl ?_ | refine erz0 rfl ?_ | refine erz1 rfl ?_)
          try dsimp only [set1, set2, kilP, List.set_cons_zero, List.set_cons_succ, List.getElem?_cons_zero, List.getElem?_cons_succ, List.nil_append, List.cons_append, Option.toList_some, Option.toList_none]
          refine et rfl h3 hh7 rfl ?_
          repeat (refine ng 17 rfl ?_; first | refine es rfl rfl rfl ?_ | refine eg rfl (by assumption) rfl ?_ | refine ean rfl (by assumption) (by assumption) rfl ?_ | refine eal rfl (by assumption) (by assumption) rfl ?_ | refine eri rfl ?_ | refine erv rfl ?_ | refine erl rfl ?_ | refine era rfl ?_ | refine erz0 rfl ?_ | refine erz1 rfl ?_)
          try dsimp only [set1, set2, kilP, List.set_cons_zero, List.set_cons_succ, List.getElem?_cons_zero, List.getElem?_cons_succ, List.nil_append, List.cons_append, Option.toList_some, Option.toList_none]
          rw [nI_1]
          have e8 : upd (upd s.ne h (nrF s.sh z h g)) h (upd s.ne h (nrF s.sh z h g) h ||| ((1 : Int32) <<< (nI g &&& 31))) = upd s.ne h (nrF s.sh z h g ||| ((1 : Int32) <<< (nI g &&& 31))) := by
            funext q
            by_cases e : q = h
            · rw [e, pk_us, pk_us, pk_us]
            · rw [pk_un e, pk_un e, pk_un e]
          have h10 := ih9 (some (.int (s.sh (h * 7 + g))))
          rw [← e8] at h10
          exact h10
theorem e7_near {ad : Nat → Nat} {b N : Nat} (hN : N ≤ 7) {z : Int32} {s : Ss} : ∀ (n h : Nat) (M : Mm) (ne : Nat → Int32) (L4 L5 : Option Value), aSs M b (s.n, s.mi, s.sh, ne) → h + n = N → (∀ j, j < h → ne j = nrF s.sh z j N) → Ev ad 1 (rX7_findNear ad) (2, [some (.ref b), some (.int (nI N)), some (.int z), some (.int (nI h)), L4, L5], [], M) (fun v' M' => v' = none ∧ ∃ ne', (∀ j, j < N → ne' j = nrF s.sh z j N) ∧ M' = up M (b + 3) (.inl (0, 7, .inl ne'))) := by
  intro n
  induction n with
  | zero =>
    intro h M ne L4 L5 hb hn hz
    obtain ⟨h0, h1, h2, h3⟩ := hb
    repeat (first | refine es rfl rfl rfl ?_ | refine eg rfl (by assumption) rfl ?_ | refine ean rfl (by assumption) (by assumption) rfl ?_ | refine eal rfl (by assumption) (by assumption) rfl ?_ | refine eri rfl ?_ | refine erv rfl ?_ | refine erl rfl ?_ | refine era rfl ?_ | refine erz0 rfl ?_ | refine erz1 rfl ?_)
    try dsimp only [set1, set2, kilP, List.set_cons_zero, List.set_cons_succ, List.getElem?_cons_zero, List.getElem?_cons_succ, List.nil_append, List.cons_append, Option.toList_some, Option.toList_none]
    refine ei _ rfl rfl (fun c => ?_) (fun c => ?_)
    · repeat (first | refine es rfl rfl rfl ?_ | refine eg rfl (by assumption) rfl ?_ | refine ean rfl (by assumption) (by assumption) rfl ?_ | refine eal rfl (by assumption) (by assumption) rfl ?_ | refine eri rfl ?_ | refine erv rfl ?_ | refine erl rfl ?_ | refine era rfl ?_ | refine erz0 rfl ?_ | refine erz1 rfl ?_)
      try dsimp only [set1, set2, kilP, List.set_cons_zero, List.set_cons_succ, List.getElem?_cons_zero, List.getElem?_cons_succ, List.nil_append, List.cons_append, Option.toList_some, Option.toList_none]
      exact ⟨rfl, ne, fun j hj => hz j (by omega), (up_id h3).symm⟩
    · exact absurd (nI_le (by omega) (by omega)) c
  | succ n ih =>
    intro h M ne L4 L5 hb hn hz
    have hb' := hb
    obtain ⟨h0, h1, h2, h3⟩ := hb
    have hh7 : h < 7 := by omega
    repeat (first | refine es rfl rfl rfl ?_ | refine eg rfl (by assumption) rfl ?_ | refine ean rfl (by assumption) (by assumption) rfl ?_ | refine eal rfl (by assumption) (by assumption) rfl ?_ | refine eri rfl ?_ | refine erv rfl ?_ | refine erl rfl ?_ | refine era rfl ?_ | refine erz0 rfl ?_ | refine erz1 rfl ?_)
    try dsimp only [set1, set2, kilP, List.set_cons_zero, List.set_cons_succ, List.getElem?_cons_zero, List.getElem?_cons_succ, List.nil_append, List.cons_append, Option.toList_some, Option.toList_none]
    refine ei _ rfl rfl (fun c => ?_) (fun c => ?_)
    · exact absurd c (nI_ge (by omega) (by omega))
    · repeat (first | refine es rfl rfl rfl ?_ | refine eg rfl (by assumption) rfl ?_ | refine ean rfl (by assumption) (by assumption) rfl ?_ | refine eal rfl (by assumption) (by assumption) rfl ?_ | refine eri rfl ?_ | refine erv rfl ?_ | refine erl rfl ?_ | refine era rfl ?_ | refine erz0 rfl ?_ | refine erz1 rfl ?_)
      try dsimp only [set1, set2, kilP, List.set_cons_zero, List.set_cons_succ, List.getElem?_cons_zero, List.getElem?_cons_succ, List.nil_append, List.cons_append, Option.toList_some, Option.toList_none]
      refine et rfl h3 hh7 rfl ?_
      repeat (refine ng 17 rfl ?_; first | refine es rfl rfl rfl ?_ | refine eg rfl (by assumption) rfl ?_ | refine ean rfl (by assumption) (by assumption) rfl ?_ | refine eal rfl (by assumption) (by assumption) rfl ?_ | refine eri rfl ?_ | refine erv rfl ?_ | refine erl rfl ?_ | refine era rfl ?_ | refine erz0 rfl ?_ | refine erz1 rfl ?_)
      try dsimp only [set1, set2, kilP, List.set_cons_zero, List.set_cons_succ, List.getElem?_cons_zero, List.getElem?_cons_succ, List.nil_append, List.cons_append, Option.toList_some, Option.toList_none]
      refine e7_near_in hN (by omega) (s := (s.n, s.mi, s.sh, ne)) N 0 _ _ _ (hb'.pne _) (by omega) (fun L4 L5 => ?_)
      repeat (refine ng 2 rfl ?_; first | refine es rfl rfl rfl ?_ | refine eg rfl (by assumption) rfl ?_ | refine ean rfl (by assumption) (by assumption) rfl ?_ | refine eal rfl (by assumption) (by assumption) rfl ?_ | refine eri rfl ?_ | refine erv rfl ?_ | refine erl rfl ?_ | refine era rfl ?_ | refine erz0 rfl ?_ | refine erz1 rfl ?_)
      try dsimp only [set1, set2, kilP, List.set_cons_zero, List.set_cons_succ, List.getElem?_cons_zero, List.getElem?_cons_succ, List.nil_append, List.cons_append, Option.toList_some, Option.toList_none]
      rw [nI_1]
      have hb2 := (hb'.pne (upd ne h 0)).pne (upd ne h (nrF s.sh z h N))
      refine (ih (h + 1) _ _ _ _ hb2 (by omega) (fun j hj => ?_)).im (fun v M1 q => ?_)
      · show upd ne h (nrF s.sh z h N) j = _
        by_cases e : j = h
        · rw [e, pk_us]
        · rw [pk_un e]; exact hz j (by omega)
      · obtain ⟨q1, ne', q2, q3⟩ := q
        exact ⟨q1, ne', q2, by rw [q3, up_up, up_up]⟩
theorem e7_findNear {ad : Nat → Nat} {M : Mm} {b N : Nat} (hN : N ≤ 7) {z : Int32} {s : Ss} (hb : aSs M b s) : EvM ad 1 (iX7_findNear ad) [.ref b, .int (nI N), .int z] M (fun v' M' => v' = none ∧ ∃ ne', (∀ j, j < N → ne' j = nrF s.sh z j N) ∧ M' = up M (b + 3) (.inl (0, 7, .inl ne'))) := by
  refine ⟨Nat.le_of_ble_eq_true rfl, ?_⟩
  show Ev ad _ (rX7_findNear ad) (0, [some (.ref b), some (.int (nI N)), some (.int z), none, none, none], [], M) _
  repeat (refine ng 2 rfl ?_; first | refine es rfl rfl rfl ?_ | refine eg rfl (by assumption) rfl ?_ | refine ean rfl (by assumption) (by assumption) rfl ?_ | refine eal rfl (by assumption) (by assumption) rfl ?_ | refine eri rfl ?_ | refine erv rfl ?_ | refine erl rfl ?_ | refine era rfl ?_ | refine erz0 rfl ?_ | refine erz1 rfl ?_)
  try dsimp only [set1, set2, kilP, List.set_cons_zero, List.set_cons_succ, List.getElem?_cons_zero, List.getElem?_cons_succ, List.nil_append, List.cons_append, Option.toList_some, Option.toList_none]
  exact e7_near hN N 0 M s.ne _ _ hb (by omega) (fun j hj => absurd hj (by omega))
/-- what is reached from these houses -/
def rcF (ne : Nat → Int32) (x : Int32) : Nat → Int32
  | 0 => 0
  | h + 1 => if shutI x h = 1 then rcF ne x h ||| ne h else rcF ne x h
theorem e7_reach {ad : Nat → Nat} {M : Mm} {b : Nat} {x : Int32} {s : Ss} (hb : aSs M b s) : ∀ (n h : Nat), h + n = 7 → Ev ad 0 (rX7_reachedFrom ad) (4, [some (.ref b), some (.int x), some (.int (rcF s.ne x h)), some (.int (nI h))], [], M) (fun v' M' => v' = some (.int (rcF s.ne x 7)) ∧ M' = M) := by
  obtain ⟨h0, h1, h2, h3⟩ := hb
  intro n
  induction n with
  | zero =>
    intro h hn
    have e7 : h = 7 := by omega
    repeat (first | refine es rfl rfl rfl ?_ | refine eg rfl (by assumption) rfl ?_ | refine ean rfl (by assumption) (by assumption) rfl ?_ | refine eal rfl (by assumption) (by assumption) rfl ?_ | refine eri rfl ?_ | refine erv rfl ?_ | refine erl rfl ?_ | refine era rfl ?_ | refine erz0 rfl ?_ | refine erz1 rfl ?_)
    try dsimp only [set1, set2, kilP, List.set_cons_zero, List.set_cons_succ, List.getElem?_cons_zero, List.getElem?_cons_succ, List.nil_append, List.cons_append, Option.toList_some, Option.toList_none]
    refine ei _ rfl rfl (fun c => ?_) (fun c => ?_)
    · repeat (first | refine es rfl rfl rfl ?_ | refine eg rfl (by assumption) rfl ?_ | refine ean rfl (by assumption) (by assumption) rfl ?_ | refine eal rfl (by assumption) (by assumption) rfl ?_ | refine eri rfl ?_ | refine erv rfl ?_ | refine erl rfl ?_ | refine era rfl ?_ | refine erz0 rfl ?_ | refine erz1 rfl ?_)
      try dsimp only [set1, set2, kilP, List.set_cons_zero, List.set_cons_succ, List.getElem?_cons_zero, List.getElem?_cons_succ, List.nil_append, List.cons_append, Option.toList_some, Option.toList_none]
      rw [e7]
      exact ⟨rfl, rfl⟩
    · exact absurd (nI_le (a := 7) (by omega) (by omega)) c
  | succ n ih =>
    intro h hn
    have hh7 : h < 7 := by omega
    have h9 := ih (h + 1) (by omega)
    rw [rcF, shutI] at h9
    repeat (first | refine es rfl rfl rfl ?_ | refine eg rfl (by assumption) rfl ?_ | refine ean rfl (by assumption) (by assumption) rfl ?_ | refine eal rfl (by assumption) (by assumption) rfl ?_ | refine eri rfl ?_ | refine erv rfl ?_ | refine erl rfl ?_ | refine era rfl ?_ | refine erz0 rfl ?_ | refine erz1 rfl ?_)
    try dsimp only [set1, set2, kilP, List.set_cons_zero, List.set_cons_succ, List.getElem?_cons_zero, List.getElem?_cons_succ, List.nil_append, List.cons_append, Option.toList_some, Option.toList_none]
    refine ei _ rfl rfl (fun c => ?_) (fun c => ?_)
    · exact absurd c (nI_ge (b := 7) (by omega) (by omega))
    · repeat (first | refine es rfl rfl rfl ?_ | refine eg rfl (by assumption) rfl ?_ | refine ean rfl (by assumption) (by assumption) rfl ?_ | refine eal rfl (by assumption) (by assumption) rfl ?_ | refine eri rfl ?_ | refine erv rfl ?_ | refine erl rfl ?_ | refine era rfl ?_ | refine erz0 rfl ?_ | refine erz1 rfl ?_)
      try dsimp only [set1, set2, kilP, List.set_cons_zero, List.set_cons_succ, List.getElem?_cons_zero, List.getElem?_cons_succ, List.nil_append, List.cons_append, Option.toList_some, Option.toList_none]
      refine ei _ rfl rfl (fun c1 => ?_) (fun c1 => ?_)
      · repeat (refine ng 4 rfl ?_; first | refine es rfl rfl rfl ?_ | refine eg rfl (by assumption) rfl ?_ | refine ean rfl (by assumption) (by assumption) rfl ?_ | refine eal rfl (by assumption) (by assumption) rfl ?_ | refine eri rfl ?_ | refine erv rfl ?_ | refine erl rfl ?_ | refine era rfl ?_ | refine erz0 rfl ?_ | refine erz1 rfl ?_)
        try dsimp only [set1, set2, kilP, List.set_cons_zero, List.set_cons_succ, List.getElem?_cons_zero, List.getElem?_cons_succ, List.nil_append, List.cons_append, Option.toList_some, Option.toList_none]
        rw [nI_1]
        rw [if_neg c1] at h9
        exact h9
      · repeat (refine ng 4 rfl ?_; first | refine es rfl rfl rfl ?_ | refine eg rfl (by assumption) rfl ?_ | refine ean rfl (by assumption) (by assumption) rfl ?_ | refine eal rfl (by assumption) (by assumption) rfl ?_ | refine eri rfl ?_ | refine erv rfl ?_ | refine erl rfl ?_ | refine era rfl ?_ | refine erz0 rfl ?_ | refine erz1 rfl ?_)
        try dsimp only [set1, set2, kilP, List.set_cons_zero, List.set_cons_succ, List.getElem?_cons_zero, List.getElem?_cons_succ, List.nil_append, List.cons_append, Option.toList_some, Option.toList_none]
        rw [nI_1]
        rw [if_pos (Decidable.not_not.mp c1)] at h9
        exact h9
theorem e7_reached {ad : Nat → Nat} {M : Mm} {b : Nat} {x : Int32} {s : Ss} (hb : aSs M b s) : Rd ad 0 (iX7_reachedFrom ad) [.ref b, .int x] M (some (.int (rcF s.ne x 7))) := by
  refine ⟨Nat.le_of_ble_eq_true rfl, ?_⟩
  show Ev ad _ (rX7_reachedFrom ad) (0, [some (.ref b), some (.int x), none, none], [], M) _
  repeat (refine ng 4 rfl ?_; first | refine es rfl rfl rfl ?_ | refine eg rfl (by assumption) rfl ?_ | refine ean rfl (by assumption) (by assumption) rfl ?_ | refine eal rfl (by assumption) (by assumption) rfl ?_ | refine eri rfl ?_ | refine erv rfl ?_ | refine erl rfl ?_ | refine era rfl ?_ | refine erz0 rfl ?_ | refine erz1 rfl ?_)
  try dsimp only [set1, set2, kilP, List.set_cons_zero, List.set_cons_succ, List.getElem?_cons_zero, List.getElem?_cons_succ, List.nil_append, List.cons_append, Option.toList_some, Option.toList_none]
  exact e7_reach hb 7 0 rfl
theorem shutI_bit : ∀ k, k < 128 → ∀ j, j < 7 → (shutI (nI k) j = 1 ↔ k.testBit j = true) := by decide +kernel
theorem shl_1 : ∀ n, n ≤ 7 → ((1 : Int32) <<< (nI n &&& 31)) - 1 = nI (2 ^ n - 1) := by
  intro n hn
  have h : ∀ n, n < 8 → ((1 : Int32) <<< (nI n &&& 31)) - 1 = nI (2 ^ n - 1) := by decide +kernel
  exact h n (by omega)
theorem rcF_cong {ne ne2 : Nat → Int32} {x : Int32} : ∀ n, (∀ j, j < n → shutI x j = 1 → ne j = ne2 j) → rcF ne x n = rcF ne2 x n
  | 0, _ => rfl
  | n + 1, h => by
    rw [rcF, rcF, rcF_cong n (fun j hj => h j (by omega))]
    by_cases e : shutI x n = 1
    · rw [if_pos e, if_pos e, h n (by omega) e]
    · rw [if_neg e, if_neg e]
/-- the fewest of the sets from k on that will do -/
def stdF (ok : Nat → Prop) [DecidablePred ok] : Nat → Nat → Nat → Nat
  | 0, _, best => best
  | n + 1, k, best => stdF ok n (k + 1) (if popc k < popc best ∧ ok k then k else best)
theorem popc_7 (k : Nat) : popc k ≤ 7 := by
  unfold popc
  have h : ∀ (p : Nat → Bool) n, fb_ct0 p n ≤ n := by
    intro p n
    induction n with
    | zero => exact Nat.le_refl _
    | succ n ih => rw [fb_ct0]; split <;> omega
  exact h _ 7
abbrev stOk (sh : Nat → Int32) (z : Int32) (N k : Nat) : Prop := rcF (fun j => nrF sh z j N) (nI k) 7 = nI (2 ^ N - 1)
theorem p2_le {N : Nat} (hN : N ≤ 7) : 2 ^ N ≤ 128 := by
  have : 2 ^ N ≤ 2 ^ 7 := Nat.pow_le_pow_right (by omega) hN
  omega
theorem e7_few_loop {ad : Nat → Nat} {M : Mm} {b N : Nat} (hN : N ≤ 7) {z : Int32} {s : Ss} (hb : aSs M b s) {sh : Nat → Int32} (hne : ∀ j, j < N → s.ne j = nrF sh z j N) : ∀ (n k best : Nat), 1 ≤ k → k + n = max 1 (2 ^ N - 1) → best < 128 → Ev ad 2 (rX7_fewestStands ad) (18, [some (.ref b), some (.int (nI N)), some (.int z), some (.int (nI (2 ^ N - 1))), some (.int (nI best)), some (.int (nI k))], [], M) (fun v' M' => v' = some (.int (nI (stdF (stOk sh z N) n k best))) ∧ M' = M) := by
  have hb' := hb
  obtain ⟨h0, h1, h2, h3⟩ := hb
  have h128 := p2_le hN
  intro n
  induction n with
  | zero =>
    intro k best h1k hn hbest
    repeat (first | refine es rfl rfl rfl ?_ | refine eg rfl (by assumption) rfl ?_ | refine ean rfl (by assumption) (by assumption) rfl ?_ | refine eal rfl (by assumption) (by assumption) rfl ?_ | refine eri rfl ?_ | refine erv rfl ?_ | refine erl rfl ?_ | refine era rfl ?_ | refine erz0 rfl ?_ | refine erz1 rfl ?_)
    try dsimp only [set1, set2, kilP, List.set_cons_zero, List.set_cons_succ, List.getElem?_cons_zero, List.getElem?_cons_succ, List.nil_append, List.cons_append, Option.toList_some, Option.toList_none]
    refine ei _ rfl rfl (fun c => ?_) (fun c => ?_)
    · repeat (first | refine es rfl rfl rfl ?_ | refine eg rfl (by assumption) rfl ?_ | refine ean rfl (by assumption) (by assumption) rfl ?_ | refine eal rfl (by assumption) (by assumption) rfl ?_ | refine eri rfl ?_ | refine erv rfl ?_ | refine erl rfl ?_ | refine era rfl ?_ | refine erz0 rfl ?_ | refine erz1 rfl ?_)
      try dsimp only [set1, set2, kilP, List.set_cons_zero, List.set_cons_succ, List.getElem?_cons_zero, List.getElem?_cons_succ, List.nil_append, List.cons_append, Option.toList_some, Option.toList_none]
      exact ⟨rfl, rfl⟩
    · exact absurd (nI_le (by omega) (by omega)) c
  | succ n ih =>
    intro k best h1k hn hbest
    have hk : k < 2 ^ N - 1 := by omega
    have hk128 : k < 128 := by omega
    have p1 := popc_7 k
    have p2 := popc_7 best
    have hrc : rcF s.ne (nI k) 7 = rcF (fun j => nrF sh z j N) (nI k) 7 := by
      refine rcF_cong 7 (fun j hj hs => ?_)
      refine hne j ?_
      have ht := (shutI_bit k hk128 j hj).mp hs
      rcases Nat.lt_or_ge j N with q | q
      · exact q
      · exfalso
        have h5 : k < 2 ^ j := Nat.lt_of_lt_of_le (by omega) (Nat.pow_le_pow_right (by omega) q)
        rw [Nat.testBit_lt_two_pow h5] at ht
        cases ht
    repeat (first | refine es rfl rfl rfl ?_ | refine eg rfl (by assumption) rfl ?_ | refine ean rfl (by assumption) (by assumption) rfl ?_ | refine eal rfl (by assumption) (by assumption) rfl ?_ | refine eri rfl ?_ | refine erv rfl ?_ | refine erl rfl ?_ | refine era rfl ?_ | refine erz0 rfl ?_ | refine erz1 rfl ?_)
    try dsimp only [set1, set2, kilP, List.set_cons_zero, List.set_cons_succ, List.getElem?_cons_zero, List.getElem?_cons_succ, List.nil_append, List.cons_append, Option.toList_some, Option.toList_none]
    refine ei _ rfl rfl (fun c => ?_) (fun c => ?_)
    · exact absurd c (nI_ge (by omega) (by omega))
    · repeat (first | refine es rfl rfl rfl ?_ | refine eg rfl (by assumption) rfl ?_ | refine ean rfl (by assumption) (by assumption) rfl ?_ | refine eal rfl (by assumption) (by assumption) rfl ?_ | refine eri rfl ?_ | refine erv rfl ?_ | refine erl rfl ?_ | refine era rfl ?_ | refine erz0 rfl ?_ | refine erz1 rfl ?_)
      try dsimp only [set1, set2, kilP, List.set_cons_zero, List.set_cons_succ, List.getElem?_cons_zero, List.getElem?_cons_succ, List.nil_append, List.cons_append, Option.toList_some, Option.toList_none]
      refine ecsr rfl rfl rfl rfl rfl rfl (ej_bits hk128) (by first | rfl | exact Nat.blt_eq.mpr (by omega)) rfl ?_
      repeat (first | refine es rfl rfl rfl ?_ | refine eg rfl (by assumption) rfl ?_ | refine ean rfl (by assumption) (by assumption) rfl ?_ | refine eal rfl (by assumption) (by assumption) rfl ?_ | refine eri rfl ?_ | refine erv rfl ?_ | refine erl rfl ?_ | refine era rfl ?_ | refine erz0 rfl ?_ | refine erz1 rfl ?_)
      try dsimp only [set1, set2, kilP, List.set_cons_zero, List.set_cons_succ, List.getElem?_cons_zero, List.getElem?_cons_succ, List.nil_append, List.cons_append, Option.toList_some, Option.toList_none]
      refine ecsr rfl rfl rfl rfl rfl rfl (ej_bits hbest) (by first | rfl | exact Nat.blt_eq.mpr (by omega)) rfl ?_
      repeat (first | refine es rfl rfl rfl ?_ | refine eg rfl (by assumption) rfl ?_ | refine ean rfl (by assumption) (by assumption) rfl ?_ | refine eal rfl (by assumption) (by assumption) rfl ?_ | refine eri rfl ?_ | refine erv rfl ?_ | refine erl rfl ?_ | refine era rfl ?_ | refine erz0 rfl ?_ | refine erz1 rfl ?_)
      try dsimp only [set1, set2, kilP, List.set_cons_zero, List.set_cons_succ, List.getElem?_cons_zero, List.getElem?_cons_succ, List.nil_append, List.cons_append, Option.toList_some, Option.toList_none]
      refine ei _ rfl rfl (fun c1 => ?_) (fun c1 => ?_)
      · repeat (refine ng 18 rfl ?_; first | refine es rfl rfl rfl ?_ | refine eg rfl (by assumption) rfl ?_ | refine ean rfl (by assumption) (by assumption) rfl ?_ | refine eal rfl (by assumption) (by assumption) rfl ?_ | refine eri rfl ?_ | refine erv rfl ?_ | refine erl rfl ?_ | refine era rfl ?_ | refine erz0 rfl ?_ | refine erz1 rfl ?_)
        try dsimp only [set1, set2, kilP, List.set_cons_zero, List.set_cons_succ, List.getElem?_cons_zero, List.getElem?_cons_succ, List.nil_append, List.cons_append, Option.toList_some, Option.toList_none]
        rw [nI_1, stdF, if_neg (fun q => absurd ((nI_leI (by omega) (by omega)).mp c1) (by omega))]
        exact ih (k + 1) best (by omega) (by omega) hbest
      · have c1' : popc k < popc best := by
          rcases Nat.lt_or_ge (popc k) (popc best) with q | q
          · exact q
          · exact absurd (nI_le q (by omega)) c1
        repeat (first | refine es rfl rfl rfl ?_ | refine eg rfl (by assumption) rfl ?_ | refine ean rfl (by assumption) (by assumption) rfl ?_ | refine eal rfl (by assumption) (by assumption) rfl ?_ | refine eri rfl ?_ | refine erv rfl ?_ | refine erl rfl ?_ | refine era rfl ?_ | refine erz0 rfl ?_ | refine erz1 rfl ?_)
        try dsimp only [set1, set2, kilP, List.set_cons_zero, List.set_cons_succ, List.getElem?_cons_zero, List.getElem?_cons_succ, List.nil_append, List.cons_append, Option.toList_some, Option.toList_none]
        refine ecr rfl rfl (by assumption) rfl rfl rfl (e7_reached hb') (by first | rfl | exact Nat.blt_eq.mpr (by omega)) rfl ?_
        repeat (first | refine es rfl rfl rfl ?_ | refine eg rfl (by assumption) rfl ?_ | refine ean rfl (by assumption) (by assumption) rfl ?_ | refine eal rfl (by assumption) (by assumption) rfl ?_ | refine eri rfl ?_ | refine erv rfl ?_ | refine erl rfl ?_ | refine era rfl ?_ | refine erz0 rfl ?_ | refine erz1 rfl ?_)
        try dsimp only [set1, set2, kilP, List.set_cons_zero, List.set_cons_succ, List.getElem?_cons_zero, List.getElem?_cons_succ, List.nil_append, List.cons_append, Option.toList_some, Option.toList_none]
        refine ei _ rfl rfl (fun c2 => ?_) (fun c2 => ?_)
        · repeat (refine ng 18 rfl ?_; first | refine es rfl rfl rfl ?_ | refine eg rfl (by assumption) rfl ?_ | refine ean rfl (by assumption) (by assumption) rfl ?_ | refine eal rfl (by assumption) (by assumption) rfl ?_ | refine eri rfl ?_ | refine erv rfl ?_ | refine erl rfl ?_ | refine era rfl ?_ | refine erz0 rfl ?_ | refine erz1 rfl ?_)
          try dsimp only [set1, set2, kilP, List.set_cons_zero, List.set_cons_succ, List.getElem?_cons_zero, List.getElem?_cons_succ, List.nil_append, List.cons_append, Option.toList_some, Option.toList_none]
          rw [nI_1, stdF, if_neg (fun q => c2 (hrc.trans q.2))]
          exact ih (k + 1) best (by omega) (by omega) hbest
        · repeat (refine ng 18 rfl ?_; first | refine es rfl rfl rfl ?_ | refine eg rfl (by assumption) rfl ?_ | refine ean rfl (by assumption) (by assumption) rfl ?_ | refine eal rfl (by assumption) (by assumption) rfl ?_ | refine eri rfl ?_ | refine erv rfl ?_ | refine erl rfl ?_ | refine era rfl ?_ | refine erz0 rfl ?_ | refine erz1 rfl ?_)
          try dsimp only [set1, set2, kilP, List.set_cons_zero, List.set_cons_succ, List.getElem?_cons_zero, List.getElem?_cons_succ, List.nil_append, List.cons_append, Option.toList_some, Option.toList_none]
          rw [nI_1, stdF, if_pos ⟨c1', hrc.symm.trans (Decidable.not_not.mp c2)⟩]
          exact ih (k + 1) k (by omega) (by omega) hk128
theorem e7_few {ad : Nat → Nat} {M : Mm} {b N : Nat} (hN : N ≤ 7) {z : Int32} {s : Ss} (hb : aSs M b s) : EvM ad 2 (iX7_fewestStands ad) [.ref b, .int (nI N), .int z] M (fun v' M' => v' = some (.int (nI (stdF (stOk s.sh z N) (max 1 (2 ^ N - 1) - 1) 1 (2 ^ N - 1)))) ∧ ∃ ne', M' = up M (b + 3) (.inl (0, 7, .inl ne'))) := by
  have h128 := p2_le hN
  have h0 := hb.1
  refine ⟨Nat.le_of_ble_eq_true rfl, ?_⟩
  show Ev ad _ (rX7_fewestStands ad) (0, [some (.ref b), some (.int (nI N)), some (.int z), none, none, none], [], M) _
  repeat (first | refine es rfl rfl rfl ?_ | refine eg rfl (by assumption) rfl ?_ | refine ean rfl (by assumption) (by assumption) rfl ?_ | refine eal rfl (by assumption) (by assumption) rfl ?_ | refine eri rfl ?_ | refine erv rfl ?_ | refine erl rfl ?_ | refine era rfl ?_ | refine erz0 rfl ?_ | refine erz1 rfl ?_)
  try dsimp only [set1, set2, kilP, List.set_cons_zero, List.set_cons_succ, List.getElem?_cons_zero, List.getElem?_cons_succ, List.nil_append, List.cons_append, Option.toList_some, Option.toList_none]
  refine ecv rfl rfl (by assumption) rfl rfl rfl (e7_findNear hN hb) (by first | rfl | exact Nat.blt_eq.mpr (by omega)) ?_
  rintro v M1 ⟨rfl, ne', hne, rfl⟩
  try dsimp only [set1, set2, kilP, List.set_cons_zero, List.set_cons_succ, List.getElem?_cons_zero, List.getElem?_cons_succ, List.nil_append, List.cons_append, Option.toList_some, Option.toList_none]
  repeat (refine ng 18 rfl ?_; first | refine es rfl rfl rfl ?_ | refine eg rfl (by assumption) rfl ?_ | refine ean rfl (by assumption) (by assumption) rfl ?_ | refine eal rfl (by assumption) (by assumption) rfl ?_ | refine eri rfl ?_ | refine erv rfl ?_ | refine erl rfl ?_ | refine era rfl ?_ | refine erz0 rfl ?_ | refine erz1 rfl ?_)
  try dsimp only [set1, set2, kilP, List.set_cons_zero, List.set_cons_succ, List.getElem?_cons_zero, List.getElem?_cons_succ, List.nil_append, List.cons_append, Option.toList_some, Option.toList_none]
  rw [shl_1 N hN]
  exact (e7_few_loop hN (hb.pne ne') hne (max 1 (2 ^ N - 1) - 1) 1 (2 ^ N - 1) (Nat.le_refl _) (by omega) (by omega)).im (fun v M1 q => ⟨q.1, ne', q.2⟩)
