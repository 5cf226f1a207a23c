/-! Now: one row of 16 ints -/
def aNw (M : Mm) (b : Nat) (f : Nat → Int32) : Prop := M.1 b = some (.inr (3, [.ref (b + 1)])) ∧ M.1 (b + 1) = some (.inl (0, 16, .inl f))
theorem aNw.kept {M M' : Mm} {b : Nat} {f : Nat → Int32} (h : aNw M b f) (hq : ∀ q, b ≤ q → q < b + 2 → M'.1 q = M.1 q) : aNw M' b f := ⟨(hq b (by omega) (by omega)).trans h.1, (hq (b + 1) (by omega) (by omega)).trans h.2⟩
theorem aNw.put {M : Mm} {b : Nat} {f g : Nat → Int32} (h : aNw M b f) : aNw (up M (b + 1) (.inl (0, 16, .inl g))) b g := ⟨(up_n M _ (by omega)).trans h.1, up_s M _ _⟩
theorem e3_roomOf {ad : Nat → Nat} {M : Mm} {b : Nat} {f : Nat → Int32} (hb : aNw M b f) {k : Nat} (hk : k < 16) : Rd ad 0 (iX3_roomOf ad) [.ref b, .int (nI k)] M (some (.int (f k))) := by
  obtain ⟨h0, h1⟩ := hb
  refine ⟨Nat.le_of_ble_eq_true rfl, ?_⟩
  show Ev ad _ (rX3_roomOf ad) (0, [some (.ref b), some (.int (nI k))], [], M) _
  repeat (first | refine es rfl rfl rfl ?_ | refine eg rfl (by assumption) rfl ?_ | refine ean rfl (by assumption) (by assumption) rfl ?_ | refine eal rfl (by assumption) (by assumption) rfl ?_ | refine eri rfl ?_ | refine erv rfl ?_ | refine erl rfl ?_ | refine era rfl ?_ | refine erz0 rfl ?_ | refine erz1 rfl ?_)
  try dsimp only [set1, set2, kilP, List.set_cons_zero, List.set_cons_succ, List.getElem?_cons_zero, List.getElem?_cons_succ, List.nil_append, List.cons_append, Option.toList_some, Option.toList_none]
  exact ⟨rfl, rfl⟩
theorem e3_placeOf {ad : Nat → Nat} {M : Mm} {b : Nat} {f : Nat → Int32} (hb : aNw M b f) {k : Nat} (hk : k < 4) : Rd ad 0 (iX3_placeOf ad) [.ref b, .int (nI k)] M (some (.int (f (8 + k)))) := by
  obtain ⟨h0, h1⟩ := hb
  have hk2 : 8 + k < 16 := by omega
  refine ⟨Nat.le_of_ble_eq_true rfl, ?_⟩
  show Ev ad _ (rX3_placeOf ad) (0, [some (.ref b), some (.int (nI k))], [], M) _
  repeat (first | refine es rfl rfl rfl ?_ | refine eg rfl (by assumption) rfl ?_ | refine ean rfl (by assumption) (by assumption) rfl ?_ | refine eal rfl (by assumption) (by assumption) rfl ?_ | refine eri rfl ?_ | refine erv rfl ?_ | refine erl rfl ?_ | refine era rfl ?_ | refine erz0 rfl ?_ | refine erz1 rfl ?_)
  try dsimp only [set1, set2, kilP, List.set_cons_zero, List.set_cons_succ, List.getElem?_cons_zero, List.getElem?_cons_succ, List.nil_append, List.cons_append, Option.toList_some, Option.toList_none]
  rw [show (8 : Int32) + nI k = nI (8 + k) from nI_add 8 k]
  repeat (first | refine es rfl rfl rfl ?_ | refine eg rfl (by assumption) rfl ?_ | refine ean rfl (by assumption) (by assumption) rfl ?_ | refine eal rfl (by assumption) (by assumption) rfl ?_ | refine eri rfl ?_ | refine erv rfl ?_ | refine erl rfl ?_ | refine era rfl ?_ | refine erz0 rfl ?_ | refine erz1 rfl ?_)
  try dsimp only [set1, set2, kilP, List.set_cons_zero, List.set_cons_succ, List.getElem?_cons_zero, List.getElem?_cons_succ, List.nil_append, List.cons_append, Option.toList_some, Option.toList_none]
  exact ⟨rfl, rfl⟩
theorem e3_minutesOf {ad : Nat → Nat} {M : Mm} {b : Nat} {f : Nat → Int32} (hb : aNw M b f) {k : Nat} (hk : k < 4) : Rd ad 0 (iX3_minutesOf ad) [.ref b, .int (nI k)] M (some (.int (f (12 + k)))) := by
  obtain ⟨h0, h1⟩ := hb
  have hk2 : 12 + k < 16 := by omega
  refine ⟨Nat.le_of_ble_eq_true rfl, ?_⟩
  show Ev ad _ (rX3_minutesOf ad) (0, [some (.ref b), some (.int (nI k))], [], M) _
  repeat (first | refine es rfl rfl rfl ?_ | refine eg rfl (by assumption) rfl ?_ | refine ean rfl (by assumption) (by assumption) rfl ?_ | refine eal rfl (by assumption) (by assumption) rfl ?_ | refine eri rfl ?_ | refine erv rfl ?_ | refine erl rfl ?_ | refine era rfl ?_ | refine erz0 rfl ?_ | refine erz1 rfl ?_)
  try dsimp only [set1, set2, kilP, List.set_cons_zero, List.set_cons_succ, List.getElem?_cons_zero, List.getElem?_cons_succ, List.nil_append, List.cons_append, Option.toList_some, Option.toList_none]
  rw [show (12 : Int32) + nI k = nI (12 + k) from nI_add 12 k]
  repeat (first | refine es rfl rfl rfl ?_ | refine eg rfl (by assumption) rfl ?_ | refine ean rfl (by assumption) (by assumption) rfl ?_ | refine eal rfl (by assumption) (by assumption) rfl ?_ | refine eri rfl ?_ | refine erv rfl ?_ | refine erl rfl ?_ | refine era rfl ?_ | refine erz0 rfl ?_ | refine erz1 rfl ?_)
  try dsimp only [set1, set2, kilP, List.set_cons_zero, List.set_cons_succ, List.getElem?_cons_zero, List.getElem?_cons_succ, List.nil_append, List.cons_append, Option.toList_some, Option.toList_none]
  exact ⟨rfl, rfl⟩
/-- whose wrong room is of this house: the first from h on -/
def whoF (f : Nat → Int32) (x : Int32) : Nat → Nat → Int32
  | 0, _ => -2
  | n + 1, h => if f h = x then nI h else whoF f x n (h + 1)
theorem e3_who_loop {ad : Nat → Nat} {M : Mm} {b : Nat} {f : Nat → Int32} (hb : aNw M b f) {x : Int32} : ∀ (n h : Nat), h + n = 7 → Ev ad 0 (rX3_whoseRoomIsOf ad) (2, [some (.ref b), some (.int x), some (.int (nI h))], [], M) (fun v' M' => v' = some (.int (whoF f x n h)) ∧ M' = M) := by
  obtain ⟨h0, h1⟩ := hb
  intro n
  induction n with
  | zero =>
    intro h hn
    repeat (first | refine es rfl rfl rfl ?_ | refine eg rfl (by assumption) rfl ?_ | refine ean rfl (by assumption) (by assumption) rfl ?_ | refine eal rfl (by assumption) (by assumption) rfl ?_ | refine eri rfl ?_ | refine erv rfl ?_ | refine erl rfl ?_ | refine era rfl ?_ | refine erz0 rfl ?_ | refine erz1 rfl ?_)
    try dsimp only [set1, set2, kilP, List.set_cons_zero, List.set_cons_succ, List.getElem?_cons_zero, List.getElem?_cons_succ, List.nil_append, List.cons_append, Option.toList_some, Option.toList_none]
    refine ei _ rfl rfl (fun c => ?_) (fun c => ?_)
    · repeat (first | refine es rfl rfl rfl ?_ | refine eg rfl (by assumption) rfl ?_ | refine ean rfl (by assumption) (by assumption) rfl ?_ | refine eal rfl (by assumption) (by assumption) rfl ?_ | refine eri rfl ?_ | refine erv rfl ?_ | refine erl rfl ?_ | refine era rfl ?_ | refine erz0 rfl ?_ | refine erz1 rfl ?_)
      try dsimp only [set1, set2, kilP, List.set_cons_zero, List.set_cons_succ, List.getElem?_cons_zero, List.getElem?_cons_succ, List.nil_append, List.cons_append, Option.toList_some, Option.toList_none]
      exact ⟨rfl, rfl⟩
    · exact absurd (by rw [show (7 : Int32) = nI 7 from rfl]; exact nI_le (by omega) (by omega)) c
  | succ n ih =>
    intro h hn
    have hk : h < 16 := by omega
    repeat (first | refine es rfl rfl rfl ?_ | refine eg rfl (by assumption) rfl ?_ | refine ean rfl (by assumption) (by assumption) rfl ?_ | refine eal rfl (by assumption) (by assumption) rfl ?_ | refine eri rfl ?_ | refine erv rfl ?_ | refine erl rfl ?_ | refine era rfl ?_ | refine erz0 rfl ?_ | refine erz1 rfl ?_)
    try dsimp only [set1, set2, kilP, List.set_cons_zero, List.set_cons_succ, List.getElem?_cons_zero, List.getElem?_cons_succ, List.nil_append, List.cons_append, Option.toList_some, Option.toList_none]
    refine ei _ rfl rfl (fun c => ?_) (fun c => ?_)
    · exact absurd c (by rw [show (7 : Int32) = nI 7 from rfl]; exact nI_ge (by omega) (by omega))
    · repeat (first | refine es rfl rfl rfl ?_ | refine eg rfl (by assumption) rfl ?_ | refine ean rfl (by assumption) (by assumption) rfl ?_ | refine eal rfl (by assumption) (by assumption) rfl ?_ | refine eri rfl ?_ | refine erv rfl ?_ | refine erl rfl ?_ | refine era rfl ?_ | refine erz0 rfl ?_ | refine erz1 rfl ?_)
      try dsimp only [set1, set2, kilP, List.set_cons_zero, List.set_cons_succ, List.getElem?_cons_zero, List.getElem?_cons_succ, List.nil_append, List.cons_append, Option.toList_some, Option.toList_none]
      refine ei _ rfl rfl (fun e => ?_) (fun e => ?_)
      · repeat (refine ng 2 rfl ?_; first | refine es rfl rfl rfl ?_ | refine eg rfl (by assumption) rfl ?_ | refine ean rfl (by assumption) (by assumption) rfl ?_ | refine eal rfl (by assumption) (by assumption) rfl ?_ | refine eri rfl ?_ | refine erv rfl ?_ | refine erl rfl ?_ | refine era rfl ?_ | refine erz0 rfl ?_ | refine erz1 rfl ?_)
        try dsimp only [set1, set2, kilP, List.set_cons_zero, List.set_cons_succ, List.getElem?_cons_zero, List.getElem?_cons_succ, List.nil_append, List.cons_append, Option.toList_some, Option.toList_none]
        rw [nI_1, whoF, if_neg e]
        exact ih (h + 1) (by omega)
      · repeat (first | refine es rfl rfl rfl ?_ | refine eg rfl (by assumption) rfl ?_ | refine ean rfl (by assumption) (by assumption) rfl ?_ | refine eal rfl (by assumption) (by assumption) rfl ?_ | refine eri rfl ?_ | refine erv rfl ?_ | refine erl rfl ?_ | refine era rfl ?_ | refine erz0 rfl ?_ | refine erz1 rfl ?_)
        try dsimp only [set1, set2, kilP, List.set_cons_zero, List.set_cons_succ, List.getElem?_cons_zero, List.getElem?_cons_succ, List.nil_append, List.cons_append, Option.toList_some, Option.toList_none]
        rw [whoF, if_pos (Decidable.not_not.mp e)]
        exact ⟨rfl, rfl⟩
theorem e3_who {ad : Nat → Nat} {M : Mm} {b : Nat} {f : Nat → Int32} (hb : aNw M b f) {x : Int32} : Rd ad 0 (iX3_whoseRoomIsOf ad) [.ref b, .int x] M (some (.int (whoF f x 7 0))) := by
  refine ⟨Nat.le_of_ble_eq_true rfl, ?_⟩
  show Ev ad _ (rX3_whoseRoomIsOf ad) (0, [some (.ref b), some (.int x), none], [], M) _
  repeat (refine ng 2 rfl ?_; first | refine es rfl rfl rfl ?_ | refine eg rfl (by assumption) rfl ?_ | refine ean rfl (by assumption) (by assumption) rfl ?_ | refine eal rfl (by assumption) (by assumption) rfl ?_ | refine eri rfl ?_ | refine erv rfl ?_ | refine erl rfl ?_ | refine era rfl ?_ | refine erz0 rfl ?_ | refine erz1 rfl ?_)
  try dsimp only [set1, set2, kilP, List.set_cons_zero, List.set_cons_succ, List.getElem?_cons_zero, List.getElem?_cons_succ, List.nil_append, List.cons_append, Option.toList_some, Option.toList_none]
  exact e3_who_loop hb 7 0 rfl
