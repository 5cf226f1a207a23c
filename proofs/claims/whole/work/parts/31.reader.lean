/-! Reader: words, wholes, faults -/
theorem esl {ad : Nat → Nat} {d : Nat} {rows : List (Nat × Ins)} {P : Option Value → Mm → Prop} {pc : Nat} {L : Lc} {st : List Value} {M : Mm} {nx a i n : Nat} (hr : rows.find? (fun q => q.1 == pc) = some (pc, pmW (fSlen nx))) (hM : M.1 a = some (.inr (1000 + i, []))) (hn : sLen[i]? = some n) (hc : Nat.ble (csum st) 8 = true) (kk : Ev ad d rows (nx, L, .int (nI n) :: st, M) P) : Ev ad d rows (pc, L, .ref a :: st, M) P := by
  refine ew hr ?_ kk
  simp only [fSlen, hM]
  rw [if_pos ⟨by omega, Nat.ble_eq.mp hc⟩, show 1000 + i - 1000 = i by omega, hn]
theorem esc {ad : Nat → Nat} {d : Nat} {rows : List (Nat × Ins)} {P : Option Value → Mm → Prop} {pc : Nat} {L : Lc} {st : List Value} {M : Mm} {nx a i j : Nat} {bs : List Int32} {x : Int32} (hr : rows.find? (fun q => q.1 == pc) = some (pc, pmW (fSchr nx))) (hM : M.1 a = some (.inr (1000 + i, []))) (hn : sByt[i]? = some bs) (hj : bs[j]? = some x) (hj2 : j < 100) (hc : Nat.ble (csum st) 8 = true) (kk : Ev ad d rows (nx, L, .int x :: st, M) P) : Ev ad d rows (pc, L, .int (nI j) :: .ref a :: st, M) P := by
  refine ew hr ?_ kk
  simp only [fSchr, hM]
  rw [if_pos ⟨by omega, Nat.ble_eq.mp hc, nI_pos (by omega)⟩, show 1000 + i - 1000 = i by omega, hn]
  dsimp only
  rw [nI_clamp (by omega), hj]
/-- the constant texts lie below lo -/
def aSt (ad : Nat → Nat) (lo : Nat) (M : Mm) : Prop := ∀ i, i < 20 → ad i < lo ∧ M.1 (ad i) = some (.inr (1000 + i, []))
theorem aSt.fr {ad : Nat → Nat} {lo b n : Nat} {M M' : Mm} (h : aSt ad lo M) (hF : Fr b n M M') (hb : lo ≤ b) : aSt ad lo M' := fun i hi => ⟨(h i hi).1, (hF.1 _ (Or.inl (by have := (h i hi).1; omega))).trans (h i hi).2⟩
def wlF (w : Int64) (x : Int32) : Int64 := 32 * w + (x - 97 + 1).toInt64
def pkF : List Int32 → Int64 → Int64
  | [], w => w
  | x :: r, w => pkF r (wlF w x)
theorem pk_tab : ∀ i, i < 20 → ∃ bs n, sByt[i]? = some bs ∧ sLen[i]? = some n ∧ n = bs.length ∧ n < 10 ∧ sPak[i]? = some (pkF bs 0) := by
  intro i hi
  match i, hi with
  | 0, _ => exact ⟨_, _, rfl, rfl, by decide, by decide, by decide⟩
  | 1, _ => exact ⟨_, _, rfl, rfl, by decide, by decide, by decide⟩
  | 2, _ => exact ⟨_, _, rfl, rfl, by decide, by decide, by decide⟩
  | 3, _ => exact ⟨_, _, rfl, rfl, by decide, by decide, by decide⟩
  | 4, _ => exact ⟨_, _, rfl, rfl, by decide, by decide, by decide⟩
  | 5, _ => exact ⟨_, _, rfl, rfl, by decide, by decide, by decide⟩
  | 6, _ => exact ⟨_, _, rfl, rfl, by decide, by decide, by decide⟩
  | 7, _ => exact ⟨_, _, rfl, rfl, by decide, by decide, by decide⟩
  | 8, _ => exact ⟨_, _, rfl, rfl, by decide, by decide, by decide⟩
  | 9, _ => exact ⟨_, _, rfl, rfl, by decide, by decide, by decide⟩
  | 10, _ => exact ⟨_, _, rfl, rfl, by decide, by decide, by decide⟩
  | 11, _ => exact ⟨_, _, rfl, rfl, by decide, by decide, by decide⟩
  | 12, _ => exact ⟨_, _, rfl, rfl, by decide, by decide, by decide⟩
  | 13, _ => exact ⟨_, _, rfl, rfl, by decide, by decide, by decide⟩
  | 14, _ => exact ⟨_, _, rfl, rfl, by decide, by decide, by decide⟩
  | 15, _ => exact ⟨_, _, rfl, rfl, by decide, by decide, by decide⟩
  | 16, _ => exact ⟨_, _, rfl, rfl, by decide, by decide, by decide⟩
  | 17, _ => exact ⟨_, _, rfl, rfl, by decide, by decide, by decide⟩
  | 18, _ => exact ⟨_, _, rfl, rfl, by decide, by decide, by decide⟩
  | 19, _ => exact ⟨_, _, rfl, rfl, by decide, by decide, by decide⟩
  | n + 20, h => exact absurd h (by omega)
def sC (i : Nat) : Int64 := sPak.getD i 0
theorem sC_of {i : Nat} {w : Int64} (h : sPak[i]? = some w) : sC i = w := by unfold sC; rw [List.getD_eq_getElem?_getD, h]; rfl
theorem e5_withL {ad : Nat → Nat} {M : Mm} {w : Int64} {x : Int32} : Rd ad 0 (iX5_withLetter ad) [.long w, .int x] M (some (.long (wlF w x))) := by
  refine ⟨Nat.le_of_ble_eq_true rfl, ?_⟩
  show Ev ad _ (rX5_withLetter ad) (0, [some (.long w), none, some (.int x)], [], M) _
  repeat (first | refine es rfl rfl rfl ?_ | refine eg rfl (by assumption) rfl ?_ | refine ean rfl (by assumption) (by assumption) rfl ?_ | refine eal rfl (by assumption) (by assumption) rfl ?_ | refine eri rfl ?_ | refine erv rfl ?_ | refine erl rfl ?_ | refine era rfl ?_ | refine erz0 rfl ?_ | refine erz1 rfl ?_)
  try dsimp only [set1, set2, kilP, List.set_cons_zero, List.set_cons_succ, List.getElem?_cons_zero, List.getElem?_cons_succ, List.nil_append, List.cons_append, Option.toList_some, Option.toList_none]
  exact ⟨rfl, rfl⟩
theorem e5_code_loop {ad : Nat → Nat} {M : Mm} {a i n : Nat} {bs : List Int32} (hM : M.1 a = some (.inr (1000 + i, []))) (hb : sByt[i]? = some bs) (hl : sLen[i]? = some n) (hn : n = bs.length) (hn2 : n < 10) : ∀ (r : List Int32) (k : Nat) (w : Int64), k + r.length = n → bs.drop k = r → Ev ad 1 (rX5_codeOf ad) (4, [some (.ref a), some (.long w), none, some (.int (nI k))], [], M) (fun v' M' => v' = some (.long (pkF r w)) ∧ M' = M) := by
  intro r
  induction r with
  | nil =>
    intro k w hk hd
    have hk' : k = n := hk
    repeat (first | refine es rfl rfl rfl ?_ | refine eg rfl (by assumption) rfl ?_ | refine ean rfl (by assumption) (by assumption) rfl ?_ | refine eal rfl (by assumption) (by assumption) rfl ?_ | refine eri rfl ?_ | refine erv rfl ?_ | refine erl rfl ?_ | refine era rfl ?_ | refine erz0 rfl ?_ | refine erz1 rfl ?_)
    try dsimp only [set1, set2, kilP, List.set_cons_zero, List.set_cons_succ, List.getElem?_cons_zero, List.getElem?_cons_succ, List.nil_append, List.cons_append, Option.toList_some, Option.toList_none]
    refine esl rfl hM hl rfl ?_
    refine ei _ rfl rfl (fun c => ?_) (fun c => ?_)
    · repeat (first | refine es rfl rfl rfl ?_ | refine eg rfl (by assumption) rfl ?_ | refine ean rfl (by assumption) (by assumption) rfl ?_ | refine eal rfl (by assumption) (by assumption) rfl ?_ | refine eri rfl ?_ | refine erv rfl ?_ | refine erl rfl ?_ | refine era rfl ?_ | refine erz0 rfl ?_ | refine erz1 rfl ?_)
      try dsimp only [set1, set2, kilP, List.set_cons_zero, List.set_cons_succ, List.getElem?_cons_zero, List.getElem?_cons_succ, List.nil_append, List.cons_append, Option.toList_some, Option.toList_none]
      exact ⟨rfl, rfl⟩
    · exact absurd (nI_le (by omega) (by omega)) c
  | cons x r ih =>
    intro k w hk hd
    rw [List.length_cons] at hk
    have hx : bs[k]? = some x := by
      have := congrArg List.head? hd
      simpa using this
    repeat (first | refine es rfl rfl rfl ?_ | refine eg rfl (by assumption) rfl ?_ | refine ean rfl (by assumption) (by assumption) rfl ?_ | refine eal rfl (by assumption) (by assumption) rfl ?_ | refine eri rfl ?_ | refine erv rfl ?_ | refine erl rfl ?_ | refine era rfl ?_ | refine erz0 rfl ?_ | refine erz1 rfl ?_)
    try dsimp only [set1, set2, kilP, List.set_cons_zero, List.set_cons_succ, List.getElem?_cons_zero, List.getElem?_cons_succ, List.nil_append, List.cons_append, Option.toList_some, Option.toList_none]
    refine esl rfl hM hl rfl ?_
    refine ei _ rfl rfl (fun c => ?_) (fun c => ?_)
    · exact absurd c (nI_ge (by omega) (by omega))
    · repeat (first | refine es rfl rfl rfl ?_ | refine eg rfl (by assumption) rfl ?_ | refine ean rfl (by assumption) (by assumption) rfl ?_ | refine eal rfl (by assumption) (by assumption) rfl ?_ | refine eri rfl ?_ | refine erv rfl ?_ | refine erl rfl ?_ | refine era rfl ?_ | refine erz0 rfl ?_ | refine erz1 rfl ?_)
      try dsimp only [set1, set2, kilP, List.set_cons_zero, List.set_cons_succ, List.getElem?_cons_zero, List.getElem?_cons_succ, List.nil_append, List.cons_append, Option.toList_some, Option.toList_none]
      refine esc rfl hM hb hx (by omega) rfl ?_
      refine ecsr rfl rfl rfl rfl rfl rfl (e5_withL) (by first | rfl | exact Nat.blt_eq.mpr (by omega)) rfl ?_
      repeat (refine ng 4 rfl ?_; first | refine es rfl rfl rfl ?_ | refine eg rfl (by assumption) rfl ?_ | refine ean rfl (by assumption) (by assumption) rfl ?_ | refine eal rfl (by assumption) (by assumption) rfl ?_ | refine eri rfl ?_ | refine erv rfl ?_ | refine erl rfl ?_ | refine era rfl ?_ | refine erz0 rfl ?_ | refine erz1 rfl ?_)
      try dsimp only [set1, set2, kilP, List.set_cons_zero, List.set_cons_succ, List.getElem?_cons_zero, List.getElem?_cons_succ, List.nil_append, List.cons_append, Option.toList_some, Option.toList_none]
      rw [nI_1]
      exact ih (k + 1) (wlF w x) (by omega) (by rw [← List.drop_drop, hd]; rfl)
theorem e5_codeOf {ad : Nat → Nat} {M : Mm} {a i : Nat} (hi : i < 20) (hM : M.1 a = some (.inr (1000 + i, []))) : Rd ad 1 (iX5_codeOf ad) [.ref a] M (some (.long (sC i))) := by
  obtain ⟨bs, n, h1, h2, h3, h4, h5⟩ := pk_tab i hi
  rw [sC_of h5]
  refine ⟨Nat.le_of_ble_eq_true rfl, ?_⟩
  show Ev ad _ (rX5_codeOf ad) (0, [some (.ref a), none, none, none], [], M) _
  repeat (refine ng 4 rfl ?_; first | refine es rfl rfl rfl ?_ | refine eg rfl (by assumption) rfl ?_ | refine ean rfl (by assumption) (by assumption) rfl ?_ | refine eal rfl (by assumption) (by assumption) rfl ?_ | refine eri rfl ?_ | refine erv rfl ?_ | refine erl rfl ?_ | refine era rfl ?_ | refine erz0 rfl ?_ | refine erz1 rfl ?_)
  try dsimp only [set1, set2, kilP, List.set_cons_zero, List.set_cons_succ, List.getElem?_cons_zero, List.getElem?_cons_succ, List.nil_append, List.cons_append, Option.toList_some, Option.toList_none]
  exact e5_code_loop hM h1 h2 h3 h4 bs 0 0 (by omega) rfl
theorem e13_packed_loop {ad : Nat → Nat} {M : Mm} {a i n : Nat} {bs : List Int32} (hM : M.1 a = some (.inr (1000 + i, []))) (hb : sByt[i]? = some bs) (hl : sLen[i]? = some n) (hn : n = bs.length) (hn2 : n < 10) : ∀ (r : List Int32) (k : Nat) (w : Int64), k + r.length = n → bs.drop k = r → Ev ad 0 (rX13_packed ad) (4, [some (.ref a), some (.long w), none, some (.int (nI k))], [], M) (fun v' M' => v' = some (.long (pkF r w)) ∧ M' = M) := by
  intro r
  induction r with
  | nil =>
    intro k w hk hd
    have hk' : k = n := hk
    repeat (first | refine es rfl rfl rfl ?_ | refine eg rfl (by assumption) rfl ?_ | refine ean rfl (by assumption) (by assumption) rfl ?_ | refine eal rfl (by assumption) (by assumption) rfl ?_ | refine eri rfl ?_ | refine erv rfl ?_ | refine erl rfl ?_ | refine era rfl ?_ | refine erz0 rfl ?_ | refine erz1 rfl ?_)
    try dsimp only [set1, set2, kilP, List.set_cons_zero, List.set_cons_succ, List.getElem?_cons_zero, List.getElem?_cons_succ, List.nil_append, List.cons_append, Option.toList_some, Option.toList_none]
    refine esl rfl hM hl rfl ?_
    refine ei _ rfl rfl (fun c => ?_) (fun c => ?_)
    · repeat (first | refine es rfl rfl rfl ?_ | refine eg rfl (by assumption) rfl ?_ | refine ean rfl (by assumption) (by assumption) rfl ?_ | refine eal rfl (by assumption) (by assumption) rfl ?_ | refine eri rfl ?_ | refine erv rfl ?_ | refine erl rfl ?_ | refine era rfl ?_ | refine erz0 rfl ?_ | refine erz1 rfl ?_)
      try dsimp only [set1, set2, kilP, List.set_cons_zero, List.set_cons_succ, List.getElem?_cons_zero, List.getElem?_cons_succ, List.nil_append, List.cons_append, Option.toList_some, Option.toList_none]
      exact ⟨rfl, rfl⟩
    · exact absurd (nI_le (by omega) (by omega)) c
  | cons x r ih =>
    intro k w hk hd
    rw [List.length_cons] at hk
    have hx : bs[k]? = some x := by
      have := congrArg List.head? hd
      simpa using this
    repeat (first | refine es rfl rfl rfl ?_ | refine eg rfl (by assumption) rfl ?_ | refine ean rfl (by assumption) (by assumption) rfl ?_ | refine eal rfl (by assumption) (by assumption) rfl ?_ | refine eri rfl ?_ | refine erv rfl ?_ | refine erl rfl ?_ | refine era rfl ?_ | refine erz0 rfl ?_ | refine erz1 rfl ?_)
    try dsimp only [set1, set2, kilP, List.set_cons_zero, List.set_cons_succ, List.getElem?_cons_zero, List.getElem?_cons_succ, List.nil_append, List.cons_append, Option.toList_some, Option.toList_none]
    refine esl rfl hM hl rfl ?_
    refine ei _ rfl rfl (fun c => ?_) (fun c => ?_)
    · exact absurd c (nI_ge (by omega) (by omega))
    · repeat (first | refine es rfl rfl rfl ?_ | refine eg rfl (by assumption) rfl ?_ | refine ean rfl (by assumption) (by assumption) rfl ?_ | refine eal rfl (by assumption) (by assumption) rfl ?_ | refine eri rfl ?_ | refine erv rfl ?_ | refine erl rfl ?_ | refine era rfl ?_ | refine erz0 rfl ?_ | refine erz1 rfl ?_)
      try dsimp only [set1, set2, kilP, List.set_cons_zero, List.set_cons_succ, List.getElem?_cons_zero, List.getElem?_cons_succ, List.nil_append, List.cons_append, Option.toList_some, Option.toList_none]
      refine esc rfl hM hb hx (by omega) rfl ?_
      repeat (refine ng 4 rfl ?_; first | refine es rfl rfl rfl ?_ | refine eg rfl (by assumption) rfl ?_ | refine ean rfl (by assumption) (by assumption) rfl ?_ | refine eal rfl (by assumption) (by assumption) rfl ?_ | refine eri rfl ?_ | refine erv rfl ?_ | refine erl rfl ?_ | refine era rfl ?_ | refine erz0 rfl ?_ | refine erz1 rfl ?_)
      try dsimp only [set1, set2, kilP, List.set_cons_zero, List.set_cons_succ, List.getElem?_cons_zero, List.getElem?_cons_succ, List.nil_append, List.cons_append, Option.toList_some, Option.toList_none]
      rw [nI_1]
      exact ih (k + 1) (wlF w x) (by omega) (by rw [← List.drop_drop, hd]; rfl)
theorem e13_packed {ad : Nat → Nat} {M : Mm} {a i : Nat} (hi : i < 20) (hM : M.1 a = some (.inr (1000 + i, []))) : Rd ad 0 (iX13_packed ad) [.ref a] M (some (.long (sC i))) := by
  obtain ⟨bs, n, h1, h2, h3, h4, h5⟩ := pk_tab i hi
  rw [sC_of h5]
  refine ⟨Nat.le_of_ble_eq_true rfl, ?_⟩
  show Ev ad _ (rX13_packed ad) (0, [some (.ref a), none, none, none], [], M) _
  repeat (refine ng 4 rfl ?_; first | refine es rfl rfl rfl ?_ | refine eg rfl (by assumption) rfl ?_ | refine ean rfl (by assumption) (by assumption) rfl ?_ | refine eal rfl (by assumption) (by assumption) rfl ?_ | refine eri rfl ?_ | refine erv rfl ?_ | refine erl rfl ?_ | refine era rfl ?_ | refine erz0 rfl ?_ | refine erz1 rfl ?_)
  try dsimp only [set1, set2, kilP, List.set_cons_zero, List.set_cons_succ, List.getElem?_cons_zero, List.getElem?_cons_succ, List.nil_append, List.cons_append, Option.toList_some, Option.toList_none]
  exact e13_packed_loop hM h1 h2 h3 h4 bs 0 0 (by omega) rfl
abbrev isL (x : Int32) : Prop := 97 ≤ x ∧ x ≤ 122
abbrev isD (x : Int32) : Prop := 48 ≤ x ∧ x ≤ 57
theorem e5_isL {ad : Nat → Nat} {M : Mm} {x : Int32} : Rd ad 0 (iX5_isLetter ad) [.int x] M (some (.int (bI (isL x)))) := by
  refine ⟨Nat.le_of_ble_eq_true rfl, ?_⟩
  show Ev ad _ (rX5_isLetter ad) (0, [some (.int x)], [], M) _
  repeat (first | refine es rfl rfl rfl ?_ | refine eg rfl (by assumption) rfl ?_ | refine ean rfl (by assumption) (by assumption) rfl ?_ | refine eal rfl (by assumption) (by assumption) rfl ?_ | refine eri rfl ?_ | refine erv rfl ?_ | refine erl rfl ?_ | refine era rfl ?_ | refine erz0 rfl ?_ | refine erz1 rfl ?_)
  try dsimp only [set1, set2, kilP, List.set_cons_zero, List.set_cons_succ, List.getElem?_cons_zero, List.getElem?_cons_succ, List.nil_append, List.cons_append, Option.toList_some, Option.toList_none]
  refine ei _ rfl rfl (fun c => ?_) (fun c => ?_)
  · repeat (first | refine es rfl rfl rfl ?_ | refine eg rfl (by assumption) rfl ?_ | refine ean rfl (by assumption) (by assumption) rfl ?_ | refine eal rfl (by assumption) (by assumption) rfl ?_ | refine eri rfl ?_ | refine erv rfl ?_ | refine erl rfl ?_ | refine era rfl ?_ | refine erz0 rfl ?_ | refine erz1 rfl ?_)
    try dsimp only [set1, set2, kilP, List.set_cons_zero, List.set_cons_succ, List.getElem?_cons_zero, List.getElem?_cons_succ, List.nil_append, List.cons_append, Option.toList_some, Option.toList_none]
    rw [show bI (isL x) = 0 from if_neg (fun q => Int32.not_le.mpr c q.1)]
    exact ⟨rfl, rfl⟩
  · repeat (first | refine es rfl rfl rfl ?_ | refine eg rfl (by assumption) rfl ?_ | refine ean rfl (by assumption) (by assumption) rfl ?_ | refine eal rfl (by assumption) (by assumption) rfl ?_ | refine eri rfl ?_ | refine erv rfl ?_ | refine erl rfl ?_ | refine era rfl ?_ | refine erz0 rfl ?_ | refine erz1 rfl ?_)
    try dsimp only [set1, set2, kilP, List.set_cons_zero, List.set_cons_succ, List.getElem?_cons_zero, List.getElem?_cons_succ, List.nil_append, List.cons_append, Option.toList_some, Option.toList_none]
    refine ei _ rfl rfl (fun c2 => ?_) (fun c2 => ?_)
    · repeat (first | refine es rfl rfl rfl ?_ | refine eg rfl (by assumption) rfl ?_ | refine ean rfl (by assumption) (by assumption) rfl ?_ | refine eal rfl (by assumption) (by assumption) rfl ?_ | refine eri rfl ?_ | refine erv rfl ?_ | refine erl rfl ?_ | refine era rfl ?_ | refine erz0 rfl ?_ | refine erz1 rfl ?_)
      try dsimp only [set1, set2, kilP, List.set_cons_zero, List.set_cons_succ, List.getElem?_cons_zero, List.getElem?_cons_succ, List.nil_append, List.cons_append, Option.toList_some, Option.toList_none]
      rw [show bI (isL x) = 0 from if_neg (fun q => Int32.not_le.mpr c2 q.2)]
      exact ⟨rfl, rfl⟩
    · repeat (first | refine es rfl rfl rfl ?_ | refine eg rfl (by assumption) rfl ?_ | refine ean rfl (by assumption) (by assumption) rfl ?_ | refine eal rfl (by assumption) (by assumption) rfl ?_ | refine eri rfl ?_ | refine erv rfl ?_ | refine erl rfl ?_ | refine era rfl ?_ | refine erz0 rfl ?_ | refine erz1 rfl ?_)
      try dsimp only [set1, set2, kilP, List.set_cons_zero, List.set_cons_succ, List.getElem?_cons_zero, List.getElem?_cons_succ, List.nil_append, List.cons_append, Option.toList_some, Option.toList_none]
      rw [show bI (isL x) = 1 from if_pos ⟨Int32.not_lt.mp c, Int32.not_lt.mp c2⟩]
      exact ⟨rfl, rfl⟩
theorem e5_isD {ad : Nat → Nat} {M : Mm} {x : Int32} : Rd ad 0 (iX5_isDigit ad) [.int x] M (some (.int (bI (isD x)))) := by
  refine ⟨Nat.le_of_ble_eq_true rfl, ?_⟩
  show Ev ad _ (rX5_isDigit ad) (0, [some (.int x)], [], M) _
  repeat (first | refine es rfl rfl rfl ?_ | refine eg rfl (by assumption) rfl ?_ | refine ean rfl (by assumption) (by assumption) rfl ?_ | refine eal rfl (by assumption) (by assumption) rfl ?_ | refine eri rfl ?_ | refine erv rfl ?_ | refine erl rfl ?_ | refine era rfl ?_ | refine erz0 rfl ?_ | refine erz1 rfl ?_)
  try dsimp only [set1, set2, kilP, List.set_cons_zero, List.set_cons_succ, List.getElem?_cons_zero, List.getElem?_cons_succ, List.nil_append, List.cons_append, Option.toList_some, Option.toList_none]
  refine ei _ rfl rfl (fun c => ?_) (fun c => ?_)
  · repeat (first | refine es rfl rfl rfl ?_ | refine eg rfl (by assumption) rfl ?_ | refine ean rfl (by assumption) (by assumption) rfl ?_ | refine eal rfl (by assumption) (by assumption) rfl ?_ | refine eri rfl ?_ | refine erv rfl ?_ | refine erl rfl ?_ | refine era rfl ?_ | refine erz0 rfl ?_ | refine erz1 rfl ?_)
    try dsimp only [set1, set2, kilP, List.set_cons_zero, List.set_cons_succ, List.getElem?_cons_zero, List.getElem?_cons_succ, List.nil_append, List.cons_append, Option.toList_some, Option.toList_none]
    rw [show bI (isD x) = 0 from if_neg (fun q => Int32.not_le.mpr c q.1)]
    exact ⟨rfl, rfl⟩
  · repeat (first | refine es rfl rfl rfl ?_ | refine eg rfl (by assumption) rfl ?_ | refine ean rfl (by assumption) (by assumption) rfl ?_ | refine eal rfl (by assumption) (by assumption) rfl ?_ | refine eri rfl ?_ | refine erv rfl ?_ | refine erl rfl ?_ | refine era rfl ?_ | refine erz0 rfl ?_ | refine erz1 rfl ?_)
    try dsimp only [set1, set2, kilP, List.set_cons_zero, List.set_cons_succ, List.getElem?_cons_zero, List.getElem?_cons_succ, List.nil_append, List.cons_append, Option.toList_some, Option.toList_none]
    refine ei _ rfl rfl (fun c2 => ?_) (fun c2 => ?_)
    · repeat (first | refine es rfl rfl rfl ?_ | refine eg rfl (by assumption) rfl ?_ | refine ean rfl (by assumption) (by assumption) rfl ?_ | refine eal rfl (by assumption) (by assumption) rfl ?_ | refine eri rfl ?_ | refine erv rfl ?_ | refine erl rfl ?_ | refine era rfl ?_ | refine erz0 rfl ?_ | refine erz1 rfl ?_)
      try dsimp only [set1, set2, kilP, List.set_cons_zero, List.set_cons_succ, List.getElem?_cons_zero, List.getElem?_cons_succ, List.nil_append, List.cons_append, Option.toList_some, Option.toList_none]
      rw [show bI (isD x) = 0 from if_neg (fun q => Int32.not_le.mpr c2 q.2)]
      exact ⟨rfl, rfl⟩
    · repeat (first | refine es rfl rfl rfl ?_ | refine eg rfl (by assumption) rfl ?_ | refine ean rfl (by assumption) (by assumption) rfl ?_ | refine eal rfl (by assumption) (by assumption) rfl ?_ | refine eri rfl ?_ | refine erv rfl ?_ | refine erl rfl ?_ | refine era rfl ?_ | refine erz0 rfl ?_ | refine erz1 rfl ?_)
      try dsimp only [set1, set2, kilP, List.set_cons_zero, List.set_cons_succ, List.getElem?_cons_zero, List.getElem?_cons_succ, List.nil_append, List.cons_append, Option.toList_some, Option.toList_none]
      rw [show bI (isD x) = 1 from if_pos ⟨Int32.not_lt.mp c, Int32.not_lt.mp c2⟩]
      exact ⟨rfl, rfl⟩
/-- fault, its place, size of the tape, length, at, kind, start, word, whole, house -/
abbrev Rq : Type := Int32 × Int32 × Nat × Nat × Nat × Nat × Nat × Int64 × Int32 × Int32
abbrev Rq.fn (q : Rq) : Int32 := q.1
abbrev Rq.fp (q : Rq) : Int32 := q.2.1
abbrev Rq.ts (q : Rq) : Nat := q.2.2.1
abbrev Rq.le (q : Rq) : Nat := q.2.2.2.1
abbrev Rq.at (q : Rq) : Nat := q.2.2.2.2.1
abbrev Rq.kd (q : Rq) : Nat := q.2.2.2.2.2.1
abbrev Rq.st (q : Rq) : Nat := q.2.2.2.2.2.2.1
abbrev Rq.wd (q : Rq) : Int64 := q.2.2.2.2.2.2.2.1
abbrev Rq.wh (q : Rq) : Int32 := q.2.2.2.2.2.2.2.2.1
abbrev Rq.hr (q : Rq) : Int32 := q.2.2.2.2.2.2.2.2.2
def aR0 (M : Mm) (b t : Nat) (q : Rq) : Prop := M.1 b = some (.inr (5, [.int q.fn, .int q.fp, .int (nI q.ts), .ref (b + 1), .ref t, .ref (b + 24), .int (nI q.le), .int (nI q.at), .int (nI q.kd), .int (nI q.st), .long q.wd, .int q.wh, .int q.hr]))
abbrev chrs (f : Nat → Int32) : Option Ce := some (.inl (2, 1100, .inl f))
def aRq (M : Mm) (b t : Nat) (tp : Nat → Int32) (sc : Nat → Int64) (q : Rq) : Prop := aR0 M b t q ∧ M.1 (b + 1) = chrs tp ∧ M.1 (b + 24) = lngs 8 sc
def spF (tp : Nat → Int32) : Nat → Nat → Nat
  | 0, a => a
  | n + 1, a => if tp a = 32 then spF tp n (a + 1) else a
def wdF (tp : Nat → Int32) : Nat → Nat → Int64 → Nat × Int64
  | 0, a, w => (a, w)
  | n + 1, a, w => if isL (tp a) then wdF tp n (a + 1) (wlF w (tp a)) else (a, w)
def whF (tp : Nat → Int32) : Nat → Nat → Int32 → Nat × Int32
  | 0, a, w => (a, w)
  | n + 1, a, w => if isD (tp a) then whF tp n (a + 1) (10 * w + tp a - 48) else (a, w)
theorem spF_b (tp : Nat → Int32) : ∀ n a, a ≤ spF tp n a ∧ spF tp n a ≤ a + n
  | 0, a => by rw [spF]; omega
  | n + 1, a => by
    have := spF_b tp n (a + 1)
    rw [spF]
    split <;> omega
theorem wdF_b (tp : Nat → Int32) : ∀ n a w, a ≤ (wdF tp n a w).1 ∧ (wdF tp n a w).1 ≤ a + n
  | 0, a, w => by rw [wdF]; dsimp only; omega
  | n + 1, a, w => by
    have := wdF_b tp n (a + 1) (wlF w (tp a))
    rw [wdF]
    split
    · omega
    · dsimp only; omega
theorem whF_b (tp : Nat → Int32) : ∀ n a w, a ≤ (whF tp n a w).1 ∧ (whF tp n a w).1 ≤ a + n
  | 0, a, w => by rw [whF]; dsimp only; omega
  | n + 1, a, w => by
    have := whF_b tp n (a + 1) (10 * w + tp a - 48)
    rw [whF]
    split
    · omega
    · dsimp only; omega
theorem e5_word_loop {ad : Nat → Nat} {b t : Nat} {tp : Nat → Int32} {sc : Nat → Int64} : ∀ (n : Nat) (M0 M : Mm) (q : Rq), aRq M b t tp sc q → Fr b 1 M0 M → q.at + n = q.le → q.le ≤ 1100 → q.st ≤ q.at → Ev ad 1 (rX5_advanceWord ad) (5, [some (.ref b)], [], M) (fun v' M' => v' = none ∧ aRq M' b t tp sc (q.fn, q.fp, q.ts, q.le, (wdF tp n q.at q.wd).1, (if (wdF tp n q.at q.wd).1 - q.st ≤ 8 then 1 else 4), q.st, (wdF tp n q.at q.wd).2, q.wh, q.hr) ∧ Fr b 1 M0 M') := by
  have fin : ∀ (M0 M : Mm) (q : Rq), aRq M b t tp sc q → Fr b 1 M0 M → q.at ≤ 1100 → q.st ≤ q.at → Ev ad 1 (rX5_advanceWord ad) (64, [some (.ref b)], [], M) (fun v' M' => v' = none ∧ aRq M' b t tp sc (q.fn, q.fp, q.ts, q.le, q.at, (if q.at - q.st ≤ 8 then 1 else 4), q.st, q.wd, q.wh, q.hr) ∧ Fr b 1 M0 M') := by
    intro M0 M q hb hF h1 h2
    obtain ⟨h0, h3, h4⟩ := hb
    unfold aR0 at h0
    repeat (first | refine es rfl rfl rfl ?_ | refine eg rfl (by assumption) rfl ?_ | refine ean rfl (by assumption) (by assumption) rfl ?_ | refine eal rfl (by assumption) (by assumption) rfl ?_ | refine eri rfl ?_ | refine erv rfl ?_ | refine erl rfl ?_ | refine era rfl ?_ | refine erz0 rfl ?_ | refine erz1 rfl ?_)
    try dsimp only [set1, set2, kilP, List.set_cons_zero, List.set_cons_succ, List.getElem?_cons_zero, List.getElem?_cons_succ, List.nil_append, List.cons_append, Option.toList_some, Option.toList_none]
    rw [pk_sub h2]
    refine ei _ rfl rfl (fun c => ?_) (fun c => ?_)
    · repeat (first | refine es rfl rfl rfl ?_ | refine eg rfl (by assumption) rfl ?_ | refine ean rfl (by assumption) (by assumption) rfl ?_ | refine eal rfl (by assumption) (by assumption) rfl ?_ | refine eri rfl ?_ | refine erv rfl ?_ | refine erl rfl ?_ | refine era rfl ?_ | refine erz0 rfl ?_ | refine erz1 rfl ?_)
      try dsimp only [set1, set2, kilP, List.set_cons_zero, List.set_cons_succ, List.getElem?_cons_zero, List.getElem?_cons_succ, List.nil_append, List.cons_append, Option.toList_some, Option.toList_none]
      refine epM rfl (by assumption) rfl rfl rfl (fun M2 eM => ?_)
      have k0 := up_w eM
      replace h3 := up_k eM h3 (by omega)
      replace h4 := up_k eM h4 (by omega)
      repeat (first | refine es rfl rfl rfl ?_ | refine eg rfl (by assumption) rfl ?_ | refine ean rfl (by assumption) (by assumption) rfl ?_ | refine eal rfl (by assumption) (by assumption) rfl ?_ | refine eri rfl ?_ | refine erv rfl ?_ | refine erl rfl ?_ | refine era rfl ?_ | refine erz0 rfl ?_ | refine erz1 rfl ?_)
      try dsimp only [set1, set2, kilP, List.set_cons_zero, List.set_cons_succ, List.getElem?_cons_zero, List.getElem?_cons_succ, List.nil_append, List.cons_append, Option.toList_some, Option.toList_none]
      rw [if_neg (fun hh => nI_nlt (a := 8) hh (by omega) c)]
      exact ⟨rfl, ⟨k0, h3, h4⟩, hF.up eM (by omega) (by omega)⟩
    · repeat (first | refine es rfl rfl rfl ?_ | refine eg rfl (by assumption) rfl ?_ | refine ean rfl (by assumption) (by assumption) rfl ?_ | refine eal rfl (by assumption) (by assumption) rfl ?_ | refine eri rfl ?_ | refine erv rfl ?_ | refine erl rfl ?_ | refine era rfl ?_ | refine erz0 rfl ?_ | refine erz1 rfl ?_)
      try dsimp only [set1, set2, kilP, List.set_cons_zero, List.set_cons_succ, List.getElem?_cons_zero, List.getElem?_cons_succ, List.nil_append, List.cons_append, Option.toList_some, Option.toList_none]
      refine epM rfl (by assumption) rfl rfl rfl (fun M2 eM => ?_)
      have k0 := up_w eM
      replace h3 := up_k eM h3 (by omega)
      replace h4 := up_k eM h4 (by omega)
      repeat (first | refine es rfl rfl rfl ?_ | refine eg rfl (by assumption) rfl ?_ | refine ean rfl (by assumption) (by assumption) rfl ?_ | refine eal rfl (by assumption) (by assumption) rfl ?_ | refine eri rfl ?_ | refine erv rfl ?_ | refine erl rfl ?_ | refine era rfl ?_ | refine erz0 rfl ?_ | refine erz1 rfl ?_)
      try dsimp only [set1, set2, kilP, List.set_cons_zero, List.set_cons_succ, List.getElem?_cons_zero, List.getElem?_cons_succ, List.nil_append, List.cons_append, Option.toList_some, Option.toList_none]
      rw [if_pos (Decidable.byContradiction fun hh => c (nI_lt (a := 8) (by omega) (by omega)))]
      exact ⟨rfl, ⟨k0, h3, h4⟩, hF.up eM (by omega) (by omega)⟩
  intro n
  induction n with
  | zero =>
    intro M0 M q hb hF hn hl hs
    have hb' := hb
    obtain ⟨h0, h1, h2⟩ := hb
    unfold aR0 at h0
    repeat (first | refine es rfl rfl rfl ?_ | refine eg rfl (by assumption) rfl ?_ | refine ean rfl (by assumption) (by assumption) rfl ?_ | refine eal rfl (by assumption) (by assumption) rfl ?_ | refine eri rfl ?_ | refine erv rfl ?_ | refine erl rfl ?_ | refine era rfl ?_ | refine erz0 rfl ?_ | refine erz1 rfl ?_)
    try dsimp only [set1, set2, kilP, List.set_cons_zero, List.set_cons_succ, List.getElem?_cons_zero, List.getElem?_cons_succ, List.nil_append, List.cons_append, Option.toList_some, Option.toList_none]
    refine ei _ rfl rfl (fun c => ?_) (fun c => ?_)
    · exact fin M0 M q hb' hF (by omega) hs
    · exact absurd (nI_le (by omega) (by omega)) c
  | succ n ih =>
    intro M0 M q hb hF hn hl hs
    have hb' := hb
    obtain ⟨h0, h1, h2⟩ := hb
    unfold aR0 at h0
    have ha : q.at < 1100 := by omega
    repeat (first | refine es rfl rfl rfl ?_ | refine eg rfl (by assumption) rfl ?_ | refine ean rfl (by assumption) (by assumption) rfl ?_ | refine eal rfl (by assumption) (by assumption) rfl ?_ | refine eri rfl ?_ | refine erv rfl ?_ | refine erl rfl ?_ | refine era rfl ?_ | refine erz0 rfl ?_ | refine erz1 rfl ?_)
    try dsimp only [set1, set2, kilP, List.set_cons_zero, List.set_cons_succ, List.getElem?_cons_zero, List.getElem?_cons_succ, List.nil_append, List.cons_append, Option.toList_some, Option.toList_none]
    refine ei _ rfl rfl (fun c => ?_) (fun c => ?_)
    · exact absurd c (nI_ge (by omega) (by omega))
    · repeat (first | refine es rfl rfl rfl ?_ | refine eg rfl (by assumption) rfl ?_ | refine ean rfl (by assumption) (by assumption) rfl ?_ | refine eal rfl (by assumption) (by assumption) rfl ?_ | refine eri rfl ?_ | refine erv rfl ?_ | refine erl rfl ?_ | refine era rfl ?_ | refine erz0 rfl ?_ | refine erz1 rfl ?_)
      try dsimp only [set1, set2, kilP, List.set_cons_zero, List.set_cons_succ, List.getElem?_cons_zero, List.getElem?_cons_succ, List.nil_append, List.cons_append, Option.toList_some, Option.toList_none]
      refine ecsr rfl rfl rfl rfl rfl rfl (e5_isL) (by first | rfl | exact Nat.blt_eq.mpr (by omega)) rfl ?_
      rw [wdF]
      by_cases hL : isL (tp q.at)
      · rw [show bI (isL (tp q.at)) = 1 from if_pos hL, if_pos hL]
        repeat (first | refine es rfl rfl rfl ?_ | refine eg rfl (by assumption) rfl ?_ | refine ean rfl (by assumption) (by assumption) rfl ?_ | refine eal rfl (by assumption) (by assumption) rfl ?_ | refine eri rfl ?_ | refine erv rfl ?_ | refine erl rfl ?_ | refine era rfl ?_ | refine erz0 rfl ?_ | refine erz1 rfl ?_)
        try dsimp only [set1, set2, kilP, List.set_cons_zero, List.set_cons_succ, List.getElem?_cons_zero, List.getElem?_cons_succ, List.nil_append, List.cons_append, Option.toList_some, Option.toList_none]
        refine ecsr rfl rfl rfl rfl rfl rfl (e5_withL) (by first | rfl | exact Nat.blt_eq.mpr (by omega)) rfl ?_
        refine epM rfl (by assumption) rfl rfl rfl (fun M2 eM => ?_)
        have k0 := up_w eM
        replace h1 := up_k eM h1 (by omega)
        replace h2 := up_k eM h2 (by omega)
        replace hF := hF.up eM (by omega) (by omega)
        repeat (first | refine es rfl rfl rfl ?_ | refine eg rfl (by assumption) rfl ?_ | refine ean rfl (by assumption) (by assumption) rfl ?_ | refine eal rfl (by assumption) (by assumption) rfl ?_ | refine eri rfl ?_ | refine erv rfl ?_ | refine erl rfl ?_ | refine era rfl ?_ | refine erz0 rfl ?_ | refine erz1 rfl ?_)
        try dsimp only [set1, set2, kilP, List.set_cons_zero, List.set_cons_succ, List.getElem?_cons_zero, List.getElem?_cons_succ, List.nil_append, List.cons_append, Option.toList_some, Option.toList_none]
        rw [nI_1]
        refine epM rfl (by assumption) rfl rfl rfl (fun M3 eM3 => ?_)
        have k1 := up_w eM3
        replace h1 := up_k eM3 h1 (by omega)
        replace h2 := up_k eM3 h2 (by omega)
        replace hF := hF.up eM3 (by omega) (by omega)
        repeat (refine ng 5 rfl ?_; first | refine es rfl rfl rfl ?_ | refine eg rfl (by assumption) rfl ?_ | refine ean rfl (by assumption) (by assumption) rfl ?_ | refine eal rfl (by assumption) (by assumption) rfl ?_ | refine eri rfl ?_ | refine erv rfl ?_ | refine erl rfl ?_ | refine era rfl ?_ | refine erz0 rfl ?_ | refine erz1 rfl ?_)
        try dsimp only [set1, set2, kilP, List.set_cons_zero, List.set_cons_succ, List.getElem?_cons_zero, List.getElem?_cons_succ, List.nil_append, List.cons_append, Option.toList_some, Option.toList_none]
        exact ih M0 M3 (q.fn, q.fp, q.ts, q.le, q.at + 1, q.kd, q.st, wlF q.wd (tp q.at), q.wh, q.hr) ⟨k1, h1, h2⟩ hF (by (try dsimp only [Rq.at, Rq.le, Rq.st, Rq.ts, Rq.kd] at *); omega) hl (by (try dsimp only [Rq.at, Rq.le, Rq.st, Rq.ts, Rq.kd] at *); omega)
      · rw [show bI (isL (tp q.at)) = 0 from if_neg hL, if_neg hL]
        repeat (refine ng 64 rfl ?_; first | refine es rfl rfl rfl ?_ | refine eg rfl (by assumption) rfl ?_ | refine ean rfl (by assumption) (by assumption) rfl ?_ | refine eal rfl (by assumption) (by assumption) rfl ?_ | refine eri rfl ?_ | refine erv rfl ?_ | refine erl rfl ?_ | refine era rfl ?_ | refine erz0 rfl ?_ | refine erz1 rfl ?_)
        try dsimp only [set1, set2, kilP, List.set_cons_zero, List.set_cons_succ, List.getElem?_cons_zero, List.getElem?_cons_succ, List.nil_append, List.cons_append, Option.toList_some, Option.toList_none]
        exact fin M0 M q hb' hF (by omega) hs
theorem e5_whole_loop {ad : Nat → Nat} {b t : Nat} {tp : Nat → Int32} {sc : Nat → Int64} : ∀ (n : Nat) (M0 M : Mm) (q : Rq), aRq M b t tp sc q → Fr b 1 M0 M → q.at + n = q.le → q.le ≤ 1100 → q.st ≤ q.at → Ev ad 1 (rX5_advanceWhole ad) (5, [some (.ref b)], [], M) (fun v' M' => v' = none ∧ aRq M' b t tp sc (q.fn, q.fp, q.ts, q.le, (whF tp n q.at q.wh).1, (if (whF tp n q.at q.wh).1 - q.st ≤ 3 then 2 else 4), q.st, q.wd, (whF tp n q.at q.wh).2, q.hr) ∧ Fr b 1 M0 M') := by
  have fin : ∀ (M0 M : Mm) (q : Rq), aRq M b t tp sc q → Fr b 1 M0 M → q.at ≤ 1100 → q.st ≤ q.at → Ev ad 1 (rX5_advanceWhole ad) (68, [some (.ref b)], [], M) (fun v' M' => v' = none ∧ aRq M' b t tp sc (q.fn, q.fp, q.ts, q.le, q.at, (if q.at - q.st ≤ 3 then 2 else 4), q.st, q.wd, q.wh, q.hr) ∧ Fr b 1 M0 M') := by
    intro M0 M q hb hF h1 h2
    obtain ⟨h0, h3, h4⟩ := hb
    unfold aR0 at h0
    repeat (first | refine es rfl rfl rfl ?_ | refine eg rfl (by assumption) rfl ?_ | refine ean rfl (by assumption) (by assumption) rfl ?_ | refine eal rfl (by assumption) (by assumption) rfl ?_ | refine eri rfl ?_ | refine erv rfl ?_ | refine erl rfl ?_ | refine era rfl ?_ | refine erz0 rfl ?_ | refine erz1 rfl ?_)
    try dsimp only [set1, set2, kilP, List.set_cons_zero, List.set_cons_succ, List.getElem?_cons_zero, List.getElem?_cons_succ, List.nil_append, List.cons_append, Option.toList_some, Option.toList_none]
    rw [pk_sub h2]
    refine ei _ rfl rfl (fun c => ?_) (fun c => ?_)
    · repeat (first | refine es rfl rfl rfl ?_ | refine eg rfl (by assumption) rfl ?_ | refine ean rfl (by assumption) (by assumption) rfl ?_ | refine eal rfl (by assumption) (by assumption) rfl ?_ | refine eri rfl ?_ | refine erv rfl ?_ | refine erl rfl ?_ | refine era rfl ?_ | refine erz0 rfl ?_ | refine erz1 rfl ?_)
      try dsimp only [set1, set2, kilP, List.set_cons_zero, List.set_cons_succ, List.getElem?_cons_zero, List.getElem?_cons_succ, List.nil_append, List.cons_append, Option.toList_some, Option.toList_none]
      refine epM rfl (by assumption) rfl rfl rfl (fun M2 eM => ?_)
      have k0 := up_w eM
      replace h3 := up_k eM h3 (by omega)
      replace h4 := up_k eM h4 (by omega)
      repeat (first | refine es rfl rfl rfl ?_ | refine eg rfl (by assumption) rfl ?_ | refine ean rfl (by assumption) (by assumption) rfl ?_ | refine eal rfl (by assumption) (by assumption) rfl ?_ | refine eri rfl ?_ | refine erv rfl ?_ | refine erl rfl ?_ | refine era rfl ?_ | refine erz0 rfl ?_ | refine erz1 rfl ?_)
      try dsimp only [set1, set2, kilP, List.set_cons_zero, List.set_cons_succ, List.getElem?_cons_zero, List.getElem?_cons_succ, List.nil_append, List.cons_append, Option.toList_some, Option.toList_none]
      rw [if_neg (fun hh => nI_nlt (a := 3) hh (by omega) c)]
      exact ⟨rfl, ⟨k0, h3, h4⟩, hF.up eM (by omega) (by omega)⟩
    · repeat (first | refine es rfl rfl rfl ?_ | refine eg rfl (by assumption) rfl ?_ | refine ean rfl (by assumption) (by assumption) rfl ?_ | refine eal rfl (by assumption) (by assumption) rfl ?_ | refine eri rfl ?_ | refine erv rfl ?_ | refine erl rfl ?_ | refine era rfl ?_ | refine erz0 rfl ?_ | refine erz1 rfl ?_)
      try dsimp only [set1, set2, kilP, List.set_cons_zero, List.set_cons_succ, List.getElem?_cons_zero, List.getElem?_cons_succ, List.nil_append, List.cons_append, Option.toList_some, Option.toList_none]
      refine epM rfl (by assumption) rfl rfl rfl (fun M2 eM => ?_)
      have k0 := up_w eM
      replace h3 := up_k eM h3 (by omega)
      replace h4 := up_k eM h4 (by omega)
      repeat (first | refine es rfl rfl rfl ?_ | refine eg rfl (by assumption) rfl ?_ | refine ean rfl (by assumption) (by assumption) rfl ?_ | refine eal rfl (by assumption) (by assumption) rfl ?_ | refine eri rfl ?_ | refine erv rfl ?_ | refine erl rfl ?_ | refine era rfl ?_ | refine erz0 rfl ?_ | refine erz1 rfl ?_)
      try dsimp only [set1, set2, kilP, List.set_cons_zero, List.set_cons_succ, List.getElem?_cons_zero, List.getElem?_cons_succ, List.nil_append, List.cons_append, Option.toList_some, Option.toList_none]
      rw [if_pos (Decidable.byContradiction fun hh => c (nI_lt (a := 3) (by omega) (by omega)))]
      exact ⟨rfl, ⟨k0, h3, h4⟩, hF.up eM (by omega) (by omega)⟩
  intro n
  induction n with
  | zero =>
    intro M0 M q hb hF hn hl hs
    have hb' := hb
    obtain ⟨h0, h1, h2⟩ := hb
    unfold aR0 at h0
    repeat (first | refine es rfl rfl rfl ?_ | refine eg rfl (by assumption) rfl ?_ | refine ean rfl (by assumption) (by assumption) rfl ?_ | refine eal rfl (by assumption) (by assumption) rfl ?_ | refine eri rfl ?_ | refine erv rfl ?_ | refine erl rfl ?_ | refine era rfl ?_ | refine erz0 rfl ?_ | refine erz1 rfl ?_)
    try dsimp only [set1, set2, kilP, List.set_cons_zero, List.set_cons_succ, List.getElem?_cons_zero, List.getElem?_cons_succ, List.nil_append, List.cons_append, Option.toList_some, Option.toList_none]
    refine ei _ rfl rfl (fun c => ?_) (fun c => ?_)
    · exact fin M0 M q hb' hF (by omega) hs
    · exact absurd (nI_le (by omega) (by omega)) c
  | succ n ih =>
    intro M0 M q hb hF hn hl hs
    have hb' := hb
    obtain ⟨h0, h1, h2⟩ := hb
    unfold aR0 at h0
    have ha : q.at < 1100 := by omega
    repeat (first | refine es rfl rfl rfl ?_ | refine eg rfl (by assumption) rfl ?_ | refine ean rfl (by assumption) (by assumption) rfl ?_ | refine eal rfl (by assumption) (by assumption) rfl ?_ | refine eri rfl ?_ | refine erv rfl ?_ | refine erl rfl ?_ | refine era rfl ?_ | refine erz0 rfl ?_ | refine erz1 rfl ?_)
    try dsimp only [set1, set2, kilP, List.set_cons_zero, List.set_cons_succ, List.getElem?_cons_zero, List.getElem?_cons_succ, List.nil_append, List.cons_append, Option.toList_some, Option.toList_none]
    refine ei _ rfl rfl (fun c => ?_) (fun c => ?_)
    · exact absurd c (nI_ge (by omega) (by omega))
    · repeat (first | refine es rfl rfl rfl ?_ | refine eg rfl (by assumption) rfl ?_ | refine ean rfl (by assumption) (by assumption) rfl ?_ | refine eal rfl (by assumption) (by assumption) rfl ?_ | refine eri rfl ?_ | refine erv rfl ?_ | refine erl rfl ?_ | refine era rfl ?_ | refine erz0 rfl ?_ | refine erz1 rfl ?_)
      try dsimp only [set1, set2, kilP, List.set_cons_zero, List.set_cons_succ, List.getElem?_cons_zero, List.getElem?_cons_succ, List.nil_append, List.cons_append, Option.toList_some, Option.toList_none]
      refine ecsr rfl rfl rfl rfl rfl rfl (e5_isD) (by first | rfl | exact Nat.blt_eq.mpr (by omega)) rfl ?_
      rw [whF]
      by_cases hL : isD (tp q.at)
      · rw [show bI (isD (tp q.at)) = 1 from if_pos hL, if_pos hL]
        repeat (first | refine es rfl rfl rfl ?_ | refine eg rfl (by assumption) rfl ?_ | refine ean rfl (by assumption) (by assumption) rfl ?_ | refine eal rfl (by assumption) (by assumption) rfl ?_ | refine eri rfl ?_ | refine erv rfl ?_ | refine erl rfl ?_ | refine era rfl ?_ | refine erz0 rfl ?_ | refine erz1 rfl ?_)
        try dsimp only [set1, set2, kilP, List.set_cons_zero, List.set_cons_succ, List.getElem?_cons_zero, List.getElem?_cons_succ, List.nil_append, List.cons_append, Option.toList_some, Option.toList_none]
        refine epM rfl (by assumption) rfl rfl rfl (fun M2 eM => ?_)
        have k0 := up_w eM
        replace h1 := up_k eM h1 (by omega)
        replace h2 := up_k eM h2 (by omega)
        replace hF := hF.up eM (by omega) (by omega)
        repeat (first | refine es rfl rfl rfl ?_ | refine eg rfl (by assumption) rfl ?_ | refine ean rfl (by assumption) (by assumption) rfl ?_ | refine eal rfl (by assumption) (by assumption) rfl ?_ | refine eri rfl ?_ | refine erv rfl ?_ | refine erl rfl ?_ | refine era rfl ?_ | refine erz0 rfl ?_ | refine erz1 rfl ?_)
        try dsimp only [set1, set2, kilP, List.set_cons_zero, List.set_cons_succ, List.getElem?_cons_zero, List.getElem?_cons_succ, List.nil_append, List.cons_append, Option.toList_some, Option.toList_none]
        rw [nI_1]
        refine epM rfl (by assumption) rfl rfl rfl (fun M3 eM3 => ?_)
        have k1 := up_w eM3
        replace h1 := up_k eM3 h1 (by omega)
        replace h2 := up_k eM3 h2 (by omega)
        replace hF := hF.up eM3 (by omega) (by omega)
        repeat (refine ng 5 rfl ?_; first | refine es rfl rfl rfl ?_ | refine eg rfl (by assumption) rfl ?_ | refine ean rfl (by assumption) (by assumption) rfl ?_ | refine eal rfl (by assumption) (by assumption) rfl ?_ | refine eri rfl ?_ | refine erv rfl ?_ | refine erl rfl ?_ | refine era rfl ?_ | refine erz0 rfl ?_ | refine erz1 rfl ?_)
        try dsimp only [set1, set2, kilP, List.set_cons_zero, List.set_cons_succ, List.getElem?_cons_zero, List.getElem?_cons_succ, List.nil_append, List.cons_append, Option.toList_some, Option.toList_none]
        exact ih M0 M3 (q.fn, q.fp, q.ts, q.le, q.at + 1, q.kd, q.st, q.wd, 10 * q.wh + tp q.at - 48, q.hr) ⟨k1, h1, h2⟩ hF (by (try dsimp only [Rq.at, Rq.le, Rq.st, Rq.ts, Rq.kd] at *); omega) hl (by (try dsimp only [Rq.at, Rq.le, Rq.st, Rq.ts, Rq.kd] at *); omega)
      · rw [show bI (isD (tp q.at)) = 0 from if_neg hL, if_neg hL]
        repeat (refine ng 68 rfl ?_; first | refine es rfl rfl rfl ?_ | refine eg rfl (by assumption) rfl ?_ | refine ean rfl (by assumption) (by assumption) rfl ?_ | refine eal rfl (by assumption) (by assumption) rfl ?_ | refine eri rfl ?_ | refine erv rfl ?_ | refine erl rfl ?_ | refine era rfl ?_ | refine erz0 rfl ?_ | refine erz1 rfl ?_)
        try dsimp only [set1, set2, kilP, List.set_cons_zero, List.set_cons_succ, List.getElem?_cons_zero, List.getElem?_cons_succ, List.nil_append, List.cons_append, Option.toList_some, Option.toList_none]
        exact fin M0 M q hb' hF (by omega) hs

theorem e5_word {ad : Nat → Nat} {M : Mm} {b t : Nat} {tp : Nat → Int32} {sc : Nat → Int64} {q : Rq} (hb : aRq M b t tp sc q) (hl : q.le ≤ 1100) (ha : q.at ≤ q.le) (hs : q.st ≤ q.at) : EvM ad 1 (iX5_advanceWord ad) [.ref b] M (fun v' M' => v' = none ∧ aRq M' b t tp sc (q.fn, q.fp, q.ts, q.le, (wdF tp (q.le - q.at) q.at 0).1, (if (wdF tp (q.le - q.at) q.at 0).1 - q.st ≤ 8 then 1 else 4), q.st, (wdF tp (q.le - q.at) q.at 0).2, q.wh, q.hr) ∧ Fr b 1 M M') := by
  obtain ⟨h0, h1, h2⟩ := hb
  unfold aR0 at h0
  refine ⟨Nat.le_of_ble_eq_true rfl, ?_⟩
  show Ev ad _ (rX5_advanceWord ad) (0, [some (.ref b)], [], M) _
  repeat (first | refine es rfl rfl rfl ?_ | refine eg rfl (by assumption) rfl ?_ | refine ean rfl (by assumption) (by assumption) rfl ?_ | refine eal rfl (by assumption) (by assumption) rfl ?_ | refine eri rfl ?_ | refine erv rfl ?_ | refine erl rfl ?_ | refine era rfl ?_ | refine erz0 rfl ?_ | refine erz1 rfl ?_)
  try dsimp only [set1, set2, kilP, List.set_cons_zero, List.set_cons_succ, List.getElem?_cons_zero, List.getElem?_cons_succ, List.nil_append, List.cons_append, Option.toList_some, Option.toList_none]
  refine epM rfl (by assumption) rfl rfl rfl (fun M2 eM => ?_)
  have k0 := up_w eM
  replace h1 := up_k eM h1 (by omega)
  replace h2 := up_k eM h2 (by omega)
  repeat (refine ng 5 rfl ?_; first | refine es rfl rfl rfl ?_ | refine eg rfl (by assumption) rfl ?_ | refine ean rfl (by assumption) (by assumption) rfl ?_ | refine eal rfl (by assumption) (by assumption) rfl ?_ | refine eri rfl ?_ | refine erv rfl ?_ | refine erl rfl ?_ | refine era rfl ?_ | refine erz0 rfl ?_ | refine erz1 rfl ?_)
  try dsimp only [set1, set2, kilP, List.set_cons_zero, List.set_cons_succ, List.getElem?_cons_zero, List.getElem?_cons_succ, List.nil_append, List.cons_append, Option.toList_some, Option.toList_none]
  exact e5_word_loop (q.le - q.at) M M2 (q.fn, q.fp, q.ts, q.le, q.at, q.kd, q.st, 0, q.wh, q.hr) ⟨k0, h1, h2⟩ ((Fr.rf b 1 M).up eM (by omega) (by omega)) (by (try dsimp only [Rq.at, Rq.le, Rq.st, Rq.ts, Rq.kd] at *); omega) hl hs
theorem e5_whole {ad : Nat → Nat} {M : Mm} {b t : Nat} {tp : Nat → Int32} {sc : Nat → Int64} {q : Rq} (hb : aRq M b t tp sc q) (hl : q.le ≤ 1100) (ha : q.at ≤ q.le) (hs : q.st ≤ q.at) : EvM ad 1 (iX5_advanceWhole ad) [.ref b] M (fun v' M' => v' = none ∧ aRq M' b t tp sc (q.fn, q.fp, q.ts, q.le, (whF tp (q.le - q.at) q.at 0).1, (if (whF tp (q.le - q.at) q.at 0).1 - q.st ≤ 3 then 2 else 4), q.st, q.wd, (whF tp (q.le - q.at) q.at 0).2, q.hr) ∧ Fr b 1 M M') := by
  obtain ⟨h0, h1, h2⟩ := hb
  unfold aR0 at h0
  refine ⟨Nat.le_of_ble_eq_true rfl, ?_⟩
  show Ev ad _ (rX5_advanceWhole ad) (0, [some (.ref b)], [], M) _
  repeat (first | refine es rfl rfl rfl ?_ | refine eg rfl (by assumption) rfl ?_ | refine ean rfl (by assumption) (by assumption) rfl ?_ | refine eal rfl (by assumption) (by assumption) rfl ?_ | refine eri rfl ?_ | refine erv rfl ?_ | refine erl rfl ?_ | refine era rfl ?_ | refine erz0 rfl ?_ | refine erz1 rfl ?_)
  try dsimp only [set1, set2, kilP, List.set_cons_zero, List.set_cons_succ, List.getElem?_cons_zero, List.getElem?_cons_succ, List.nil_append, List.cons_append, Option.toList_some, Option.toList_none]
  refine epM rfl (by assumption) rfl rfl rfl (fun M2 eM => ?_)
  have k0 := up_w eM
  replace h1 := up_k eM h1 (by omega)
  replace h2 := up_k eM h2 (by omega)
  repeat (refine ng 5 rfl ?_; first | refine es rfl rfl rfl ?_ | refine eg rfl (by assumption) rfl ?_ | refine ean rfl (by assumption) (by assumption) rfl ?_ | refine eal rfl (by assumption) (by assumption) rfl ?_ | refine eri rfl ?_ | refine erv rfl ?_ | refine erl rfl ?_ | refine era rfl ?_ | refine erz0 rfl ?_ | refine erz1 rfl ?_)
  try dsimp only [set1, set2, kilP, List.set_cons_zero, List.set_cons_succ, List.getElem?_cons_zero, List.getElem?_cons_succ, List.nil_append, List.cons_append, Option.toList_some, Option.toList_none]
  exact e5_whole_loop (q.le - q.at) M M2 (q.fn, q.fp, q.ts, q.le, q.at, q.kd, q.st, q.wd, 0, q.hr) ⟨k0, h1, h2⟩ ((Fr.rf b 1 M).up eM (by omega) (by omega)) (by (try dsimp only [Rq.at, Rq.le, Rq.st, Rq.ts, Rq.kd] at *); omega) hl hs
/-- what stands at a place: start, next place, kind, word, whole -/
abbrev Tk : Type := Nat × Nat × Nat × Int64 × Int32
def tokS (tp : Nat → Int32) (le s : Nat) (w : Int64) (z : Int32) : Tk :=
  if le ≤ s then (s, s, 0, w, z) else if isL (tp s) then (s, (wdF tp (le - s) s 0).1, (if (wdF tp (le - s) s 0).1 - s ≤ 8 then 1 else 4), (wdF tp (le - s) s 0).2, z) else if isD (tp s) then (s, (whF tp (le - s) s 0).1, (if (whF tp (le - s) s 0).1 - s ≤ 3 then 2 else 4), w, (whF tp (le - s) s 0).2) else (s, s + 1, (if tp s = 59 then 3 else 4), w, z)
def tokF (tp : Nat → Int32) (le a : Nat) (w : Int64) (z : Int32) : Tk := tokS tp le (spF tp (le - a) a) w z
def adv2 (q : Rq) (k : Tk) : Rq := (q.fn, q.fp, q.ts, q.le, k.2.1, k.2.2.1, k.1, k.2.2.2.1, k.2.2.2.2, q.hr)
def advF (tp : Nat → Int32) (q : Rq) : Rq := adv2 q (tokF tp q.le q.at q.wd q.wh)
theorem e5_adv2 {ad : Nat → Nat} {M0 M : Mm} {b t : Nat} {tp : Nat → Int32} {sc : Nat → Int64} {q : Rq} (hb : aRq M b t tp sc q) (hF : Fr b 1 M0 M) (hl : q.le ≤ 1100) (ha : q.at ≤ q.le) : Ev ad 2 (rX5_advance ad) (38, [some (.ref b)], [], M) (fun v' M' => v' = none ∧ aRq M' b t tp sc (adv2 q (tokS tp q.le q.at q.wd q.wh)) ∧ Fr b 1 M0 M') := by
  obtain ⟨h0, h1, h2⟩ := hb
  unfold aR0 at h0
  repeat (first | refine es rfl rfl rfl ?_ | refine eg rfl (by assumption) rfl ?_ | refine ean rfl (by assumption) (by assumption) rfl ?_ | refine eal rfl (by assumption) (by assumption) rfl ?_ | refine eri rfl ?_ | refine erv rfl ?_ | refine erl rfl ?_ | refine era rfl ?_ | refine erz0 rfl ?_ | refine erz1 rfl ?_)
  try dsimp only [set1, set2, kilP, List.set_cons_zero, List.set_cons_succ, List.getElem?_cons_zero, List.getElem?_cons_succ, List.nil_append, List.cons_append, Option.toList_some, Option.toList_none]
  refine epM rfl (by assumption) rfl rfl rfl (fun M2 eM => ?_)
  have k0 := up_w eM
  replace h1 := up_k eM h1 (by omega)
  replace h2 := up_k eM h2 (by omega)
  replace hF := hF.up eM (by omega) (by omega)
  repeat (first | refine es rfl rfl rfl ?_ | refine eg rfl (by assumption) rfl ?_ | refine ean rfl (by assumption) (by assumption) rfl ?_ | refine eal rfl (by assumption) (by assumption) rfl ?_ | refine eri rfl ?_ | refine erv rfl ?_ | refine erl rfl ?_ | refine era rfl ?_ | refine erz0 rfl ?_ | refine erz1 rfl ?_)
  try dsimp only [set1, set2, kilP, List.set_cons_zero, List.set_cons_succ, List.getElem?_cons_zero, List.getElem?_cons_succ, List.nil_append, List.cons_append, Option.toList_some, Option.toList_none]
  unfold tokS
  by_cases hlt : q.at < q.le
  · rw [if_neg (by omega)]
    have ha1 : q.at < 1100 := by omega
    refine ei _ rfl rfl (fun c => ?_) (fun c => ?_)
    · repeat (first | refine es rfl rfl rfl ?_ | refine eg rfl (by assumption) rfl ?_ | refine ean rfl (by assumption) (by assumption) rfl ?_ | refine eal rfl (by assumption) (by assumption) rfl ?_ | refine eri rfl ?_ | refine erv rfl ?_ | refine erl rfl ?_ | refine era rfl ?_ | refine erz0 rfl ?_ | refine erz1 rfl ?_)
      try dsimp only [set1, set2, kilP, List.set_cons_zero, List.set_cons_succ, List.getElem?_cons_zero, List.getElem?_cons_succ, List.nil_append, List.cons_append, Option.toList_some, Option.toList_none]
      refine ecsr rfl rfl rfl rfl rfl rfl (e5_isL) (by first | rfl | exact Nat.blt_eq.mpr (by omega)) rfl ?_
      by_cases hL : isL (tp q.at)
      · rw [show bI (isL (tp q.at)) = 1 from if_pos hL, if_pos hL]
        repeat (first | refine es rfl rfl rfl ?_ | refine eg rfl (by assumption) rfl ?_ | refine ean rfl (by assumption) (by assumption) rfl ?_ | refine eal rfl (by assumption) (by assumption) rfl ?_ | refine eri rfl ?_ | refine erv rfl ?_ | refine erl rfl ?_ | refine era rfl ?_ | refine erz0 rfl ?_ | refine erz1 rfl ?_)
        try dsimp only [set1, set2, kilP, List.set_cons_zero, List.set_cons_succ, List.getElem?_cons_zero, List.getElem?_cons_succ, List.nil_append, List.cons_append, Option.toList_some, Option.toList_none]
        refine ecv rfl rfl (by assumption) rfl rfl rfl (e5_word (q := (q.fn, q.fp, q.ts, q.le, q.at, q.kd, q.at, q.wd, q.wh, q.hr)) ⟨k0, h1, h2⟩ hl ha (Nat.le_refl _)) (by first | rfl | exact Nat.blt_eq.mpr (by omega)) ?_
        rintro v M3 ⟨rfl, hb3, hF3⟩
        try dsimp only [set1, set2, kilP, List.set_cons_zero, List.set_cons_succ, List.getElem?_cons_zero, List.getElem?_cons_succ, List.nil_append, List.cons_append, Option.toList_some, Option.toList_none]
        repeat (first | refine es rfl rfl rfl ?_ | refine eg rfl (by assumption) rfl ?_ | refine ean rfl (by assumption) (by assumption) rfl ?_ | refine eal rfl (by assumption) (by assumption) rfl ?_ | refine eri rfl ?_ | refine erv rfl ?_ | refine erl rfl ?_ | refine era rfl ?_ | refine erz0 rfl ?_ | refine erz1 rfl ?_)
        try dsimp only [set1, set2, kilP, List.set_cons_zero, List.set_cons_succ, List.getElem?_cons_zero, List.getElem?_cons_succ, List.nil_append, List.cons_append, Option.toList_some, Option.toList_none]
        exact ⟨rfl, hb3, hF.tr hF3 (by omega) (by omega)⟩
      · rw [show bI (isL (tp q.at)) = 0 from if_neg hL, if_neg hL]
        repeat (first | refine es rfl rfl rfl ?_ | refine eg rfl (by assumption) rfl ?_ | refine ean rfl (by assumption) (by assumption) rfl ?_ | refine eal rfl (by assumption) (by assumption) rfl ?_ | refine eri rfl ?_ | refine erv rfl ?_ | refine erl rfl ?_ | refine era rfl ?_ | refine erz0 rfl ?_ | refine erz1 rfl ?_)
        try dsimp only [set1, set2, kilP, List.set_cons_zero, List.set_cons_succ, List.getElem?_cons_zero, List.getElem?_cons_succ, List.nil_append, List.cons_append, Option.toList_some, Option.toList_none]
        refine ecsr rfl rfl rfl rfl rfl rfl (e5_isD) (by first | rfl | exact Nat.blt_eq.mpr (by omega)) rfl ?_
        by_cases hD : isD (tp q.at)
        · rw [show bI (isD (tp q.at)) = 1 from if_pos hD, if_pos hD]
          repeat (first | refine es rfl rfl rfl ?_ | refine eg rfl (by assumption) rfl ?_ | refine ean rfl (by assumption) (by assumption) rfl ?_ | refine eal rfl (by assumption) (by assumption) rfl ?_ | refine eri rfl ?_ | refine erv rfl ?_ | refine erl rfl ?_ | refine era rfl ?_ | refine erz0 rfl ?_ | refine erz1 rfl ?_)
          try dsimp only [set1, set2, kilP, List.set_cons_zero, List.set_cons_succ, List.getElem?_cons_zero, List.getElem?_cons_succ, List.nil_append, List.cons_append, Option.toList_some, Option.toList_none]
          refine ecv rfl rfl (by assumption) rfl rfl rfl (e5_whole (q := (q.fn, q.fp, q.ts, q.le, q.at, q.kd, q.at, q.wd, q.wh, q.hr)) ⟨k0, h1, h2⟩ hl ha (Nat.le_refl _)) (by first | rfl | exact Nat.blt_eq.mpr (by omega)) ?_
          rintro v M3 ⟨rfl, hb3, hF3⟩
          try dsimp only [set1, set2, kilP, List.set_cons_zero, List.set_cons_succ, List.getElem?_cons_zero, List.getElem?_cons_succ, List.nil_append, List.cons_append, Option.toList_some, Option.toList_none]
          repeat (first | refine es rfl rfl rfl ?_ | refine eg rfl (by assumption) rfl ?_ | refine ean rfl (by assumption) (by assumption) rfl ?_ | refine eal rfl (by assumption) (by assumption) rfl ?_ | refine eri rfl ?_ | refine erv rfl ?_ | refine erl rfl ?_ | refine era rfl ?_ | refine erz0 rfl ?_ | refine erz1 rfl ?_)
          try dsimp only [set1, set2, kilP, List.set_cons_zero, List.set_cons_succ, List.getElem?_cons_zero, List.getElem?_cons_succ, List.nil_append, List.cons_append, Option.toList_some, Option.toList_none]
          exact ⟨rfl, hb3, hF.tr hF3 (by omega) (by omega)⟩
        · rw [show bI (isD (tp q.at)) = 0 from if_neg hD, if_neg hD]
          repeat (first | refine es rfl rfl rfl ?_ | refine eg rfl (by assumption) rfl ?_ | refine ean rfl (by assumption) (by assumption) rfl ?_ | refine eal rfl (by assumption) (by assumption) rfl ?_ | refine eri rfl ?_ | refine erv rfl ?_ | refine erl rfl ?_ | refine era rfl ?_ | refine erz0 rfl ?_ | refine erz1 rfl ?_)
          try dsimp only [set1, set2, kilP, List.set_cons_zero, List.set_cons_succ, List.getElem?_cons_zero, List.getElem?_cons_succ, List.nil_append, List.cons_append, Option.toList_some, Option.toList_none]
          refine ei _ rfl rfl (fun c2 => ?_) (fun c2 => ?_)
          · repeat (first | refine es rfl rfl rfl ?_ | refine eg rfl (by assumption) rfl ?_ | refine ean rfl (by assumption) (by assumption) rfl ?_ | refine eal rfl (by assumption) (by assumption) rfl ?_ | refine eri rfl ?_ | refine erv rfl ?_ | refine erl rfl ?_ | refine era rfl ?_ | refine erz0 rfl ?_ | refine erz1 rfl ?_)
            try dsimp only [set1, set2, kilP, List.set_cons_zero, List.set_cons_succ, List.getElem?_cons_zero, List.getElem?_cons_succ, List.nil_append, List.cons_append, Option.toList_some, Option.toList_none]
            refine epM rfl (by assumption) rfl rfl rfl (fun M3 eM3 => ?_)
            have k3 := up_w eM3
            replace h1 := up_k eM3 h1 (by omega)
            replace h2 := up_k eM3 h2 (by omega)
            replace hF := hF.up eM3 (by omega) (by omega)
            repeat (first | refine es rfl rfl rfl ?_ | refine eg rfl (by assumption) rfl ?_ | refine ean rfl (by assumption) (by assumption) rfl ?_ | refine eal rfl (by assumption) (by assumption) rfl ?_ | refine eri rfl ?_ | refine erv rfl ?_ | refine erl rfl ?_ | refine era rfl ?_ | refine erz0 rfl ?_ | refine erz1 rfl ?_)
            try dsimp only [set1, set2, kilP, List.set_cons_zero, List.set_cons_succ, List.getElem?_cons_zero, List.getElem?_cons_succ, List.nil_append, List.cons_append, Option.toList_some, Option.toList_none]
            rw [nI_1]
            refine epM rfl (by assumption) rfl rfl rfl (fun M4 eM4 => ?_)
            have k4 := up_w eM4
            replace h1 := up_k eM4 h1 (by omega)
            replace h2 := up_k eM4 h2 (by omega)
            replace hF := hF.up eM4 (by omega) (by omega)
            repeat (first | refine es rfl rfl rfl ?_ | refine eg rfl (by assumption) rfl ?_ | refine ean rfl (by assumption) (by assumption) rfl ?_ | refine eal rfl (by assumption) (by assumption) rfl ?_ | refine eri rfl ?_ | refine erv rfl ?_ | refine erl rfl ?_ | refine era rfl ?_ | refine erz0 rfl ?_ | refine erz1 rfl ?_)
            try dsimp only [set1, set2, kilP, List.set_cons_zero, List.set_cons_succ, List.getElem?_cons_zero, List.getElem?_cons_succ, List.nil_append, List.cons_append, Option.toList_some, Option.toList_none]
            rw [if_neg c2]
            exact ⟨rfl, ⟨k4, h1, h2⟩, hF⟩
          · repeat (first | refine es rfl rfl rfl ?_ | refine eg rfl (by assumption) rfl ?_ | refine ean rfl (by assumption) (by assumption) rfl ?_ | refine eal rfl (by assumption) (by assumption) rfl ?_ | refine eri rfl ?_ | refine erv rfl ?_ | refine erl rfl ?_ | refine era rfl ?_ | refine erz0 rfl ?_ | refine erz1 rfl ?_)
            try dsimp only [set1, set2, kilP, List.set_cons_zero, List.set_cons_succ, List.getElem?_cons_zero, List.getElem?_cons_succ, List.nil_append, List.cons_append, Option.toList_some, Option.toList_none]
            refine epM rfl (by assumption) rfl rfl rfl (fun M3 eM3 => ?_)
            have k3 := up_w eM3
            replace h1 := up_k eM3 h1 (by omega)
            replace h2 := up_k eM3 h2 (by omega)
            replace hF := hF.up eM3 (by omega) (by omega)
            repeat (first | refine es rfl rfl rfl ?_ | refine eg rfl (by assumption) rfl ?_ | refine ean rfl (by assumption) (by assumption) rfl ?_ | refine eal rfl (by assumption) (by assumption) rfl ?_ | refine eri rfl ?_ | refine erv rfl ?_ | refine erl rfl ?_ | refine era rfl ?_ | refine erz0 rfl ?_ | refine erz1 rfl ?_)
            try dsimp only [set1, set2, kilP, List.set_cons_zero, List.set_cons_succ, List.getElem?_cons_zero, List.getElem?_cons_succ, List.nil_append, List.cons_append, Option.toList_some, Option.toList_none]
            rw [nI_1]
            refine epM rfl (by assumption) rfl rfl rfl (fun M4 eM4 => ?_)
            have k4 := up_w eM4
            replace h1 := up_k eM4 h1 (by omega)
            replace h2 := up_k eM4 h2 (by omega)
            replace hF := hF.up eM4 (by omega) (by omega)
            repeat (first | refine es rfl rfl rfl ?_ | refine eg rfl (by assumption) rfl ?_ | refine ean rfl (by assumption) (by assumption) rfl ?_ | refine eal rfl (by assumption) (by assumption) rfl ?_ | refine eri rfl ?_ | refine erv rfl ?_ | refine erl rfl ?_ | refine era rfl ?_ | refine erz0 rfl ?_ | refine erz1 rfl ?_)
            try dsimp only [set1, set2, kilP, List.set_cons_zero, List.set_cons_succ, List.getElem?_cons_zero, List.getElem?_cons_succ, List.nil_append, List.cons_append, Option.toList_some, Option.toList_none]
            rw [if_pos (Decidable.byContradiction c2)]
            exact ⟨rfl, ⟨k4, h1, h2⟩, hF⟩
    · exact absurd (nI_lt (by omega) (by omega)) c
  · rw [if_pos (by omega)]
    refine ei _ rfl rfl (fun c => ?_) (fun c => ?_)
    · exact absurd c (nI_nlt (by omega) (by omega))
    · repeat (first | refine es rfl rfl rfl ?_ | refine eg rfl (by assumption) rfl ?_ | refine ean rfl (by assumption) (by assumption) rfl ?_ | refine eal rfl (by assumption) (by assumption) rfl ?_ | refine eri rfl ?_ | refine erv rfl ?_ | refine erl rfl ?_ | refine era rfl ?_ | refine erz0 rfl ?_ | refine erz1 rfl ?_)
      try dsimp only [set1, set2, kilP, List.set_cons_zero, List.set_cons_succ, List.getElem?_cons_zero, List.getElem?_cons_succ, List.nil_append, List.cons_append, Option.toList_some, Option.toList_none]
      refine epM rfl (by assumption) rfl rfl rfl (fun M3 eM3 => ?_)
      have k3 := up_w eM3
      replace h1 := up_k eM3 h1 (by omega)
      replace h2 := up_k eM3 h2 (by omega)
      replace hF := hF.up eM3 (by omega) (by omega)
      repeat (first | refine es rfl rfl rfl ?_ | refine eg rfl (by assumption) rfl ?_ | refine ean rfl (by assumption) (by assumption) rfl ?_ | refine eal rfl (by assumption) (by assumption) rfl ?_ | refine eri rfl ?_ | refine erv rfl ?_ | refine erl rfl ?_ | refine era rfl ?_ | refine erz0 rfl ?_ | refine erz1 rfl ?_)
      try dsimp only [set1, set2, kilP, List.set_cons_zero, List.set_cons_succ, List.getElem?_cons_zero, List.getElem?_cons_succ, List.nil_append, List.cons_append, Option.toList_some, Option.toList_none]
      exact ⟨rfl, ⟨k3, h1, h2⟩, hF⟩
theorem e5_adv1 {ad : Nat → Nat} {b t : Nat} {tp : Nat → Int32} {sc : Nat → Int64} : ∀ (n : Nat) (M0 M : Mm) (q : Rq), aRq M b t tp sc q → Fr b 1 M0 M → q.at + n = q.le → q.le ≤ 1100 → Ev ad 2 (rX5_advance ad) (0, [some (.ref b)], [], M) (fun v' M' => v' = none ∧ aRq M' b t tp sc (adv2 q (tokS tp q.le (spF tp n q.at) q.wd q.wh)) ∧ Fr b 1 M0 M') := by
  intro n
  induction n with
  | zero =>
    intro M0 M q hb hF hn hl
    have hb' := hb
    obtain ⟨h0, h1, h2⟩ := hb
    unfold aR0 at h0
    repeat (first | refine es rfl rfl rfl ?_ | refine eg rfl (by assumption) rfl ?_ | refine ean rfl (by assumption) (by assumption) rfl ?_ | refine eal rfl (by assumption) (by assumption) rfl ?_ | refine eri rfl ?_ | refine erv rfl ?_ | refine erl rfl ?_ | refine era rfl ?_ | refine erz0 rfl ?_ | refine erz1 rfl ?_)
    try dsimp only [set1, set2, kilP, List.set_cons_zero, List.set_cons_succ, List.getElem?_cons_zero, List.getElem?_cons_succ, List.nil_append, List.cons_append, Option.toList_some, Option.toList_none]
    refine ei _ rfl rfl (fun c => ?_) (fun c => ?_)
    · exact e5_adv2 hb' hF hl (by omega)
    · exact absurd (nI_le (by omega) (by omega)) c
  | succ n ih =>
    intro M0 M q hb hF hn hl
    have hb' := hb
    obtain ⟨h0, h1, h2⟩ := hb
    unfold aR0 at h0
    have ha1 : q.at < 1100 := by omega
    repeat (first | refine es rfl rfl rfl ?_ | refine eg rfl (by assumption) rfl ?_ | refine ean rfl (by assumption) (by assumption) rfl ?_ | refine eal rfl (by assumption) (by assumption) rfl ?_ | refine eri rfl ?_ | refine erv rfl ?_ | refine erl rfl ?_ | refine era rfl ?_ | refine erz0 rfl ?_ | refine erz1 rfl ?_)
    try dsimp only [set1, set2, kilP, List.set_cons_zero, List.set_cons_succ, List.getElem?_cons_zero, List.getElem?_cons_succ, List.nil_append, List.cons_append, Option.toList_some, Option.toList_none]
    refine ei _ rfl rfl (fun c => ?_) (fun c => ?_)
    · exact absurd c (nI_ge (by omega) (by omega))
    · repeat (first | refine es rfl rfl rfl ?_ | refine eg rfl (by assumption) rfl ?_ | refine ean rfl (by assumption) (by assumption) rfl ?_ | refine eal rfl (by assumption) (by assumption) rfl ?_ | refine eri rfl ?_ | refine erv rfl ?_ | refine erl rfl ?_ | refine era rfl ?_ | refine erz0 rfl ?_ | refine erz1 rfl ?_)
      try dsimp only [set1, set2, kilP, List.set_cons_zero, List.set_cons_succ, List.getElem?_cons_zero, List.getElem?_cons_succ, List.nil_append, List.cons_append, Option.toList_some, Option.toList_none]
      rw [spF]
      refine ei _ rfl rfl (fun c2 => ?_) (fun c2 => ?_)
      · rw [if_neg c2]
        exact e5_adv2 hb' hF hl (by omega)
      · rw [if_pos (Decidable.byContradiction c2)]
        repeat (first | refine es rfl rfl rfl ?_ | refine eg rfl (by assumption) rfl ?_ | refine ean rfl (by assumption) (by assumption) rfl ?_ | refine eal rfl (by assumption) (by assumption) rfl ?_ | refine eri rfl ?_ | refine erv rfl ?_ | refine erl rfl ?_ | refine era rfl ?_ | refine erz0 rfl ?_ | refine erz1 rfl ?_)
        try dsimp only [set1, set2, kilP, List.set_cons_zero, List.set_cons_succ, List.getElem?_cons_zero, List.getElem?_cons_succ, List.nil_append, List.cons_append, Option.toList_some, Option.toList_none]
        rw [nI_1]
        refine epM rfl (by assumption) rfl rfl rfl (fun M2 eM => ?_)
        have k0 := up_w eM
        replace h1 := up_k eM h1 (by omega)
        replace h2 := up_k eM h2 (by omega)
        replace hF := hF.up eM (by omega) (by omega)
        repeat (refine ng 0 rfl ?_; first | refine es rfl rfl rfl ?_ | refine eg rfl (by assumption) rfl ?_ | refine ean rfl (by assumption) (by assumption) rfl ?_ | refine eal rfl (by assumption) (by assumption) rfl ?_ | refine eri rfl ?_ | refine erv rfl ?_ | refine erl rfl ?_ | refine era rfl ?_ | refine erz0 rfl ?_ | refine erz1 rfl ?_)
        try dsimp only [set1, set2, kilP, List.set_cons_zero, List.set_cons_succ, List.getElem?_cons_zero, List.getElem?_cons_succ, List.nil_append, List.cons_append, Option.toList_some, Option.toList_none]
        exact ih M0 M2 (q.fn, q.fp, q.ts, q.le, q.at + 1, q.kd, q.st, q.wd, q.wh, q.hr) ⟨k0, h1, h2⟩ hF (by (try dsimp only [Rq.at, Rq.le, Rq.st, Rq.ts, Rq.kd] at *); omega) hl
theorem e5_advance {ad : Nat → Nat} {M : Mm} {b t : Nat} {tp : Nat → Int32} {sc : Nat → Int64} {q : Rq} (hb : aRq M b t tp sc q) (hl : q.le ≤ 1100) (ha : q.at ≤ q.le) : EvM ad 2 (iX5_advance ad) [.ref b] M (fun v' M' => v' = none ∧ aRq M' b t tp sc (advF tp q) ∧ Fr b 1 M M') := by
  refine ⟨Nat.le_of_ble_eq_true rfl, ?_⟩
  show Ev ad _ (rX5_advance ad) (0, [some (.ref b)], [], M) _
  exact e5_adv1 (q.le - q.at) M M q hb (Fr.rf b 1 M) (by omega) hl
def failF (n : Int32) (q : Rq) : Rq := (n, nI q.st, q.ts, q.le, q.at, q.kd, q.st, q.wd, q.wh, q.hr)
theorem e5_fail {ad : Nat → Nat} {M : Mm} {b t : Nat} {tp : Nat → Int32} {sc : Nat → Int64} {q : Rq} {n : Int32} (hb : aRq M b t tp sc q) : EvM ad 0 (iX5_fail ad) [.ref b, .int n] M (fun v' M' => v' = some (.int 0) ∧ aRq M' b t tp sc (failF n q) ∧ Fr b 1 M M') := by
  obtain ⟨h0, h1, h2⟩ := hb
  unfold aR0 at h0
  have hF := Fr.rf b 1 M
  refine ⟨Nat.le_of_ble_eq_true rfl, ?_⟩
  show Ev ad _ (rX5_fail ad) (0, [some (.ref b), some (.int n)], [], M) _
  repeat (first | refine es rfl rfl rfl ?_ | refine eg rfl (by assumption) rfl ?_ | refine ean rfl (by assumption) (by assumption) rfl ?_ | refine eal rfl (by assumption) (by assumption) rfl ?_ | refine eri rfl ?_ | refine erv rfl ?_ | refine erl rfl ?_ | refine era rfl ?_ | refine erz0 rfl ?_ | refine erz1 rfl ?_)
  try dsimp only [set1, set2, kilP, List.set_cons_zero, List.set_cons_succ, List.getElem?_cons_zero, List.getElem?_cons_succ, List.nil_append, List.cons_append, Option.toList_some, Option.toList_none]
  refine epM rfl (by assumption) rfl rfl rfl (fun M2 eM => ?_)
  have k0 := up_w eM
  replace h1 := up_k eM h1 (by omega)
  replace h2 := up_k eM h2 (by omega)
  replace hF := hF.up eM (by omega) (by omega)
  repeat (first | refine es rfl rfl rfl ?_ | refine eg rfl (by assumption) rfl ?_ | refine ean rfl (by assumption) (by assumption) rfl ?_ | refine eal rfl (by assumption) (by assumption) rfl ?_ | refine eri rfl ?_ | refine erv rfl ?_ | refine erl rfl ?_ | refine era rfl ?_ | refine erz0 rfl ?_ | refine erz1 rfl ?_)
  try dsimp only [set1, set2, kilP, List.set_cons_zero, List.set_cons_succ, List.getElem?_cons_zero, List.getElem?_cons_succ, List.nil_append, List.cons_append, Option.toList_some, Option.toList_none]
  refine epM rfl (by assumption) rfl rfl rfl (fun M3 eM3 => ?_)
  have k3 := up_w eM3
  replace h1 := up_k eM3 h1 (by omega)
  replace h2 := up_k eM3 h2 (by omega)
  replace hF := hF.up eM3 (by omega) (by omega)
  repeat (first | refine es rfl rfl rfl ?_ | refine eg rfl (by assumption) rfl ?_ | refine ean rfl (by assumption) (by assumption) rfl ?_ | refine eal rfl (by assumption) (by assumption) rfl ?_ | refine eri rfl ?_ | refine erv rfl ?_ | refine erl rfl ?_ | refine era rfl ?_ | refine erz0 rfl ?_ | refine erz1 rfl ?_)
  try dsimp only [set1, set2, kilP, List.set_cons_zero, List.set_cons_succ, List.getElem?_cons_zero, List.getElem?_cons_succ, List.nil_append, List.cons_append, Option.toList_some, Option.toList_none]
  exact ⟨rfl, ⟨k3, h1, h2⟩, hF⟩

theorem tok_kd (tp : Nat → Int32) (q : Rq) : (advF tp q).kd ≤ 4 := by
  unfold advF adv2 tokF tokS
  dsimp only [Rq.kd]
  split
  · dsimp only; omega
  · split
    · dsimp only; split <;> omega
    · split
      · dsimp only; split <;> omega
      · dsimp only; split <;> omega
theorem tok_at (tp : Nat → Int32) (q : Rq) (h : q.at ≤ q.le) : q.at ≤ (advF tp q).at ∧ (advF tp q).at ≤ q.le := by
  have h1 := spF_b tp (q.le - q.at) q.at
  unfold advF adv2 tokF tokS
  dsimp only [Rq.at]
  split
  · dsimp only [Rq.at, Rq.le] at *; omega
  · split
    · have h2 := wdF_b tp (q.le - spF tp (q.le - q.at) q.at) (spF tp (q.le - q.at) q.at) 0
      dsimp only [Rq.at, Rq.le] at *; omega
    · split
      · have h2 := whF_b tp (q.le - spF tp (q.le - q.at) q.at) (spF tp (q.le - q.at) q.at) 0
        dsimp only [Rq.at, Rq.le] at *; omega
      · dsimp only [Rq.at, Rq.le] at *; omega
theorem nI_inj {a b : Nat} (ha : a < 2 ^ 31) (hb : b < 2 ^ 31) (h : nI a = nI b) : a = b := (nI_eq ha hb).mp h
