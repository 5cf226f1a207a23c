/-! The reference: rooms that are each other's, candles, signs, sizes -/
theorem php : ∀ (n : Nat) (y : Nat → Nat), (∀ j, j ≤ n → y j < n) → ∃ i j, i < j ∧ j ≤ n ∧ y i = y j
  | 0, y, h => absurd (h 0 (Nat.le_refl _)) (by omega)
  | n + 1, y, h => by
    by_cases q : ∃ i, i ≤ n ∧ y i = y (n + 1)
    · obtain ⟨i, hi, e⟩ := q
      exact ⟨i, n + 1, by omega, Nat.le_refl _, e⟩
    · have q2 : ∀ i, i ≤ n → ¬ y i = y (n + 1) := fun i hi e => q ⟨i, hi, e⟩
      have hv := h (n + 1) (Nat.le_refl _)
      obtain ⟨i, j, h1, h2, h3⟩ := php n (fun j => if y j = n then y (n + 1) else y j) (fun j hj => by
        have hj2 := h j (by omega)
        have := q2 j hj
        show (if y j = n then y (n + 1) else y j) < n
        split <;> omega)
      refine ⟨i, j, h1, by omega, ?_⟩
      have a1 := q2 i (by omega)
      have a2 := q2 j h2
      split at h3 <;> split at h3 <;> omega
theorem behF_s {f : Nat → Int32} : ∀ n x, ¬ behF f n x = -2 → behF f (n + 1) x = f (behF f n x).toNatClampNeg
  | 0, x, h => by
    rw [behF] at h
    rw [show behF f (0 + 1) x = (if x = -2 then x else behF f 0 (f x.toNatClampNeg)) from rfl, if_neg h]
    rfl
  | n + 1, x, h => by
    by_cases q : x = -2
    · rw [behF, if_pos q] at h; exact absurd q h
    · rw [behF, if_neg q]
      rw [behF, if_neg q] at h
      rw [behF_s n _ h, behF, if_neg q]
theorem behF_2 {f : Nat → Int32} : ∀ n x, behF f n x = -2 → behF f (n + 1) x = -2
  | 0, x, h => by rw [behF] at h; rw [behF, if_pos h]; exact h
  | n + 1, x, h => by
    by_cases q : x = -2
    · rw [behF, if_pos q]; exact q
    · rw [behF, if_neg q]
      rw [behF, if_neg q] at h
      exact behF_2 n _ h
theorem behF_ok {f : Nat → Int32} (hf : okR f) : ∀ n x, (x = -2 ∨ ∃ k, k < 7 ∧ x = nI k) → behF f n x = -2 ∨ ∃ k, k < 7 ∧ behF f n x = nI k
  | 0, x, h => by rw [behF]; exact h
  | n + 1, x, h => by
    by_cases q : x = -2
    · rw [behF, if_pos q]; exact Or.inl q
    · obtain ⟨k, hk, rfl⟩ := h.resolve_left q
      rw [behF, if_neg q, nI_clamp (by omega)]
      exact behF_ok hf n _ (hf k hk)
theorem cndF_2 {f : Nat → Int32} {k : Nat} (hk : k < 7) : ∀ n i, behF f i (nI k) = -2 → cndF f k n i = -2
  | 0, i, _ => rfl
  | n + 1, i, h => by
    rw [cndF, if_neg (by rw [h]; exact fun q => nI_n2 (by omega) q.symm)]
    exact cndF_2 hk n (i + 1) (behF_2 i _ h)
/-- a candle comes back, or to a house whose room nobody knows, within seven doors -/
theorem cnd_ph {f : Nat → Int32} {k : Nat} (hf : okR f) (hi : ∀ j k, j < 7 → k < 7 → f j = f k → f j = -2 ∨ j = k) (hk : k < 7) (h1 : ∀ i, 1 ≤ i → i < 8 → ¬ behF f i (nI k) = nI k) (h2 : ¬ behF f 7 (nI k) = -2) : False := by
  have hn : ∀ m i, i + m = 7 → ¬ behF f i (nI k) = -2 := by
    intro m
    induction m with
    | zero => intro i e; rw [show i = 7 by omega]; exact h2
    | succ m ih => intro i e q; exact ih (i + 1) (by omega) (behF_2 i _ q)
  have hv : ∀ i, i ≤ 7 → ∃ y, y < 7 ∧ behF f i (nI k) = nI y := fun i hi' => (behF_ok hf i (nI k) (Or.inr ⟨k, hk, rfl⟩)).resolve_left (hn (7 - i) i (by omega))
  obtain ⟨i, j, a1, a2, a3⟩ := php 7 (fun i => (behF f i (nI k)).toNatClampNeg) (fun i hi' => by
    obtain ⟨y, hy, e⟩ := hv i hi'
    show (behF f i (nI k)).toNatClampNeg < 7
    rw [e, nI_clamp (by omega)]
    exact hy)
  have hb : ∀ i j, i < j → j ≤ 7 → behF f i (nI k) = behF f j (nI k) → False := by
    intro i
    induction i with
    | zero => intro j p1 p2 p3; exact h1 j (by omega) (by omega) p3.symm
    | succ i ih =>
      intro j p1 p2 p3
      obtain ⟨j, rfl⟩ : ∃ j', j = j' + 1 := ⟨j - 1, by omega⟩
      obtain ⟨y, hy, ey⟩ := hv i (by omega)
      obtain ⟨z, hz, ez⟩ := hv j (by omega)
      have e1 := behF_s (f := f) i (nI k) (hn (7 - i) i (by omega))
      have e2 := behF_s (f := f) j (nI k) (hn (7 - j) j (by omega))
      rw [ey, nI_clamp (by omega)] at e1
      rw [ez, nI_clamp (by omega)] at e2
      have e3 : f y = f z := by rw [← e1, ← e2]; exact p3
      rcases hi y z hy hz e3 with q | q
      · exact hn (7 - (i + 1)) (i + 1) (by omega) (e1.trans q)
      · exact ih j (by omega) (by omega) (by rw [ey, ez, q])
  obtain ⟨y, hy, ey⟩ := hv i (by omega)
  obtain ⟨z, hz, ez⟩ := hv j a2
  refine hb i j a1 a2 ?_
  rw [ey, ez] at a3 ⊢
  rw [nI_clamp (by omega), nI_clamp (by omega)] at a3
  rw [a3]
theorem mutu_cg {f g : Nat → Int32} (hf : okR f) (h : ∀ j, j < 7 → f j = g j) {k : Nat} (hk : k < 7) : mutu f k ↔ mutu g k := by
  unfold mutu
  rw [← h k hk]
  constructor
  · rintro ⟨a, c⟩
    obtain ⟨j, hj, e⟩ := (hf k hk).resolve_left a
    rw [e, nI_clamp (by omega)] at c ⊢
    exact ⟨by rw [e] at a; exact a, by rw [← h j hj]; exact c⟩
  · rintro ⟨a, c⟩
    obtain ⟨j, hj, e⟩ := (hf k hk).resolve_left a
    rw [e, nI_clamp (by omega)] at c ⊢
    exact ⟨by rw [e] at a; exact a, by rw [h j hj]; exact c⟩
theorem mutB_cg {f g : Nat → Int32} (hf : okR f) (h : ∀ j, j < 7 → f j = g j) {k : Nat} (hk : k < 7) : mutB f k = mutB g k := by
  have := mutu_cg hf h hk
  by_cases q : mutu f k
  · rw [mutB_t q, mutB_t (this.mp q)]
  · rw [mutB_f q, mutB_f (fun z => q (this.mpr z))]
theorem mbF_cg {f g : Nat → Int32} (hf : okR f) (h : ∀ j, j < 7 → f j = g j) : ∀ n, n ≤ 7 → mbF f n = mbF g n
  | 0, _ => rfl
  | n + 1, hn => by rw [mbF, mbF, mutB_cg hf h (by omega), mbF_cg hf h n (by omega)]
theorem mbN_cg {f g : Nat → Int32} (hf : okR f) (h : ∀ j, j < 7 → f j = g j) : ∀ n, n ≤ 7 → mbN f n = mbN g n
  | 0, _ => rfl
  | n + 1, hn => by rw [mbN, mbN, mutB_cg hf h (by omega), mbN_cg hf h n (by omega)]
theorem pop_st : ∀ k, k < 128 → 0 < k → nI k &&& (nI k - 1) = nI (k &&& (k - 1)) ∧ (k &&& (k - 1)) < k ∧ popc k = popc (k &&& (k - 1)) + 1 := by decide +kernel
section RNOW
variable {ad : Nat → Nat} {M : Mm} {b : Nat} {σ : Sg} {C : Nat}
theorem y_bits_loop {x : Int32} : ∀ (k n : Nat), k < 128 → Ev ad 0 (rX13_bits ad) (4, [some (.int x), some (.int (nI n)), some (.int (nI k))], [], M) (fun v' M' => v' = some (.int (nI (n + popc k))) ∧ M' = M) := by
  intro k
  induction k using Nat.strongRecOn with
  | ind k ih =>
    intro n hk
    repeat (first | refine es rfl rfl rfl ?_ | refine eg rfl (by assumption) rfl ?_ | refine ean rfl (by assumption) (by assumption) rfl ?_ | refine eal rfl (by assumption) (by assumption) rfl ?_ | refine eri rfl ?_ | refine erv rfl ?_ | refine erl rfl ?_ | refine era rfl ?_ | refine erz0 rfl ?_ | refine erz1 rfl ?_ | refine ean0 rfl (by assumption) (by assumption) rfl ?_ | refine ean8 rfl (by assumption) (by assumption) rfl ?_ | refine ean12 rfl (by assumption) (by assumption) rfl ?_ | refine ean7 rfl (by assumption) (by assumption) rfl ?_)
    try dsimp only [set1, set2, kilP, List.set_cons_zero, List.set_cons_succ, List.getElem?_cons_zero, List.getElem?_cons_succ, List.nil_append, List.cons_append, Option.toList_some, Option.toList_none]
    refine ei _ rfl rfl (fun c => ?_) (fun c => ?_)
    · have h0 : k = 0 := (nI_eq (b := 0) (by omega) (by omega)).mp c
      subst h0
      repeat (first | refine es rfl rfl rfl ?_ | refine eg rfl (by assumption) rfl ?_ | refine ean rfl (by assumption) (by assumption) rfl ?_ | refine eal rfl (by assumption) (by assumption) rfl ?_ | refine eri rfl ?_ | refine erv rfl ?_ | refine erl rfl ?_ | refine era rfl ?_ | refine erz0 rfl ?_ | refine erz1 rfl ?_ | refine ean0 rfl (by assumption) (by assumption) rfl ?_ | refine ean8 rfl (by assumption) (by assumption) rfl ?_ | refine ean12 rfl (by assumption) (by assumption) rfl ?_ | refine ean7 rfl (by assumption) (by assumption) rfl ?_)
      try dsimp only [set1, set2, kilP, List.set_cons_zero, List.set_cons_succ, List.getElem?_cons_zero, List.getElem?_cons_succ, List.nil_append, List.cons_append, Option.toList_some, Option.toList_none]
      rw [show popc 0 = 0 by decide]
      exact ⟨rfl, rfl⟩
    · have h0 : 0 < k := Nat.pos_of_ne_zero (fun q => c (by rw [q]; rfl))
      obtain ⟨e1, e2, e3⟩ := pop_st k hk h0
      repeat (refine ng 4 rfl ?_; first | refine es rfl rfl rfl ?_ | refine eg rfl (by assumption) rfl ?_ | refine ean rfl (by assumption) (by assumption) rfl ?_ | refine eal rfl (by assumption) (by assumption) rfl ?_ | refine eri rfl ?_ | refine erv rfl ?_ | refine erl rfl ?_ | refine era rfl ?_ | refine erz0 rfl ?_ | refine erz1 rfl ?_ | refine ean0 rfl (by assumption) (by assumption) rfl ?_ | refine ean8 rfl (by assumption) (by assumption) rfl ?_ | refine ean12 rfl (by assumption) (by assumption) rfl ?_ | refine ean7 rfl (by assumption) (by assumption) rfl ?_)
      try dsimp only [set1, set2, kilP, List.set_cons_zero, List.set_cons_succ, List.getElem?_cons_zero, List.getElem?_cons_succ, List.nil_append, List.cons_append, Option.toList_some, Option.toList_none]
      rw [e1, nI_1]
      refine (ih (k &&& (k - 1)) e2 (n + 1) (by omega)).im (fun v M1 q => ⟨q.1.trans ?_, q.2⟩)
      rw [e3, show n + 1 + popc (k &&& (k - 1)) = n + (popc (k &&& (k - 1)) + 1) by omega]
theorem y_bits {k : Nat} (hk : k < 128) : Rd ad 0 (iX13_bits ad) [.int (nI k)] M (some (.int (nI (popc k)))) := by
  refine ⟨Nat.le_of_ble_eq_true rfl, ?_⟩
  show Ev ad _ (rX13_bits ad) (0, [some (.int (nI k)), none, none], [], M) _
  repeat (refine ng 4 rfl ?_; first | refine es rfl rfl rfl ?_ | refine eg rfl (by assumption) rfl ?_ | refine ean rfl (by assumption) (by assumption) rfl ?_ | refine eal rfl (by assumption) (by assumption) rfl ?_ | refine eri rfl ?_ | refine erv rfl ?_ | refine erl rfl ?_ | refine era rfl ?_ | refine erz0 rfl ?_ | refine erz1 rfl ?_ | refine ean0 rfl (by assumption) (by assumption) rfl ?_ | refine ean8 rfl (by assumption) (by assumption) rfl ?_ | refine ean12 rfl (by assumption) (by assumption) rfl ?_ | refine ean7 rfl (by assumption) (by assumption) rfl ?_)
  try dsimp only [set1, set2, kilP, List.set_cons_zero, List.set_cons_succ, List.getElem?_cons_zero, List.getElem?_cons_succ, List.nil_append, List.cons_append, Option.toList_some, Option.toList_none]
  refine (y_bits_loop k 0 hk).im (fun v M1 q => ⟨q.1.trans ?_, q.2⟩)
  rw [Nat.zero_add]
theorem y_tries_loop {o : Yo} : ∀ (n i : Nat) (M : Mm) (A : Ar), aY M b o A → i + n = 7 → (∀ j, j < i → A 5 j = A 2 j) → Ev ad 0 (rX13_tries ad) (2, [some (.ref b), some (.int (nI i))], [], M) (fun v' M' => v' = none ∧ ∃ g, (∀ j, j < 7 → g j = A 2 j) ∧ M' = up M (b + 5) (.inl (0, 7, .inl g))) := by
  intro n
  induction n with
  | zero =>
    intro i M A hy hn hq
    have h0 := hy.1
    repeat (first | refine es rfl rfl rfl ?_ | refine eg rfl (by assumption) rfl ?_ | refine ean rfl (by assumption) (by assumption) rfl ?_ | refine eal rfl (by assumption) (by assumption) rfl ?_ | refine eri rfl ?_ | refine erv rfl ?_ | refine erl rfl ?_ | refine era rfl ?_ | refine erz0 rfl ?_ | refine erz1 rfl ?_ | refine ean0 rfl (by assumption) (by assumption) rfl ?_ | refine ean8 rfl (by assumption) (by assumption) rfl ?_ | refine ean12 rfl (by assumption) (by assumption) rfl ?_ | refine ean7 rfl (by assumption) (by assumption) rfl ?_)
    try dsimp only [set1, set2, kilP, List.set_cons_zero, List.set_cons_succ, List.getElem?_cons_zero, List.getElem?_cons_succ, List.nil_append, List.cons_append, Option.toList_some, Option.toList_none]
    refine ei _ rfl rfl (fun c => ?_) (fun c => ?_)
    · repeat (first | refine es rfl rfl rfl ?_ | refine eg rfl (by assumption) rfl ?_ | refine ean rfl (by assumption) (by assumption) rfl ?_ | refine eal rfl (by assumption) (by assumption) rfl ?_ | refine eri rfl ?_ | refine erv rfl ?_ | refine erl rfl ?_ | refine era rfl ?_ | refine erz0 rfl ?_ | refine erz1 rfl ?_ | refine ean0 rfl (by assumption) (by assumption) rfl ?_ | refine ean8 rfl (by assumption) (by assumption) rfl ?_ | refine ean12 rfl (by assumption) (by assumption) rfl ?_ | refine ean7 rfl (by assumption) (by assumption) rfl ?_)
      try dsimp only [set1, set2, kilP, List.set_cons_zero, List.set_cons_succ, List.getElem?_cons_zero, List.getElem?_cons_succ, List.nil_append, List.cons_append, Option.toList_some, Option.toList_none]
      exact ⟨rfl, A 5, fun j hj => hq j (by omega), (up_id hy.c.2.2.2.2.1).symm⟩
    · exact absurd (show (7 : Int32) ≤ nI i from nI_le (a := 7) (by omega) (by omega)) c
  | succ n ih =>
    intro i M A hy hn hq
    have h0 := hy.1
    have h2 := hy.c.2.1
    have h5 := hy.c.2.2.2.2.1
    have hi : i < 16 := by omega
    have hi7 : i < 7 := by omega
    repeat (first | refine es rfl rfl rfl ?_ | refine eg rfl (by assumption) rfl ?_ | refine ean rfl (by assumption) (by assumption) rfl ?_ | refine eal rfl (by assumption) (by assumption) rfl ?_ | refine eri rfl ?_ | refine erv rfl ?_ | refine erl rfl ?_ | refine era rfl ?_ | refine erz0 rfl ?_ | refine erz1 rfl ?_ | refine ean0 rfl (by assumption) (by assumption) rfl ?_ | refine ean8 rfl (by assumption) (by assumption) rfl ?_ | refine ean12 rfl (by assumption) (by assumption) rfl ?_ | refine ean7 rfl (by assumption) (by assumption) rfl ?_)
    try dsimp only [set1, set2, kilP, List.set_cons_zero, List.set_cons_succ, List.getElem?_cons_zero, List.getElem?_cons_succ, List.nil_append, List.cons_append, Option.toList_some, Option.toList_none]
    refine ei _ rfl rfl (fun c => ?_) (fun c => ?_)
    · exact absurd c (nI_ge (b := 7) (by omega) (by omega))
    · repeat (first | refine es rfl rfl rfl ?_ | refine eg rfl (by assumption) rfl ?_ | refine ean rfl (by assumption) (by assumption) rfl ?_ | refine eal rfl (by assumption) (by assumption) rfl ?_ | refine eri rfl ?_ | refine erv rfl ?_ | refine erl rfl ?_ | refine era rfl ?_ | refine erz0 rfl ?_ | refine erz1 rfl ?_ | refine ean0 rfl (by assumption) (by assumption) rfl ?_ | refine ean8 rfl (by assumption) (by assumption) rfl ?_ | refine ean12 rfl (by assumption) (by assumption) rfl ?_ | refine ean7 rfl (by assumption) (by assumption) rfl ?_)
      try dsimp only [set1, set2, kilP, List.set_cons_zero, List.set_cons_succ, List.getElem?_cons_zero, List.getElem?_cons_succ, List.nil_append, List.cons_append, Option.toList_some, Option.toList_none]
      refine etM rfl h5 hi7 rfl (fun M2 eM => ?_)
      repeat (refine ng 2 rfl ?_; first | refine es rfl rfl rfl ?_ | refine eg rfl (by assumption) rfl ?_ | refine ean rfl (by assumption) (by assumption) rfl ?_ | refine eal rfl (by assumption) (by assumption) rfl ?_ | refine eri rfl ?_ | refine erv rfl ?_ | refine erl rfl ?_ | refine era rfl ?_ | refine erz0 rfl ?_ | refine erz1 rfl ?_ | refine ean0 rfl (by assumption) (by assumption) rfl ?_ | refine ean8 rfl (by assumption) (by assumption) rfl ?_ | refine ean12 rfl (by assumption) (by assumption) rfl ?_ | refine ean7 rfl (by assumption) (by assumption) rfl ?_)
      try dsimp only [set1, set2, kilP, List.set_cons_zero, List.set_cons_succ, List.getElem?_cons_zero, List.getElem?_cons_succ, List.nil_append, List.cons_append, Option.toList_some, Option.toList_none]
      rw [nI_1]
      refine (ih (i + 1) M2 _ (hy.ar (k := 5) eM (by omega)) (by omega) (fun j hj => ?_)).im (fun v M1 q => ?_)
      · show upd (A 5) i (A 2 i) j = A 2 j
        by_cases e : j = i
        · rw [e, pk_us]
        · rw [pk_un e]; exact hq j (by omega)
      · obtain ⟨q1, g, q2, q3⟩ := q
        exact ⟨q1, g, q2, by rw [q3, eM, up_up]⟩
theorem y_tries {o : Yo} {A : Ar} (hy : aY M b o A) : EvM ad 0 (iX13_tries ad) [.ref b] M (fun v' M' => v' = none ∧ ∃ g, (∀ j, j < 7 → g j = A 2 j) ∧ M' = up M (b + 5) (.inl (0, 7, .inl g))) := by
  refine ⟨Nat.le_of_ble_eq_true rfl, ?_⟩
  show Ev ad _ (rX13_tries ad) (0, [some (.ref b), none], [], M) _
  repeat (refine ng 2 rfl ?_; first | refine es rfl rfl rfl ?_ | refine eg rfl (by assumption) rfl ?_ | refine ean rfl (by assumption) (by assumption) rfl ?_ | refine eal rfl (by assumption) (by assumption) rfl ?_ | refine eri rfl ?_ | refine erv rfl ?_ | refine erl rfl ?_ | refine era rfl ?_ | refine erz0 rfl ?_ | refine erz1 rfl ?_ | refine ean0 rfl (by assumption) (by assumption) rfl ?_ | refine ean8 rfl (by assumption) (by assumption) rfl ?_ | refine ean12 rfl (by assumption) (by assumption) rfl ?_ | refine ean7 rfl (by assumption) (by assumption) rfl ?_)
  try dsimp only [set1, set2, kilP, List.set_cons_zero, List.set_cons_succ, List.getElem?_cons_zero, List.getElem?_cons_succ, List.nil_append, List.cons_append, Option.toList_some, Option.toList_none]
  exact y_tries_loop 7 0 M A hy rfl (fun j hj => absurd hj (by omega))
theorem y_paired_loop {r N : Nat} {f : Nat → Int32} (hr : M.1 r = ints N f) (hN7 : 7 ≤ N) (hN : Nat.ble N 2000000 = true) (hf : okR f) : ∀ (n h : Nat), h + n = 7 → Ev ad 0 (rX13_pairedIn ad) (4, [some (.ref r), some (.int (mbF f h)), some (.int (nI h))], [], M) (fun v' M' => v' = some (.int (mbF f 7)) ∧ M' = M) := by
  have g1 := Nat.ble_eq.mp hN
  intro n
  induction n with
  | zero =>
    intro h hn
    repeat (first | refine es rfl rfl rfl ?_ | refine eg rfl (by assumption) rfl ?_ | refine ean rfl (by assumption) (by assumption) rfl ?_ | refine eal rfl (by assumption) (by assumption) rfl ?_ | refine eri rfl ?_ | refine erv rfl ?_ | refine erl rfl ?_ | refine era rfl ?_ | refine erz0 rfl ?_ | refine erz1 rfl ?_ | refine ean0 rfl (by assumption) (by assumption) rfl ?_ | refine ean8 rfl (by assumption) (by assumption) rfl ?_ | refine ean12 rfl (by assumption) (by assumption) rfl ?_ | refine ean7 rfl (by assumption) (by assumption) rfl ?_)
    try dsimp only [set1, set2, kilP, List.set_cons_zero, List.set_cons_succ, List.getElem?_cons_zero, List.getElem?_cons_succ, List.nil_append, List.cons_append, Option.toList_some, Option.toList_none]
    refine ei _ rfl rfl (fun c => ?_) (fun c => ?_)
    · repeat (first | refine es rfl rfl rfl ?_ | refine eg rfl (by assumption) rfl ?_ | refine ean rfl (by assumption) (by assumption) rfl ?_ | refine eal rfl (by assumption) (by assumption) rfl ?_ | refine eri rfl ?_ | refine erv rfl ?_ | refine erl rfl ?_ | refine era rfl ?_ | refine erz0 rfl ?_ | refine erz1 rfl ?_ | refine ean0 rfl (by assumption) (by assumption) rfl ?_ | refine ean8 rfl (by assumption) (by assumption) rfl ?_ | refine ean12 rfl (by assumption) (by assumption) rfl ?_ | refine ean7 rfl (by assumption) (by assumption) rfl ?_)
      try dsimp only [set1, set2, kilP, List.set_cons_zero, List.set_cons_succ, List.getElem?_cons_zero, List.getElem?_cons_succ, List.nil_append, List.cons_append, Option.toList_some, Option.toList_none]
      rw [show h = 7 by omega]
      exact ⟨rfl, rfl⟩
    · exact absurd (show (7 : Int32) ≤ nI h from nI_le (a := 7) (by omega) (by omega)) c
  | succ n ih =>
    intro h hn
    have hh : h < N := by omega
    have h9 := ih (h + 1) (by omega)
    rw [mbF] at h9
    repeat (first | refine es rfl rfl rfl ?_ | refine eg rfl (by assumption) rfl ?_ | refine ean rfl (by assumption) (by assumption) rfl ?_ | refine eal rfl (by assumption) (by assumption) rfl ?_ | refine eri rfl ?_ | refine erv rfl ?_ | refine erl rfl ?_ | refine era rfl ?_ | refine erz0 rfl ?_ | refine erz1 rfl ?_ | refine ean0 rfl (by assumption) (by assumption) rfl ?_ | refine ean8 rfl (by assumption) (by assumption) rfl ?_ | refine ean12 rfl (by assumption) (by assumption) rfl ?_ | refine ean7 rfl (by assumption) (by assumption) rfl ?_)
    try dsimp only [set1, set2, kilP, List.set_cons_zero, List.set_cons_succ, List.getElem?_cons_zero, List.getElem?_cons_succ, List.nil_append, List.cons_append, Option.toList_some, Option.toList_none]
    refine ei _ rfl rfl (fun c => ?_) (fun c => ?_)
    · exact absurd c (nI_ge (b := 7) (by omega) (by omega))
    · repeat (first | refine es rfl rfl rfl ?_ | refine eg rfl (by assumption) rfl ?_ | refine ean rfl (by assumption) (by assumption) rfl ?_ | refine eal rfl (by assumption) (by assumption) rfl ?_ | refine eri rfl ?_ | refine erv rfl ?_ | refine erl rfl ?_ | refine era rfl ?_ | refine erz0 rfl ?_ | refine erz1 rfl ?_ | refine ean0 rfl (by assumption) (by assumption) rfl ?_ | refine ean8 rfl (by assumption) (by assumption) rfl ?_ | refine ean12 rfl (by assumption) (by assumption) rfl ?_ | refine ean7 rfl (by assumption) (by assumption) rfl ?_)
      try dsimp only [set1, set2, kilP, List.set_cons_zero, List.set_cons_succ, List.getElem?_cons_zero, List.getElem?_cons_succ, List.nil_append, List.cons_append, Option.toList_some, Option.toList_none]
      refine ean rfl hr hh hN ?_
      repeat (first | refine es rfl rfl rfl ?_ | refine eg rfl (by assumption) rfl ?_ | refine ean rfl (by assumption) (by assumption) rfl ?_ | refine eal rfl (by assumption) (by assumption) rfl ?_ | refine eri rfl ?_ | refine erv rfl ?_ | refine erl rfl ?_ | refine era rfl ?_ | refine erz0 rfl ?_ | refine erz1 rfl ?_ | refine ean0 rfl (by assumption) (by assumption) rfl ?_ | refine ean8 rfl (by assumption) (by assumption) rfl ?_ | refine ean12 rfl (by assumption) (by assumption) rfl ?_ | refine ean7 rfl (by assumption) (by assumption) rfl ?_)
      try dsimp only [set1, set2, kilP, List.set_cons_zero, List.set_cons_succ, List.getElem?_cons_zero, List.getElem?_cons_succ, List.nil_append, List.cons_append, Option.toList_some, Option.toList_none]
      refine ei _ rfl rfl (fun c1 => ?_) (fun c1 => ?_)
      · repeat (refine ng 4 rfl ?_; first | refine es rfl rfl rfl ?_ | refine eg rfl (by assumption) rfl ?_ | refine ean rfl (by assumption) (by assumption) rfl ?_ | refine eal rfl (by assumption) (by assumption) rfl ?_ | refine eri rfl ?_ | refine erv rfl ?_ | refine erl rfl ?_ | refine era rfl ?_ | refine erz0 rfl ?_ | refine erz1 rfl ?_ | refine ean0 rfl (by assumption) (by assumption) rfl ?_ | refine ean8 rfl (by assumption) (by assumption) rfl ?_ | refine ean12 rfl (by assumption) (by assumption) rfl ?_ | refine ean7 rfl (by assumption) (by assumption) rfl ?_)
        try dsimp only [set1, set2, kilP, List.set_cons_zero, List.set_cons_succ, List.getElem?_cons_zero, List.getElem?_cons_succ, List.nil_append, List.cons_append, Option.toList_some, Option.toList_none]
        rw [nI_1, Int32.or_zero]
        rw [mutB_f (fun q => q.1 c1)] at h9
        exact h9
      · obtain ⟨j, hj, ej⟩ := (hf h (by omega)).resolve_left c1
        have hj2 : j < N := by omega
        repeat (first | refine es rfl rfl rfl ?_ | refine eg rfl (by assumption) rfl ?_ | refine ean rfl (by assumption) (by assumption) rfl ?_ | refine eal rfl (by assumption) (by assumption) rfl ?_ | refine eri rfl ?_ | refine erv rfl ?_ | refine erl rfl ?_ | refine era rfl ?_ | refine erz0 rfl ?_ | refine erz1 rfl ?_ | refine ean0 rfl (by assumption) (by assumption) rfl ?_ | refine ean8 rfl (by assumption) (by assumption) rfl ?_ | refine ean12 rfl (by assumption) (by assumption) rfl ?_ | refine ean7 rfl (by assumption) (by assumption) rfl ?_)
        try dsimp only [set1, set2, kilP, List.set_cons_zero, List.set_cons_succ, List.getElem?_cons_zero, List.getElem?_cons_succ, List.nil_append, List.cons_append, Option.toList_some, Option.toList_none]
        refine ean rfl hr hh hN ?_
        rw [ej]
        refine ean rfl hr hj2 hN ?_
        repeat (first | refine es rfl rfl rfl ?_ | refine eg rfl (by assumption) rfl ?_ | refine ean rfl (by assumption) (by assumption) rfl ?_ | refine eal rfl (by assumption) (by assumption) rfl ?_ | refine eri rfl ?_ | refine erv rfl ?_ | refine erl rfl ?_ | refine era rfl ?_ | refine erz0 rfl ?_ | refine erz1 rfl ?_ | refine ean0 rfl (by assumption) (by assumption) rfl ?_ | refine ean8 rfl (by assumption) (by assumption) rfl ?_ | refine ean12 rfl (by assumption) (by assumption) rfl ?_ | refine ean7 rfl (by assumption) (by assumption) rfl ?_)
        try dsimp only [set1, set2, kilP, List.set_cons_zero, List.set_cons_succ, List.getElem?_cons_zero, List.getElem?_cons_succ, List.nil_append, List.cons_append, Option.toList_some, Option.toList_none]
        refine ei _ rfl rfl (fun c2 => ?_) (fun c2 => ?_)
        · repeat (refine ng 4 rfl ?_; first | refine es rfl rfl rfl ?_ | refine eg rfl (by assumption) rfl ?_ | refine ean rfl (by assumption) (by assumption) rfl ?_ | refine eal rfl (by assumption) (by assumption) rfl ?_ | refine eri rfl ?_ | refine erv rfl ?_ | refine erl rfl ?_ | refine era rfl ?_ | refine erz0 rfl ?_ | refine erz1 rfl ?_ | refine ean0 rfl (by assumption) (by assumption) rfl ?_ | refine ean8 rfl (by assumption) (by assumption) rfl ?_ | refine ean12 rfl (by assumption) (by assumption) rfl ?_ | refine ean7 rfl (by assumption) (by assumption) rfl ?_)
          try dsimp only [set1, set2, kilP, List.set_cons_zero, List.set_cons_succ, List.getElem?_cons_zero, List.getElem?_cons_succ, List.nil_append, List.cons_append, Option.toList_some, Option.toList_none]
          rw [nI_1, Int32.or_zero]
          rw [mutB_f (fun q => c2 (by have := q.2; rw [ej, nI_clamp (by omega)] at this; exact this))] at h9
          exact h9
        · repeat (refine ng 4 rfl ?_; first | refine es rfl rfl rfl ?_ | refine eg rfl (by assumption) rfl ?_ | refine ean rfl (by assumption) (by assumption) rfl ?_ | refine eal rfl (by assumption) (by assumption) rfl ?_ | refine eri rfl ?_ | refine erv rfl ?_ | refine erl rfl ?_ | refine era rfl ?_ | refine erz0 rfl ?_ | refine erz1 rfl ?_ | refine ean0 rfl (by assumption) (by assumption) rfl ?_ | refine ean8 rfl (by assumption) (by assumption) rfl ?_ | refine ean12 rfl (by assumption) (by assumption) rfl ?_ | refine ean7 rfl (by assumption) (by assumption) rfl ?_)
          try dsimp only [set1, set2, kilP, List.set_cons_zero, List.set_cons_succ, List.getElem?_cons_zero, List.getElem?_cons_succ, List.nil_append, List.cons_append, Option.toList_some, Option.toList_none]
          rw [nI_1]
          rw [mutB_t ⟨c1, by rw [ej, nI_clamp (by omega)]; exact Decidable.not_not.mp c2⟩] at h9
          exact h9
theorem y_pairedIn {r N : Nat} {f : Nat → Int32} (hr : M.1 r = ints N f) (hN7 : 7 ≤ N) (hN : Nat.ble N 2000000 = true) (hf : okR f) : Rd ad 0 (iX13_pairedIn ad) [.ref r] M (some (.int (mbF f 7))) := by
  refine ⟨Nat.le_of_ble_eq_true rfl, ?_⟩
  show Ev ad _ (rX13_pairedIn ad) (0, [some (.ref r), none, none], [], M) _
  repeat (refine ng 4 rfl ?_; first | refine es rfl rfl rfl ?_ | refine eg rfl (by assumption) rfl ?_ | refine ean rfl (by assumption) (by assumption) rfl ?_ | refine eal rfl (by assumption) (by assumption) rfl ?_ | refine eri rfl ?_ | refine erv rfl ?_ | refine erl rfl ?_ | refine era rfl ?_ | refine erz0 rfl ?_ | refine erz1 rfl ?_ | refine ean0 rfl (by assumption) (by assumption) rfl ?_ | refine ean8 rfl (by assumption) (by assumption) rfl ?_ | refine ean12 rfl (by assumption) (by assumption) rfl ?_ | refine ean7 rfl (by assumption) (by assumption) rfl ?_)
  try dsimp only [set1, set2, kilP, List.set_cons_zero, List.set_cons_succ, List.getElem?_cons_zero, List.getElem?_cons_succ, List.nil_append, List.cons_append, Option.toList_some, Option.toList_none]
  exact y_paired_loop hr hN7 hN hf 7 0 rfl
theorem y_canEx {r N h g : Nat} {f : Nat → Int32} (hr : M.1 r = ints N f) (hN : Nat.ble N 2000000 = true) (hh : h < N) (hg : g < N) : Rd ad 0 (iX13_canExchange ad) [.ref r, .int (nI h), .int (nI g)] M (some (.int (bI (canS f h g)))) := by
  have g1 := Nat.ble_eq.mp hN
  have e0 : nI h = nI g ↔ h = g := nI_eq (by omega) (by omega)
  refine ⟨Nat.le_of_ble_eq_true rfl, ?_⟩
  show Ev ad _ (rX13_canExchange ad) (0, [some (.ref r), some (.int (nI h)), some (.int (nI g))], [], M) _
  repeat (first | refine es rfl rfl rfl ?_ | refine eg rfl (by assumption) rfl ?_ | refine ean rfl (by assumption) (by assumption) rfl ?_ | refine eal rfl (by assumption) (by assumption) rfl ?_ | refine eri rfl ?_ | refine erv rfl ?_ | refine erl rfl ?_ | refine era rfl ?_ | refine erz0 rfl ?_ | refine erz1 rfl ?_ | refine ean0 rfl (by assumption) (by assumption) rfl ?_ | refine ean8 rfl (by assumption) (by assumption) rfl ?_ | refine ean12 rfl (by assumption) (by assumption) rfl ?_ | refine ean7 rfl (by assumption) (by assumption) rfl ?_)
  try dsimp only [set1, set2, kilP, List.set_cons_zero, List.set_cons_succ, List.getElem?_cons_zero, List.getElem?_cons_succ, List.nil_append, List.cons_append, Option.toList_some, Option.toList_none]
  refine ei _ rfl rfl (fun c1 => ?_) (fun c1 => ?_)
  · repeat (first | refine es rfl rfl rfl ?_ | refine eg rfl (by assumption) rfl ?_ | refine ean rfl (by assumption) (by assumption) rfl ?_ | refine eal rfl (by assumption) (by assumption) rfl ?_ | refine eri rfl ?_ | refine erv rfl ?_ | refine erl rfl ?_ | refine era rfl ?_ | refine erz0 rfl ?_ | refine erz1 rfl ?_ | refine ean0 rfl (by assumption) (by assumption) rfl ?_ | refine ean8 rfl (by assumption) (by assumption) rfl ?_ | refine ean12 rfl (by assumption) (by assumption) rfl ?_ | refine ean7 rfl (by assumption) (by assumption) rfl ?_)
    try dsimp only [set1, set2, kilP, List.set_cons_zero, List.set_cons_succ, List.getElem?_cons_zero, List.getElem?_cons_succ, List.nil_append, List.cons_append, Option.toList_some, Option.toList_none]
    rw [bI, if_neg (fun q => q.1 (e0.mp c1))]
    exact ⟨rfl, rfl⟩
  · repeat (first | refine es rfl rfl rfl ?_ | refine eg rfl (by assumption) rfl ?_ | refine ean rfl (by assumption) (by assumption) rfl ?_ | refine eal rfl (by assumption) (by assumption) rfl ?_ | refine eri rfl ?_ | refine erv rfl ?_ | refine erl rfl ?_ | refine era rfl ?_ | refine erz0 rfl ?_ | refine erz1 rfl ?_ | refine ean0 rfl (by assumption) (by assumption) rfl ?_ | refine ean8 rfl (by assumption) (by assumption) rfl ?_ | refine ean12 rfl (by assumption) (by assumption) rfl ?_ | refine ean7 rfl (by assumption) (by assumption) rfl ?_)
    try dsimp only [set1, set2, kilP, List.set_cons_zero, List.set_cons_succ, List.getElem?_cons_zero, List.getElem?_cons_succ, List.nil_append, List.cons_append, Option.toList_some, Option.toList_none]
    refine ean rfl hr hh hN ?_
    repeat (first | refine es rfl rfl rfl ?_ | refine eg rfl (by assumption) rfl ?_ | refine ean rfl (by assumption) (by assumption) rfl ?_ | refine eal rfl (by assumption) (by assumption) rfl ?_ | refine eri rfl ?_ | refine erv rfl ?_ | refine erl rfl ?_ | refine era rfl ?_ | refine erz0 rfl ?_ | refine erz1 rfl ?_ | refine ean0 rfl (by assumption) (by assumption) rfl ?_ | refine ean8 rfl (by assumption) (by assumption) rfl ?_ | refine ean12 rfl (by assumption) (by assumption) rfl ?_ | refine ean7 rfl (by assumption) (by assumption) rfl ?_)
    try dsimp only [set1, set2, kilP, List.set_cons_zero, List.set_cons_succ, List.getElem?_cons_zero, List.getElem?_cons_succ, List.nil_append, List.cons_append, Option.toList_some, Option.toList_none]
    refine ei _ rfl rfl (fun c2 => ?_) (fun c2 => ?_)
    · repeat (first | refine es rfl rfl rfl ?_ | refine eg rfl (by assumption) rfl ?_ | refine ean rfl (by assumption) (by assumption) rfl ?_ | refine eal rfl (by assumption) (by assumption) rfl ?_ | refine eri rfl ?_ | refine erv rfl ?_ | refine erl rfl ?_ | refine era rfl ?_ | refine erz0 rfl ?_ | refine erz1 rfl ?_ | refine ean0 rfl (by assumption) (by assumption) rfl ?_ | refine ean8 rfl (by assumption) (by assumption) rfl ?_ | refine ean12 rfl (by assumption) (by assumption) rfl ?_ | refine ean7 rfl (by assumption) (by assumption) rfl ?_)
      try dsimp only [set1, set2, kilP, List.set_cons_zero, List.set_cons_succ, List.getElem?_cons_zero, List.getElem?_cons_succ, List.nil_append, List.cons_append, Option.toList_some, Option.toList_none]
      rw [bI, if_neg (fun q => q.2.1 c2)]
      exact ⟨rfl, rfl⟩
    · repeat (first | refine es rfl rfl rfl ?_ | refine eg rfl (by assumption) rfl ?_ | refine ean rfl (by assumption) (by assumption) rfl ?_ | refine eal rfl (by assumption) (by assumption) rfl ?_ | refine eri rfl ?_ | refine erv rfl ?_ | refine erl rfl ?_ | refine era rfl ?_ | refine erz0 rfl ?_ | refine erz1 rfl ?_ | refine ean0 rfl (by assumption) (by assumption) rfl ?_ | refine ean8 rfl (by assumption) (by assumption) rfl ?_ | refine ean12 rfl (by assumption) (by assumption) rfl ?_ | refine ean7 rfl (by assumption) (by assumption) rfl ?_)
      try dsimp only [set1, set2, kilP, List.set_cons_zero, List.set_cons_succ, List.getElem?_cons_zero, List.getElem?_cons_succ, List.nil_append, List.cons_append, Option.toList_some, Option.toList_none]
      refine ean rfl hr hg hN ?_
      repeat (first | refine es rfl rfl rfl ?_ | refine eg rfl (by assumption) rfl ?_ | refine ean rfl (by assumption) (by assumption) rfl ?_ | refine eal rfl (by assumption) (by assumption) rfl ?_ | refine eri rfl ?_ | refine erv rfl ?_ | refine erl rfl ?_ | refine era rfl ?_ | refine erz0 rfl ?_ | refine erz1 rfl ?_ | refine ean0 rfl (by assumption) (by assumption) rfl ?_ | refine ean8 rfl (by assumption) (by assumption) rfl ?_ | refine ean12 rfl (by assumption) (by assumption) rfl ?_ | refine ean7 rfl (by assumption) (by assumption) rfl ?_)
      try dsimp only [set1, set2, kilP, List.set_cons_zero, List.set_cons_succ, List.getElem?_cons_zero, List.getElem?_cons_succ, List.nil_append, List.cons_append, Option.toList_some, Option.toList_none]
      refine ei _ rfl rfl (fun c3 => ?_) (fun c3 => ?_)
      · repeat (first | refine es rfl rfl rfl ?_ | refine eg rfl (by assumption) rfl ?_ | refine ean rfl (by assumption) (by assumption) rfl ?_ | refine eal rfl (by assumption) (by assumption) rfl ?_ | refine eri rfl ?_ | refine erv rfl ?_ | refine erl rfl ?_ | refine era rfl ?_ | refine erz0 rfl ?_ | refine erz1 rfl ?_ | refine ean0 rfl (by assumption) (by assumption) rfl ?_ | refine ean8 rfl (by assumption) (by assumption) rfl ?_ | refine ean12 rfl (by assumption) (by assumption) rfl ?_ | refine ean7 rfl (by assumption) (by assumption) rfl ?_)
        try dsimp only [set1, set2, kilP, List.set_cons_zero, List.set_cons_succ, List.getElem?_cons_zero, List.getElem?_cons_succ, List.nil_append, List.cons_append, Option.toList_some, Option.toList_none]
        rw [bI, if_neg (fun q => q.2.2.1 c3)]
        exact ⟨rfl, rfl⟩
      · repeat (first | refine es rfl rfl rfl ?_ | refine eg rfl (by assumption) rfl ?_ | refine ean rfl (by assumption) (by assumption) rfl ?_ | refine eal rfl (by assumption) (by assumption) rfl ?_ | refine eri rfl ?_ | refine erv rfl ?_ | refine erl rfl ?_ | refine era rfl ?_ | refine erz0 rfl ?_ | refine erz1 rfl ?_ | refine ean0 rfl (by assumption) (by assumption) rfl ?_ | refine ean8 rfl (by assumption) (by assumption) rfl ?_ | refine ean12 rfl (by assumption) (by assumption) rfl ?_ | refine ean7 rfl (by assumption) (by assumption) rfl ?_)
        try dsimp only [set1, set2, kilP, List.set_cons_zero, List.set_cons_succ, List.getElem?_cons_zero, List.getElem?_cons_succ, List.nil_append, List.cons_append, Option.toList_some, Option.toList_none]
        refine ean rfl hr hh hN ?_
        repeat (first | refine es rfl rfl rfl ?_ | refine eg rfl (by assumption) rfl ?_ | refine ean rfl (by assumption) (by assumption) rfl ?_ | refine eal rfl (by assumption) (by assumption) rfl ?_ | refine eri rfl ?_ | refine erv rfl ?_ | refine erl rfl ?_ | refine era rfl ?_ | refine erz0 rfl ?_ | refine erz1 rfl ?_ | refine ean0 rfl (by assumption) (by assumption) rfl ?_ | refine ean8 rfl (by assumption) (by assumption) rfl ?_ | refine ean12 rfl (by assumption) (by assumption) rfl ?_ | refine ean7 rfl (by assumption) (by assumption) rfl ?_)
        try dsimp only [set1, set2, kilP, List.set_cons_zero, List.set_cons_succ, List.getElem?_cons_zero, List.getElem?_cons_succ, List.nil_append, List.cons_append, Option.toList_some, Option.toList_none]
        refine ei _ rfl rfl (fun c4 => ?_) (fun c4 => ?_)
        · repeat (first | refine es rfl rfl rfl ?_ | refine eg rfl (by assumption) rfl ?_ | refine ean rfl (by assumption) (by assumption) rfl ?_ | refine eal rfl (by assumption) (by assumption) rfl ?_ | refine eri rfl ?_ | refine erv rfl ?_ | refine erl rfl ?_ | refine era rfl ?_ | refine erz0 rfl ?_ | refine erz1 rfl ?_ | refine ean0 rfl (by assumption) (by assumption) rfl ?_ | refine ean8 rfl (by assumption) (by assumption) rfl ?_ | refine ean12 rfl (by assumption) (by assumption) rfl ?_ | refine ean7 rfl (by assumption) (by assumption) rfl ?_)
          try dsimp only [set1, set2, kilP, List.set_cons_zero, List.set_cons_succ, List.getElem?_cons_zero, List.getElem?_cons_succ, List.nil_append, List.cons_append, Option.toList_some, Option.toList_none]
          rw [bI, if_neg (fun q => q.2.2.2.1 c4)]
          exact ⟨rfl, rfl⟩
        · repeat (first | refine es rfl rfl rfl ?_ | refine eg rfl (by assumption) rfl ?_ | refine ean rfl (by assumption) (by assumption) rfl ?_ | refine eal rfl (by assumption) (by assumption) rfl ?_ | refine eri rfl ?_ | refine erv rfl ?_ | refine erl rfl ?_ | refine era rfl ?_ | refine erz0 rfl ?_ | refine erz1 rfl ?_ | refine ean0 rfl (by assumption) (by assumption) rfl ?_ | refine ean8 rfl (by assumption) (by assumption) rfl ?_ | refine ean12 rfl (by assumption) (by assumption) rfl ?_ | refine ean7 rfl (by assumption) (by assumption) rfl ?_)
          try dsimp only [set1, set2, kilP, List.set_cons_zero, List.set_cons_succ, List.getElem?_cons_zero, List.getElem?_cons_succ, List.nil_append, List.cons_append, Option.toList_some, Option.toList_none]
          refine ean rfl hr hg hN ?_
          repeat (first | refine es rfl rfl rfl ?_ | refine eg rfl (by assumption) rfl ?_ | refine ean rfl (by assumption) (by assumption) rfl ?_ | refine eal rfl (by assumption) (by assumption) rfl ?_ | refine eri rfl ?_ | refine erv rfl ?_ | refine erl rfl ?_ | refine era rfl ?_ | refine erz0 rfl ?_ | refine erz1 rfl ?_ | refine ean0 rfl (by assumption) (by assumption) rfl ?_ | refine ean8 rfl (by assumption) (by assumption) rfl ?_ | refine ean12 rfl (by assumption) (by assumption) rfl ?_ | refine ean7 rfl (by assumption) (by assumption) rfl ?_)
          try dsimp only [set1, set2, kilP, List.set_cons_zero, List.set_cons_succ, List.getElem?_cons_zero, List.getElem?_cons_succ, List.nil_append, List.cons_append, Option.toList_some, Option.toList_none]
          refine ei _ rfl rfl (fun c5 => ?_) (fun c5 => ?_)
          · repeat (first | refine es rfl rfl rfl ?_ | refine eg rfl (by assumption) rfl ?_ | refine ean rfl (by assumption) (by assumption) rfl ?_ | refine eal rfl (by assumption) (by assumption) rfl ?_ | refine eri rfl ?_ | refine erv rfl ?_ | refine erl rfl ?_ | refine era rfl ?_ | refine erz0 rfl ?_ | refine erz1 rfl ?_ | refine ean0 rfl (by assumption) (by assumption) rfl ?_ | refine ean8 rfl (by assumption) (by assumption) rfl ?_ | refine ean12 rfl (by assumption) (by assumption) rfl ?_ | refine ean7 rfl (by assumption) (by assumption) rfl ?_)
            try dsimp only [set1, set2, kilP, List.set_cons_zero, List.set_cons_succ, List.getElem?_cons_zero, List.getElem?_cons_succ, List.nil_append, List.cons_append, Option.toList_some, Option.toList_none]
            rw [bI, if_neg (fun q => q.2.2.2.2 c5)]
            exact ⟨rfl, rfl⟩
          · repeat (first | refine es rfl rfl rfl ?_ | refine eg rfl (by assumption) rfl ?_ | refine ean rfl (by assumption) (by assumption) rfl ?_ | refine eal rfl (by assumption) (by assumption) rfl ?_ | refine eri rfl ?_ | refine erv rfl ?_ | refine erl rfl ?_ | refine era rfl ?_ | refine erz0 rfl ?_ | refine erz1 rfl ?_ | refine ean0 rfl (by assumption) (by assumption) rfl ?_ | refine ean8 rfl (by assumption) (by assumption) rfl ?_ | refine ean12 rfl (by assumption) (by assumption) rfl ?_ | refine ean7 rfl (by assumption) (by assumption) rfl ?_)
            try dsimp only [set1, set2, kilP, List.set_cons_zero, List.set_cons_succ, List.getElem?_cons_zero, List.getElem?_cons_succ, List.nil_append, List.cons_append, Option.toList_some, Option.toList_none]
            rw [bI, if_pos ⟨fun q => c1 (e0.mpr q), c2, c3, c4, c5⟩]
            exact ⟨rfl, rfl⟩
theorem y_exch {r N h g : Nat} {f : Nat → Int32} (hr : M.1 r = ints N f) (hN : Nat.ble N 2000000 = true) (hh : h < N) (hg : g < N) : EvM ad 0 (iX13_exchanges ad) [.ref r, .int (nI h), .int (nI g)] M (fun v' M' => v' = none ∧ M' = up M r (.inl (0, N, .inl (swpF f h g)))) := by
  refine ⟨Nat.le_of_ble_eq_true rfl, ?_⟩
  show Ev ad _ (rX13_exchanges ad) (0, [some (.ref r), some (.int (nI h)), some (.int (nI g)), none], [], M) _
  repeat (first | refine es rfl rfl rfl ?_ | refine eg rfl (by assumption) rfl ?_ | refine ean rfl (by assumption) (by assumption) rfl ?_ | refine eal rfl (by assumption) (by assumption) rfl ?_ | refine eri rfl ?_ | refine erv rfl ?_ | refine erl rfl ?_ | refine era rfl ?_ | refine erz0 rfl ?_ | refine erz1 rfl ?_ | refine ean0 rfl (by assumption) (by assumption) rfl ?_ | refine ean8 rfl (by assumption) (by assumption) rfl ?_ | refine ean12 rfl (by assumption) (by assumption) rfl ?_ | refine ean7 rfl (by assumption) (by assumption) rfl ?_)
  try dsimp only [set1, set2, kilP, List.set_cons_zero, List.set_cons_succ, List.getElem?_cons_zero, List.getElem?_cons_succ, List.nil_append, List.cons_append, Option.toList_some, Option.toList_none]
  refine ean rfl hr hh hN ?_
  repeat (first | refine es rfl rfl rfl ?_ | refine eg rfl (by assumption) rfl ?_ | refine ean rfl (by assumption) (by assumption) rfl ?_ | refine eal rfl (by assumption) (by assumption) rfl ?_ | refine eri rfl ?_ | refine erv rfl ?_ | refine erl rfl ?_ | refine era rfl ?_ | refine erz0 rfl ?_ | refine erz1 rfl ?_ | refine ean0 rfl (by assumption) (by assumption) rfl ?_ | refine ean8 rfl (by assumption) (by assumption) rfl ?_ | refine ean12 rfl (by assumption) (by assumption) rfl ?_ | refine ean7 rfl (by assumption) (by assumption) rfl ?_)
  try dsimp only [set1, set2, kilP, List.set_cons_zero, List.set_cons_succ, List.getElem?_cons_zero, List.getElem?_cons_succ, List.nil_append, List.cons_append, Option.toList_some, Option.toList_none]
  refine ean rfl hr hg hN ?_
  repeat (first | refine es rfl rfl rfl ?_ | refine eg rfl (by assumption) rfl ?_ | refine ean rfl (by assumption) (by assumption) rfl ?_ | refine eal rfl (by assumption) (by assumption) rfl ?_ | refine eri rfl ?_ | refine erv rfl ?_ | refine erl rfl ?_ | refine era rfl ?_ | refine erz0 rfl ?_ | refine erz1 rfl ?_ | refine ean0 rfl (by assumption) (by assumption) rfl ?_ | refine ean8 rfl (by assumption) (by assumption) rfl ?_ | refine ean12 rfl (by assumption) (by assumption) rfl ?_ | refine ean7 rfl (by assumption) (by assumption) rfl ?_)
  try dsimp only [set1, set2, kilP, List.set_cons_zero, List.set_cons_succ, List.getElem?_cons_zero, List.getElem?_cons_succ, List.nil_append, List.cons_append, Option.toList_some, Option.toList_none]
  refine etM rfl hr hh hN (fun M2 eM => ?_)
  have k1 := up_w eM
  repeat (first | refine es rfl rfl rfl ?_ | refine eg rfl (by assumption) rfl ?_ | refine ean rfl (by assumption) (by assumption) rfl ?_ | refine eal rfl (by assumption) (by assumption) rfl ?_ | refine eri rfl ?_ | refine erv rfl ?_ | refine erl rfl ?_ | refine era rfl ?_ | refine erz0 rfl ?_ | refine erz1 rfl ?_ | refine ean0 rfl (by assumption) (by assumption) rfl ?_ | refine ean8 rfl (by assumption) (by assumption) rfl ?_ | refine ean12 rfl (by assumption) (by assumption) rfl ?_ | refine ean7 rfl (by assumption) (by assumption) rfl ?_)
  try dsimp only [set1, set2, kilP, List.set_cons_zero, List.set_cons_succ, List.getElem?_cons_zero, List.getElem?_cons_succ, List.nil_append, List.cons_append, Option.toList_some, Option.toList_none]
  refine etM rfl k1 hg hN (fun M3 eM3 => ?_)
  repeat (first | refine es rfl rfl rfl ?_ | refine eg rfl (by assumption) rfl ?_ | refine ean rfl (by assumption) (by assumption) rfl ?_ | refine eal rfl (by assumption) (by assumption) rfl ?_ | refine eri rfl ?_ | refine erv rfl ?_ | refine erl rfl ?_ | refine era rfl ?_ | refine erz0 rfl ?_ | refine erz1 rfl ?_ | refine ean0 rfl (by assumption) (by assumption) rfl ?_ | refine ean8 rfl (by assumption) (by assumption) rfl ?_ | refine ean12 rfl (by assumption) (by assumption) rfl ?_ | refine ean7 rfl (by assumption) (by assumption) rfl ?_)
  try dsimp only [set1, set2, kilP, List.set_cons_zero, List.set_cons_succ, List.getElem?_cons_zero, List.getElem?_cons_succ, List.nil_append, List.cons_append, Option.toList_some, Option.toList_none]
  exact ⟨rfl, by rw [eM3, eM, up_up]; rfl⟩
theorem Inv.inj {σ : Sg} {C : Nat} (h : Inv σ C) : ∀ j k, j < 7 → k < 7 → σ.f j = σ.f k → σ.f j = -2 ∨ j = k := by
  by_cases q : 0 < σ.T.hs.n
  · exact (h.rowI q).2.1
  · intro j k hj hk _
    exact Or.inl ((h.2.1 (by omega)).2.1 j hj)
theorem y_mutual (hY : YR M b σ) (hI : Inv σ C) : EvM ad 2 (iX13_mutual ad) [.ref b] M (Pq b M (spMutual σ)) := by
  unfold spMutual
  refine ⟨Nat.le_of_ble_eq_true rfl, ?_⟩
  show Ev ad _ (rX13_mutual ad) (0, [some (.ref b)], [], M) _
  refine yEn rfl rfl rfl hY (fun M1 hY hF _ => ?_)
  obtain ⟨⟨oa, ⟨tw, rd⟩, oq⟩, A, hR⟩ := id hY
  have h0 := hR.1.1
  have h2 := hR.1.c.2.1
  by_cases hno : σ.T.hs.n = 0
  · obtain ⟨_, t0⟩ := hR.2.2.2.2.2.2.2.2.2.resolve_right (fun q => by have := q.1; omega)
    replace t0 : tw = .null := t0
    subst t0
    rw [if_pos hno]
    repeat (first | refine es rfl rfl rfl ?_ | refine eg rfl (by assumption) rfl ?_ | refine ean rfl (by assumption) (by assumption) rfl ?_ | refine eal rfl (by assumption) (by assumption) rfl ?_ | refine eri rfl ?_ | refine erv rfl ?_ | refine erl rfl ?_ | refine era rfl ?_ | refine erz0 rfl ?_ | refine erz1 rfl ?_ | refine ean0 rfl (by assumption) (by assumption) rfl ?_ | refine ean8 rfl (by assumption) (by assumption) rfl ?_ | refine ean12 rfl (by assumption) (by assumption) rfl ?_ | refine ean7 rfl (by assumption) (by assumption) rfl ?_)
    try dsimp only [set1, set2, kilP, List.set_cons_zero, List.set_cons_succ, List.getElem?_cons_zero, List.getElem?_cons_succ, List.nil_append, List.cons_append, Option.toList_some, Option.toList_none]
    refine ecv rfl rfl (by assumption) rfl rfl rfl (y_ref hY (by decide)) (by first | rfl | exact Nat.blt_eq.mpr (by omega)) ?_
    rintro v M9 ⟨rfl, hY9, hF9⟩
    try dsimp only [set1, set2, kilP, List.set_cons_zero, List.set_cons_succ, List.getElem?_cons_zero, List.getElem?_cons_succ, List.nil_append, List.cons_append, Option.toList_some, Option.toList_none]
    repeat (first | refine es rfl rfl rfl ?_ | refine eg rfl (by assumption) rfl ?_ | refine ean rfl (by assumption) (by assumption) rfl ?_ | refine eal rfl (by assumption) (by assumption) rfl ?_ | refine eri rfl ?_ | refine erv rfl ?_ | refine erl rfl ?_ | refine era rfl ?_ | refine erz0 rfl ?_ | refine erz1 rfl ?_ | refine ean0 rfl (by assumption) (by assumption) rfl ?_ | refine ean8 rfl (by assumption) (by assumption) rfl ?_ | refine ean12 rfl (by assumption) (by assumption) rfl ?_ | refine ean7 rfl (by assumption) (by assumption) rfl ?_)
    try dsimp only [set1, set2, kilP, List.set_cons_zero, List.set_cons_succ, List.getElem?_cons_zero, List.getElem?_cons_succ, List.nil_append, List.cons_append, Option.toList_some, Option.toList_none]
    exact Pq.rf hY9 (hF.tr (hF9.wide (lo2 := b) (n2 := 16) (by omega) (by omega)) (by omega) (by omega))
  rw [if_neg hno]
  obtain ⟨n1, a, t0, a1, a2, hM, hv, hpa, hmk, hfa⟩ := hR.2.2.2.2.2.2.2.2.2.resolve_left (fun q => by have := q.1; omega)
  replace t0 : tw = .ref a := t0
  subst t0
  obtain ⟨kn, Am, Bm, m0, mc, mH, mS, mP, mC, mN⟩ := id hM
  obtain ⟨m1, m2, m3, m4, m5, m6, m7, m8, m9, m10, m11, m12, m13, m14, m15, m16, m17⟩ := id mc
  repeat (first | refine es rfl rfl rfl ?_ | refine eg rfl (by assumption) rfl ?_ | refine ean rfl (by assumption) (by assumption) rfl ?_ | refine eal rfl (by assumption) (by assumption) rfl ?_ | refine eri rfl ?_ | refine erv rfl ?_ | refine erl rfl ?_ | refine era rfl ?_ | refine erz0 rfl ?_ | refine erz1 rfl ?_ | refine ean0 rfl (by assumption) (by assumption) rfl ?_ | refine ean8 rfl (by assumption) (by assumption) rfl ?_ | refine ean12 rfl (by assumption) (by assumption) rfl ?_ | refine ean7 rfl (by assumption) (by assumption) rfl ?_)
  try dsimp only [set1, set2, kilP, List.set_cons_zero, List.set_cons_succ, List.getElem?_cons_zero, List.getElem?_cons_succ, List.nil_append, List.cons_append, Option.toList_some, Option.toList_none]
  refine ecv rfl rfl (by assumption) rfl rfl rfl (y_tries hR.1) (by first | rfl | exact Nat.blt_eq.mpr (by omega)) ?_
  rintro v M2 ⟨rfl, g, hg, eM⟩
  have hy2 := hR.1.ar (k := 5) eM (by omega)
  replace hF := hF.up eM (by omega) (by omega)
  have hR2 := hR.sc hy2 ((Fr.rf b 16 M1).up eM (by omega) (by omega)) rfl rfl rfl rfl rfl rfl
  have hY : YR M2 b σ := ⟨_, _, hR2⟩
  have k0 := hy2.1
  have k5 : M2.1 (b + 5) = ints 7 g := hy2.c.2.2.2.2.1
  have hgo : okR g := okR_cp hI.ok (fun j hj => (hg j hj).trans (hv j (by omega)))
  try dsimp only [set1, set2, kilP, List.set_cons_zero, List.set_cons_succ, List.getElem?_cons_zero, List.getElem?_cons_succ, List.nil_append, List.cons_append, Option.toList_some, Option.toList_none]
  repeat (first | refine es rfl rfl rfl ?_ | refine eg rfl (by assumption) rfl ?_ | refine ean rfl (by assumption) (by assumption) rfl ?_ | refine eal rfl (by assumption) (by assumption) rfl ?_ | refine eri rfl ?_ | refine erv rfl ?_ | refine erl rfl ?_ | refine era rfl ?_ | refine erz0 rfl ?_ | refine erz1 rfl ?_ | refine ean0 rfl (by assumption) (by assumption) rfl ?_ | refine ean8 rfl (by assumption) (by assumption) rfl ?_ | refine ean12 rfl (by assumption) (by assumption) rfl ?_ | refine ean7 rfl (by assumption) (by assumption) rfl ?_)
  try dsimp only [set1, set2, kilP, List.set_cons_zero, List.set_cons_succ, List.getElem?_cons_zero, List.getElem?_cons_succ, List.nil_append, List.cons_append, Option.toList_some, Option.toList_none]
  refine ecsr rfl rfl rfl rfl rfl rfl (y_pairedIn k5 (by omega) rfl hgo) (by first | rfl | exact Nat.blt_eq.mpr (by omega)) rfl ?_
  rw [mbF_cg hgo (fun j hj => (hg j hj).trans (hv j (by omega))) 7 (Nat.le_refl _)]
  repeat (first | refine es rfl rfl rfl ?_ | refine eg rfl (by assumption) rfl ?_ | refine ean rfl (by assumption) (by assumption) rfl ?_ | refine eal rfl (by assumption) (by assumption) rfl ?_ | refine eri rfl ?_ | refine erv rfl ?_ | refine erl rfl ?_ | refine era rfl ?_ | refine erz0 rfl ?_ | refine erz1 rfl ?_ | refine ean0 rfl (by assumption) (by assumption) rfl ?_ | refine ean8 rfl (by assumption) (by assumption) rfl ?_ | refine ean12 rfl (by assumption) (by assumption) rfl ?_ | refine ean7 rfl (by assumption) (by assumption) rfl ?_)
  try dsimp only [set1, set2, kilP, List.set_cons_zero, List.set_cons_succ, List.getElem?_cons_zero, List.getElem?_cons_succ, List.nil_append, List.cons_append, Option.toList_some, Option.toList_none]
  refine ecv rfl rfl (by assumption) rfl rfl rfl (y_good hY) (by first | rfl | exact Nat.blt_eq.mpr (by omega)) ?_
  rintro v M9 ⟨rfl, hY9, hF9⟩
  try dsimp only [set1, set2, kilP, List.set_cons_zero, List.set_cons_succ, List.getElem?_cons_zero, List.getElem?_cons_succ, List.nil_append, List.cons_append, Option.toList_some, Option.toList_none]
  repeat (first | refine es rfl rfl rfl ?_ | refine eg rfl (by assumption) rfl ?_ | refine ean rfl (by assumption) (by assumption) rfl ?_ | refine eal rfl (by assumption) (by assumption) rfl ?_ | refine eri rfl ?_ | refine erv rfl ?_ | refine erl rfl ?_ | refine era rfl ?_ | refine erz0 rfl ?_ | refine erz1 rfl ?_ | refine ean0 rfl (by assumption) (by assumption) rfl ?_ | refine ean8 rfl (by assumption) (by assumption) rfl ?_ | refine ean12 rfl (by assumption) (by assumption) rfl ?_ | refine ean7 rfl (by assumption) (by assumption) rfl ?_)
  try dsimp only [set1, set2, kilP, List.set_cons_zero, List.set_cons_succ, List.getElem?_cons_zero, List.getElem?_cons_succ, List.nil_append, List.cons_append, Option.toList_some, Option.toList_none]
  exact Pq.an hY9 (hF.tr (hF9.wide (lo2 := b) (n2 := 16) (by omega) (by omega)) (by omega) (by omega))
theorem y_jud_loop {a : Nat} {oa : Int32 × Int32 × Int32} {rd : Value} {oq : Yr × Yq} {A : Ar} {M0 : Mm} (hY : YR M b σ) (hW : yW M b a σ oa rd oq A) (hI : Inv σ C) (hn : 0 < σ.T.hs.n) (hF : Fr b 16 M0 M) : ∀ (n i : Nat) (L2 : Option Value), i + n = σ.T.cs.sg → Ev ad 2 (rX13_judge ad) (20, [some (.ref b), some (.int (nI i)), L2], [], M) (Pq b M0 (an σ (judF σ n i))) := by
  obtain ⟨hy, ha, hM, hv⟩ := hW
  obtain ⟨kn, Am, Bm, m0, mc, mH, mS, mP, mC, mN⟩ := id hM
  obtain ⟨m1, m2, m3, m4, m5, m6, m7, m8, m9, m10, m11, m12, m13, m14, m15, m16, m17⟩ := id mc
  have h0 := hy.1
  have h2 := hy.c.2.1
  have hn7 := hI.n7
  have hsg : σ.T.cs.sg ≤ 8 := (hI.tI hn).1.1.2.2.2.1
  intro n
  induction n with
  | zero =>
    intro i L2 hi
    repeat (first | refine es rfl rfl rfl ?_ | refine eg rfl (by assumption) rfl ?_ | refine ean rfl (by assumption) (by assumption) rfl ?_ | refine eal rfl (by assumption) (by assumption) rfl ?_ | refine eri rfl ?_ | refine erv rfl ?_ | refine erl rfl ?_ | refine era rfl ?_ | refine erz0 rfl ?_ | refine erz1 rfl ?_ | refine ean0 rfl (by assumption) (by assumption) rfl ?_ | refine ean8 rfl (by assumption) (by assumption) rfl ?_ | refine ean12 rfl (by assumption) (by assumption) rfl ?_ | refine ean7 rfl (by assumption) (by assumption) rfl ?_)
    try dsimp only [set1, set2, kilP, List.set_cons_zero, List.set_cons_succ, List.getElem?_cons_zero, List.getElem?_cons_succ, List.nil_append, List.cons_append, Option.toList_some, Option.toList_none]
    refine ei _ rfl rfl (fun c => ?_) (fun c => ?_)
    · rw [judF]
      repeat (first | refine es rfl rfl rfl ?_ | refine eg rfl (by assumption) rfl ?_ | refine ean rfl (by assumption) (by assumption) rfl ?_ | refine eal rfl (by assumption) (by assumption) rfl ?_ | refine eri rfl ?_ | refine erv rfl ?_ | refine erl rfl ?_ | refine era rfl ?_ | refine erz0 rfl ?_ | refine erz1 rfl ?_ | refine ean0 rfl (by assumption) (by assumption) rfl ?_ | refine ean8 rfl (by assumption) (by assumption) rfl ?_ | refine ean12 rfl (by assumption) (by assumption) rfl ?_ | refine ean7 rfl (by assumption) (by assumption) rfl ?_)
      try dsimp only [set1, set2, kilP, List.set_cons_zero, List.set_cons_succ, List.getElem?_cons_zero, List.getElem?_cons_succ, List.nil_append, List.cons_append, Option.toList_some, Option.toList_none]
      refine ecv rfl rfl (by assumption) rfl rfl rfl (y_good hY) (by first | rfl | exact Nat.blt_eq.mpr (by omega)) ?_
      rintro v M9 ⟨rfl, hY9, hF9⟩
      try dsimp only [set1, set2, kilP, List.set_cons_zero, List.set_cons_succ, List.getElem?_cons_zero, List.getElem?_cons_succ, List.nil_append, List.cons_append, Option.toList_some, Option.toList_none]
      repeat (first | refine es rfl rfl rfl ?_ | refine eg rfl (by assumption) rfl ?_ | refine ean rfl (by assumption) (by assumption) rfl ?_ | refine eal rfl (by assumption) (by assumption) rfl ?_ | refine eri rfl ?_ | refine erv rfl ?_ | refine erl rfl ?_ | refine era rfl ?_ | refine erz0 rfl ?_ | refine erz1 rfl ?_ | refine ean0 rfl (by assumption) (by assumption) rfl ?_ | refine ean8 rfl (by assumption) (by assumption) rfl ?_ | refine ean12 rfl (by assumption) (by assumption) rfl ?_ | refine ean7 rfl (by assumption) (by assumption) rfl ?_)
      try dsimp only [set1, set2, kilP, List.set_cons_zero, List.set_cons_succ, List.getElem?_cons_zero, List.getElem?_cons_succ, List.nil_append, List.cons_append, Option.toList_some, Option.toList_none]
      exact Pq.an hY9 (hF.tr (hF9.wide (lo2 := b) (n2 := 16) (by omega) (by omega)) (by omega) (by omega))
    · exact absurd (nI_le (by omega) (by omega)) c
  | succ n ih =>
    intro i L2 hi
    have hi8 : i < 8 := by omega
    repeat (first | refine es rfl rfl rfl ?_ | refine eg rfl (by assumption) rfl ?_ | refine ean rfl (by assumption) (by assumption) rfl ?_ | refine eal rfl (by assumption) (by assumption) rfl ?_ | refine eri rfl ?_ | refine erv rfl ?_ | refine erl rfl ?_ | refine era rfl ?_ | refine erz0 rfl ?_ | refine erz1 rfl ?_ | refine ean0 rfl (by assumption) (by assumption) rfl ?_ | refine ean8 rfl (by assumption) (by assumption) rfl ?_ | refine ean12 rfl (by assumption) (by assumption) rfl ?_ | refine ean7 rfl (by assumption) (by assumption) rfl ?_)
    try dsimp only [set1, set2, kilP, List.set_cons_zero, List.set_cons_succ, List.getElem?_cons_zero, List.getElem?_cons_succ, List.nil_append, List.cons_append, Option.toList_some, Option.toList_none]
    refine ei _ rfl rfl (fun c => ?_) (fun c => ?_)
    · exact absurd c (nI_ge (by omega) (by omega))
    · repeat (first | refine es rfl rfl rfl ?_ | refine eg rfl (by assumption) rfl ?_ | refine ean rfl (by assumption) (by assumption) rfl ?_ | refine eal rfl (by assumption) (by assumption) rfl ?_ | refine eri rfl ?_ | refine erv rfl ?_ | refine erl rfl ?_ | refine era rfl ?_ | refine erz0 rfl ?_ | refine erz1 rfl ?_ | refine ean0 rfl (by assumption) (by assumption) rfl ?_ | refine ean8 rfl (by assumption) (by assumption) rfl ?_ | refine ean12 rfl (by assumption) (by assumption) rfl ?_ | refine ean7 rfl (by assumption) (by assumption) rfl ?_)
      try dsimp only [set1, set2, kilP, List.set_cons_zero, List.set_cons_succ, List.getElem?_cons_zero, List.getElem?_cons_succ, List.nil_append, List.cons_append, Option.toList_some, Option.toList_none]
      obtain ⟨k, hk, ek⟩ := (hI.tI hn).2.2.2.2.2.2.2.1 i (by omega)
      rw [(mC.1 i (by omega)).1, ek]
      have hk16 : k < 16 := by omega
      repeat (first | refine es rfl rfl rfl ?_ | refine eg rfl (by assumption) rfl ?_ | refine ean rfl (by assumption) (by assumption) rfl ?_ | refine eal rfl (by assumption) (by assumption) rfl ?_ | refine eri rfl ?_ | refine erv rfl ?_ | refine erl rfl ?_ | refine era rfl ?_ | refine erz0 rfl ?_ | refine erz1 rfl ?_ | refine ean0 rfl (by assumption) (by assumption) rfl ?_ | refine ean8 rfl (by assumption) (by assumption) rfl ?_ | refine ean12 rfl (by assumption) (by assumption) rfl ?_ | refine ean7 rfl (by assumption) (by assumption) rfl ?_)
      try dsimp only [set1, set2, kilP, List.set_cons_zero, List.set_cons_succ, List.getElem?_cons_zero, List.getElem?_cons_succ, List.nil_append, List.cons_append, Option.toList_some, Option.toList_none]
      rw [hv k hk16]
      rw [judF, ek, nI_clamp (by omega)]
      refine ei _ rfl rfl (fun c1 => ?_) (fun c1 => ?_)
      · rw [if_pos (Or.inl c1)]
        repeat (first | refine es rfl rfl rfl ?_ | refine eg rfl (by assumption) rfl ?_ | refine ean rfl (by assumption) (by assumption) rfl ?_ | refine eal rfl (by assumption) (by assumption) rfl ?_ | refine eri rfl ?_ | refine erv rfl ?_ | refine erl rfl ?_ | refine era rfl ?_ | refine erz0 rfl ?_ | refine erz1 rfl ?_ | refine ean0 rfl (by assumption) (by assumption) rfl ?_ | refine ean8 rfl (by assumption) (by assumption) rfl ?_ | refine ean12 rfl (by assumption) (by assumption) rfl ?_ | refine ean7 rfl (by assumption) (by assumption) rfl ?_)
        try dsimp only [set1, set2, kilP, List.set_cons_zero, List.set_cons_succ, List.getElem?_cons_zero, List.getElem?_cons_succ, List.nil_append, List.cons_append, Option.toList_some, Option.toList_none]
        refine ecv rfl rfl (by assumption) rfl rfl rfl (y_good hY) (by first | rfl | exact Nat.blt_eq.mpr (by omega)) ?_
        rintro v M9 ⟨rfl, hY9, hF9⟩
        try dsimp only [set1, set2, kilP, List.set_cons_zero, List.set_cons_succ, List.getElem?_cons_zero, List.getElem?_cons_succ, List.nil_append, List.cons_append, Option.toList_some, Option.toList_none]
        repeat (first | refine es rfl rfl rfl ?_ | refine eg rfl (by assumption) rfl ?_ | refine ean rfl (by assumption) (by assumption) rfl ?_ | refine eal rfl (by assumption) (by assumption) rfl ?_ | refine eri rfl ?_ | refine erv rfl ?_ | refine erl rfl ?_ | refine era rfl ?_ | refine erz0 rfl ?_ | refine erz1 rfl ?_ | refine ean0 rfl (by assumption) (by assumption) rfl ?_ | refine ean8 rfl (by assumption) (by assumption) rfl ?_ | refine ean12 rfl (by assumption) (by assumption) rfl ?_ | refine ean7 rfl (by assumption) (by assumption) rfl ?_)
        try dsimp only [set1, set2, kilP, List.set_cons_zero, List.set_cons_succ, List.getElem?_cons_zero, List.getElem?_cons_succ, List.nil_append, List.cons_append, Option.toList_some, Option.toList_none]
        exact Pq.an hY9 (hF.tr (hF9.wide (lo2 := b) (n2 := 16) (by omega) (by omega)) (by omega) (by omega))
      · obtain ⟨_, j, hj, ej⟩ := ((hI.rowI hn).1 k (by omega)).resolve_left c1
        have hj7 : j < 7 := by omega
        rw [ej, nI_clamp (by omega)]
        repeat (first | refine es rfl rfl rfl ?_ | refine eg rfl (by assumption) rfl ?_ | refine ean rfl (by assumption) (by assumption) rfl ?_ | refine eal rfl (by assumption) (by assumption) rfl ?_ | refine eri rfl ?_ | refine erv rfl ?_ | refine erl rfl ?_ | refine era rfl ?_ | refine erz0 rfl ?_ | refine erz1 rfl ?_ | refine ean0 rfl (by assumption) (by assumption) rfl ?_ | refine ean8 rfl (by assumption) (by assumption) rfl ?_ | refine ean12 rfl (by assumption) (by assumption) rfl ?_ | refine ean7 rfl (by assumption) (by assumption) rfl ?_)
        try dsimp only [set1, set2, kilP, List.set_cons_zero, List.set_cons_succ, List.getElem?_cons_zero, List.getElem?_cons_succ, List.nil_append, List.cons_append, Option.toList_some, Option.toList_none]
        rw [(mH j hj).2.2.2.2.2.2, (mC.1 i (by omega)).2]
        refine ei _ rfl rfl (fun c2 => ?_) (fun c2 => ?_)
        · rw [if_neg (fun q => q.elim (fun q => nI_n2 (by omega) q) (fun q => q (lcmp_eq.mp c2)))]
          repeat (refine ng 20 rfl ?_; first | refine es rfl rfl rfl ?_ | refine eg rfl (by assumption) rfl ?_ | refine ean rfl (by assumption) (by assumption) rfl ?_ | refine eal rfl (by assumption) (by assumption) rfl ?_ | refine eri rfl ?_ | refine erv rfl ?_ | refine erl rfl ?_ | refine era rfl ?_ | refine erz0 rfl ?_ | refine erz1 rfl ?_ | refine ean0 rfl (by assumption) (by assumption) rfl ?_ | refine ean8 rfl (by assumption) (by assumption) rfl ?_ | refine ean12 rfl (by assumption) (by assumption) rfl ?_ | refine ean7 rfl (by assumption) (by assumption) rfl ?_)
          try dsimp only [set1, set2, kilP, List.set_cons_zero, List.set_cons_succ, List.getElem?_cons_zero, List.getElem?_cons_succ, List.nil_append, List.cons_append, Option.toList_some, Option.toList_none]
          rw [nI_1]
          exact ih (i + 1) _ (by omega)
        · rw [if_pos (Or.inr (fun q => c2 (lcmp_eq.mpr q)))]
          repeat (first | refine es rfl rfl rfl ?_ | refine eg rfl (by assumption) rfl ?_ | refine ean rfl (by assumption) (by assumption) rfl ?_ | refine eal rfl (by assumption) (by assumption) rfl ?_ | refine eri rfl ?_ | refine erv rfl ?_ | refine erl rfl ?_ | refine era rfl ?_ | refine erz0 rfl ?_ | refine erz1 rfl ?_ | refine ean0 rfl (by assumption) (by assumption) rfl ?_ | refine ean8 rfl (by assumption) (by assumption) rfl ?_ | refine ean12 rfl (by assumption) (by assumption) rfl ?_ | refine ean7 rfl (by assumption) (by assumption) rfl ?_)
          try dsimp only [set1, set2, kilP, List.set_cons_zero, List.set_cons_succ, List.getElem?_cons_zero, List.getElem?_cons_succ, List.nil_append, List.cons_append, Option.toList_some, Option.toList_none]
          refine ecv rfl rfl (by assumption) rfl rfl rfl (y_good hY) (by first | rfl | exact Nat.blt_eq.mpr (by omega)) ?_
          rintro v M9 ⟨rfl, hY9, hF9⟩
          try dsimp only [set1, set2, kilP, List.set_cons_zero, List.set_cons_succ, List.getElem?_cons_zero, List.getElem?_cons_succ, List.nil_append, List.cons_append, Option.toList_some, Option.toList_none]
          repeat (first | refine es rfl rfl rfl ?_ | refine eg rfl (by assumption) rfl ?_ | refine ean rfl (by assumption) (by assumption) rfl ?_ | refine eal rfl (by assumption) (by assumption) rfl ?_ | refine eri rfl ?_ | refine erv rfl ?_ | refine erl rfl ?_ | refine era rfl ?_ | refine erz0 rfl ?_ | refine erz1 rfl ?_ | refine ean0 rfl (by assumption) (by assumption) rfl ?_ | refine ean8 rfl (by assumption) (by assumption) rfl ?_ | refine ean12 rfl (by assumption) (by assumption) rfl ?_ | refine ean7 rfl (by assumption) (by assumption) rfl ?_)
          try dsimp only [set1, set2, kilP, List.set_cons_zero, List.set_cons_succ, List.getElem?_cons_zero, List.getElem?_cons_succ, List.nil_append, List.cons_append, Option.toList_some, Option.toList_none]
          exact Pq.an hY9 (hF.tr (hF9.wide (lo2 := b) (n2 := 16) (by omega) (by omega)) (by omega) (by omega))
theorem y_judge (hY : YR M b σ) (hI : Inv σ C) : EvM ad 2 (iX13_judge ad) [.ref b] M (Pq b M (spJudge σ)) := by
  unfold spJudge
  refine ⟨Nat.le_of_ble_eq_true rfl, ?_⟩
  show Ev ad _ (rX13_judge ad) (0, [some (.ref b), none, none], [], M) _
  refine yEn rfl rfl rfl hY (fun M1 hY hF _ => ?_)
  obtain ⟨⟨oa, ⟨tw, rd⟩, oq⟩, A, hR⟩ := id hY
  have h0 := hR.1.1
  have h2 := hR.1.c.2.1
  by_cases hno : σ.T.hs.n = 0
  · obtain ⟨_, t0⟩ := hR.2.2.2.2.2.2.2.2.2.resolve_right (fun q => by have := q.1; omega)
    replace t0 : tw = .null := t0
    subst t0
    rw [if_pos hno]
    repeat (first | refine es rfl rfl rfl ?_ | refine eg rfl (by assumption) rfl ?_ | refine ean rfl (by assumption) (by assumption) rfl ?_ | refine eal rfl (by assumption) (by assumption) rfl ?_ | refine eri rfl ?_ | refine erv rfl ?_ | refine erl rfl ?_ | refine era rfl ?_ | refine erz0 rfl ?_ | refine erz1 rfl ?_ | refine ean0 rfl (by assumption) (by assumption) rfl ?_ | refine ean8 rfl (by assumption) (by assumption) rfl ?_ | refine ean12 rfl (by assumption) (by assumption) rfl ?_ | refine ean7 rfl (by assumption) (by assumption) rfl ?_)
    try dsimp only [set1, set2, kilP, List.set_cons_zero, List.set_cons_succ, List.getElem?_cons_zero, List.getElem?_cons_succ, List.nil_append, List.cons_append, Option.toList_some, Option.toList_none]
    refine ecv rfl rfl (by assumption) rfl rfl rfl (y_ref hY (by decide)) (by first | rfl | exact Nat.blt_eq.mpr (by omega)) ?_
    rintro v M9 ⟨rfl, hY9, hF9⟩
    try dsimp only [set1, set2, kilP, List.set_cons_zero, List.set_cons_succ, List.getElem?_cons_zero, List.getElem?_cons_succ, List.nil_append, List.cons_append, Option.toList_some, Option.toList_none]
    repeat (first | refine es rfl rfl rfl ?_ | refine eg rfl (by assumption) rfl ?_ | refine ean rfl (by assumption) (by assumption) rfl ?_ | refine eal rfl (by assumption) (by assumption) rfl ?_ | refine eri rfl ?_ | refine erv rfl ?_ | refine erl rfl ?_ | refine era rfl ?_ | refine erz0 rfl ?_ | refine erz1 rfl ?_ | refine ean0 rfl (by assumption) (by assumption) rfl ?_ | refine ean8 rfl (by assumption) (by assumption) rfl ?_ | refine ean12 rfl (by assumption) (by assumption) rfl ?_ | refine ean7 rfl (by assumption) (by assumption) rfl ?_)
    try dsimp only [set1, set2, kilP, List.set_cons_zero, List.set_cons_succ, List.getElem?_cons_zero, List.getElem?_cons_succ, List.nil_append, List.cons_append, Option.toList_some, Option.toList_none]
    exact Pq.rf hY9 (hF.tr (hF9.wide (lo2 := b) (n2 := 16) (by omega) (by omega)) (by omega) (by omega))
  rw [if_neg hno]
  obtain ⟨n1, a, t0, a1, a2, hM, hv, hpa, hmk, hfa⟩ := hR.2.2.2.2.2.2.2.2.2.resolve_left (fun q => by have := q.1; omega)
  replace t0 : tw = .ref a := t0
  subst t0
  obtain ⟨kn, Am, Bm, m0, mc, mH, mS, mP, mC, mN⟩ := id hM
  obtain ⟨m1, m2, m3, m4, m5, m6, m7, m8, m9, m10, m11, m12, m13, m14, m15, m16, m17⟩ := id mc
  repeat (refine ng 20 rfl ?_; first | refine es rfl rfl rfl ?_ | refine eg rfl (by assumption) rfl ?_ | refine ean rfl (by assumption) (by assumption) rfl ?_ | refine eal rfl (by assumption) (by assumption) rfl ?_ | refine eri rfl ?_ | refine erv rfl ?_ | refine erl rfl ?_ | refine era rfl ?_ | refine erz0 rfl ?_ | refine erz1 rfl ?_ | refine ean0 rfl (by assumption) (by assumption) rfl ?_ | refine ean8 rfl (by assumption) (by assumption) rfl ?_ | refine ean12 rfl (by assumption) (by assumption) rfl ?_ | refine ean7 rfl (by assumption) (by assumption) rfl ?_)
  try dsimp only [set1, set2, kilP, List.set_cons_zero, List.set_cons_succ, List.getElem?_cons_zero, List.getElem?_cons_succ, List.nil_append, List.cons_append, Option.toList_some, Option.toList_none]
  exact y_jud_loop hY ⟨hR.1, a1, hM, hv⟩ hI n1 hF _ 0 _ (by omega)
theorem y_candleAt_loop {a k D : Nat} {oa : Int32 × Int32 × Int32} {rd : Value} {oq : Yr × Yq} {A : Ar} {M0 : Mm} (hY : YR M b σ) (hW : yW M b a σ oa rd oq A) (hI : Inv σ C) (hF : Fr b 16 M0 M) (hD : D < 100) : ∀ (n i : Nat) (y : Int32), i + n = D → (y = -2 ∨ ∃ k, k < 7 ∧ y = nI k) → Ev ad 2 (rX13_candleAt ad) (40, [some (.ref b), some (.int (nI k)), some (.int (nI D)), some (.int y), some (.int (nI i))], [], M) (Pq b M0 (an σ (behF σ.f n y))) := by
  obtain ⟨hy, ha, hM, hv⟩ := hW
  have h0 := hy.1
  have h2 := hy.c.2.1
  intro n
  induction n with
  | zero =>
    intro i y hi hy'
    repeat (first | refine es rfl rfl rfl ?_ | refine eg rfl (by assumption) rfl ?_ | refine ean rfl (by assumption) (by assumption) rfl ?_ | refine eal rfl (by assumption) (by assumption) rfl ?_ | refine eri rfl ?_ | refine erv rfl ?_ | refine erl rfl ?_ | refine era rfl ?_ | refine erz0 rfl ?_ | refine erz1 rfl ?_ | refine ean0 rfl (by assumption) (by assumption) rfl ?_ | refine ean8 rfl (by assumption) (by assumption) rfl ?_ | refine ean12 rfl (by assumption) (by assumption) rfl ?_ | refine ean7 rfl (by assumption) (by assumption) rfl ?_)
    try dsimp only [set1, set2, kilP, List.set_cons_zero, List.set_cons_succ, List.getElem?_cons_zero, List.getElem?_cons_succ, List.nil_append, List.cons_append, Option.toList_some, Option.toList_none]
    refine ei _ rfl rfl (fun c => ?_) (fun c => ?_)
    · rw [behF]
      repeat (first | refine es rfl rfl rfl ?_ | refine eg rfl (by assumption) rfl ?_ | refine ean rfl (by assumption) (by assumption) rfl ?_ | refine eal rfl (by assumption) (by assumption) rfl ?_ | refine eri rfl ?_ | refine erv rfl ?_ | refine erl rfl ?_ | refine era rfl ?_ | refine erz0 rfl ?_ | refine erz1 rfl ?_ | refine ean0 rfl (by assumption) (by assumption) rfl ?_ | refine ean8 rfl (by assumption) (by assumption) rfl ?_ | refine ean12 rfl (by assumption) (by assumption) rfl ?_ | refine ean7 rfl (by assumption) (by assumption) rfl ?_)
      try dsimp only [set1, set2, kilP, List.set_cons_zero, List.set_cons_succ, List.getElem?_cons_zero, List.getElem?_cons_succ, List.nil_append, List.cons_append, Option.toList_some, Option.toList_none]
      refine ecv rfl rfl (by assumption) rfl rfl rfl (y_good hY) (by first | rfl | exact Nat.blt_eq.mpr (by omega)) ?_
      rintro v M9 ⟨rfl, hY9, hF9⟩
      try dsimp only [set1, set2, kilP, List.set_cons_zero, List.set_cons_succ, List.getElem?_cons_zero, List.getElem?_cons_succ, List.nil_append, List.cons_append, Option.toList_some, Option.toList_none]
      repeat (first | refine es rfl rfl rfl ?_ | refine eg rfl (by assumption) rfl ?_ | refine ean rfl (by assumption) (by assumption) rfl ?_ | refine eal rfl (by assumption) (by assumption) rfl ?_ | refine eri rfl ?_ | refine erv rfl ?_ | refine erl rfl ?_ | refine era rfl ?_ | refine erz0 rfl ?_ | refine erz1 rfl ?_ | refine ean0 rfl (by assumption) (by assumption) rfl ?_ | refine ean8 rfl (by assumption) (by assumption) rfl ?_ | refine ean12 rfl (by assumption) (by assumption) rfl ?_ | refine ean7 rfl (by assumption) (by assumption) rfl ?_)
      try dsimp only [set1, set2, kilP, List.set_cons_zero, List.set_cons_succ, List.getElem?_cons_zero, List.getElem?_cons_succ, List.nil_append, List.cons_append, Option.toList_some, Option.toList_none]
      exact Pq.an hY9 (hF.tr (hF9.wide (lo2 := b) (n2 := 16) (by omega) (by omega)) (by omega) (by omega))
    · exact absurd (nI_le (by omega) (by omega)) c
  | succ n ih =>
    intro i y hi hy'
    repeat (first | refine es rfl rfl rfl ?_ | refine eg rfl (by assumption) rfl ?_ | refine ean rfl (by assumption) (by assumption) rfl ?_ | refine eal rfl (by assumption) (by assumption) rfl ?_ | refine eri rfl ?_ | refine erv rfl ?_ | refine erl rfl ?_ | refine era rfl ?_ | refine erz0 rfl ?_ | refine erz1 rfl ?_ | refine ean0 rfl (by assumption) (by assumption) rfl ?_ | refine ean8 rfl (by assumption) (by assumption) rfl ?_ | refine ean12 rfl (by assumption) (by assumption) rfl ?_ | refine ean7 rfl (by assumption) (by assumption) rfl ?_)
    try dsimp only [set1, set2, kilP, List.set_cons_zero, List.set_cons_succ, List.getElem?_cons_zero, List.getElem?_cons_succ, List.nil_append, List.cons_append, Option.toList_some, Option.toList_none]
    refine ei _ rfl rfl (fun c => ?_) (fun c => ?_)
    · exact absurd c (nI_ge (by omega) (by omega))
    · repeat (first | refine es rfl rfl rfl ?_ | refine eg rfl (by assumption) rfl ?_ | refine ean rfl (by assumption) (by assumption) rfl ?_ | refine eal rfl (by assumption) (by assumption) rfl ?_ | refine eri rfl ?_ | refine erv rfl ?_ | refine erl rfl ?_ | refine era rfl ?_ | refine erz0 rfl ?_ | refine erz1 rfl ?_ | refine ean0 rfl (by assumption) (by assumption) rfl ?_ | refine ean8 rfl (by assumption) (by assumption) rfl ?_ | refine ean12 rfl (by assumption) (by assumption) rfl ?_ | refine ean7 rfl (by assumption) (by assumption) rfl ?_)
      try dsimp only [set1, set2, kilP, List.set_cons_zero, List.set_cons_succ, List.getElem?_cons_zero, List.getElem?_cons_succ, List.nil_append, List.cons_append, Option.toList_some, Option.toList_none]
      refine ei _ rfl rfl (fun e => ?_) (fun e => ?_)
      · rw [behF, if_pos e]
        repeat (first | refine es rfl rfl rfl ?_ | refine eg rfl (by assumption) rfl ?_ | refine ean rfl (by assumption) (by assumption) rfl ?_ | refine eal rfl (by assumption) (by assumption) rfl ?_ | refine eri rfl ?_ | refine erv rfl ?_ | refine erl rfl ?_ | refine era rfl ?_ | refine erz0 rfl ?_ | refine erz1 rfl ?_ | refine ean0 rfl (by assumption) (by assumption) rfl ?_ | refine ean8 rfl (by assumption) (by assumption) rfl ?_ | refine ean12 rfl (by assumption) (by assumption) rfl ?_ | refine ean7 rfl (by assumption) (by assumption) rfl ?_)
        try dsimp only [set1, set2, kilP, List.set_cons_zero, List.set_cons_succ, List.getElem?_cons_zero, List.getElem?_cons_succ, List.nil_append, List.cons_append, Option.toList_some, Option.toList_none]
        refine ecv rfl rfl (by assumption) rfl rfl rfl (y_good hY) (by first | rfl | exact Nat.blt_eq.mpr (by omega)) ?_
        rintro v M9 ⟨rfl, hY9, hF9⟩
        try dsimp only [set1, set2, kilP, List.set_cons_zero, List.set_cons_succ, List.getElem?_cons_zero, List.getElem?_cons_succ, List.nil_append, List.cons_append, Option.toList_some, Option.toList_none]
        repeat (first | refine es rfl rfl rfl ?_ | refine eg rfl (by assumption) rfl ?_ | refine ean rfl (by assumption) (by assumption) rfl ?_ | refine eal rfl (by assumption) (by assumption) rfl ?_ | refine eri rfl ?_ | refine erv rfl ?_ | refine erl rfl ?_ | refine era rfl ?_ | refine erz0 rfl ?_ | refine erz1 rfl ?_ | refine ean0 rfl (by assumption) (by assumption) rfl ?_ | refine ean8 rfl (by assumption) (by assumption) rfl ?_ | refine ean12 rfl (by assumption) (by assumption) rfl ?_ | refine ean7 rfl (by assumption) (by assumption) rfl ?_)
        try dsimp only [set1, set2, kilP, List.set_cons_zero, List.set_cons_succ, List.getElem?_cons_zero, List.getElem?_cons_succ, List.nil_append, List.cons_append, Option.toList_some, Option.toList_none]
        exact Pq.an hY9 (hF.tr (hF9.wide (lo2 := b) (n2 := 16) (by omega) (by omega)) (by omega) (by omega))
      · obtain ⟨k, hk, rfl⟩ := hy'.resolve_left e
        have hk2 : k < 16 := by omega
        repeat (refine ng 40 rfl ?_; first | refine es rfl rfl rfl ?_ | refine eg rfl (by assumption) rfl ?_ | refine ean rfl (by assumption) (by assumption) rfl ?_ | refine eal rfl (by assumption) (by assumption) rfl ?_ | refine eri rfl ?_ | refine erv rfl ?_ | refine erl rfl ?_ | refine era rfl ?_ | refine erz0 rfl ?_ | refine erz1 rfl ?_ | refine ean0 rfl (by assumption) (by assumption) rfl ?_ | refine ean8 rfl (by assumption) (by assumption) rfl ?_ | refine ean12 rfl (by assumption) (by assumption) rfl ?_ | refine ean7 rfl (by assumption) (by assumption) rfl ?_)
        try dsimp only [set1, set2, kilP, List.set_cons_zero, List.set_cons_succ, List.getElem?_cons_zero, List.getElem?_cons_succ, List.nil_append, List.cons_append, Option.toList_some, Option.toList_none]
        rw [hv k hk2, behF, if_neg e, nI_1, nI_clamp (by omega)]
        exact ih (i + 1) (σ.f k) (by omega) (hI.ok k hk)
theorem y_candleAt {x w : Int32} (hY : YR M b σ) (hI : Inv σ C) : EvM ad 2 (iX13_candleAt ad) [.ref b, .int x, .int w] M (Pq b M (spCandleAt σ x w)) := by
  have hn7 := hI.n7
  unfold spCandleAt
  refine ⟨Nat.le_of_ble_eq_true rfl, ?_⟩
  show Ev ad _ (rX13_candleAt ad) (0, [some (.ref b), some (.int x), some (.int w), none, none], [], M) _
  refine yEn rfl rfl rfl hY (fun M1 hY hF _ => ?_)
  obtain ⟨⟨oa, ⟨tw, rd⟩, oq⟩, A, hR⟩ := id hY
  have h0 := hR.1.1
  have h2 := hR.1.c.2.1
  repeat (first | refine es rfl rfl rfl ?_ | refine eg rfl (by assumption) rfl ?_ | refine ean rfl (by assumption) (by assumption) rfl ?_ | refine eal rfl (by assumption) (by assumption) rfl ?_ | refine eri rfl ?_ | refine erv rfl ?_ | refine erl rfl ?_ | refine era rfl ?_ | refine erz0 rfl ?_ | refine erz1 rfl ?_ | refine ean0 rfl (by assumption) (by assumption) rfl ?_ | refine ean8 rfl (by assumption) (by assumption) rfl ?_ | refine ean12 rfl (by assumption) (by assumption) rfl ?_ | refine ean7 rfl (by assumption) (by assumption) rfl ?_)
  try dsimp only [set1, set2, kilP, List.set_cons_zero, List.set_cons_succ, List.getElem?_cons_zero, List.getElem?_cons_succ, List.nil_append, List.cons_append, Option.toList_some, Option.toList_none]
  refine ecr rfl rfl (by assumption) rfl rfl rfl (y_isH hY) (by first | rfl | exact Nat.blt_eq.mpr (by omega)) rfl ?_
  by_cases c : isH σ x
  rotate_left
  · rw [if_neg c, show bI (isH σ x) = 0 from if_neg c]
    repeat (first | refine es rfl rfl rfl ?_ | refine eg rfl (by assumption) rfl ?_ | refine ean rfl (by assumption) (by assumption) rfl ?_ | refine eal rfl (by assumption) (by assumption) rfl ?_ | refine eri rfl ?_ | refine erv rfl ?_ | refine erl rfl ?_ | refine era rfl ?_ | refine erz0 rfl ?_ | refine erz1 rfl ?_ | refine ean0 rfl (by assumption) (by assumption) rfl ?_ | refine ean8 rfl (by assumption) (by assumption) rfl ?_ | refine ean12 rfl (by assumption) (by assumption) rfl ?_ | refine ean7 rfl (by assumption) (by assumption) rfl ?_)
    try dsimp only [set1, set2, kilP, List.set_cons_zero, List.set_cons_succ, List.getElem?_cons_zero, List.getElem?_cons_succ, List.nil_append, List.cons_append, Option.toList_some, Option.toList_none]
    refine ecv rfl rfl (by assumption) rfl rfl rfl (y_ref hY (by decide)) (by first | rfl | exact Nat.blt_eq.mpr (by omega)) ?_
    rintro v M9 ⟨rfl, hY9, hF9⟩
    try dsimp only [set1, set2, kilP, List.set_cons_zero, List.set_cons_succ, List.getElem?_cons_zero, List.getElem?_cons_succ, List.nil_append, List.cons_append, Option.toList_some, Option.toList_none]
    repeat (first | refine es rfl rfl rfl ?_ | refine eg rfl (by assumption) rfl ?_ | refine ean rfl (by assumption) (by assumption) rfl ?_ | refine eal rfl (by assumption) (by assumption) rfl ?_ | refine eri rfl ?_ | refine erv rfl ?_ | refine erl rfl ?_ | refine era rfl ?_ | refine erz0 rfl ?_ | refine erz1 rfl ?_ | refine ean0 rfl (by assumption) (by assumption) rfl ?_ | refine ean8 rfl (by assumption) (by assumption) rfl ?_ | refine ean12 rfl (by assumption) (by assumption) rfl ?_ | refine ean7 rfl (by assumption) (by assumption) rfl ?_)
    try dsimp only [set1, set2, kilP, List.set_cons_zero, List.set_cons_succ, List.getElem?_cons_zero, List.getElem?_cons_succ, List.nil_append, List.cons_append, Option.toList_some, Option.toList_none]
    exact Pq.rf hY9 (hF.tr (hF9.wide (lo2 := b) (n2 := 16) (by omega) (by omega)) (by omega) (by omega))
  rw [if_pos c, show bI (isH σ x) = 1 from if_pos c]
  obtain ⟨k, hk, rfl⟩ := isH_k hn7 c
  have hk7 : k < 7 := by omega
  have hk16 : k < 16 := by omega
  repeat (first | refine es rfl rfl rfl ?_ | refine eg rfl (by assumption) rfl ?_ | refine ean rfl (by assumption) (by assumption) rfl ?_ | refine eal rfl (by assumption) (by assumption) rfl ?_ | refine eri rfl ?_ | refine erv rfl ?_ | refine erl rfl ?_ | refine era rfl ?_ | refine erz0 rfl ?_ | refine erz1 rfl ?_ | refine ean0 rfl (by assumption) (by assumption) rfl ?_ | refine ean8 rfl (by assumption) (by assumption) rfl ?_ | refine ean12 rfl (by assumption) (by assumption) rfl ?_ | refine ean7 rfl (by assumption) (by assumption) rfl ?_)
  try dsimp only [set1, set2, kilP, List.set_cons_zero, List.set_cons_succ, List.getElem?_cons_zero, List.getElem?_cons_succ, List.nil_append, List.cons_append, Option.toList_some, Option.toList_none]
  refine ecsr rfl rfl rfl rfl rfl rfl (y_in) (by first | rfl | exact Nat.blt_eq.mpr (by omega)) rfl ?_
  have e5 : ((0 : Int32) ≤ w ∧ w ≤ 9) ↔ (0 ≤ w ∧ w < 10) := in5 (N := 9) (by omega)
  by_cases c2 : (0 : Int32) ≤ w ∧ w ≤ 9
  rotate_left
  · rw [if_neg (fun q => c2 (e5.mpr q)), show bI ((0 : Int32) ≤ w ∧ w ≤ 9) = 0 from if_neg c2]
    repeat (first | refine es rfl rfl rfl ?_ | refine eg rfl (by assumption) rfl ?_ | refine ean rfl (by assumption) (by assumption) rfl ?_ | refine eal rfl (by assumption) (by assumption) rfl ?_ | refine eri rfl ?_ | refine erv rfl ?_ | refine erl rfl ?_ | refine era rfl ?_ | refine erz0 rfl ?_ | refine erz1 rfl ?_ | refine ean0 rfl (by assumption) (by assumption) rfl ?_ | refine ean8 rfl (by assumption) (by assumption) rfl ?_ | refine ean12 rfl (by assumption) (by assumption) rfl ?_ | refine ean7 rfl (by assumption) (by assumption) rfl ?_)
    try dsimp only [set1, set2, kilP, List.set_cons_zero, List.set_cons_succ, List.getElem?_cons_zero, List.getElem?_cons_succ, List.nil_append, List.cons_append, Option.toList_some, Option.toList_none]
    refine ecv rfl rfl (by assumption) rfl rfl rfl (y_ref hY (by decide)) (by first | rfl | exact Nat.blt_eq.mpr (by omega)) ?_
    rintro v M9 ⟨rfl, hY9, hF9⟩
    try dsimp only [set1, set2, kilP, List.set_cons_zero, List.set_cons_succ, List.getElem?_cons_zero, List.getElem?_cons_succ, List.nil_append, List.cons_append, Option.toList_some, Option.toList_none]
    repeat (first | refine es rfl rfl rfl ?_ | refine eg rfl (by assumption) rfl ?_ | refine ean rfl (by assumption) (by assumption) rfl ?_ | refine eal rfl (by assumption) (by assumption) rfl ?_ | refine eri rfl ?_ | refine erv rfl ?_ | refine erl rfl ?_ | refine era rfl ?_ | refine erz0 rfl ?_ | refine erz1 rfl ?_ | refine ean0 rfl (by assumption) (by assumption) rfl ?_ | refine ean8 rfl (by assumption) (by assumption) rfl ?_ | refine ean12 rfl (by assumption) (by assumption) rfl ?_ | refine ean7 rfl (by assumption) (by assumption) rfl ?_)
    try dsimp only [set1, set2, kilP, List.set_cons_zero, List.set_cons_succ, List.getElem?_cons_zero, List.getElem?_cons_succ, List.nil_append, List.cons_append, Option.toList_some, Option.toList_none]
    exact Pq.rf hY9 (hF.tr (hF9.wide (lo2 := b) (n2 := 16) (by omega) (by omega)) (by omega) (by omega))
  rw [if_pos (e5.mp c2), show bI ((0 : Int32) ≤ w ∧ w ≤ 9) = 1 from if_pos c2]
  obtain ⟨n1, a, t0, a1, a2, hM, hv, hpa, hmk, hfa⟩ := hR.2.2.2.2.2.2.2.2.2.resolve_left (fun q => by have := q.1; omega)
  replace t0 : tw = .ref a := t0
  subst t0
  obtain ⟨kn, Am, Bm, m0, mc, mH, mS, mP, mC, mN⟩ := id hM
  obtain ⟨m1, m2, m3, m4, m5, m6, m7, m8, m9, m10, m11, m12, m13, m14, m15, m16, m17⟩ := id mc
  obtain ⟨j, hj, rfl⟩ := nI_0k (n := 10) (by omega) (e5.mp c2)
  rw [nI_clamp (by omega)]
  repeat (refine ng 40 rfl ?_; first | refine es rfl rfl rfl ?_ | refine eg rfl (by assumption) rfl ?_ | refine ean rfl (by assumption) (by assumption) rfl ?_ | refine eal rfl (by assumption) (by assumption) rfl ?_ | refine eri rfl ?_ | refine erv rfl ?_ | refine erl rfl ?_ | refine era rfl ?_ | refine erz0 rfl ?_ | refine erz1 rfl ?_ | refine ean0 rfl (by assumption) (by assumption) rfl ?_ | refine ean8 rfl (by assumption) (by assumption) rfl ?_ | refine ean12 rfl (by assumption) (by assumption) rfl ?_ | refine ean7 rfl (by assumption) (by assumption) rfl ?_)
  try dsimp only [set1, set2, kilP, List.set_cons_zero, List.set_cons_succ, List.getElem?_cons_zero, List.getElem?_cons_succ, List.nil_append, List.cons_append, Option.toList_some, Option.toList_none]
  exact y_candleAt_loop hY ⟨hR.1, a1, hM, hv⟩ hI hF (by omega) j 0 (nI k) (by omega) (Or.inr ⟨k, hk7, rfl⟩)
theorem y_cnd_loop {a k : Nat} {oa : Int32 × Int32 × Int32} {rd : Value} {oq : Yr × Yq} {A : Ar} {M0 : Mm} (hY : YR M b σ) (hW : yW M b a σ oa rd oq A) (hI : Inv σ C) (hF : Fr b 16 M0 M) (hk : k < 7) : ∀ (n i : Nat), i + n = 8 → 1 ≤ i → (∀ j, 1 ≤ j → j < i → ¬ behF σ.f j (nI k) = nI k) → (∀ j, j < i → ¬ behF σ.f j (nI k) = -2) → Ev ad 2 (rX13_candle ad) (30, [some (.ref b), some (.int (nI k)), some (.int (nI i)), some (.int (behF σ.f i (nI k)))], [], M) (Pq b M0 (an σ (cndF σ.f k n i))) := by
  obtain ⟨hy, ha, hM, hv⟩ := hW
  have h0 := hy.1
  have h2 := hy.c.2.1
  intro n
  induction n with
  | zero =>
    intro i hi h1 hq hq2
    exact absurd (cnd_ph hI.ok hI.inj hk (fun j j1 j2 => hq j j1 (by omega)) (hq2 7 (by omega))) id
  | succ n ih =>
    intro i hi h1 hq hq2
    repeat (first | refine es rfl rfl rfl ?_ | refine eg rfl (by assumption) rfl ?_ | refine ean rfl (by assumption) (by assumption) rfl ?_ | refine eal rfl (by assumption) (by assumption) rfl ?_ | refine eri rfl ?_ | refine erv rfl ?_ | refine erl rfl ?_ | refine era rfl ?_ | refine erz0 rfl ?_ | refine erz1 rfl ?_ | refine ean0 rfl (by assumption) (by assumption) rfl ?_ | refine ean8 rfl (by assumption) (by assumption) rfl ?_ | refine ean12 rfl (by assumption) (by assumption) rfl ?_ | refine ean7 rfl (by assumption) (by assumption) rfl ?_)
    try dsimp only [set1, set2, kilP, List.set_cons_zero, List.set_cons_succ, List.getElem?_cons_zero, List.getElem?_cons_succ, List.nil_append, List.cons_append, Option.toList_some, Option.toList_none]
    refine ei _ rfl rfl (fun c => ?_) (fun c => ?_)
    · rw [cndF_2 hk _ _ c]
      repeat (first | refine es rfl rfl rfl ?_ | refine eg rfl (by assumption) rfl ?_ | refine ean rfl (by assumption) (by assumption) rfl ?_ | refine eal rfl (by assumption) (by assumption) rfl ?_ | refine eri rfl ?_ | refine erv rfl ?_ | refine erl rfl ?_ | refine era rfl ?_ | refine erz0 rfl ?_ | refine erz1 rfl ?_ | refine ean0 rfl (by assumption) (by assumption) rfl ?_ | refine ean8 rfl (by assumption) (by assumption) rfl ?_ | refine ean12 rfl (by assumption) (by assumption) rfl ?_ | refine ean7 rfl (by assumption) (by assumption) rfl ?_)
      try dsimp only [set1, set2, kilP, List.set_cons_zero, List.set_cons_succ, List.getElem?_cons_zero, List.getElem?_cons_succ, List.nil_append, List.cons_append, Option.toList_some, Option.toList_none]
      refine ei _ rfl rfl (fun c1 => ?_) (fun c1 => ?_)
      · exact absurd c c1
      · repeat (first | refine es rfl rfl rfl ?_ | refine eg rfl (by assumption) rfl ?_ | refine ean rfl (by assumption) (by assumption) rfl ?_ | refine eal rfl (by assumption) (by assumption) rfl ?_ | refine eri rfl ?_ | refine erv rfl ?_ | refine erl rfl ?_ | refine era rfl ?_ | refine erz0 rfl ?_ | refine erz1 rfl ?_ | refine ean0 rfl (by assumption) (by assumption) rfl ?_ | refine ean8 rfl (by assumption) (by assumption) rfl ?_ | refine ean12 rfl (by assumption) (by assumption) rfl ?_ | refine ean7 rfl (by assumption) (by assumption) rfl ?_)
        try dsimp only [set1, set2, kilP, List.set_cons_zero, List.set_cons_succ, List.getElem?_cons_zero, List.getElem?_cons_succ, List.nil_append, List.cons_append, Option.toList_some, Option.toList_none]
        refine ecv rfl rfl (by assumption) rfl rfl rfl (y_good hY) (by first | rfl | exact Nat.blt_eq.mpr (by omega)) ?_
        rintro v M9 ⟨rfl, hY9, hF9⟩
        try dsimp only [set1, set2, kilP, List.set_cons_zero, List.set_cons_succ, List.getElem?_cons_zero, List.getElem?_cons_succ, List.nil_append, List.cons_append, Option.toList_some, Option.toList_none]
        repeat (first | refine es rfl rfl rfl ?_ | refine eg rfl (by assumption) rfl ?_ | refine ean rfl (by assumption) (by assumption) rfl ?_ | refine eal rfl (by assumption) (by assumption) rfl ?_ | refine eri rfl ?_ | refine erv rfl ?_ | refine erl rfl ?_ | refine era rfl ?_ | refine erz0 rfl ?_ | refine erz1 rfl ?_ | refine ean0 rfl (by assumption) (by assumption) rfl ?_ | refine ean8 rfl (by assumption) (by assumption) rfl ?_ | refine ean12 rfl (by assumption) (by assumption) rfl ?_ | refine ean7 rfl (by assumption) (by assumption) rfl ?_)
        try dsimp only [set1, set2, kilP, List.set_cons_zero, List.set_cons_succ, List.getElem?_cons_zero, List.getElem?_cons_succ, List.nil_append, List.cons_append, Option.toList_some, Option.toList_none]
        exact Pq.an hY9 (hF.tr (hF9.wide (lo2 := b) (n2 := 16) (by omega) (by omega)) (by omega) (by omega))
    · repeat (first | refine es rfl rfl rfl ?_ | refine eg rfl (by assumption) rfl ?_ | refine ean rfl (by assumption) (by assumption) rfl ?_ | refine eal rfl (by assumption) (by assumption) rfl ?_ | refine eri rfl ?_ | refine erv rfl ?_ | refine erl rfl ?_ | refine era rfl ?_ | refine erz0 rfl ?_ | refine erz1 rfl ?_ | refine ean0 rfl (by assumption) (by assumption) rfl ?_ | refine ean8 rfl (by assumption) (by assumption) rfl ?_ | refine ean12 rfl (by assumption) (by assumption) rfl ?_ | refine ean7 rfl (by assumption) (by assumption) rfl ?_)
      try dsimp only [set1, set2, kilP, List.set_cons_zero, List.set_cons_succ, List.getElem?_cons_zero, List.getElem?_cons_succ, List.nil_append, List.cons_append, Option.toList_some, Option.toList_none]
      refine ei _ rfl rfl (fun c1 => ?_) (fun c1 => ?_)
      · rw [cndF, if_pos c1, c1]
        repeat (first | refine es rfl rfl rfl ?_ | refine eg rfl (by assumption) rfl ?_ | refine ean rfl (by assumption) (by assumption) rfl ?_ | refine eal rfl (by assumption) (by assumption) rfl ?_ | refine eri rfl ?_ | refine erv rfl ?_ | refine erl rfl ?_ | refine era rfl ?_ | refine erz0 rfl ?_ | refine erz1 rfl ?_ | refine ean0 rfl (by assumption) (by assumption) rfl ?_ | refine ean8 rfl (by assumption) (by assumption) rfl ?_ | refine ean12 rfl (by assumption) (by assumption) rfl ?_ | refine ean7 rfl (by assumption) (by assumption) rfl ?_)
        try dsimp only [set1, set2, kilP, List.set_cons_zero, List.set_cons_succ, List.getElem?_cons_zero, List.getElem?_cons_succ, List.nil_append, List.cons_append, Option.toList_some, Option.toList_none]
        refine ei _ rfl rfl (fun c2 => ?_) (fun c2 => ?_)
        · repeat (first | refine es rfl rfl rfl ?_ | refine eg rfl (by assumption) rfl ?_ | refine ean rfl (by assumption) (by assumption) rfl ?_ | refine eal rfl (by assumption) (by assumption) rfl ?_ | refine eri rfl ?_ | refine erv rfl ?_ | refine erl rfl ?_ | refine era rfl ?_ | refine erz0 rfl ?_ | refine erz1 rfl ?_ | refine ean0 rfl (by assumption) (by assumption) rfl ?_ | refine ean8 rfl (by assumption) (by assumption) rfl ?_ | refine ean12 rfl (by assumption) (by assumption) rfl ?_ | refine ean7 rfl (by assumption) (by assumption) rfl ?_)
          try dsimp only [set1, set2, kilP, List.set_cons_zero, List.set_cons_succ, List.getElem?_cons_zero, List.getElem?_cons_succ, List.nil_append, List.cons_append, Option.toList_some, Option.toList_none]
          refine ecv rfl rfl (by assumption) rfl rfl rfl (y_good hY) (by first | rfl | exact Nat.blt_eq.mpr (by omega)) ?_
          rintro v M9 ⟨rfl, hY9, hF9⟩
          try dsimp only [set1, set2, kilP, List.set_cons_zero, List.set_cons_succ, List.getElem?_cons_zero, List.getElem?_cons_succ, List.nil_append, List.cons_append, Option.toList_some, Option.toList_none]
          repeat (first | refine es rfl rfl rfl ?_ | refine eg rfl (by assumption) rfl ?_ | refine ean rfl (by assumption) (by assumption) rfl ?_ | refine eal rfl (by assumption) (by assumption) rfl ?_ | refine eri rfl ?_ | refine erv rfl ?_ | refine erl rfl ?_ | refine era rfl ?_ | refine erz0 rfl ?_ | refine erz1 rfl ?_ | refine ean0 rfl (by assumption) (by assumption) rfl ?_ | refine ean8 rfl (by assumption) (by assumption) rfl ?_ | refine ean12 rfl (by assumption) (by assumption) rfl ?_ | refine ean7 rfl (by assumption) (by assumption) rfl ?_)
          try dsimp only [set1, set2, kilP, List.set_cons_zero, List.set_cons_succ, List.getElem?_cons_zero, List.getElem?_cons_succ, List.nil_append, List.cons_append, Option.toList_some, Option.toList_none]
          exact Pq.an hY9 (hF.tr (hF9.wide (lo2 := b) (n2 := 16) (by omega) (by omega)) (by omega) (by omega))
        · exact absurd (Decidable.not_not.mp c2) (nI_n2 (by omega))
      · rw [cndF, if_neg c1]
        have e1 := behF_s i (nI k) c
        obtain ⟨j, hj, ej⟩ := (behF_ok hI.ok i (nI k) (Or.inr ⟨k, hk, rfl⟩)).resolve_left c
        have hj16 : j < 16 := by omega
        rw [ej, nI_clamp (by omega)] at e1
        rw [ej]
        repeat (refine ng 30 rfl ?_; first | refine es rfl rfl rfl ?_ | refine eg rfl (by assumption) rfl ?_ | refine ean rfl (by assumption) (by assumption) rfl ?_ | refine eal rfl (by assumption) (by assumption) rfl ?_ | refine eri rfl ?_ | refine erv rfl ?_ | refine erl rfl ?_ | refine era rfl ?_ | refine erz0 rfl ?_ | refine erz1 rfl ?_ | refine ean0 rfl (by assumption) (by assumption) rfl ?_ | refine ean8 rfl (by assumption) (by assumption) rfl ?_ | refine ean12 rfl (by assumption) (by assumption) rfl ?_ | refine ean7 rfl (by assumption) (by assumption) rfl ?_)
        try dsimp only [set1, set2, kilP, List.set_cons_zero, List.set_cons_succ, List.getElem?_cons_zero, List.getElem?_cons_succ, List.nil_append, List.cons_append, Option.toList_some, Option.toList_none]
        rw [hv j hj16, nI_1, ← e1]
        refine ih (i + 1) (by omega) (by omega) (fun q q1 q2 => ?_) (fun q q1 => ?_)
        · by_cases e : q = i
          · rw [e]; exact c1
          · exact hq q q1 (by omega)
        · by_cases e : q = i
          · rw [e]; exact c
          · exact hq2 q (by omega)
theorem y_candle {x : Int32} (hY : YR M b σ) (hI : Inv σ C) : EvM ad 2 (iX13_candle ad) [.ref b, .int x] M (Pq b M (spCandle σ x)) := by
  have hn7 := hI.n7
  unfold spCandle
  refine ⟨Nat.le_of_ble_eq_true rfl, ?_⟩
  show Ev ad _ (rX13_candle ad) (0, [some (.ref b), some (.int x), none, none], [], M) _
  refine yEn rfl rfl rfl hY (fun M1 hY hF _ => ?_)
  obtain ⟨⟨oa, ⟨tw, rd⟩, oq⟩, A, hR⟩ := id hY
  have h0 := hR.1.1
  have h2 := hR.1.c.2.1
  repeat (first | refine es rfl rfl rfl ?_ | refine eg rfl (by assumption) rfl ?_ | refine ean rfl (by assumption) (by assumption) rfl ?_ | refine eal rfl (by assumption) (by assumption) rfl ?_ | refine eri rfl ?_ | refine erv rfl ?_ | refine erl rfl ?_ | refine era rfl ?_ | refine erz0 rfl ?_ | refine erz1 rfl ?_ | refine ean0 rfl (by assumption) (by assumption) rfl ?_ | refine ean8 rfl (by assumption) (by assumption) rfl ?_ | refine ean12 rfl (by assumption) (by assumption) rfl ?_ | refine ean7 rfl (by assumption) (by assumption) rfl ?_)
  try dsimp only [set1, set2, kilP, List.set_cons_zero, List.set_cons_succ, List.getElem?_cons_zero, List.getElem?_cons_succ, List.nil_append, List.cons_append, Option.toList_some, Option.toList_none]
  refine ecr rfl rfl (by assumption) rfl rfl rfl (y_isH hY) (by first | rfl | exact Nat.blt_eq.mpr (by omega)) rfl ?_
  by_cases c : isH σ x
  rotate_left
  · rw [if_neg c, show bI (isH σ x) = 0 from if_neg c]
    repeat (first | refine es rfl rfl rfl ?_ | refine eg rfl (by assumption) rfl ?_ | refine ean rfl (by assumption) (by assumption) rfl ?_ | refine eal rfl (by assumption) (by assumption) rfl ?_ | refine eri rfl ?_ | refine erv rfl ?_ | refine erl rfl ?_ | refine era rfl ?_ | refine erz0 rfl ?_ | refine erz1 rfl ?_ | refine ean0 rfl (by assumption) (by assumption) rfl ?_ | refine ean8 rfl (by assumption) (by assumption) rfl ?_ | refine ean12 rfl (by assumption) (by assumption) rfl ?_ | refine ean7 rfl (by assumption) (by assumption) rfl ?_)
    try dsimp only [set1, set2, kilP, List.set_cons_zero, List.set_cons_succ, List.getElem?_cons_zero, List.getElem?_cons_succ, List.nil_append, List.cons_append, Option.toList_some, Option.toList_none]
    refine ecv rfl rfl (by assumption) rfl rfl rfl (y_ref hY (by decide)) (by first | rfl | exact Nat.blt_eq.mpr (by omega)) ?_
    rintro v M9 ⟨rfl, hY9, hF9⟩
    try dsimp only [set1, set2, kilP, List.set_cons_zero, List.set_cons_succ, List.getElem?_cons_zero, List.getElem?_cons_succ, List.nil_append, List.cons_append, Option.toList_some, Option.toList_none]
    repeat (first | refine es rfl rfl rfl ?_ | refine eg rfl (by assumption) rfl ?_ | refine ean rfl (by assumption) (by assumption) rfl ?_ | refine eal rfl (by assumption) (by assumption) rfl ?_ | refine eri rfl ?_ | refine erv rfl ?_ | refine erl rfl ?_ | refine era rfl ?_ | refine erz0 rfl ?_ | refine erz1 rfl ?_ | refine ean0 rfl (by assumption) (by assumption) rfl ?_ | refine ean8 rfl (by assumption) (by assumption) rfl ?_ | refine ean12 rfl (by assumption) (by assumption) rfl ?_ | refine ean7 rfl (by assumption) (by assumption) rfl ?_)
    try dsimp only [set1, set2, kilP, List.set_cons_zero, List.set_cons_succ, List.getElem?_cons_zero, List.getElem?_cons_succ, List.nil_append, List.cons_append, Option.toList_some, Option.toList_none]
    exact Pq.rf hY9 (hF.tr (hF9.wide (lo2 := b) (n2 := 16) (by omega) (by omega)) (by omega) (by omega))
  rw [if_pos c, show bI (isH σ x) = 1 from if_pos c]
  obtain ⟨k, hk, rfl⟩ := isH_k hn7 c
  have hk7 : k < 7 := by omega
  have hk16 : k < 16 := by omega
  obtain ⟨n1, a, t0, a1, a2, hM, hv, hpa, hmk, hfa⟩ := hR.2.2.2.2.2.2.2.2.2.resolve_left (fun q => by have := q.1; omega)
  replace t0 : tw = .ref a := t0
  subst t0
  obtain ⟨kn, Am, Bm, m0, mc, mH, mS, mP, mC, mN⟩ := id hM
  obtain ⟨m1, m2, m3, m4, m5, m6, m7, m8, m9, m10, m11, m12, m13, m14, m15, m16, m17⟩ := id mc
  rw [nI_clamp (by omega)]
  repeat (refine ng 30 rfl ?_; first | refine es rfl rfl rfl ?_ | refine eg rfl (by assumption) rfl ?_ | refine ean rfl (by assumption) (by assumption) rfl ?_ | refine eal rfl (by assumption) (by assumption) rfl ?_ | refine eri rfl ?_ | refine erv rfl ?_ | refine erl rfl ?_ | refine era rfl ?_ | refine erz0 rfl ?_ | refine erz1 rfl ?_ | refine ean0 rfl (by assumption) (by assumption) rfl ?_ | refine ean8 rfl (by assumption) (by assumption) rfl ?_ | refine ean12 rfl (by assumption) (by assumption) rfl ?_ | refine ean7 rfl (by assumption) (by assumption) rfl ?_)
  try dsimp only [set1, set2, kilP, List.set_cons_zero, List.set_cons_succ, List.getElem?_cons_zero, List.getElem?_cons_succ, List.nil_append, List.cons_append, Option.toList_some, Option.toList_none]
  rw [hv k hk16, show σ.f k = behF σ.f 1 (nI k) by rw [behF_s 0 (nI k) (by rw [behF]; exact nI_n2 (by omega)), behF, nI_clamp (by omega)]]
  refine y_cnd_loop hY ⟨hR.1, a1, hM, hv⟩ hI hF hk7 7 1 rfl (Nat.le_refl _) (fun j j1 j2 => absurd j2 (by omega)) (fun j j1 => ?_)
  rw [show j = 0 by omega, behF]
  exact nI_n2 (by omega)
theorem fb_ct0_le {p : Nat → Bool} : ∀ n m, (∀ j, n ≤ j → j < n + m → p j = false) → fb_ct0 p (n + m) = fb_ct0 p n
  | n, 0, _ => rfl
  | n, m + 1, h => by
    rw [show n + (m + 1) = (n + m) + 1 by omega, fb_ct0, h (n + m) (by omega) (by omega)]
    simp only [Bool.false_eq_true, if_false, Nat.add_zero]
    exact fb_ct0_le n m (fun j a b => h j a (by omega))
theorem y_known_loop {a : Nat} {oa : Int32 × Int32 × Int32} {rd : Value} {oq : Yr × Yq} {A : Ar} (hW : yW M b a σ oa rd oq A) (hn : σ.T.hs.n ≤ 7) : ∀ (n h k : Nat), h + n = σ.T.hs.n → Ev ad 0 (rX13_known ad) (4, [some (.ref b), some (.int (nI k)), some (.int (nI h))], [], M) (fun v' M' => v' = some (.int (nI (k + fb_ct0 (fun j => !(σ.f (h + j) == -2)) n))) ∧ M' = M) := by
  obtain ⟨hy, ha, ⟨kn, Am, Bm, m0, -⟩, hv⟩ := hW
  have h0 := hy.1
  have h2 := hy.c.2.1
  intro n
  induction n with
  | zero =>
    intro h k hn
    repeat (first | refine es rfl rfl rfl ?_ | refine eg rfl (by assumption) rfl ?_ | refine ean rfl (by assumption) (by assumption) rfl ?_ | refine eal rfl (by assumption) (by assumption) rfl ?_ | refine eri rfl ?_ | refine erv rfl ?_ | refine erl rfl ?_ | refine era rfl ?_ | refine erz0 rfl ?_ | refine erz1 rfl ?_ | refine ean0 rfl (by assumption) (by assumption) rfl ?_ | refine ean8 rfl (by assumption) (by assumption) rfl ?_ | refine ean12 rfl (by assumption) (by assumption) rfl ?_ | refine ean7 rfl (by assumption) (by assumption) rfl ?_)
    try dsimp only [set1, set2, kilP, List.set_cons_zero, List.set_cons_succ, List.getElem?_cons_zero, List.getElem?_cons_succ, List.nil_append, List.cons_append, Option.toList_some, Option.toList_none]
    refine ei _ rfl rfl (fun c => ?_) (fun c => ?_)
    · repeat (first | refine es rfl rfl rfl ?_ | refine eg rfl (by assumption) rfl ?_ | refine ean rfl (by assumption) (by assumption) rfl ?_ | refine eal rfl (by assumption) (by assumption) rfl ?_ | refine eri rfl ?_ | refine erv rfl ?_ | refine erl rfl ?_ | refine era rfl ?_ | refine erz0 rfl ?_ | refine erz1 rfl ?_ | refine ean0 rfl (by assumption) (by assumption) rfl ?_ | refine ean8 rfl (by assumption) (by assumption) rfl ?_ | refine ean12 rfl (by assumption) (by assumption) rfl ?_ | refine ean7 rfl (by assumption) (by assumption) rfl ?_)
      try dsimp only [set1, set2, kilP, List.set_cons_zero, List.set_cons_succ, List.getElem?_cons_zero, List.getElem?_cons_succ, List.nil_append, List.cons_append, Option.toList_some, Option.toList_none]
      exact ⟨rfl, rfl⟩
    · exact absurd (nI_le (by omega) (by omega)) c
  | succ n ih =>
    intro h k hn
    have hk : h < 16 := by omega
    repeat (first | refine es rfl rfl rfl ?_ | refine eg rfl (by assumption) rfl ?_ | refine ean rfl (by assumption) (by assumption) rfl ?_ | refine eal rfl (by assumption) (by assumption) rfl ?_ | refine eri rfl ?_ | refine erv rfl ?_ | refine erl rfl ?_ | refine era rfl ?_ | refine erz0 rfl ?_ | refine erz1 rfl ?_ | refine ean0 rfl (by assumption) (by assumption) rfl ?_ | refine ean8 rfl (by assumption) (by assumption) rfl ?_ | refine ean12 rfl (by assumption) (by assumption) rfl ?_ | refine ean7 rfl (by assumption) (by assumption) rfl ?_)
    try dsimp only [set1, set2, kilP, List.set_cons_zero, List.set_cons_succ, List.getElem?_cons_zero, List.getElem?_cons_succ, List.nil_append, List.cons_append, Option.toList_some, Option.toList_none]
    refine ei _ rfl rfl (fun c => ?_) (fun c => ?_)
    · exact absurd c (nI_ge (by omega) (by omega))
    · repeat (first | refine es rfl rfl rfl ?_ | refine eg rfl (by assumption) rfl ?_ | refine ean rfl (by assumption) (by assumption) rfl ?_ | refine eal rfl (by assumption) (by assumption) rfl ?_ | refine eri rfl ?_ | refine erv rfl ?_ | refine erl rfl ?_ | refine era rfl ?_ | refine erz0 rfl ?_ | refine erz1 rfl ?_ | refine ean0 rfl (by assumption) (by assumption) rfl ?_ | refine ean8 rfl (by assumption) (by assumption) rfl ?_ | refine ean12 rfl (by assumption) (by assumption) rfl ?_ | refine ean7 rfl (by assumption) (by assumption) rfl ?_)
      try dsimp only [set1, set2, kilP, List.set_cons_zero, List.set_cons_succ, List.getElem?_cons_zero, List.getElem?_cons_succ, List.nil_append, List.cons_append, Option.toList_some, Option.toList_none]
      rw [hv h hk]
      refine ei _ rfl rfl (fun e => ?_) (fun e => ?_)
      · repeat (refine ng 4 rfl ?_; first | refine es rfl rfl rfl ?_ | refine eg rfl (by assumption) rfl ?_ | refine ean rfl (by assumption) (by assumption) rfl ?_ | refine eal rfl (by assumption) (by assumption) rfl ?_ | refine eri rfl ?_ | refine erv rfl ?_ | refine erl rfl ?_ | refine era rfl ?_ | refine erz0 rfl ?_ | refine erz1 rfl ?_ | refine ean0 rfl (by assumption) (by assumption) rfl ?_ | refine ean8 rfl (by assumption) (by assumption) rfl ?_ | refine ean12 rfl (by assumption) (by assumption) rfl ?_ | refine ean7 rfl (by assumption) (by assumption) rfl ?_)
        try dsimp only [set1, set2, kilP, List.set_cons_zero, List.set_cons_succ, List.getElem?_cons_zero, List.getElem?_cons_succ, List.nil_append, List.cons_append, Option.toList_some, Option.toList_none]
        rw [nI_1, nI_1]
        refine (ih (h + 1) (k + 1) (by omega)).im (fun v M1 q => ⟨q.1.trans ?_, q.2⟩)
        rw [fb_ct0_front]
        simp [e, Nat.add_assoc, Nat.add_comm 1]
      · repeat (refine ng 4 rfl ?_; first | refine es rfl rfl rfl ?_ | refine eg rfl (by assumption) rfl ?_ | refine ean rfl (by assumption) (by assumption) rfl ?_ | refine eal rfl (by assumption) (by assumption) rfl ?_ | refine eri rfl ?_ | refine erv rfl ?_ | refine erl rfl ?_ | refine era rfl ?_ | refine erz0 rfl ?_ | refine erz1 rfl ?_ | refine ean0 rfl (by assumption) (by assumption) rfl ?_ | refine ean8 rfl (by assumption) (by assumption) rfl ?_ | refine ean12 rfl (by assumption) (by assumption) rfl ?_ | refine ean7 rfl (by assumption) (by assumption) rfl ?_)
        try dsimp only [set1, set2, kilP, List.set_cons_zero, List.set_cons_succ, List.getElem?_cons_zero, List.getElem?_cons_succ, List.nil_append, List.cons_append, Option.toList_some, Option.toList_none]
        rw [nI_1, show nI k + 0 = nI k from Int32.add_zero _]
        refine (ih (h + 1) k (by omega)).im (fun v M1 q => ⟨q.1.trans ?_, q.2⟩)
        rw [fb_ct0_front]
        simp [Decidable.not_not.mp e, Nat.add_assoc, Nat.add_comm 1]
theorem y_known {a : Nat} {oa : Int32 × Int32 × Int32} {rd : Value} {oq : Yr × Yq} {A : Ar} (hW : yW M b a σ oa rd oq A) (hI : Inv σ C) (hn : 0 < σ.T.hs.n) : Rd ad 0 (iX13_known ad) [.ref b] M (some (.int (nI (fb_ct0 (fun j => !(σ.f j == -2)) 7)))) := by
  have hn7 := hI.n7
  have e : fb_ct0 (fun j => !(σ.f j == -2)) 7 = fb_ct0 (fun j => !(σ.f j == -2)) σ.T.hs.n := by
    have := fb_ct0_le (p := fun j => !(σ.f j == -2)) σ.T.hs.n (7 - σ.T.hs.n) (fun j a b => by
      rcases (hI.rowI hn).1 j (by omega) with q | ⟨q, _⟩
      · simp [q]
      · omega)
    rw [show σ.T.hs.n + (7 - σ.T.hs.n) = 7 by omega] at this
    exact this
  rw [e]
  refine ⟨Nat.le_of_ble_eq_true rfl, ?_⟩
  show Ev ad _ (rX13_known ad) (0, [some (.ref b), none, none], [], M) _
  repeat (refine ng 4 rfl ?_; first | refine es rfl rfl rfl ?_ | refine eg rfl (by assumption) rfl ?_ | refine ean rfl (by assumption) (by assumption) rfl ?_ | refine eal rfl (by assumption) (by assumption) rfl ?_ | refine eri rfl ?_ | refine erv rfl ?_ | refine erl rfl ?_ | refine era rfl ?_ | refine erz0 rfl ?_ | refine erz1 rfl ?_ | refine ean0 rfl (by assumption) (by assumption) rfl ?_ | refine ean8 rfl (by assumption) (by assumption) rfl ?_ | refine ean12 rfl (by assumption) (by assumption) rfl ?_ | refine ean7 rfl (by assumption) (by assumption) rfl ?_)
  try dsimp only [set1, set2, kilP, List.set_cons_zero, List.set_cons_succ, List.getElem?_cons_zero, List.getElem?_cons_succ, List.nil_append, List.cons_append, Option.toList_some, Option.toList_none]
  refine (y_known_loop hW hn7 σ.T.hs.n 0 0 (by omega)).im (fun v M1 q => ⟨q.1.trans ?_, q.2⟩)
  simp
theorem y_size {x : Int32} (hY : YR M b σ) (hI : Inv σ C) : EvM ad 2 (iX13_size ad) [.ref b, .int x] M (Pq b M (spSize σ x)) := by
  have hn7 := hI.n7
  have h7 : 7 < 16 := by omega
  unfold spSize
  refine ⟨Nat.le_of_ble_eq_true rfl, ?_⟩
  show Ev ad _ (rX13_size ad) (0, [some (.ref b), some (.int x)], [], M) _
  refine yEn rfl rfl rfl hY (fun M1 hY hF _ => ?_)
  obtain ⟨⟨oa, ⟨tw, rd⟩, oq⟩, A, hR⟩ := id hY
  have h0 := hR.1.1
  have h2 := hR.1.c.2.1
  repeat (first | refine es rfl rfl rfl ?_ | refine eg rfl (by assumption) rfl ?_ | refine ean rfl (by assumption) (by assumption) rfl ?_ | refine eal rfl (by assumption) (by assumption) rfl ?_ | refine eri rfl ?_ | refine erv rfl ?_ | refine erl rfl ?_ | refine era rfl ?_ | refine erz0 rfl ?_ | refine erz1 rfl ?_ | refine ean0 rfl (by assumption) (by assumption) rfl ?_ | refine ean8 rfl (by assumption) (by assumption) rfl ?_ | refine ean12 rfl (by assumption) (by assumption) rfl ?_ | refine ean7 rfl (by assumption) (by assumption) rfl ?_)
  try dsimp only [set1, set2, kilP, List.set_cons_zero, List.set_cons_succ, List.getElem?_cons_zero, List.getElem?_cons_succ, List.nil_append, List.cons_append, Option.toList_some, Option.toList_none]
  refine ei _ rfl rfl (fun c => ?_) (fun c => ?_)
  rotate_left
  · have c := Decidable.not_not.mp c
    subst c
    repeat (first | refine es rfl rfl rfl ?_ | refine eg rfl (by assumption) rfl ?_ | refine ean rfl (by assumption) (by assumption) rfl ?_ | refine eal rfl (by assumption) (by assumption) rfl ?_ | refine eri rfl ?_ | refine erv rfl ?_ | refine erl rfl ?_ | refine era rfl ?_ | refine erz0 rfl ?_ | refine erz1 rfl ?_ | refine ean0 rfl (by assumption) (by assumption) rfl ?_ | refine ean8 rfl (by assumption) (by assumption) rfl ?_ | refine ean12 rfl (by assumption) (by assumption) rfl ?_ | refine ean7 rfl (by assumption) (by assumption) rfl ?_)
    try dsimp only [set1, set2, kilP, List.set_cons_zero, List.set_cons_succ, List.getElem?_cons_zero, List.getElem?_cons_succ, List.nil_append, List.cons_append, Option.toList_some, Option.toList_none]
    rw [show oq.1.ta = nI σ.ts from hR.2.2.2.2.2.1]
    exact Pq.sm hY hF
  repeat (first | refine es rfl rfl rfl ?_ | refine eg rfl (by assumption) rfl ?_ | refine ean rfl (by assumption) (by assumption) rfl ?_ | refine eal rfl (by assumption) (by assumption) rfl ?_ | refine eri rfl ?_ | refine erv rfl ?_ | refine erl rfl ?_ | refine era rfl ?_ | refine erz0 rfl ?_ | refine erz1 rfl ?_ | refine ean0 rfl (by assumption) (by assumption) rfl ?_ | refine ean8 rfl (by assumption) (by assumption) rfl ?_ | refine ean12 rfl (by assumption) (by assumption) rfl ?_ | refine ean7 rfl (by assumption) (by assumption) rfl ?_)
  try dsimp only [set1, set2, kilP, List.set_cons_zero, List.set_cons_succ, List.getElem?_cons_zero, List.getElem?_cons_succ, List.nil_append, List.cons_append, Option.toList_some, Option.toList_none]
  refine ecsr rfl rfl rfl rfl rfl rfl (y_in) (by first | rfl | exact Nat.blt_eq.mpr (by omega)) rfl ?_
  have e5 : ((0 : Int32) ≤ x ∧ x ≤ 11) ↔ (0 ≤ x ∧ x < 12) := in5 (N := 11) (by omega)
  have e6 : (0 ≤ x ∧ x < 13) ↔ (0 ≤ x ∧ x < 12) := by
    constructor
    · rintro ⟨p1, p2⟩
      obtain ⟨j, hj, rfl⟩ := nI_0k (n := 13) (by omega) ⟨p1, p2⟩
      have : j ≠ 12 := fun q => c (by rw [q]; rfl)
      exact ⟨p1, nI_lt (b := 12) (by omega) (by omega)⟩
    · rintro ⟨p1, p2⟩
      obtain ⟨j, hj, rfl⟩ := nI_0k (n := 12) (by omega) ⟨p1, p2⟩
      exact ⟨p1, nI_lt (b := 13) (by omega) (by omega)⟩
  by_cases c2 : (0 : Int32) ≤ x ∧ x ≤ 11
  rotate_left
  · rw [if_neg (fun q => c2 (e5.mpr (e6.mp q))), show bI ((0 : Int32) ≤ x ∧ x ≤ 11) = 0 from if_neg c2]
    repeat (first | refine es rfl rfl rfl ?_ | refine eg rfl (by assumption) rfl ?_ | refine ean rfl (by assumption) (by assumption) rfl ?_ | refine eal rfl (by assumption) (by assumption) rfl ?_ | refine eri rfl ?_ | refine erv rfl ?_ | refine erl rfl ?_ | refine era rfl ?_ | refine erz0 rfl ?_ | refine erz1 rfl ?_ | refine ean0 rfl (by assumption) (by assumption) rfl ?_ | refine ean8 rfl (by assumption) (by assumption) rfl ?_ | refine ean12 rfl (by assumption) (by assumption) rfl ?_ | refine ean7 rfl (by assumption) (by assumption) rfl ?_)
    try dsimp only [set1, set2, kilP, List.set_cons_zero, List.set_cons_succ, List.getElem?_cons_zero, List.getElem?_cons_succ, List.nil_append, List.cons_append, Option.toList_some, Option.toList_none]
    exact Pq.sm hY hF
  rw [if_pos (e6.mpr (e5.mp c2)), show bI ((0 : Int32) ≤ x ∧ x ≤ 11) = 1 from if_pos c2]
  obtain ⟨j, hj, rfl⟩ := nI_0k (n := 12) (by omega) (e5.mp c2)
  rw [nI_clamp (by omega)]
  by_cases hno : σ.T.hs.n = 0
  · obtain ⟨_, t0⟩ := hR.2.2.2.2.2.2.2.2.2.resolve_right (fun q => by have := q.1; omega)
    replace t0 : tw = .null := t0
    subst t0
    repeat (first | refine es rfl rfl rfl ?_ | refine eg rfl (by assumption) rfl ?_ | refine ean rfl (by assumption) (by assumption) rfl ?_ | refine eal rfl (by assumption) (by assumption) rfl ?_ | refine eri rfl ?_ | refine erv rfl ?_ | refine erl rfl ?_ | refine era rfl ?_ | refine erz0 rfl ?_ | refine erz1 rfl ?_ | refine ean0 rfl (by assumption) (by assumption) rfl ?_ | refine ean8 rfl (by assumption) (by assumption) rfl ?_ | refine ean12 rfl (by assumption) (by assumption) rfl ?_ | refine ean7 rfl (by assumption) (by assumption) rfl ?_)
    try dsimp only [set1, set2, kilP, List.set_cons_zero, List.set_cons_succ, List.getElem?_cons_zero, List.getElem?_cons_succ, List.nil_append, List.cons_append, Option.toList_some, Option.toList_none]
    obtain ⟨⟨z1, z2, z3, z4, z5, z6⟩, z7, z8, z9, z10⟩ := hI.2.1 hno
    have e0 : siz σ j = 0 := by
      match j, hj with
      | 0, _ => show nI σ.T.dr = 0; rw [z1]; rfl
      | 1, _ => show nI σ.T.lk = 0; rw [z2]; rfl
      | 2, _ => show nI σ.T.hs.n = 0; rw [hno]; rfl
      | 3, _ =>
        show nI (fb_ct0 (fun j => !(σ.f j == -2)) 7) = 0
        have := fb_ct0_le (p := fun j => !(σ.f j == -2)) 0 7 (fun j a b => by simp [z7 j (by omega)])
        rw [show 0 + 7 = 7 from rfl] at this
        rw [this]; rfl
      | 4, _ => show nI (fb_ct0 (fun j => !(σ.T.hs.fr j == -2)) σ.T.hs.n) = 0; rw [hno]; rfl
      | 5, _ => show nI σ.T.ss.n = 0; rw [z4]; rfl
      | 6, _ => show nI σ.T.np = 0; rw [z3]; rfl
      | 7, _ => show nI σ.T.cs.sg = 0; rw [z5]; rfl
      | 8, _ => show nI σ.T.cs.nz = 0; rw [z6]; rfl
      | 9, _ => show nI (popc (σ.f 7).toNatClampNeg) = 0; rw [z8]; decide
      | 10, _ => show nI σ.ac.length = 0; rw [z9]; rfl
      | 11, _ => show nI σ.mk.length = 0; rw [z10]; rfl
      | n + 12, h => exact absurd h (by omega)
    rw [e0]
    exact Pq.sm hY hF
  obtain ⟨n1, a, t0, a1, a2, hM, hv, hpa, hmk, hfa⟩ := hR.2.2.2.2.2.2.2.2.2.resolve_left (fun q => by have := q.1; omega)
  replace t0 : tw = .ref a := t0
  subst t0
  obtain ⟨kn, Am, Bm, m0, mc, mH, mS, mP, mC, mN⟩ := id hM
  obtain ⟨m1, m2, m3, m4, m5, m6, m7, m8, m9, m10, m11, m12, m13, m14, m15, m16, m17⟩ := id mc
  have hW : yW M1 b a σ oa rd oq A := ⟨hR.1, a1, hM, hv⟩
  match j, hj with
  | 0, _ =>
    repeat (first | refine es rfl rfl rfl ?_ | refine eg rfl (by assumption) rfl ?_ | refine ean rfl (by assumption) (by assumption) rfl ?_ | refine eal rfl (by assumption) (by assumption) rfl ?_ | refine eri rfl ?_ | refine erv rfl ?_ | refine erl rfl ?_ | refine era rfl ?_ | refine erz0 rfl ?_ | refine erz1 rfl ?_ | refine ean0 rfl (by assumption) (by assumption) rfl ?_ | refine ean8 rfl (by assumption) (by assumption) rfl ?_ | refine ean12 rfl (by assumption) (by assumption) rfl ?_ | refine ean7 rfl (by assumption) (by assumption) rfl ?_)
    try dsimp only [set1, set2, kilP, List.set_cons_zero, List.set_cons_succ, List.getElem?_cons_zero, List.getElem?_cons_succ, List.nil_append, List.cons_append, Option.toList_some, Option.toList_none]
    exact Pq.sm hY hF
  | 1, _ =>
    repeat (first | refine es rfl rfl rfl ?_ | refine eg rfl (by assumption) rfl ?_ | refine ean rfl (by assumption) (by assumption) rfl ?_ | refine eal rfl (by assumption) (by assumption) rfl ?_ | refine eri rfl ?_ | refine erv rfl ?_ | refine erl rfl ?_ | refine era rfl ?_ | refine erz0 rfl ?_ | refine erz1 rfl ?_ | refine ean0 rfl (by assumption) (by assumption) rfl ?_ | refine ean8 rfl (by assumption) (by assumption) rfl ?_ | refine ean12 rfl (by assumption) (by assumption) rfl ?_ | refine ean7 rfl (by assumption) (by assumption) rfl ?_)
    try dsimp only [set1, set2, kilP, List.set_cons_zero, List.set_cons_succ, List.getElem?_cons_zero, List.getElem?_cons_succ, List.nil_append, List.cons_append, Option.toList_some, Option.toList_none]
    exact Pq.sm hY hF
  | 2, _ =>
    repeat (first | refine es rfl rfl rfl ?_ | refine eg rfl (by assumption) rfl ?_ | refine ean rfl (by assumption) (by assumption) rfl ?_ | refine eal rfl (by assumption) (by assumption) rfl ?_ | refine eri rfl ?_ | refine erv rfl ?_ | refine erl rfl ?_ | refine era rfl ?_ | refine erz0 rfl ?_ | refine erz1 rfl ?_ | refine ean0 rfl (by assumption) (by assumption) rfl ?_ | refine ean8 rfl (by assumption) (by assumption) rfl ?_ | refine ean12 rfl (by assumption) (by assumption) rfl ?_ | refine ean7 rfl (by assumption) (by assumption) rfl ?_)
    try dsimp only [set1, set2, kilP, List.set_cons_zero, List.set_cons_succ, List.getElem?_cons_zero, List.getElem?_cons_succ, List.nil_append, List.cons_append, Option.toList_some, Option.toList_none]
    exact Pq.sm hY hF
  | 3, _ =>
    repeat (first | refine es rfl rfl rfl ?_ | refine eg rfl (by assumption) rfl ?_ | refine ean rfl (by assumption) (by assumption) rfl ?_ | refine eal rfl (by assumption) (by assumption) rfl ?_ | refine eri rfl ?_ | refine erv rfl ?_ | refine erl rfl ?_ | refine era rfl ?_ | refine erz0 rfl ?_ | refine erz1 rfl ?_ | refine ean0 rfl (by assumption) (by assumption) rfl ?_ | refine ean8 rfl (by assumption) (by assumption) rfl ?_ | refine ean12 rfl (by assumption) (by assumption) rfl ?_ | refine ean7 rfl (by assumption) (by assumption) rfl ?_)
    try dsimp only [set1, set2, kilP, List.set_cons_zero, List.set_cons_succ, List.getElem?_cons_zero, List.getElem?_cons_succ, List.nil_append, List.cons_append, Option.toList_some, Option.toList_none]
    refine ecr rfl rfl (by assumption) rfl rfl rfl (y_known hW hI n1) (by first | rfl | exact Nat.blt_eq.mpr (by omega)) rfl ?_
    repeat (first | refine es rfl rfl rfl ?_ | refine eg rfl (by assumption) rfl ?_ | refine ean rfl (by assumption) (by assumption) rfl ?_ | refine eal rfl (by assumption) (by assumption) rfl ?_ | refine eri rfl ?_ | refine erv rfl ?_ | refine erl rfl ?_ | refine era rfl ?_ | refine erz0 rfl ?_ | refine erz1 rfl ?_ | refine ean0 rfl (by assumption) (by assumption) rfl ?_ | refine ean8 rfl (by assumption) (by assumption) rfl ?_ | refine ean12 rfl (by assumption) (by assumption) rfl ?_ | refine ean7 rfl (by assumption) (by assumption) rfl ?_)
    try dsimp only [set1, set2, kilP, List.set_cons_zero, List.set_cons_succ, List.getElem?_cons_zero, List.getElem?_cons_succ, List.nil_append, List.cons_append, Option.toList_some, Option.toList_none]
    exact Pq.sm hY hF
  | 4, _ =>
    repeat (first | refine es rfl rfl rfl ?_ | refine eg rfl (by assumption) rfl ?_ | refine ean rfl (by assumption) (by assumption) rfl ?_ | refine eal rfl (by assumption) (by assumption) rfl ?_ | refine eri rfl ?_ | refine erv rfl ?_ | refine erl rfl ?_ | refine era rfl ?_ | refine erz0 rfl ?_ | refine erz1 rfl ?_ | refine ean0 rfl (by assumption) (by assumption) rfl ?_ | refine ean8 rfl (by assumption) (by assumption) rfl ?_ | refine ean12 rfl (by assumption) (by assumption) rfl ?_ | refine ean7 rfl (by assumption) (by assumption) rfl ?_)
    try dsimp only [set1, set2, kilP, List.set_cons_zero, List.set_cons_succ, List.getElem?_cons_zero, List.getElem?_cons_succ, List.nil_append, List.cons_append, Option.toList_some, Option.toList_none]
    exact Pq.sm hY hF
  | 5, _ =>
    repeat (first | refine es rfl rfl rfl ?_ | refine eg rfl (by assumption) rfl ?_ | refine ean rfl (by assumption) (by assumption) rfl ?_ | refine eal rfl (by assumption) (by assumption) rfl ?_ | refine eri rfl ?_ | refine erv rfl ?_ | refine erl rfl ?_ | refine era rfl ?_ | refine erz0 rfl ?_ | refine erz1 rfl ?_ | refine ean0 rfl (by assumption) (by assumption) rfl ?_ | refine ean8 rfl (by assumption) (by assumption) rfl ?_ | refine ean12 rfl (by assumption) (by assumption) rfl ?_ | refine ean7 rfl (by assumption) (by assumption) rfl ?_)
    try dsimp only [set1, set2, kilP, List.set_cons_zero, List.set_cons_succ, List.getElem?_cons_zero, List.getElem?_cons_succ, List.nil_append, List.cons_append, Option.toList_some, Option.toList_none]
    exact Pq.sm hY hF
  | 6, _ =>
    repeat (first | refine es rfl rfl rfl ?_ | refine eg rfl (by assumption) rfl ?_ | refine ean rfl (by assumption) (by assumption) rfl ?_ | refine eal rfl (by assumption) (by assumption) rfl ?_ | refine eri rfl ?_ | refine erv rfl ?_ | refine erl rfl ?_ | refine era rfl ?_ | refine erz0 rfl ?_ | refine erz1 rfl ?_ | refine ean0 rfl (by assumption) (by assumption) rfl ?_ | refine ean8 rfl (by assumption) (by assumption) rfl ?_ | refine ean12 rfl (by assumption) (by assumption) rfl ?_ | refine ean7 rfl (by assumption) (by assumption) rfl ?_)
    try dsimp only [set1, set2, kilP, List.set_cons_zero, List.set_cons_succ, List.getElem?_cons_zero, List.getElem?_cons_succ, List.nil_append, List.cons_append, Option.toList_some, Option.toList_none]
    exact Pq.sm hY hF
  | 7, _ =>
    repeat (first | refine es rfl rfl rfl ?_ | refine eg rfl (by assumption) rfl ?_ | refine ean rfl (by assumption) (by assumption) rfl ?_ | refine eal rfl (by assumption) (by assumption) rfl ?_ | refine eri rfl ?_ | refine erv rfl ?_ | refine erl rfl ?_ | refine era rfl ?_ | refine erz0 rfl ?_ | refine erz1 rfl ?_ | refine ean0 rfl (by assumption) (by assumption) rfl ?_ | refine ean8 rfl (by assumption) (by assumption) rfl ?_ | refine ean12 rfl (by assumption) (by assumption) rfl ?_ | refine ean7 rfl (by assumption) (by assumption) rfl ?_)
    try dsimp only [set1, set2, kilP, List.set_cons_zero, List.set_cons_succ, List.getElem?_cons_zero, List.getElem?_cons_succ, List.nil_append, List.cons_append, Option.toList_some, Option.toList_none]
    exact Pq.sm hY hF
  | 8, _ =>
    repeat (first | refine es rfl rfl rfl ?_ | refine eg rfl (by assumption) rfl ?_ | refine ean rfl (by assumption) (by assumption) rfl ?_ | refine eal rfl (by assumption) (by assumption) rfl ?_ | refine eri rfl ?_ | refine erv rfl ?_ | refine erl rfl ?_ | refine era rfl ?_ | refine erz0 rfl ?_ | refine erz1 rfl ?_ | refine ean0 rfl (by assumption) (by assumption) rfl ?_ | refine ean8 rfl (by assumption) (by assumption) rfl ?_ | refine ean12 rfl (by assumption) (by assumption) rfl ?_ | refine ean7 rfl (by assumption) (by assumption) rfl ?_)
    try dsimp only [set1, set2, kilP, List.set_cons_zero, List.set_cons_succ, List.getElem?_cons_zero, List.getElem?_cons_succ, List.nil_append, List.cons_append, Option.toList_some, Option.toList_none]
    exact Pq.sm hY hF
  | 9, _ =>
    repeat (first | refine es rfl rfl rfl ?_ | refine eg rfl (by assumption) rfl ?_ | refine ean rfl (by assumption) (by assumption) rfl ?_ | refine eal rfl (by assumption) (by assumption) rfl ?_ | refine eri rfl ?_ | refine erv rfl ?_ | refine erl rfl ?_ | refine era rfl ?_ | refine erz0 rfl ?_ | refine erz1 rfl ?_ | refine ean0 rfl (by assumption) (by assumption) rfl ?_ | refine ean8 rfl (by assumption) (by assumption) rfl ?_ | refine ean12 rfl (by assumption) (by assumption) rfl ?_ | refine ean7 rfl (by assumption) (by assumption) rfl ?_)
    try dsimp only [set1, set2, kilP, List.set_cons_zero, List.set_cons_succ, List.getElem?_cons_zero, List.getElem?_cons_succ, List.nil_append, List.cons_append, Option.toList_some, Option.toList_none]
    obtain ⟨s, hs, es'⟩ := hI.sh
    rw [hv 7 h7, es']
    refine ecsr rfl rfl rfl rfl rfl rfl (y_bits hs) (by first | rfl | exact Nat.blt_eq.mpr (by omega)) rfl ?_
    repeat (first | refine es rfl rfl rfl ?_ | refine eg rfl (by assumption) rfl ?_ | refine ean rfl (by assumption) (by assumption) rfl ?_ | refine eal rfl (by assumption) (by assumption) rfl ?_ | refine eri rfl ?_ | refine erv rfl ?_ | refine erl rfl ?_ | refine era rfl ?_ | refine erz0 rfl ?_ | refine erz1 rfl ?_ | refine ean0 rfl (by assumption) (by assumption) rfl ?_ | refine ean8 rfl (by assumption) (by assumption) rfl ?_ | refine ean12 rfl (by assumption) (by assumption) rfl ?_ | refine ean7 rfl (by assumption) (by assumption) rfl ?_)
    try dsimp only [set1, set2, kilP, List.set_cons_zero, List.set_cons_succ, List.getElem?_cons_zero, List.getElem?_cons_succ, List.nil_append, List.cons_append, Option.toList_some, Option.toList_none]
    rw [show siz σ 9 = nI (popc s) by show nI (popc (σ.f 7).toNatClampNeg) = _; rw [es', nI_clamp (by omega)]]
    exact Pq.sm hY hF
  | 10, _ =>
    repeat (first | refine es rfl rfl rfl ?_ | refine eg rfl (by assumption) rfl ?_ | refine ean rfl (by assumption) (by assumption) rfl ?_ | refine eal rfl (by assumption) (by assumption) rfl ?_ | refine eri rfl ?_ | refine erv rfl ?_ | refine erl rfl ?_ | refine era rfl ?_ | refine erz0 rfl ?_ | refine erz1 rfl ?_ | refine ean0 rfl (by assumption) (by assumption) rfl ?_ | refine ean8 rfl (by assumption) (by assumption) rfl ?_ | refine ean12 rfl (by assumption) (by assumption) rfl ?_ | refine ean7 rfl (by assumption) (by assumption) rfl ?_)
    try dsimp only [set1, set2, kilP, List.set_cons_zero, List.set_cons_succ, List.getElem?_cons_zero, List.getElem?_cons_succ, List.nil_append, List.cons_append, Option.toList_some, Option.toList_none]
    rw [show oq.2.ac = nI σ.ac.length from hR.2.2.2.2.2.2.1]
    exact Pq.sm hY hF
  | 11, _ =>
    repeat (first | refine es rfl rfl rfl ?_ | refine eg rfl (by assumption) rfl ?_ | refine ean rfl (by assumption) (by assumption) rfl ?_ | refine eal rfl (by assumption) (by assumption) rfl ?_ | refine eri rfl ?_ | refine erv rfl ?_ | refine erl rfl ?_ | refine era rfl ?_ | refine erz0 rfl ?_ | refine erz1 rfl ?_ | refine ean0 rfl (by assumption) (by assumption) rfl ?_ | refine ean8 rfl (by assumption) (by assumption) rfl ?_ | refine ean12 rfl (by assumption) (by assumption) rfl ?_ | refine ean7 rfl (by assumption) (by assumption) rfl ?_)
    try dsimp only [set1, set2, kilP, List.set_cons_zero, List.set_cons_succ, List.getElem?_cons_zero, List.getElem?_cons_succ, List.nil_append, List.cons_append, Option.toList_some, Option.toList_none]
    rw [show oq.2.mk = nI σ.mk.length from hR.2.2.2.2.2.2.2.1]
    exact Pq.sm hY hF
  | n + 12, h => exact absurd h (by omega)
end RNOW
