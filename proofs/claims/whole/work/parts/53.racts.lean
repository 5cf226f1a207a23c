/-! The reference: acts -/
theorem sA_sA {A : Ar} {k : Nat} {g h : Nat → Int32} : sA (sA A k g) k h = sA A k h := by
  funext i
  by_cases q : i = k
  · rw [q, sA_s, sA_s]
  · rw [sA_n q, sA_n q, sA_n q]
theorem sA_id {A : Ar} {k : Nat} : sA A k (A k) = A := by
  funext i
  by_cases q : i = k
  · rw [q, sA_s]
  · rw [sA_n q]
theorem aY.ar2 {M M2 : Mm} {b k : Nat} {o : Yo} {A : Ar} {p g : Nat → Int32} (h : aY M b o (sA A k p)) (e : M2 = up M (b + k) (.inl (tyk k, szk k, .inl g))) (h1 : 1 ≤ k) : aY M2 b o (sA A k g) := by
  have := h.ar e h1
  rw [sA_sA] at this
  exact this
section RACTS
variable {ad : Nat → Nat} {M : Mm} {b : Nat} {σ : Sg} {C : Nat}
theorem y_rem1 {o : Yo} {A : Ar} {M0 : Mm} {P : Option Value → Mm → Prop} (k : ∀ M p, aY M b o (sA A 3 p) → Fr b 16 M0 M → (∀ j, j < 240 → p j = A 3 (j + 16)) → ∀ L1, Ev ad 0 (rX13_remembers ad) (39, [some (.ref b), L1], [], M) P) : ∀ (n i : Nat) (M : Mm) (p : Nat → Int32), aY M b o (sA A 3 p) → Fr b 16 M0 M → i + n = 240 → (∀ j, j < i → p j = A 3 (j + 16)) → (∀ j, i ≤ j → p j = A 3 j) → Ev ad 0 (rX13_remembers ad) (11, [some (.ref b), some (.int (nI i))], [], M) P := by
  intro n
  induction n with
  | zero =>
    intro i M p hy hF hi q1 q2
    have h0 := hy.1
    repeat (first | refine es rfl rfl rfl ?_ | refine eg rfl (by assumption) rfl ?_ | refine ean rfl (by assumption) (by assumption) rfl ?_ | refine eal rfl (by assumption) (by assumption) rfl ?_ | refine eri rfl ?_ | refine erv rfl ?_ | refine erl rfl ?_ | refine era rfl ?_ | refine erz0 rfl ?_ | refine erz1 rfl ?_ | refine ean0 rfl (by assumption) (by assumption) rfl ?_ | refine ean8 rfl (by assumption) (by assumption) rfl ?_ | refine ean12 rfl (by assumption) (by assumption) rfl ?_ | refine ean7 rfl (by assumption) (by assumption) rfl ?_)
    try dsimp only [set1, set2, kilP, List.set_cons_zero, List.set_cons_succ, List.getElem?_cons_zero, List.getElem?_cons_succ, List.nil_append, List.cons_append, Option.toList_some, Option.toList_none]
    refine ei _ rfl rfl (fun c => ?_) (fun c => ?_)
    · exact k M p hy hF (fun j hj => q1 j (by omega)) _
    · exact absurd (show (240 : Int32) ≤ nI i from nI_le (a := 240) (by omega) (by omega)) c
  | succ n ih =>
    intro i M p hy hF hi q1 q2
    have h0 := hy.1
    have h3 : M.1 (b + 3) = ints 256 p := hy.c.2.2.1
    have hi1 : i < 256 := by omega
    have hi2 : i + 16 < 256 := by omega
    repeat (first | refine es rfl rfl rfl ?_ | refine eg rfl (by assumption) rfl ?_ | refine ean rfl (by assumption) (by assumption) rfl ?_ | refine eal rfl (by assumption) (by assumption) rfl ?_ | refine eri rfl ?_ | refine erv rfl ?_ | refine erl rfl ?_ | refine era rfl ?_ | refine erz0 rfl ?_ | refine erz1 rfl ?_ | refine ean0 rfl (by assumption) (by assumption) rfl ?_ | refine ean8 rfl (by assumption) (by assumption) rfl ?_ | refine ean12 rfl (by assumption) (by assumption) rfl ?_ | refine ean7 rfl (by assumption) (by assumption) rfl ?_)
    try dsimp only [set1, set2, kilP, List.set_cons_zero, List.set_cons_succ, List.getElem?_cons_zero, List.getElem?_cons_succ, List.nil_append, List.cons_append, Option.toList_some, Option.toList_none]
    refine ei _ rfl rfl (fun c => ?_) (fun c => ?_)
    · exact absurd c (nI_ge (b := 240) (by omega) (by omega))
    · repeat (first | refine es rfl rfl rfl ?_ | refine eg rfl (by assumption) rfl ?_ | refine ean rfl (by assumption) (by assumption) rfl ?_ | refine eal rfl (by assumption) (by assumption) rfl ?_ | refine eri rfl ?_ | refine erv rfl ?_ | refine erl rfl ?_ | refine era rfl ?_ | refine erz0 rfl ?_ | refine erz1 rfl ?_ | refine ean0 rfl (by assumption) (by assumption) rfl ?_ | refine ean8 rfl (by assumption) (by assumption) rfl ?_ | refine ean12 rfl (by assumption) (by assumption) rfl ?_ | refine ean7 rfl (by assumption) (by assumption) rfl ?_)
      try dsimp only [set1, set2, kilP, List.set_cons_zero, List.set_cons_succ, List.getElem?_cons_zero, List.getElem?_cons_succ, List.nil_append, List.cons_append, Option.toList_some, Option.toList_none]
      rw [show nI i + 16 = nI (i + 16) from nI_add i 16]
      repeat (first | refine es rfl rfl rfl ?_ | refine eg rfl (by assumption) rfl ?_ | refine ean rfl (by assumption) (by assumption) rfl ?_ | refine eal rfl (by assumption) (by assumption) rfl ?_ | refine eri rfl ?_ | refine erv rfl ?_ | refine erl rfl ?_ | refine era rfl ?_ | refine erz0 rfl ?_ | refine erz1 rfl ?_ | refine ean0 rfl (by assumption) (by assumption) rfl ?_ | refine ean8 rfl (by assumption) (by assumption) rfl ?_ | refine ean12 rfl (by assumption) (by assumption) rfl ?_ | refine ean7 rfl (by assumption) (by assumption) rfl ?_)
      try dsimp only [set1, set2, kilP, List.set_cons_zero, List.set_cons_succ, List.getElem?_cons_zero, List.getElem?_cons_succ, List.nil_append, List.cons_append, Option.toList_some, Option.toList_none]
      refine etM rfl h3 hi1 rfl (fun M2 eM => ?_)
      repeat (refine ng 11 rfl ?_; first | refine es rfl rfl rfl ?_ | refine eg rfl (by assumption) rfl ?_ | refine ean rfl (by assumption) (by assumption) rfl ?_ | refine eal rfl (by assumption) (by assumption) rfl ?_ | refine eri rfl ?_ | refine erv rfl ?_ | refine erl rfl ?_ | refine era rfl ?_ | refine erz0 rfl ?_ | refine erz1 rfl ?_ | refine ean0 rfl (by assumption) (by assumption) rfl ?_ | refine ean8 rfl (by assumption) (by assumption) rfl ?_ | refine ean12 rfl (by assumption) (by assumption) rfl ?_ | refine ean7 rfl (by assumption) (by assumption) rfl ?_)
      try dsimp only [set1, set2, kilP, List.set_cons_zero, List.set_cons_succ, List.getElem?_cons_zero, List.getElem?_cons_succ, List.nil_append, List.cons_append, Option.toList_some, Option.toList_none]
      rw [nI_1]
      refine ih (i + 1) M2 _ (hy.ar2 (k := 3) eM (by omega)) (hF.up eM (by omega) (by omega)) (by omega) (fun j hj => ?_) (fun j hj => ?_)
      · by_cases e : j = i
        · rw [e, pk_us]; exact q2 (i + 16) (by omega)
        · rw [pk_un e]; exact q1 j (by omega)
      · rw [pk_un (by omega)]; exact q2 j (by omega)
theorem y_rem2 {oa : Int32 × Int32 × Int32} {ow : Value × Value} {r : Yr} {qr : (Int32 × Int32) × (Int32 × Int32 × Int32) × (Int32 × Int32) × Int32} {mk : Int32} {N : Nat} {P0 : Nat → Int32} {A : Ar} {M0 : Mm} (hN : N < 16) : ∀ (n i : Nat) (M : Mm) (p : Nat → Int32), aY M b (oa, ow, r, (nI N, mk), qr) (sA A 3 p) → Fr b 16 M0 M → i + n = 16 → (∀ j, j < i → p (16 * N + j) = A 2 j) → (∀ j, j < 16 * N ∨ 16 * N + 16 ≤ j → p j = P0 j) → Ev ad 0 (rX13_remembers ad) (51, [some (.ref b), some (.int (nI i))], [], M) (fun v' M' => v' = none ∧ ∃ ps, aY M' b (oa, ow, r, (nI (N + 1), mk), qr) (sA A 3 ps) ∧ (∀ j, j < 16 → ps (16 * N + j) = A 2 j) ∧ (∀ j, j < 16 * N ∨ 16 * N + 16 ≤ j → ps j = P0 j) ∧ Fr b 16 M0 M') := by
  intro n
  induction n with
  | zero =>
    intro i M p hy hF hi q1 q2
    have h0 := hy.1
    repeat (first | refine es rfl rfl rfl ?_ | refine eg rfl (by assumption) rfl ?_ | refine ean rfl (by assumption) (by assumption) rfl ?_ | refine eal rfl (by assumption) (by assumption) rfl ?_ | refine eri rfl ?_ | refine erv rfl ?_ | refine erl rfl ?_ | refine era rfl ?_ | refine erz0 rfl ?_ | refine erz1 rfl ?_ | refine ean0 rfl (by assumption) (by assumption) rfl ?_ | refine ean8 rfl (by assumption) (by assumption) rfl ?_ | refine ean12 rfl (by assumption) (by assumption) rfl ?_ | refine ean7 rfl (by assumption) (by assumption) rfl ?_)
    try dsimp only [set1, set2, kilP, List.set_cons_zero, List.set_cons_succ, List.getElem?_cons_zero, List.getElem?_cons_succ, List.nil_append, List.cons_append, Option.toList_some, Option.toList_none]
    refine ei _ rfl rfl (fun c => ?_) (fun c => ?_)
    · repeat (first | refine es rfl rfl rfl ?_ | refine eg rfl (by assumption) rfl ?_ | refine ean rfl (by assumption) (by assumption) rfl ?_ | refine eal rfl (by assumption) (by assumption) rfl ?_ | refine eri rfl ?_ | refine erv rfl ?_ | refine erl rfl ?_ | refine era rfl ?_ | refine erz0 rfl ?_ | refine erz1 rfl ?_ | refine ean0 rfl (by assumption) (by assumption) rfl ?_ | refine ean8 rfl (by assumption) (by assumption) rfl ?_ | refine ean12 rfl (by assumption) (by assumption) rfl ?_ | refine ean7 rfl (by assumption) (by assumption) rfl ?_)
      try dsimp only [set1, set2, kilP, List.set_cons_zero, List.set_cons_succ, List.getElem?_cons_zero, List.getElem?_cons_succ, List.nil_append, List.cons_append, Option.toList_some, Option.toList_none]
      refine epM (fs' := yF b (oa, ow, r, (nI (N + 1), mk), qr)) rfl h0 rfl rfl (by rw [← nI_1]; rfl) (fun M2 eM => ?_)
      repeat (first | refine es rfl rfl rfl ?_ | refine eg rfl (by assumption) rfl ?_ | refine ean rfl (by assumption) (by assumption) rfl ?_ | refine eal rfl (by assumption) (by assumption) rfl ?_ | refine eri rfl ?_ | refine erv rfl ?_ | refine erl rfl ?_ | refine era rfl ?_ | refine erz0 rfl ?_ | refine erz1 rfl ?_ | refine ean0 rfl (by assumption) (by assumption) rfl ?_ | refine ean8 rfl (by assumption) (by assumption) rfl ?_ | refine ean12 rfl (by assumption) (by assumption) rfl ?_ | refine ean7 rfl (by assumption) (by assumption) rfl ?_)
      try dsimp only [set1, set2, kilP, List.set_cons_zero, List.set_cons_succ, List.getElem?_cons_zero, List.getElem?_cons_succ, List.nil_append, List.cons_append, Option.toList_some, Option.toList_none]
      exact ⟨rfl, p, hy.ob eM, fun j hj => q1 j (by omega), q2, hF.up eM (by omega) (by omega)⟩
    · exact absurd (show (16 : Int32) ≤ nI i from nI_le (a := 16) (by omega) (by omega)) c
  | succ n ih =>
    intro i M p hy hF hi q1 q2
    have h0 := hy.1
    have h2 : M.1 (b + 2) = ints 16 (A 2) := hy.c.2.1
    have h3 : M.1 (b + 3) = ints 256 p := hy.c.2.2.1
    have hi1 : i < 16 := by omega
    have hi2 : 16 * N + i < 256 := by omega
    repeat (first | refine es rfl rfl rfl ?_ | refine eg rfl (by assumption) rfl ?_ | refine ean rfl (by assumption) (by assumption) rfl ?_ | refine eal rfl (by assumption) (by assumption) rfl ?_ | refine eri rfl ?_ | refine erv rfl ?_ | refine erl rfl ?_ | refine era rfl ?_ | refine erz0 rfl ?_ | refine erz1 rfl ?_ | refine ean0 rfl (by assumption) (by assumption) rfl ?_ | refine ean8 rfl (by assumption) (by assumption) rfl ?_ | refine ean12 rfl (by assumption) (by assumption) rfl ?_ | refine ean7 rfl (by assumption) (by assumption) rfl ?_)
    try dsimp only [set1, set2, kilP, List.set_cons_zero, List.set_cons_succ, List.getElem?_cons_zero, List.getElem?_cons_succ, List.nil_append, List.cons_append, Option.toList_some, Option.toList_none]
    refine ei _ rfl rfl (fun c => ?_) (fun c => ?_)
    · exact absurd c (nI_ge (b := 16) (by omega) (by omega))
    · repeat (first | refine es rfl rfl rfl ?_ | refine eg rfl (by assumption) rfl ?_ | refine ean rfl (by assumption) (by assumption) rfl ?_ | refine eal rfl (by assumption) (by assumption) rfl ?_ | refine eri rfl ?_ | refine erv rfl ?_ | refine erl rfl ?_ | refine era rfl ?_ | refine erz0 rfl ?_ | refine erz1 rfl ?_ | refine ean0 rfl (by assumption) (by assumption) rfl ?_ | refine ean8 rfl (by assumption) (by assumption) rfl ?_ | refine ean12 rfl (by assumption) (by assumption) rfl ?_ | refine ean7 rfl (by assumption) (by assumption) rfl ?_)
      try dsimp only [set1, set2, kilP, List.set_cons_zero, List.set_cons_succ, List.getElem?_cons_zero, List.getElem?_cons_succ, List.nil_append, List.cons_append, Option.toList_some, Option.toList_none]
      rw [show (16 : Int32) * nI N + nI i = nI (16 * N + i) by rw [show (16 : Int32) * nI N = nI (16 * N) from pk_mul 16 N, nI_add]]
      refine etM rfl h3 hi2 rfl (fun M2 eM => ?_)
      repeat (refine ng 51 rfl ?_; first | refine es rfl rfl rfl ?_ | refine eg rfl (by assumption) rfl ?_ | refine ean rfl (by assumption) (by assumption) rfl ?_ | refine eal rfl (by assumption) (by assumption) rfl ?_ | refine eri rfl ?_ | refine erv rfl ?_ | refine erl rfl ?_ | refine era rfl ?_ | refine erz0 rfl ?_ | refine erz1 rfl ?_ | refine ean0 rfl (by assumption) (by assumption) rfl ?_ | refine ean8 rfl (by assumption) (by assumption) rfl ?_ | refine ean12 rfl (by assumption) (by assumption) rfl ?_ | refine ean7 rfl (by assumption) (by assumption) rfl ?_)
      try dsimp only [set1, set2, kilP, List.set_cons_zero, List.set_cons_succ, List.getElem?_cons_zero, List.getElem?_cons_succ, List.nil_append, List.cons_append, Option.toList_some, Option.toList_none]
      rw [nI_1]
      refine ih (i + 1) M2 _ (hy.ar2 (k := 3) eM (by omega)) (hF.up eM (by omega) (by omega)) (by omega) (fun j hj => ?_) (fun j hj => ?_)
      · by_cases e : j = i
        · rw [e, pk_us]
        · rw [pk_un (by omega)]; exact q1 j (by omega)
      · rw [pk_un (by omega)]; exact q2 j hj
theorem paR_keep {ps P0 : Nat → Int32} {f : Nat → Int32} {ac : List (Nat → Int32)} {N : Nat} (h : ac.length = N) (hN : N < 16) (hp : paR P0 ac) (h1 : ∀ j, j < 16 → ps (16 * N + j) = f j) (h2 : ∀ j, j < 16 * N ∨ 16 * N + 16 ≤ j → ps j = P0 j) : paR ps (f :: ac) := by
  refine ⟨by rw [List.length_cons]; omega, fun i r hr j hj => ?_⟩
  cases i with
  | zero =>
    rw [List.getElem?_cons_zero] at hr
    injection hr with hr
    subst hr
    rw [List.length_cons, h, show N + 1 - 1 - 0 = N by omega]
    exact h1 j hj
  | succ i =>
    rw [List.getElem?_cons_succ] at hr
    have hi : i < ac.length := (List.getElem?_eq_some_iff.mp hr).1
    rw [List.length_cons, show ac.length + 1 - 1 - (i + 1) = ac.length - 1 - i by omega, h2 _ (Or.inl (by omega))]
    exact hp.2 i r hr j hj
theorem paR_shift {p P0 : Nat → Int32} {ac : List (Nat → Int32)} (hl : ac.length = 16) (hp : paR P0 ac) (h : ∀ j, j < 240 → p j = P0 (j + 16)) : paR p (ac.take 15) := by
  have h15 : (ac.take 15).length = 15 := by rw [List.length_take]; omega
  refine ⟨by omega, fun i r hr j hj => ?_⟩
  have hi : i < 15 := by have := (List.getElem?_eq_some_iff.mp hr).1; omega
  rw [List.getElem?_take_of_lt hi] at hr
  rw [h15, h _ (by omega)]
  have := hp.2 i r hr j hj
  rw [hl] at this
  rw [← this]
  congr 1
  omega
theorem y_rem {oa : Int32 × Int32 × Int32} {ow : Value × Value} {r : Yr} {qr : (Int32 × Int32) × (Int32 × Int32 × Int32) × (Int32 × Int32) × Int32} {mk : Int32} {ac : List (Nat → Int32)} {f : Nat → Int32} {A : Ar} (hy : aY M b (oa, ow, r, (nI ac.length, mk), qr) A) (hp : paR (A 3) ac) (hv : ∀ j, j < 16 → A 2 j = f j) : EvM ad 0 (iX13_remembers ad) [.ref b] M (fun v' M' => v' = none ∧ ∃ ps, aY M' b (oa, ow, r, (nI ((f :: ac).take 16).length, mk), qr) (sA A 3 ps) ∧ paR ps ((f :: ac).take 16) ∧ Fr b 16 M M') := by
  have h0 := hy.1
  have hl := hp.1
  have hF := Fr.rf b 16 M
  have hy' : aY M b (oa, ow, r, (nI ac.length, mk), qr) (sA A 3 (A 3)) := by rw [sA_id]; exact hy
  refine ⟨Nat.le_of_ble_eq_true rfl, ?_⟩
  show Ev ad _ (rX13_remembers ad) (0, [some (.ref b), none], [], M) _
  repeat (first | refine es rfl rfl rfl ?_ | refine eg rfl (by assumption) rfl ?_ | refine ean rfl (by assumption) (by assumption) rfl ?_ | refine eal rfl (by assumption) (by assumption) rfl ?_ | refine eri rfl ?_ | refine erv rfl ?_ | refine erl rfl ?_ | refine era rfl ?_ | refine erz0 rfl ?_ | refine erz1 rfl ?_ | refine ean0 rfl (by assumption) (by assumption) rfl ?_ | refine ean8 rfl (by assumption) (by assumption) rfl ?_ | refine ean12 rfl (by assumption) (by assumption) rfl ?_ | refine ean7 rfl (by assumption) (by assumption) rfl ?_)
  try dsimp only [set1, set2, kilP, List.set_cons_zero, List.set_cons_succ, List.getElem?_cons_zero, List.getElem?_cons_succ, List.nil_append, List.cons_append, Option.toList_some, Option.toList_none]
  refine ei _ rfl rfl (fun c => ?_) (fun c => ?_)
  · have hl2 : ac.length < 16 := by
      rcases Nat.lt_or_ge ac.length 16 with q | q
      · exact q
      · exact absurd (by rw [show ac.length = 16 by omega]; rfl) c
    repeat (refine ng 51 rfl ?_; first | refine es rfl rfl rfl ?_ | refine eg rfl (by assumption) rfl ?_ | refine ean rfl (by assumption) (by assumption) rfl ?_ | refine eal rfl (by assumption) (by assumption) rfl ?_ | refine eri rfl ?_ | refine erv rfl ?_ | refine erl rfl ?_ | refine era rfl ?_ | refine erz0 rfl ?_ | refine erz1 rfl ?_ | refine ean0 rfl (by assumption) (by assumption) rfl ?_ | refine ean8 rfl (by assumption) (by assumption) rfl ?_ | refine ean12 rfl (by assumption) (by assumption) rfl ?_ | refine ean7 rfl (by assumption) (by assumption) rfl ?_)
    try dsimp only [set1, set2, kilP, List.set_cons_zero, List.set_cons_succ, List.getElem?_cons_zero, List.getElem?_cons_succ, List.nil_append, List.cons_append, Option.toList_some, Option.toList_none]
    refine (y_rem2 (P0 := A 3) hl2 16 0 M (A 3) hy' hF rfl (fun j hj => absurd hj (by omega)) (fun j _ => rfl)).im (fun v M' q => ?_)
    obtain ⟨q1, ps, q2, q3, q4, q5⟩ := q
    have e : (f :: ac).take 16 = f :: ac := List.take_of_length_le (by rw [List.length_cons]; omega)
    rw [e]
    exact ⟨q1, ps, q2, paR_keep rfl hl2 hp (fun j hj => (q3 j hj).trans (hv j hj)) q4, q5⟩
  · have hl2 : ac.length = 16 := (nI_eq (b := 16) (by omega) (by omega)).mp (Decidable.not_not.mp c)
    have h15 : (ac.take 15).length = 15 := by rw [List.length_take]; omega
    repeat (refine ng 11 rfl ?_; first | refine es rfl rfl rfl ?_ | refine eg rfl (by assumption) rfl ?_ | refine ean rfl (by assumption) (by assumption) rfl ?_ | refine eal rfl (by assumption) (by assumption) rfl ?_ | refine eri rfl ?_ | refine erv rfl ?_ | refine erl rfl ?_ | refine era rfl ?_ | refine erz0 rfl ?_ | refine erz1 rfl ?_ | refine ean0 rfl (by assumption) (by assumption) rfl ?_ | refine ean8 rfl (by assumption) (by assumption) rfl ?_ | refine ean12 rfl (by assumption) (by assumption) rfl ?_ | refine ean7 rfl (by assumption) (by assumption) rfl ?_)
    try dsimp only [set1, set2, kilP, List.set_cons_zero, List.set_cons_succ, List.getElem?_cons_zero, List.getElem?_cons_succ, List.nil_append, List.cons_append, Option.toList_some, Option.toList_none]
    refine y_rem1 (M0 := M) (A := A) (fun M2 p hy2 hF2 hq L1 => ?_) 240 0 M (A 3) hy' hF rfl (fun j hj => absurd hj (by omega)) (fun j _ => rfl)
    have k0 := hy2.1
    repeat (first | refine es rfl rfl rfl ?_ | refine eg rfl (by assumption) rfl ?_ | refine ean rfl (by assumption) (by assumption) rfl ?_ | refine eal rfl (by assumption) (by assumption) rfl ?_ | refine eri rfl ?_ | refine erv rfl ?_ | refine erl rfl ?_ | refine era rfl ?_ | refine erz0 rfl ?_ | refine erz1 rfl ?_ | refine ean0 rfl (by assumption) (by assumption) rfl ?_ | refine ean8 rfl (by assumption) (by assumption) rfl ?_ | refine ean12 rfl (by assumption) (by assumption) rfl ?_ | refine ean7 rfl (by assumption) (by assumption) rfl ?_)
    try dsimp only [set1, set2, kilP, List.set_cons_zero, List.set_cons_succ, List.getElem?_cons_zero, List.getElem?_cons_succ, List.nil_append, List.cons_append, Option.toList_some, Option.toList_none]
    refine epM (fs' := yF b (oa, ow, r, (nI 15, mk), qr)) rfl k0 rfl rfl (by rw [hl2, show nI 15 = nI 16 - 1 from (nI_pred 15).symm]; rfl) (fun M3 eM3 => ?_)
    repeat (refine ng 51 rfl ?_; first | refine es rfl rfl rfl ?_ | refine eg rfl (by assumption) rfl ?_ | refine ean rfl (by assumption) (by assumption) rfl ?_ | refine eal rfl (by assumption) (by assumption) rfl ?_ | refine eri rfl ?_ | refine erv rfl ?_ | refine erl rfl ?_ | refine era rfl ?_ | refine erz0 rfl ?_ | refine erz1 rfl ?_ | refine ean0 rfl (by assumption) (by assumption) rfl ?_ | refine ean8 rfl (by assumption) (by assumption) rfl ?_ | refine ean12 rfl (by assumption) (by assumption) rfl ?_ | refine ean7 rfl (by assumption) (by assumption) rfl ?_)
    try dsimp only [set1, set2, kilP, List.set_cons_zero, List.set_cons_succ, List.getElem?_cons_zero, List.getElem?_cons_succ, List.nil_append, List.cons_append, Option.toList_some, Option.toList_none]
    refine (y_rem2 (P0 := p) (N := 15) (by omega) 16 0 M3 p (hy2.ob eM3) (hF2.up eM3 (by omega) (by omega)) rfl (fun j hj => absurd hj (by omega)) (fun j _ => rfl)).im (fun v M' q => ?_)
    obtain ⟨q1, ps, q2, q3, q4, q5⟩ := q
    have e : (f :: ac).take 16 = f :: ac.take 15 := by rw [List.take_succ_cons]
    rw [e]
    refine ⟨q1, ps, ?_, paR_keep h15 (by omega) (paR_shift hl2 hp hq) (fun j hj => (q3 j hj).trans (hv j hj)) q4, q5⟩
    rw [List.length_cons, h15]
    exact q2
theorem yR.np {M' : Mm} {a : Nat} {oa : Int32 × Int32 × Int32} {rd : Value} {r : Yr} {p : Int32 × Int32} {qr qr' : (Int32 × Int32) × (Int32 × Int32 × Int32) × (Int32 × Int32) × Int32} {f' : Nat → Int32} {ac' mk' : List (Nat → Int32)} {A A' : Ar} (hR : yR M b σ (oa, (.ref a, rd), r, p, qr) A) (hy : aY M' b (oa, (.ref a, rd), r, (nI ac'.length, nI mk'.length), qr') A') (hF : Fr b 16 M M') (h1 : A' 1 = A 1) (h15 : A' 15 = A 15) (hv : ∀ j, j < 16 → A' 2 j = f' j) (hp : paR (A' 3) ac') (hm : mkR (A' 4) mk') : YR M' b (σ.tp, σ.ts, σ.T, f', ac', mk', σ.tr, σ.fn, σ.fp) := by
  obtain ⟨_, hb, e1, e2, e3, e4, e5, e6, e7, e8⟩ := hR
  obtain ⟨n1, a', t0, a1, a2, hM, _, _, _, hfa⟩ := e8.resolve_left (fun q => by have := q.2; cases this)
  have t0 : Value.ref a = Value.ref a' := t0
  injection t0 with t0
  subst t0
  exact ⟨_, A', hy, by rw [hF.2]; exact hb, e1, e2, e3, e4, rfl, rfl, by rw [h1]; exact e7, Or.inr ⟨n1, a, rfl, a1, by rw [hF.2]; exact a2, hM.fr hF (by omega), hv, hp, hm, by rw [h15]; exact hfa⟩⟩
theorem YR.cf {f' : Nat → Int32} (hY : YR M b σ) (h : ∀ j, j < 16 → σ.f j = f' j) : YR M b (σ.tp, σ.ts, σ.T, f', σ.ac, σ.mk, σ.tr, σ.fn, σ.fp) := by
  obtain ⟨o, A, hy, hb, e1, e2, e3, e4, e5, e6, e7, e8⟩ := hY
  refine ⟨o, A, hy, hb, e1, e2, e3, e4, e5, e6, e7, ?_⟩
  rcases e8 with e8 | ⟨n1, a, t1, a1, a2, r1, r2, r3⟩
  · exact Or.inl e8
  · exact Or.inr ⟨n1, a, t1, a1, a2, r1, fun j hj => (r2 j hj).trans (h j hj), r3⟩
theorem Pq.eq {M' : Mm} {x : Value} {s : Sg} (hY : YR M' b s) (hF : Fr b 16 M M') : Pq b M (fun v σ' => v = some x ∧ σ' = s) (some x) M' := ⟨fun v' σ' h => by obtain ⟨rfl, rfl⟩ := h; exact ⟨rfl, hY⟩, hF⟩
theorem y_exchange {x y : Int32} (hY : YR M b σ) (hI : Inv σ C) : EvM ad 3 (iX13_exchange ad) [.ref b, .int x, .int y] M (Pq b M (spExchange σ x y)) := by
  have hn7 := hI.n7
  unfold spExchange
  refine ⟨Nat.le_of_ble_eq_true rfl, ?_⟩
  show Ev ad _ (rX13_exchange ad) (0, [some (.ref b), some (.int x), some (.int y)], [], M) _
  refine yEn rfl rfl rfl hY (fun M1 hY hF _ => ?_)
  obtain ⟨⟨oa, ⟨tw, rd⟩, oq⟩, A, hR⟩ := id hY
  have h0 := hR.1.1
  have h2 := hR.1.c.2.1
  repeat (first | refine es rfl rfl rfl ?_ | refine eg rfl (by assumption) rfl ?_ | refine ean rfl (by assumption) (by assumption) rfl ?_ | refine eal rfl (by assumption) (by assumption) rfl ?_ | refine eri rfl ?_ | refine erv rfl ?_ | refine erl rfl ?_ | refine era rfl ?_ | refine erz0 rfl ?_ | refine erz1 rfl ?_ | refine ean0 rfl (by assumption) (by assumption) rfl ?_ | refine ean8 rfl (by assumption) (by assumption) rfl ?_ | refine ean12 rfl (by assumption) (by assumption) rfl ?_ | refine ean7 rfl (by assumption) (by assumption) rfl ?_)
  try dsimp only [set1, set2, kilP, List.set_cons_zero, List.set_cons_succ, List.getElem?_cons_zero, List.getElem?_cons_succ, List.nil_append, List.cons_append, Option.toList_some, Option.toList_none]
  refine ecr rfl rfl (by assumption) rfl rfl rfl (y_isH hY) (by first | rfl | exact Nat.blt_eq.mpr (by omega)) rfl ?_
  by_cases c : isU σ x y
  rotate_left
  · rw [if_neg c]
    by_cases c1 : isH σ x
    rotate_left
    · rw [show bI (isH σ x) = 0 from if_neg c1]
      repeat (first | refine es rfl rfl rfl ?_ | refine eg rfl (by assumption) rfl ?_ | refine ean rfl (by assumption) (by assumption) rfl ?_ | refine eal rfl (by assumption) (by assumption) rfl ?_ | refine eri rfl ?_ | refine erv rfl ?_ | refine erl rfl ?_ | refine era rfl ?_ | refine erz0 rfl ?_ | refine erz1 rfl ?_ | refine ean0 rfl (by assumption) (by assumption) rfl ?_ | refine ean8 rfl (by assumption) (by assumption) rfl ?_ | refine ean12 rfl (by assumption) (by assumption) rfl ?_ | refine ean7 rfl (by assumption) (by assumption) rfl ?_)
      try dsimp only [set1, set2, kilP, List.set_cons_zero, List.set_cons_succ, List.getElem?_cons_zero, List.getElem?_cons_succ, List.nil_append, List.cons_append, Option.toList_some, Option.toList_none]
      refine ecv rfl rfl (by assumption) rfl rfl rfl (y_deny hY (by decide)) (by first | rfl | exact Nat.blt_eq.mpr (by omega)) ?_
      rintro v M9 ⟨rfl, hY9, hF9⟩
      try dsimp only [set1, set2, kilP, List.set_cons_zero, List.set_cons_succ, List.getElem?_cons_zero, List.getElem?_cons_succ, List.nil_append, List.cons_append, Option.toList_some, Option.toList_none]
      repeat (first | refine es rfl rfl rfl ?_ | refine eg rfl (by assumption) rfl ?_ | refine ean rfl (by assumption) (by assumption) rfl ?_ | refine eal rfl (by assumption) (by assumption) rfl ?_ | refine eri rfl ?_ | refine erv rfl ?_ | refine erl rfl ?_ | refine era rfl ?_ | refine erz0 rfl ?_ | refine erz1 rfl ?_ | refine ean0 rfl (by assumption) (by assumption) rfl ?_ | refine ean8 rfl (by assumption) (by assumption) rfl ?_ | refine ean12 rfl (by assumption) (by assumption) rfl ?_ | refine ean7 rfl (by assumption) (by assumption) rfl ?_)
      try dsimp only [set1, set2, kilP, List.set_cons_zero, List.set_cons_succ, List.getElem?_cons_zero, List.getElem?_cons_succ, List.nil_append, List.cons_append, Option.toList_some, Option.toList_none]
      exact Pq.dn hY9 (hF.tr (hF9.wide (lo2 := b) (n2 := 16) (by omega) (by omega)) (by omega) (by omega))
    rw [show bI (isH σ x) = 1 from if_pos c1]
    repeat (first | refine es rfl rfl rfl ?_ | refine eg rfl (by assumption) rfl ?_ | refine ean rfl (by assumption) (by assumption) rfl ?_ | refine eal rfl (by assumption) (by assumption) rfl ?_ | refine eri rfl ?_ | refine erv rfl ?_ | refine erl rfl ?_ | refine era rfl ?_ | refine erz0 rfl ?_ | refine erz1 rfl ?_ | refine ean0 rfl (by assumption) (by assumption) rfl ?_ | refine ean8 rfl (by assumption) (by assumption) rfl ?_ | refine ean12 rfl (by assumption) (by assumption) rfl ?_ | refine ean7 rfl (by assumption) (by assumption) rfl ?_)
    try dsimp only [set1, set2, kilP, List.set_cons_zero, List.set_cons_succ, List.getElem?_cons_zero, List.getElem?_cons_succ, List.nil_append, List.cons_append, Option.toList_some, Option.toList_none]
    refine ecr rfl rfl (by assumption) rfl rfl rfl (y_isH hY) (by first | rfl | exact Nat.blt_eq.mpr (by omega)) rfl ?_
    by_cases c2 : isH σ y
    rotate_left
    · rw [show bI (isH σ y) = 0 from if_neg c2]
      repeat (first | refine es rfl rfl rfl ?_ | refine eg rfl (by assumption) rfl ?_ | refine ean rfl (by assumption) (by assumption) rfl ?_ | refine eal rfl (by assumption) (by assumption) rfl ?_ | refine eri rfl ?_ | refine erv rfl ?_ | refine erl rfl ?_ | refine era rfl ?_ | refine erz0 rfl ?_ | refine erz1 rfl ?_ | refine ean0 rfl (by assumption) (by assumption) rfl ?_ | refine ean8 rfl (by assumption) (by assumption) rfl ?_ | refine ean12 rfl (by assumption) (by assumption) rfl ?_ | refine ean7 rfl (by assumption) (by assumption) rfl ?_)
      try dsimp only [set1, set2, kilP, List.set_cons_zero, List.set_cons_succ, List.getElem?_cons_zero, List.getElem?_cons_succ, List.nil_append, List.cons_append, Option.toList_some, Option.toList_none]
      refine ecv rfl rfl (by assumption) rfl rfl rfl (y_deny hY (by decide)) (by first | rfl | exact Nat.blt_eq.mpr (by omega)) ?_
      rintro v M9 ⟨rfl, hY9, hF9⟩
      try dsimp only [set1, set2, kilP, List.set_cons_zero, List.set_cons_succ, List.getElem?_cons_zero, List.getElem?_cons_succ, List.nil_append, List.cons_append, Option.toList_some, Option.toList_none]
      repeat (first | refine es rfl rfl rfl ?_ | refine eg rfl (by assumption) rfl ?_ | refine ean rfl (by assumption) (by assumption) rfl ?_ | refine eal rfl (by assumption) (by assumption) rfl ?_ | refine eri rfl ?_ | refine erv rfl ?_ | refine erl rfl ?_ | refine era rfl ?_ | refine erz0 rfl ?_ | refine erz1 rfl ?_ | refine ean0 rfl (by assumption) (by assumption) rfl ?_ | refine ean8 rfl (by assumption) (by assumption) rfl ?_ | refine ean12 rfl (by assumption) (by assumption) rfl ?_ | refine ean7 rfl (by assumption) (by assumption) rfl ?_)
      try dsimp only [set1, set2, kilP, List.set_cons_zero, List.set_cons_succ, List.getElem?_cons_zero, List.getElem?_cons_succ, List.nil_append, List.cons_append, Option.toList_some, Option.toList_none]
      exact Pq.dn hY9 (hF.tr (hF9.wide (lo2 := b) (n2 := 16) (by omega) (by omega)) (by omega) (by omega))
    rw [show bI (isH σ y) = 1 from if_pos c2]
    repeat (first | refine es rfl rfl rfl ?_ | refine eg rfl (by assumption) rfl ?_ | refine ean rfl (by assumption) (by assumption) rfl ?_ | refine eal rfl (by assumption) (by assumption) rfl ?_ | refine eri rfl ?_ | refine erv rfl ?_ | refine erl rfl ?_ | refine era rfl ?_ | refine erz0 rfl ?_ | refine erz1 rfl ?_ | refine ean0 rfl (by assumption) (by assumption) rfl ?_ | refine ean8 rfl (by assumption) (by assumption) rfl ?_ | refine ean12 rfl (by assumption) (by assumption) rfl ?_ | refine ean7 rfl (by assumption) (by assumption) rfl ?_)
    try dsimp only [set1, set2, kilP, List.set_cons_zero, List.set_cons_succ, List.getElem?_cons_zero, List.getElem?_cons_succ, List.nil_append, List.cons_append, Option.toList_some, Option.toList_none]
    refine ei _ rfl rfl (fun c3 => ?_) (fun c3 => ?_)
    · exact absurd ⟨c1, c2, c3⟩ c
    ·
      repeat (first | refine es rfl rfl rfl ?_ | refine eg rfl (by assumption) rfl ?_ | refine ean rfl (by assumption) (by assumption) rfl ?_ | refine eal rfl (by assumption) (by assumption) rfl ?_ | refine eri rfl ?_ | refine erv rfl ?_ | refine erl rfl ?_ | refine era rfl ?_ | refine erz0 rfl ?_ | refine erz1 rfl ?_ | refine ean0 rfl (by assumption) (by assumption) rfl ?_ | refine ean8 rfl (by assumption) (by assumption) rfl ?_ | refine ean12 rfl (by assumption) (by assumption) rfl ?_ | refine ean7 rfl (by assumption) (by assumption) rfl ?_)
      try dsimp only [set1, set2, kilP, List.set_cons_zero, List.set_cons_succ, List.getElem?_cons_zero, List.getElem?_cons_succ, List.nil_append, List.cons_append, Option.toList_some, Option.toList_none]
      refine ecv rfl rfl (by assumption) rfl rfl rfl (y_deny hY (by decide)) (by first | rfl | exact Nat.blt_eq.mpr (by omega)) ?_
      rintro v M9 ⟨rfl, hY9, hF9⟩
      try dsimp only [set1, set2, kilP, List.set_cons_zero, List.set_cons_succ, List.getElem?_cons_zero, List.getElem?_cons_succ, List.nil_append, List.cons_append, Option.toList_some, Option.toList_none]
      repeat (first | refine es rfl rfl rfl ?_ | refine eg rfl (by assumption) rfl ?_ | refine ean rfl (by assumption) (by assumption) rfl ?_ | refine eal rfl (by assumption) (by assumption) rfl ?_ | refine eri rfl ?_ | refine erv rfl ?_ | refine erl rfl ?_ | refine era rfl ?_ | refine erz0 rfl ?_ | refine erz1 rfl ?_ | refine ean0 rfl (by assumption) (by assumption) rfl ?_ | refine ean8 rfl (by assumption) (by assumption) rfl ?_ | refine ean12 rfl (by assumption) (by assumption) rfl ?_ | refine ean7 rfl (by assumption) (by assumption) rfl ?_)
      try dsimp only [set1, set2, kilP, List.set_cons_zero, List.set_cons_succ, List.getElem?_cons_zero, List.getElem?_cons_succ, List.nil_append, List.cons_append, Option.toList_some, Option.toList_none]
      exact Pq.dn hY9 (hF.tr (hF9.wide (lo2 := b) (n2 := 16) (by omega) (by omega)) (by omega) (by omega))
  rw [if_pos c, show bI (isH σ x) = 1 from if_pos c.1]
  repeat (first | refine es rfl rfl rfl ?_ | refine eg rfl (by assumption) rfl ?_ | refine ean rfl (by assumption) (by assumption) rfl ?_ | refine eal rfl (by assumption) (by assumption) rfl ?_ | refine eri rfl ?_ | refine erv rfl ?_ | refine erl rfl ?_ | refine era rfl ?_ | refine erz0 rfl ?_ | refine erz1 rfl ?_ | refine ean0 rfl (by assumption) (by assumption) rfl ?_ | refine ean8 rfl (by assumption) (by assumption) rfl ?_ | refine ean12 rfl (by assumption) (by assumption) rfl ?_ | refine ean7 rfl (by assumption) (by assumption) rfl ?_)
  try dsimp only [set1, set2, kilP, List.set_cons_zero, List.set_cons_succ, List.getElem?_cons_zero, List.getElem?_cons_succ, List.nil_append, List.cons_append, Option.toList_some, Option.toList_none]
  refine ecr rfl rfl (by assumption) rfl rfl rfl (y_isH hY) (by first | rfl | exact Nat.blt_eq.mpr (by omega)) rfl ?_
  rw [show bI (isH σ y) = 1 from if_pos c.2.1]
  repeat (first | refine es rfl rfl rfl ?_ | refine eg rfl (by assumption) rfl ?_ | refine ean rfl (by assumption) (by assumption) rfl ?_ | refine eal rfl (by assumption) (by assumption) rfl ?_ | refine eri rfl ?_ | refine erv rfl ?_ | refine erl rfl ?_ | refine era rfl ?_ | refine erz0 rfl ?_ | refine erz1 rfl ?_ | refine ean0 rfl (by assumption) (by assumption) rfl ?_ | refine ean8 rfl (by assumption) (by assumption) rfl ?_ | refine ean12 rfl (by assumption) (by assumption) rfl ?_ | refine ean7 rfl (by assumption) (by assumption) rfl ?_)
  try dsimp only [set1, set2, kilP, List.set_cons_zero, List.set_cons_succ, List.getElem?_cons_zero, List.getElem?_cons_succ, List.nil_append, List.cons_append, Option.toList_some, Option.toList_none]
  refine ei _ rfl rfl (fun c3 => ?_) (fun c3 => ?_)
  rotate_left
  · exact absurd (Decidable.not_not.mp c3) c.2.2
  obtain ⟨k, j, hk, hj, hne, rfl, rfl⟩ := isU_k hn7 c
  have hk7 : k < 7 := by omega
  have hj7 : j < 7 := by omega
  have hk16 : k < 16 := by omega
  have hj16 : j < 16 := by omega
  obtain ⟨n1, a, t0, a1, a2, hM, hv, hpa, hmk, hfa⟩ := hR.2.2.2.2.2.2.2.2.2.resolve_left (fun q => by have := q.1; omega)
  replace t0 : tw = .ref a := t0
  subst t0
  obtain ⟨kn, Am, Bm, m0, mc, mH, mS, mP, mC, mN⟩ := id hM
  obtain ⟨m1, m2, m3, m4, m5, m6, m7, m8, m9, m10, m11, m12, m13, m14, m15, m16, m17⟩ := id mc
  rw [nI_clamp (by omega), nI_clamp (by omega)]
  repeat (first | refine es rfl rfl rfl ?_ | refine eg rfl (by assumption) rfl ?_ | refine ean rfl (by assumption) (by assumption) rfl ?_ | refine eal rfl (by assumption) (by assumption) rfl ?_ | refine eri rfl ?_ | refine erv rfl ?_ | refine erl rfl ?_ | refine era rfl ?_ | refine erz0 rfl ?_ | refine erz1 rfl ?_ | refine ean0 rfl (by assumption) (by assumption) rfl ?_ | refine ean8 rfl (by assumption) (by assumption) rfl ?_ | refine ean12 rfl (by assumption) (by assumption) rfl ?_ | refine ean7 rfl (by assumption) (by assumption) rfl ?_)
  try dsimp only [set1, set2, kilP, List.set_cons_zero, List.set_cons_succ, List.getElem?_cons_zero, List.getElem?_cons_succ, List.nil_append, List.cons_append, Option.toList_some, Option.toList_none]
  refine ecv rfl rfl (by assumption) rfl rfl rfl (y_tries hR.1) (by first | rfl | exact Nat.blt_eq.mpr (by omega)) ?_
  rintro v M2 ⟨rfl, g, hg, eM⟩
  have hy2 := hR.1.ar (k := 5) eM (by omega)
  replace hF := hF.up eM (by omega) (by omega)
  have hR2 := hR.sc hy2 ((Fr.rf b 16 M1).up eM (by omega) (by omega)) rfl rfl rfl rfl rfl rfl
  have hY : YR M2 b σ := ⟨_, _, hR2⟩
  have k0 := hy2.1
  have k5 : M2.1 (b + 5) = ints 7 g := hy2.c.2.2.2.2.1
  have hgf : ∀ j, j < 7 → g j = σ.f j := fun j hj => (hg j hj).trans (hv j (by omega))
  try dsimp only [set1, set2, kilP, List.set_cons_zero, List.set_cons_succ, List.getElem?_cons_zero, List.getElem?_cons_succ, List.nil_append, List.cons_append, Option.toList_some, Option.toList_none]
  repeat (first | refine es rfl rfl rfl ?_ | refine eg rfl (by assumption) rfl ?_ | refine ean rfl (by assumption) (by assumption) rfl ?_ | refine eal rfl (by assumption) (by assumption) rfl ?_ | refine eri rfl ?_ | refine erv rfl ?_ | refine erl rfl ?_ | refine era rfl ?_ | refine erz0 rfl ?_ | refine erz1 rfl ?_ | refine ean0 rfl (by assumption) (by assumption) rfl ?_ | refine ean8 rfl (by assumption) (by assumption) rfl ?_ | refine ean12 rfl (by assumption) (by assumption) rfl ?_ | refine ean7 rfl (by assumption) (by assumption) rfl ?_)
  try dsimp only [set1, set2, kilP, List.set_cons_zero, List.set_cons_succ, List.getElem?_cons_zero, List.getElem?_cons_succ, List.nil_append, List.cons_append, Option.toList_some, Option.toList_none]
  refine ecsr rfl rfl rfl rfl rfl rfl (y_canEx k5 rfl hk7 hj7) (by first | rfl | exact Nat.blt_eq.mpr (by omega)) rfl ?_
  have ec : canS g k j ↔ canS σ.f k j := by unfold canS; rw [hgf k hk7, hgf j hj7]
  by_cases c4 : canS σ.f k j
  rotate_left
  · rw [if_neg c4, show bI (canS g k j) = 0 from if_neg (fun q => c4 (ec.mp q))]
    repeat (first | refine es rfl rfl rfl ?_ | refine eg rfl (by assumption) rfl ?_ | refine ean rfl (by assumption) (by assumption) rfl ?_ | refine eal rfl (by assumption) (by assumption) rfl ?_ | refine eri rfl ?_ | refine erv rfl ?_ | refine erl rfl ?_ | refine era rfl ?_ | refine erz0 rfl ?_ | refine erz1 rfl ?_ | refine ean0 rfl (by assumption) (by assumption) rfl ?_ | refine ean8 rfl (by assumption) (by assumption) rfl ?_ | refine ean12 rfl (by assumption) (by assumption) rfl ?_ | refine ean7 rfl (by assumption) (by assumption) rfl ?_)
    try dsimp only [set1, set2, kilP, List.set_cons_zero, List.set_cons_succ, List.getElem?_cons_zero, List.getElem?_cons_succ, List.nil_append, List.cons_append, Option.toList_some, Option.toList_none]
    refine ecv rfl rfl (by assumption) rfl rfl rfl (y_deny hY (by decide)) (by first | rfl | exact Nat.blt_eq.mpr (by omega)) ?_
    rintro v M9 ⟨rfl, hY9, hF9⟩
    try dsimp only [set1, set2, kilP, List.set_cons_zero, List.set_cons_succ, List.getElem?_cons_zero, List.getElem?_cons_succ, List.nil_append, List.cons_append, Option.toList_some, Option.toList_none]
    repeat (first | refine es rfl rfl rfl ?_ | refine eg rfl (by assumption) rfl ?_ | refine ean rfl (by assumption) (by assumption) rfl ?_ | refine eal rfl (by assumption) (by assumption) rfl ?_ | refine eri rfl ?_ | refine erv rfl ?_ | refine erl rfl ?_ | refine era rfl ?_ | refine erz0 rfl ?_ | refine erz1 rfl ?_ | refine ean0 rfl (by assumption) (by assumption) rfl ?_ | refine ean8 rfl (by assumption) (by assumption) rfl ?_ | refine ean12 rfl (by assumption) (by assumption) rfl ?_ | refine ean7 rfl (by assumption) (by assumption) rfl ?_)
    try dsimp only [set1, set2, kilP, List.set_cons_zero, List.set_cons_succ, List.getElem?_cons_zero, List.getElem?_cons_succ, List.nil_append, List.cons_append, Option.toList_some, Option.toList_none]
    exact Pq.dn hY9 (hF.tr (hF9.wide (lo2 := b) (n2 := 16) (by omega) (by omega)) (by omega) (by omega))
  rw [if_pos c4, show bI (canS g k j) = 1 from if_pos (ec.mpr c4)]
  obtain ⟨r, ⟨pa, pm⟩, qr⟩ := oq
  have ea : pa = nI σ.ac.length := hR.2.2.2.2.2.2.1
  have em : pm = nI σ.mk.length := hR.2.2.2.2.2.2.2.1
  subst ea
  subst em
  repeat (first | refine es rfl rfl rfl ?_ | refine eg rfl (by assumption) rfl ?_ | refine ean rfl (by assumption) (by assumption) rfl ?_ | refine eal rfl (by assumption) (by assumption) rfl ?_ | refine eri rfl ?_ | refine erv rfl ?_ | refine erl rfl ?_ | refine era rfl ?_ | refine erz0 rfl ?_ | refine erz1 rfl ?_ | refine ean0 rfl (by assumption) (by assumption) rfl ?_ | refine ean8 rfl (by assumption) (by assumption) rfl ?_ | refine ean12 rfl (by assumption) (by assumption) rfl ?_ | refine ean7 rfl (by assumption) (by assumption) rfl ?_)
  try dsimp only [set1, set2, kilP, List.set_cons_zero, List.set_cons_succ, List.getElem?_cons_zero, List.getElem?_cons_succ, List.nil_append, List.cons_append, Option.toList_some, Option.toList_none]
  refine ecv rfl rfl (by assumption) rfl rfl rfl (y_rem hy2 hpa hv) (by first | rfl | exact Nat.blt_eq.mpr (by omega)) ?_
  rintro v M3 ⟨rfl, ps, hy3, hp3, hF3⟩
  have q0 := hy3.1
  have q2 : M3.1 (b + 2) = ints 16 (A 2) := hy3.c.2.1
  have q5 : M3.1 (b + 5) = ints 7 g := hy3.c.2.2.2.2.1
  try dsimp only [set1, set2, kilP, List.set_cons_zero, List.set_cons_succ, List.getElem?_cons_zero, List.getElem?_cons_succ, List.nil_append, List.cons_append, Option.toList_some, Option.toList_none]
  repeat (first | refine es rfl rfl rfl ?_ | refine eg rfl (by assumption) rfl ?_ | refine ean rfl (by assumption) (by assumption) rfl ?_ | refine eal rfl (by assumption) (by assumption) rfl ?_ | refine eri rfl ?_ | refine erv rfl ?_ | refine erl rfl ?_ | refine era rfl ?_ | refine erz0 rfl ?_ | refine erz1 rfl ?_ | refine ean0 rfl (by assumption) (by assumption) rfl ?_ | refine ean8 rfl (by assumption) (by assumption) rfl ?_ | refine ean12 rfl (by assumption) (by assumption) rfl ?_ | refine ean7 rfl (by assumption) (by assumption) rfl ?_)
  try dsimp only [set1, set2, kilP, List.set_cons_zero, List.set_cons_succ, List.getElem?_cons_zero, List.getElem?_cons_succ, List.nil_append, List.cons_append, Option.toList_some, Option.toList_none]
  rw [Int32.zero_add]
  refine etM rfl q2 hk16 rfl (fun M4 eM4 => ?_)
  have hy4 := hy3.ar (k := 2) eM4 (by omega)
  have r0 := hy4.1
  have r2 : M4.1 (b + 2) = ints 16 (upd (A 2) k (g j)) := hy4.c.2.1
  have r5 : M4.1 (b + 5) = ints 7 g := hy4.c.2.2.2.2.1
  repeat (first | refine es rfl rfl rfl ?_ | refine eg rfl (by assumption) rfl ?_ | refine ean rfl (by assumption) (by assumption) rfl ?_ | refine eal rfl (by assumption) (by assumption) rfl ?_ | refine eri rfl ?_ | refine erv rfl ?_ | refine erl rfl ?_ | refine era rfl ?_ | refine erz0 rfl ?_ | refine erz1 rfl ?_ | refine ean0 rfl (by assumption) (by assumption) rfl ?_ | refine ean8 rfl (by assumption) (by assumption) rfl ?_ | refine ean12 rfl (by assumption) (by assumption) rfl ?_ | refine ean7 rfl (by assumption) (by assumption) rfl ?_)
  try dsimp only [set1, set2, kilP, List.set_cons_zero, List.set_cons_succ, List.getElem?_cons_zero, List.getElem?_cons_succ, List.nil_append, List.cons_append, Option.toList_some, Option.toList_none]
  rw [Int32.zero_add]
  refine etM rfl r2 hj16 rfl (fun M5 eM5 => ?_)
  have hy5 := hy4.ar (k := 2) eM5 (by omega)
  have hF5 := (hF3.up eM4 (by omega) (by omega)).up eM5 (by omega) (by omega)
  have hY5 : YR M5 b (σ.tp, σ.ts, σ.T, swpF σ.f k j, (σ.f :: σ.ac).take 16, σ.mk, σ.tr, σ.fn, σ.fp) := by
    refine hR2.np hy5 hF5 rfl rfl (fun q hq => ?_) hp3 hmk
    show upd (upd (A 2) k (g j)) j (g k) q = swpF σ.f k j q
    unfold swpF
    rw [hgf j hj7, hgf k hk7]
    by_cases e : q = j
    · rw [e, pk_us, pk_us]
    · rw [pk_un e, pk_un e]
      by_cases e2 : q = k
      · rw [e2, pk_us, pk_us]
      · rw [pk_un e2, pk_un e2]; exact hv q hq
  have s0 := hy5.1
  repeat (first | refine es rfl rfl rfl ?_ | refine eg rfl (by assumption) rfl ?_ | refine ean rfl (by assumption) (by assumption) rfl ?_ | refine eal rfl (by assumption) (by assumption) rfl ?_ | refine eri rfl ?_ | refine erv rfl ?_ | refine erl rfl ?_ | refine era rfl ?_ | refine erz0 rfl ?_ | refine erz1 rfl ?_ | refine ean0 rfl (by assumption) (by assumption) rfl ?_ | refine ean8 rfl (by assumption) (by assumption) rfl ?_ | refine ean12 rfl (by assumption) (by assumption) rfl ?_ | refine ean7 rfl (by assumption) (by assumption) rfl ?_)
  try dsimp only [set1, set2, kilP, List.set_cons_zero, List.set_cons_succ, List.getElem?_cons_zero, List.getElem?_cons_succ, List.nil_append, List.cons_append, Option.toList_some, Option.toList_none]
  refine ecv rfl rfl (by assumption) rfl rfl rfl (y_grant hY5) (by first | rfl | exact Nat.blt_eq.mpr (by omega)) ?_
  rintro v M6 ⟨rfl, hY6, hF6⟩
  try dsimp only [set1, set2, kilP, List.set_cons_zero, List.set_cons_succ, List.getElem?_cons_zero, List.getElem?_cons_succ, List.nil_append, List.cons_append, Option.toList_some, Option.toList_none]
  repeat (first | refine es rfl rfl rfl ?_ | refine eg rfl (by assumption) rfl ?_ | refine ean rfl (by assumption) (by assumption) rfl ?_ | refine eal rfl (by assumption) (by assumption) rfl ?_ | refine eri rfl ?_ | refine erv rfl ?_ | refine erl rfl ?_ | refine era rfl ?_ | refine erz0 rfl ?_ | refine erz1 rfl ?_ | refine ean0 rfl (by assumption) (by assumption) rfl ?_ | refine ean8 rfl (by assumption) (by assumption) rfl ?_ | refine ean12 rfl (by assumption) (by assumption) rfl ?_ | refine ean7 rfl (by assumption) (by assumption) rfl ?_)
  try dsimp only [set1, set2, kilP, List.set_cons_zero, List.set_cons_succ, List.getElem?_cons_zero, List.getElem?_cons_succ, List.nil_append, List.cons_append, Option.toList_some, Option.toList_none]
  exact Pq.eq hY6 ((hF.tr hF5 (by omega) (by omega)).tr (hF6.wide (lo2 := b) (n2 := 16) (by omega) (by omega)) (by omega) (by omega))
theorem y_shut {x y : Int32} (hY : YR M b σ) (hI : Inv σ C) : EvM ad 3 (iX13_shut ad) [.ref b, .int x, .int y] M (Pq b M (spShut σ x y)) := by
  have hn7 := hI.n7
  have h7 : 7 < 16 := by omega
  unfold spShut
  refine ⟨Nat.le_of_ble_eq_true rfl, ?_⟩
  show Ev ad _ (rX13_shut ad) (0, [some (.ref b), some (.int x), some (.int y)], [], M) _
  refine yEn rfl rfl rfl hY (fun M1 hY hF _ => ?_)
  obtain ⟨⟨oa, ⟨tw, rd⟩, oq⟩, A, hR⟩ := id hY
  have h0 := hR.1.1
  have h2 := hR.1.c.2.1
  repeat (first | refine es rfl rfl rfl ?_ | refine eg rfl (by assumption) rfl ?_ | refine ean rfl (by assumption) (by assumption) rfl ?_ | refine eal rfl (by assumption) (by assumption) rfl ?_ | refine eri rfl ?_ | refine erv rfl ?_ | refine erl rfl ?_ | refine era rfl ?_ | refine erz0 rfl ?_ | refine erz1 rfl ?_ | refine ean0 rfl (by assumption) (by assumption) rfl ?_ | refine ean8 rfl (by assumption) (by assumption) rfl ?_ | refine ean12 rfl (by assumption) (by assumption) rfl ?_ | refine ean7 rfl (by assumption) (by assumption) rfl ?_)
  try dsimp only [set1, set2, kilP, List.set_cons_zero, List.set_cons_succ, List.getElem?_cons_zero, List.getElem?_cons_succ, List.nil_append, List.cons_append, Option.toList_some, Option.toList_none]
  refine ecr rfl rfl (by assumption) rfl rfl rfl (y_isH hY) (by first | rfl | exact Nat.blt_eq.mpr (by omega)) rfl ?_
  by_cases c : isH σ x
  rotate_left
  · rw [if_neg c, show bI (isH σ x) = 0 from if_neg c]
    repeat (first | refine es rfl rfl rfl ?_ | refine eg rfl (by assumption) rfl ?_ | refine ean rfl (by assumption) (by assumption) rfl ?_ | refine eal rfl (by assumption) (by assumption) rfl ?_ | refine eri rfl ?_ | refine erv rfl ?_ | refine erl rfl ?_ | refine era rfl ?_ | refine erz0 rfl ?_ | refine erz1 rfl ?_ | refine ean0 rfl (by assumption) (by assumption) rfl ?_ | refine ean8 rfl (by assumption) (by assumption) rfl ?_ | refine ean12 rfl (by assumption) (by assumption) rfl ?_ | refine ean7 rfl (by assumption) (by assumption) rfl ?_)
    try dsimp only [set1, set2, kilP, List.set_cons_zero, List.set_cons_succ, List.getElem?_cons_zero, List.getElem?_cons_succ, List.nil_append, List.cons_append, Option.toList_some, Option.toList_none]
    refine ecv rfl rfl (by assumption) rfl rfl rfl (y_deny hY (by decide)) (by first | rfl | exact Nat.blt_eq.mpr (by omega)) ?_
    rintro v M9 ⟨rfl, hY9, hF9⟩
    try dsimp only [set1, set2, kilP, List.set_cons_zero, List.set_cons_succ, List.getElem?_cons_zero, List.getElem?_cons_succ, List.nil_append, List.cons_append, Option.toList_some, Option.toList_none]
    repeat (first | refine es rfl rfl rfl ?_ | refine eg rfl (by assumption) rfl ?_ | refine ean rfl (by assumption) (by assumption) rfl ?_ | refine eal rfl (by assumption) (by assumption) rfl ?_ | refine eri rfl ?_ | refine erv rfl ?_ | refine erl rfl ?_ | refine era rfl ?_ | refine erz0 rfl ?_ | refine erz1 rfl ?_ | refine ean0 rfl (by assumption) (by assumption) rfl ?_ | refine ean8 rfl (by assumption) (by assumption) rfl ?_ | refine ean12 rfl (by assumption) (by assumption) rfl ?_ | refine ean7 rfl (by assumption) (by assumption) rfl ?_)
    try dsimp only [set1, set2, kilP, List.set_cons_zero, List.set_cons_succ, List.getElem?_cons_zero, List.getElem?_cons_succ, List.nil_append, List.cons_append, Option.toList_some, Option.toList_none]
    exact Pq.dn hY9 (hF.tr (hF9.wide (lo2 := b) (n2 := 16) (by omega) (by omega)) (by omega) (by omega))
  rw [if_pos c, show bI (isH σ x) = 1 from if_pos c]
  obtain ⟨k, hk, rfl⟩ := isH_k hn7 c
  have hk7 : k < 7 := by omega
  have hk16 : k < 16 := by omega
  obtain ⟨n1, a, t0, a1, a2, hM, hv, hpa, hmk, hfa⟩ := hR.2.2.2.2.2.2.2.2.2.resolve_left (fun q => by have := q.1; omega)
  replace t0 : tw = .ref a := t0
  subst t0
  obtain ⟨kn, Am, Bm, m0, mc, mH, mS, mP, mC, mN⟩ := id hM
  obtain ⟨m1, m2, m3, m4, m5, m6, m7, m8, m9, m10, m11, m12, m13, m14, m15, m16, m17⟩ := id mc
  rw [nI_clamp (by omega)]
  repeat (first | refine es rfl rfl rfl ?_ | refine eg rfl (by assumption) rfl ?_ | refine ean rfl (by assumption) (by assumption) rfl ?_ | refine eal rfl (by assumption) (by assumption) rfl ?_ | refine eri rfl ?_ | refine erv rfl ?_ | refine erl rfl ?_ | refine era rfl ?_ | refine erz0 rfl ?_ | refine erz1 rfl ?_ | refine ean0 rfl (by assumption) (by assumption) rfl ?_ | refine ean8 rfl (by assumption) (by assumption) rfl ?_ | refine ean12 rfl (by assumption) (by assumption) rfl ?_ | refine ean7 rfl (by assumption) (by assumption) rfl ?_)
  try dsimp only [set1, set2, kilP, List.set_cons_zero, List.set_cons_succ, List.getElem?_cons_zero, List.getElem?_cons_succ, List.nil_append, List.cons_append, Option.toList_some, Option.toList_none]
  rw [hv 7 h7]
  refine ecsr rfl rfl rfl rfl rfl rfl (y_bit) (by first | rfl | exact Nat.blt_eq.mpr (by omega)) rfl ?_
  repeat (first | refine es rfl rfl rfl ?_ | refine eg rfl (by assumption) rfl ?_ | refine ean rfl (by assumption) (by assumption) rfl ?_ | refine eal rfl (by assumption) (by assumption) rfl ?_ | refine eri rfl ?_ | refine erv rfl ?_ | refine erl rfl ?_ | refine era rfl ?_ | refine erz0 rfl ?_ | refine erz1 rfl ?_ | refine ean0 rfl (by assumption) (by assumption) rfl ?_ | refine ean8 rfl (by assumption) (by assumption) rfl ?_ | refine ean12 rfl (by assumption) (by assumption) rfl ?_ | refine ean7 rfl (by assumption) (by assumption) rfl ?_)
  try dsimp only [set1, set2, kilP, List.set_cons_zero, List.set_cons_succ, List.getElem?_cons_zero, List.getElem?_cons_succ, List.nil_append, List.cons_append, Option.toList_some, Option.toList_none]
  refine ei _ rfl rfl (fun c1 => ?_) (fun c1 => ?_)
  rotate_left
  · rw [if_pos (Decidable.not_not.mp c1)]
    repeat (first | refine es rfl rfl rfl ?_ | refine eg rfl (by assumption) rfl ?_ | refine ean rfl (by assumption) (by assumption) rfl ?_ | refine eal rfl (by assumption) (by assumption) rfl ?_ | refine eri rfl ?_ | refine erv rfl ?_ | refine erl rfl ?_ | refine era rfl ?_ | refine erz0 rfl ?_ | refine erz1 rfl ?_ | refine ean0 rfl (by assumption) (by assumption) rfl ?_ | refine ean8 rfl (by assumption) (by assumption) rfl ?_ | refine ean12 rfl (by assumption) (by assumption) rfl ?_ | refine ean7 rfl (by assumption) (by assumption) rfl ?_)
    try dsimp only [set1, set2, kilP, List.set_cons_zero, List.set_cons_succ, List.getElem?_cons_zero, List.getElem?_cons_succ, List.nil_append, List.cons_append, Option.toList_some, Option.toList_none]
    refine ecv rfl rfl (by assumption) rfl rfl rfl (y_deny hY (by decide)) (by first | rfl | exact Nat.blt_eq.mpr (by omega)) ?_
    rintro v M9 ⟨rfl, hY9, hF9⟩
    try dsimp only [set1, set2, kilP, List.set_cons_zero, List.set_cons_succ, List.getElem?_cons_zero, List.getElem?_cons_succ, List.nil_append, List.cons_append, Option.toList_some, Option.toList_none]
    repeat (first | refine es rfl rfl rfl ?_ | refine eg rfl (by assumption) rfl ?_ | refine ean rfl (by assumption) (by assumption) rfl ?_ | refine eal rfl (by assumption) (by assumption) rfl ?_ | refine eri rfl ?_ | refine erv rfl ?_ | refine erl rfl ?_ | refine era rfl ?_ | refine erz0 rfl ?_ | refine erz1 rfl ?_ | refine ean0 rfl (by assumption) (by assumption) rfl ?_ | refine ean8 rfl (by assumption) (by assumption) rfl ?_ | refine ean12 rfl (by assumption) (by assumption) rfl ?_ | refine ean7 rfl (by assumption) (by assumption) rfl ?_)
    try dsimp only [set1, set2, kilP, List.set_cons_zero, List.set_cons_succ, List.getElem?_cons_zero, List.getElem?_cons_succ, List.nil_append, List.cons_append, Option.toList_some, Option.toList_none]
    exact Pq.dn hY9 (hF.tr (hF9.wide (lo2 := b) (n2 := 16) (by omega) (by omega)) (by omega) (by omega))
  rw [if_neg c1]
  obtain ⟨r, ⟨pa, pm⟩, qr⟩ := oq
  have ea : pa = nI σ.ac.length := hR.2.2.2.2.2.2.1
  have em : pm = nI σ.mk.length := hR.2.2.2.2.2.2.2.1
  subst ea
  subst em
  repeat (first | refine es rfl rfl rfl ?_ | refine eg rfl (by assumption) rfl ?_ | refine ean rfl (by assumption) (by assumption) rfl ?_ | refine eal rfl (by assumption) (by assumption) rfl ?_ | refine eri rfl ?_ | refine erv rfl ?_ | refine erl rfl ?_ | refine era rfl ?_ | refine erz0 rfl ?_ | refine erz1 rfl ?_ | refine ean0 rfl (by assumption) (by assumption) rfl ?_ | refine ean8 rfl (by assumption) (by assumption) rfl ?_ | refine ean12 rfl (by assumption) (by assumption) rfl ?_ | refine ean7 rfl (by assumption) (by assumption) rfl ?_)
  try dsimp only [set1, set2, kilP, List.set_cons_zero, List.set_cons_succ, List.getElem?_cons_zero, List.getElem?_cons_succ, List.nil_append, List.cons_append, Option.toList_some, Option.toList_none]
  refine ecv rfl rfl (by assumption) rfl rfl rfl (y_rem hR.1 hpa hv) (by first | rfl | exact Nat.blt_eq.mpr (by omega)) ?_
  rintro v M3 ⟨rfl, ps, hy3, hp3, hF3⟩
  have q0 := hy3.1
  have q2 : M3.1 (b + 2) = ints 16 (A 2) := hy3.c.2.1
  try dsimp only [set1, set2, kilP, List.set_cons_zero, List.set_cons_succ, List.getElem?_cons_zero, List.getElem?_cons_succ, List.nil_append, List.cons_append, Option.toList_some, Option.toList_none]
  repeat (first | refine es rfl rfl rfl ?_ | refine eg rfl (by assumption) rfl ?_ | refine ean rfl (by assumption) (by assumption) rfl ?_ | refine eal rfl (by assumption) (by assumption) rfl ?_ | refine eri rfl ?_ | refine erv rfl ?_ | refine erl rfl ?_ | refine era rfl ?_ | refine erz0 rfl ?_ | refine erz1 rfl ?_ | refine ean0 rfl (by assumption) (by assumption) rfl ?_ | refine ean8 rfl (by assumption) (by assumption) rfl ?_ | refine ean12 rfl (by assumption) (by assumption) rfl ?_ | refine ean7 rfl (by assumption) (by assumption) rfl ?_)
  try dsimp only [set1, set2, kilP, List.set_cons_zero, List.set_cons_succ, List.getElem?_cons_zero, List.getElem?_cons_succ, List.nil_append, List.cons_append, Option.toList_some, Option.toList_none]
  refine etM rfl q2 h7 rfl (fun M4 eM4 => ?_)
  have hy4 := hy3.ar (k := 2) eM4 (by omega)
  have hF4 := hF3.up eM4 (by omega) (by omega)
  have hY4 : YR M4 b (σ.tp, σ.ts, σ.T, upd σ.f 7 (σ.f 7 ^^^ ((1 : Int32) <<< (nI k &&& 31))), (σ.f :: σ.ac).take 16, σ.mk, σ.tr, σ.fn, σ.fp) := by
    refine hR.np hy4 hF4 rfl rfl (fun q hq => ?_) hp3 hmk
    show upd (A 2) 7 (A 2 7 ^^^ ((1 : Int32) <<< (nI k &&& 31))) q = _
    rw [hv 7 h7]
    by_cases e : q = 7
    · rw [e, pk_us, pk_us]
    · rw [pk_un e, pk_un e]; exact hv q hq
  have s0 := hy4.1
  repeat (first | refine es rfl rfl rfl ?_ | refine eg rfl (by assumption) rfl ?_ | refine ean rfl (by assumption) (by assumption) rfl ?_ | refine eal rfl (by assumption) (by assumption) rfl ?_ | refine eri rfl ?_ | refine erv rfl ?_ | refine erl rfl ?_ | refine era rfl ?_ | refine erz0 rfl ?_ | refine erz1 rfl ?_ | refine ean0 rfl (by assumption) (by assumption) rfl ?_ | refine ean8 rfl (by assumption) (by assumption) rfl ?_ | refine ean12 rfl (by assumption) (by assumption) rfl ?_ | refine ean7 rfl (by assumption) (by assumption) rfl ?_)
  try dsimp only [set1, set2, kilP, List.set_cons_zero, List.set_cons_succ, List.getElem?_cons_zero, List.getElem?_cons_succ, List.nil_append, List.cons_append, Option.toList_some, Option.toList_none]
  refine ecv rfl rfl (by assumption) rfl rfl rfl (y_grant hY4) (by first | rfl | exact Nat.blt_eq.mpr (by omega)) ?_
  rintro v M6 ⟨rfl, hY6, hF6⟩
  try dsimp only [set1, set2, kilP, List.set_cons_zero, List.set_cons_succ, List.getElem?_cons_zero, List.getElem?_cons_succ, List.nil_append, List.cons_append, Option.toList_some, Option.toList_none]
  repeat (first | refine es rfl rfl rfl ?_ | refine eg rfl (by assumption) rfl ?_ | refine ean rfl (by assumption) (by assumption) rfl ?_ | refine eal rfl (by assumption) (by assumption) rfl ?_ | refine eri rfl ?_ | refine erv rfl ?_ | refine erl rfl ?_ | refine era rfl ?_ | refine erz0 rfl ?_ | refine erz1 rfl ?_ | refine ean0 rfl (by assumption) (by assumption) rfl ?_ | refine ean8 rfl (by assumption) (by assumption) rfl ?_ | refine ean12 rfl (by assumption) (by assumption) rfl ?_ | refine ean7 rfl (by assumption) (by assumption) rfl ?_)
  try dsimp only [set1, set2, kilP, List.set_cons_zero, List.set_cons_succ, List.getElem?_cons_zero, List.getElem?_cons_succ, List.nil_append, List.cons_append, Option.toList_some, Option.toList_none]
  exact Pq.eq hY6 ((hF.tr hF4 (by omega) (by omega)).tr (hF6.wide (lo2 := b) (n2 := 16) (by omega) (by omega)) (by omega) (by omega))
theorem y_waits {x y : Int32} (hY : YR M b σ) (hI : Inv σ C) : EvM ad 4 (iX13_waits ad) [.ref b, .int x, .int y] M (Pq b M (spWaits σ x y)) := by
  have hn7 := hI.n7
  have hp4 := hI.p4
  unfold spWaits
  refine ⟨Nat.le_of_ble_eq_true rfl, ?_⟩
  show Ev ad _ (rX13_waits ad) (0, [some (.ref b), some (.int x), some (.int y)], [], M) _
  refine yEn rfl rfl rfl hY (fun M1 hY hF _ => ?_)
  obtain ⟨⟨oa, ⟨tw, rd⟩, oq⟩, A, hR⟩ := id hY
  have h0 := hR.1.1
  have h2 := hR.1.c.2.1
  repeat (first | refine es rfl rfl rfl ?_ | refine eg rfl (by assumption) rfl ?_ | refine ean rfl (by assumption) (by assumption) rfl ?_ | refine eal rfl (by assumption) (by assumption) rfl ?_ | refine eri rfl ?_ | refine erv rfl ?_ | refine erl rfl ?_ | refine era rfl ?_ | refine erz0 rfl ?_ | refine erz1 rfl ?_ | refine ean0 rfl (by assumption) (by assumption) rfl ?_ | refine ean8 rfl (by assumption) (by assumption) rfl ?_ | refine ean12 rfl (by assumption) (by assumption) rfl ?_ | refine ean7 rfl (by assumption) (by assumption) rfl ?_)
  try dsimp only [set1, set2, kilP, List.set_cons_zero, List.set_cons_succ, List.getElem?_cons_zero, List.getElem?_cons_succ, List.nil_append, List.cons_append, Option.toList_some, Option.toList_none]
  refine ecr rfl rfl (by assumption) rfl rfl rfl (y_isP hY hI) (by first | rfl | exact Nat.blt_eq.mpr (by omega)) rfl ?_
  by_cases c : isP σ x
  rotate_left
  · rw [if_neg c, show bI (isP σ x) = 0 from if_neg c]
    repeat (first | refine es rfl rfl rfl ?_ | refine eg rfl (by assumption) rfl ?_ | refine ean rfl (by assumption) (by assumption) rfl ?_ | refine eal rfl (by assumption) (by assumption) rfl ?_ | refine eri rfl ?_ | refine erv rfl ?_ | refine erl rfl ?_ | refine era rfl ?_ | refine erz0 rfl ?_ | refine erz1 rfl ?_ | refine ean0 rfl (by assumption) (by assumption) rfl ?_ | refine ean8 rfl (by assumption) (by assumption) rfl ?_ | refine ean12 rfl (by assumption) (by assumption) rfl ?_ | refine ean7 rfl (by assumption) (by assumption) rfl ?_)
    try dsimp only [set1, set2, kilP, List.set_cons_zero, List.set_cons_succ, List.getElem?_cons_zero, List.getElem?_cons_succ, List.nil_append, List.cons_append, Option.toList_some, Option.toList_none]
    refine ecv rfl rfl (by assumption) rfl rfl rfl (y_ref hY (by decide)) (by first | rfl | exact Nat.blt_eq.mpr (by omega)) ?_
    rintro v M9 ⟨rfl, hY9, hF9⟩
    try dsimp only [set1, set2, kilP, List.set_cons_zero, List.set_cons_succ, List.getElem?_cons_zero, List.getElem?_cons_succ, List.nil_append, List.cons_append, Option.toList_some, Option.toList_none]
    repeat (first | refine es rfl rfl rfl ?_ | refine eg rfl (by assumption) rfl ?_ | refine ean rfl (by assumption) (by assumption) rfl ?_ | refine eal rfl (by assumption) (by assumption) rfl ?_ | refine eri rfl ?_ | refine erv rfl ?_ | refine erl rfl ?_ | refine era rfl ?_ | refine erz0 rfl ?_ | refine erz1 rfl ?_ | refine ean0 rfl (by assumption) (by assumption) rfl ?_ | refine ean8 rfl (by assumption) (by assumption) rfl ?_ | refine ean12 rfl (by assumption) (by assumption) rfl ?_ | refine ean7 rfl (by assumption) (by assumption) rfl ?_)
    try dsimp only [set1, set2, kilP, List.set_cons_zero, List.set_cons_succ, List.getElem?_cons_zero, List.getElem?_cons_succ, List.nil_append, List.cons_append, Option.toList_some, Option.toList_none]
    exact Pq.rf hY9 (hF.tr (hF9.wide (lo2 := b) (n2 := 16) (by omega) (by omega)) (by omega) (by omega))
  rw [if_pos c, show bI (isP σ x) = 1 from if_pos c]
  obtain ⟨k, hk, rfl⟩ := isP_k hp4 c
  have hk4 : k < 4 := by omega
  have hk8 : 8 + k < 16 := by omega
  have hk12 : 12 + k < 16 := by omega
  repeat (first | refine es rfl rfl rfl ?_ | refine eg rfl (by assumption) rfl ?_ | refine ean rfl (by assumption) (by assumption) rfl ?_ | refine eal rfl (by assumption) (by assumption) rfl ?_ | refine eri rfl ?_ | refine erv rfl ?_ | refine erl rfl ?_ | refine era rfl ?_ | refine erz0 rfl ?_ | refine erz1 rfl ?_ | refine ean0 rfl (by assumption) (by assumption) rfl ?_ | refine ean8 rfl (by assumption) (by assumption) rfl ?_ | refine ean12 rfl (by assumption) (by assumption) rfl ?_ | refine ean7 rfl (by assumption) (by assumption) rfl ?_)
  try dsimp only [set1, set2, kilP, List.set_cons_zero, List.set_cons_succ, List.getElem?_cons_zero, List.getElem?_cons_succ, List.nil_append, List.cons_append, Option.toList_some, Option.toList_none]
  refine ecsr rfl rfl rfl rfl rfl rfl (y_in) (by first | rfl | exact Nat.blt_eq.mpr (by omega)) rfl ?_
  by_cases c2 : (1 : Int32) ≤ y ∧ y ≤ 999
  rotate_left
  · rw [if_neg c2, show bI ((1 : Int32) ≤ y ∧ y ≤ 999) = 0 from if_neg c2]
    repeat (first | refine es rfl rfl rfl ?_ | refine eg rfl (by assumption) rfl ?_ | refine ean rfl (by assumption) (by assumption) rfl ?_ | refine eal rfl (by assumption) (by assumption) rfl ?_ | refine eri rfl ?_ | refine erv rfl ?_ | refine erl rfl ?_ | refine era rfl ?_ | refine erz0 rfl ?_ | refine erz1 rfl ?_ | refine ean0 rfl (by assumption) (by assumption) rfl ?_ | refine ean8 rfl (by assumption) (by assumption) rfl ?_ | refine ean12 rfl (by assumption) (by assumption) rfl ?_ | refine ean7 rfl (by assumption) (by assumption) rfl ?_)
    try dsimp only [set1, set2, kilP, List.set_cons_zero, List.set_cons_succ, List.getElem?_cons_zero, List.getElem?_cons_succ, List.nil_append, List.cons_append, Option.toList_some, Option.toList_none]
    refine ecv rfl rfl (by assumption) rfl rfl rfl (y_ref hY (by decide)) (by first | rfl | exact Nat.blt_eq.mpr (by omega)) ?_
    rintro v M9 ⟨rfl, hY9, hF9⟩
    try dsimp only [set1, set2, kilP, List.set_cons_zero, List.set_cons_succ, List.getElem?_cons_zero, List.getElem?_cons_succ, List.nil_append, List.cons_append, Option.toList_some, Option.toList_none]
    repeat (first | refine es rfl rfl rfl ?_ | refine eg rfl (by assumption) rfl ?_ | refine ean rfl (by assumption) (by assumption) rfl ?_ | refine eal rfl (by assumption) (by assumption) rfl ?_ | refine eri rfl ?_ | refine erv rfl ?_ | refine erl rfl ?_ | refine era rfl ?_ | refine erz0 rfl ?_ | refine erz1 rfl ?_ | refine ean0 rfl (by assumption) (by assumption) rfl ?_ | refine ean8 rfl (by assumption) (by assumption) rfl ?_ | refine ean12 rfl (by assumption) (by assumption) rfl ?_ | refine ean7 rfl (by assumption) (by assumption) rfl ?_)
    try dsimp only [set1, set2, kilP, List.set_cons_zero, List.set_cons_succ, List.getElem?_cons_zero, List.getElem?_cons_succ, List.nil_append, List.cons_append, Option.toList_some, Option.toList_none]
    exact Pq.rf hY9 (hF.tr (hF9.wide (lo2 := b) (n2 := 16) (by omega) (by omega)) (by omega) (by omega))
  rw [if_pos c2, show bI ((1 : Int32) ≤ y ∧ y ≤ 999) = 1 from if_pos c2]
  have hno : ¬ σ.T.hs.n = 0 := fun q => by have := (hI.2.1 q).1.2.2.1; omega
  obtain ⟨n1, a, t0, a1, a2, hM, hv, hpa, hmk, hfa⟩ := hR.2.2.2.2.2.2.2.2.2.resolve_left (fun q => by have := q.1; omega)
  replace t0 : tw = .ref a := t0
  subst t0
  obtain ⟨kn, Am, Bm, m0, mc, mH, mS, mP, mC, mN⟩ := id hM
  obtain ⟨m1, m2, m3, m4, m5, m6, m7, m8, m9, m10, m11, m12, m13, m14, m15, m16, m17⟩ := id mc
  rw [nI_clamp (by omega)]
  obtain ⟨r, ⟨pa, pm⟩, qr⟩ := oq
  have ea : pa = nI σ.ac.length := hR.2.2.2.2.2.2.1
  have em : pm = nI σ.mk.length := hR.2.2.2.2.2.2.2.1
  subst ea
  subst em
  repeat (first | refine es rfl rfl rfl ?_ | refine eg rfl (by assumption) rfl ?_ | refine ean rfl (by assumption) (by assumption) rfl ?_ | refine eal rfl (by assumption) (by assumption) rfl ?_ | refine eri rfl ?_ | refine erv rfl ?_ | refine erl rfl ?_ | refine era rfl ?_ | refine erz0 rfl ?_ | refine erz1 rfl ?_ | refine ean0 rfl (by assumption) (by assumption) rfl ?_ | refine ean8 rfl (by assumption) (by assumption) rfl ?_ | refine ean12 rfl (by assumption) (by assumption) rfl ?_ | refine ean7 rfl (by assumption) (by assumption) rfl ?_)
  try dsimp only [set1, set2, kilP, List.set_cons_zero, List.set_cons_succ, List.getElem?_cons_zero, List.getElem?_cons_succ, List.nil_append, List.cons_append, Option.toList_some, Option.toList_none]
  refine ecv rfl rfl (by assumption) rfl rfl rfl (y_rem hR.1 hpa hv) (by first | rfl | exact Nat.blt_eq.mpr (by omega)) ?_
  rintro v M3 ⟨rfl, ps, hy3, hp3, hF3⟩
  have q0 := hy3.1
  have q2 : M3.1 (b + 2) = ints 16 (A 2) := hy3.c.2.1
  try dsimp only [set1, set2, kilP, List.set_cons_zero, List.set_cons_succ, List.getElem?_cons_zero, List.getElem?_cons_succ, List.nil_append, List.cons_append, Option.toList_some, Option.toList_none]
  repeat (first | refine es rfl rfl rfl ?_ | refine eg rfl (by assumption) rfl ?_ | refine ean rfl (by assumption) (by assumption) rfl ?_ | refine eal rfl (by assumption) (by assumption) rfl ?_ | refine eri rfl ?_ | refine erv rfl ?_ | refine erl rfl ?_ | refine era rfl ?_ | refine erz0 rfl ?_ | refine erz1 rfl ?_ | refine ean0 rfl (by assumption) (by assumption) rfl ?_ | refine ean8 rfl (by assumption) (by assumption) rfl ?_ | refine ean12 rfl (by assumption) (by assumption) rfl ?_ | refine ean7 rfl (by assumption) (by assumption) rfl ?_)
  try dsimp only [set1, set2, kilP, List.set_cons_zero, List.set_cons_succ, List.getElem?_cons_zero, List.getElem?_cons_succ, List.nil_append, List.cons_append, Option.toList_some, Option.toList_none]
  rw [show (12 : Int32) + nI k = nI (12 + k) from nI_add 12 k]
  refine etM rfl q2 hk12 rfl (fun M4 eM4 => ?_)
  have hy4 := hy3.ar (k := 2) eM4 (by omega)
  have hF4 := hF3.up eM4 (by omega) (by omega)
  have r0 := hy4.1
  have r2 : M4.1 (b + 2) = ints 16 (upd (A 2) (12 + k) (A 2 (12 + k) + y)) := hy4.c.2.1
  have hY : YR M4 b (σ.tp, σ.ts, σ.T, movF σ.f k (σ.f (8 + k)) y, (σ.f :: σ.ac).take 16, σ.mk, σ.tr, σ.fn, σ.fp) := by
    refine hR.np hy4 hF4 rfl rfl (fun q hq => ?_) hp3 hmk
    show upd (A 2) (12 + k) (A 2 (12 + k) + y) q = _
    unfold movF
    rw [hv _ hk12]
    by_cases e : q = 12 + k
    · rw [e, pk_us, pk_us]
    · rw [pk_un e, pk_un e]
      by_cases e2 : q = 8 + k
      · rw [e2, pk_us]; exact hv _ hk8
      · rw [pk_un e2]; exact hv q hq
  repeat (first | refine es rfl rfl rfl ?_ | refine eg rfl (by assumption) rfl ?_ | refine ean rfl (by assumption) (by assumption) rfl ?_ | refine eal rfl (by assumption) (by assumption) rfl ?_ | refine eri rfl ?_ | refine erv rfl ?_ | refine erl rfl ?_ | refine era rfl ?_ | refine erz0 rfl ?_ | refine erz1 rfl ?_ | refine ean0 rfl (by assumption) (by assumption) rfl ?_ | refine ean8 rfl (by assumption) (by assumption) rfl ?_ | refine ean12 rfl (by assumption) (by assumption) rfl ?_ | refine ean7 rfl (by assumption) (by assumption) rfl ?_)
  try dsimp only [set1, set2, kilP, List.set_cons_zero, List.set_cons_succ, List.getElem?_cons_zero, List.getElem?_cons_succ, List.nil_append, List.cons_append, Option.toList_some, Option.toList_none]
  rw [pk_us, hv _ hk12]
  repeat (first | refine es rfl rfl rfl ?_ | refine eg rfl (by assumption) rfl ?_ | refine ean rfl (by assumption) (by assumption) rfl ?_ | refine eal rfl (by assumption) (by assumption) rfl ?_ | refine eri rfl ?_ | refine erv rfl ?_ | refine erl rfl ?_ | refine era rfl ?_ | refine erz0 rfl ?_ | refine erz1 rfl ?_ | refine ean0 rfl (by assumption) (by assumption) rfl ?_ | refine ean8 rfl (by assumption) (by assumption) rfl ?_ | refine ean12 rfl (by assumption) (by assumption) rfl ?_ | refine ean7 rfl (by assumption) (by assumption) rfl ?_)
  try dsimp only [set1, set2, kilP, List.set_cons_zero, List.set_cons_succ, List.getElem?_cons_zero, List.getElem?_cons_succ, List.nil_append, List.cons_append, Option.toList_some, Option.toList_none]
  refine ecv rfl rfl (by assumption) rfl rfl rfl (y_good hY) (by first | rfl | exact Nat.blt_eq.mpr (by omega)) ?_
  rintro v M6 ⟨rfl, hY6, hF6⟩
  try dsimp only [set1, set2, kilP, List.set_cons_zero, List.set_cons_succ, List.getElem?_cons_zero, List.getElem?_cons_succ, List.nil_append, List.cons_append, Option.toList_some, Option.toList_none]
  repeat (first | refine es rfl rfl rfl ?_ | refine eg rfl (by assumption) rfl ?_ | refine ean rfl (by assumption) (by assumption) rfl ?_ | refine eal rfl (by assumption) (by assumption) rfl ?_ | refine eri rfl ?_ | refine erv rfl ?_ | refine erl rfl ?_ | refine era rfl ?_ | refine erz0 rfl ?_ | refine erz1 rfl ?_ | refine ean0 rfl (by assumption) (by assumption) rfl ?_ | refine ean8 rfl (by assumption) (by assumption) rfl ?_ | refine ean12 rfl (by assumption) (by assumption) rfl ?_ | refine ean7 rfl (by assumption) (by assumption) rfl ?_)
  try dsimp only [set1, set2, kilP, List.set_cons_zero, List.set_cons_succ, List.getElem?_cons_zero, List.getElem?_cons_succ, List.nil_append, List.cons_append, Option.toList_some, Option.toList_none]
  exact Pq.eq hY6 ((hF.tr hF4 (by omega) (by omega)).tr (hF6.wide (lo2 := b) (n2 := 16) (by omega) (by omega)) (by omega) (by omega))
theorem y_undo_loop {oa : Int32 × Int32 × Int32} {ow : Value × Value} {r : Yr} {qr : (Int32 × Int32) × (Int32 × Int32 × Int32) × (Int32 × Int32) × Int32} {mk : Int32} {N : Nat} {A : Ar} {M0 : Mm} {P : Option Value → Mm → Prop} (hN : N < 16) (k : ∀ M p, aY M b (oa, ow, r, (nI N, mk), qr) (sA A 2 p) → Fr b 16 M0 M → (∀ j, j < 16 → p j = A 3 (16 * N + j)) → ∀ L1, Ev ad 3 (rX13_undo ad) (70, [some (.ref b), L1], [], M) P) : ∀ (n i : Nat) (M : Mm) (p : Nat → Int32), aY M b (oa, ow, r, (nI N, mk), qr) (sA A 2 p) → Fr b 16 M0 M → i + n = 16 → (∀ j, j < i → p j = A 3 (16 * N + j)) → Ev ad 3 (rX13_undo ad) (38, [some (.ref b), some (.int (nI i))], [], M) P := by
  intro n
  induction n with
  | zero =>
    intro i M p hy hF hi q1
    have h0 := hy.1
    repeat (first | refine es rfl rfl rfl ?_ | refine eg rfl (by assumption) rfl ?_ | refine ean rfl (by assumption) (by assumption) rfl ?_ | refine eal rfl (by assumption) (by assumption) rfl ?_ | refine eri rfl ?_ | refine erv rfl ?_ | refine erl rfl ?_ | refine era rfl ?_ | refine erz0 rfl ?_ | refine erz1 rfl ?_ | refine ean0 rfl (by assumption) (by assumption) rfl ?_ | refine ean8 rfl (by assumption) (by assumption) rfl ?_ | refine ean12 rfl (by assumption) (by assumption) rfl ?_ | refine ean7 rfl (by assumption) (by assumption) rfl ?_)
    try dsimp only [set1, set2, kilP, List.set_cons_zero, List.set_cons_succ, List.getElem?_cons_zero, List.getElem?_cons_succ, List.nil_append, List.cons_append, Option.toList_some, Option.toList_none]
    refine ei _ rfl rfl (fun c => ?_) (fun c => ?_)
    · exact k M p hy hF (fun j hj => q1 j (by omega)) _
    · exact absurd (show (16 : Int32) ≤ nI i from nI_le (a := 16) (by omega) (by omega)) c
  | succ n ih =>
    intro i M p hy hF hi q1
    have h0 := hy.1
    have h2 : M.1 (b + 2) = ints 16 p := hy.c.2.1
    have h3 : M.1 (b + 3) = ints 256 (A 3) := hy.c.2.2.1
    have hi1 : i < 16 := by omega
    have hi2 : 16 * N + i < 256 := by omega
    repeat (first | refine es rfl rfl rfl ?_ | refine eg rfl (by assumption) rfl ?_ | refine ean rfl (by assumption) (by assumption) rfl ?_ | refine eal rfl (by assumption) (by assumption) rfl ?_ | refine eri rfl ?_ | refine erv rfl ?_ | refine erl rfl ?_ | refine era rfl ?_ | refine erz0 rfl ?_ | refine erz1 rfl ?_ | refine ean0 rfl (by assumption) (by assumption) rfl ?_ | refine ean8 rfl (by assumption) (by assumption) rfl ?_ | refine ean12 rfl (by assumption) (by assumption) rfl ?_ | refine ean7 rfl (by assumption) (by assumption) rfl ?_)
    try dsimp only [set1, set2, kilP, List.set_cons_zero, List.set_cons_succ, List.getElem?_cons_zero, List.getElem?_cons_succ, List.nil_append, List.cons_append, Option.toList_some, Option.toList_none]
    refine ei _ rfl rfl (fun c => ?_) (fun c => ?_)
    · exact absurd c (nI_ge (b := 16) (by omega) (by omega))
    · repeat (first | refine es rfl rfl rfl ?_ | refine eg rfl (by assumption) rfl ?_ | refine ean rfl (by assumption) (by assumption) rfl ?_ | refine eal rfl (by assumption) (by assumption) rfl ?_ | refine eri rfl ?_ | refine erv rfl ?_ | refine erl rfl ?_ | refine era rfl ?_ | refine erz0 rfl ?_ | refine erz1 rfl ?_ | refine ean0 rfl (by assumption) (by assumption) rfl ?_ | refine ean8 rfl (by assumption) (by assumption) rfl ?_ | refine ean12 rfl (by assumption) (by assumption) rfl ?_ | refine ean7 rfl (by assumption) (by assumption) rfl ?_)
      try dsimp only [set1, set2, kilP, List.set_cons_zero, List.set_cons_succ, List.getElem?_cons_zero, List.getElem?_cons_succ, List.nil_append, List.cons_append, Option.toList_some, Option.toList_none]
      rw [show (16 : Int32) * nI N + nI i = nI (16 * N + i) by rw [show (16 : Int32) * nI N = nI (16 * N) from pk_mul 16 N, nI_add]]
      repeat (first | refine es rfl rfl rfl ?_ | refine eg rfl (by assumption) rfl ?_ | refine ean rfl (by assumption) (by assumption) rfl ?_ | refine eal rfl (by assumption) (by assumption) rfl ?_ | refine eri rfl ?_ | refine erv rfl ?_ | refine erl rfl ?_ | refine era rfl ?_ | refine erz0 rfl ?_ | refine erz1 rfl ?_ | refine ean0 rfl (by assumption) (by assumption) rfl ?_ | refine ean8 rfl (by assumption) (by assumption) rfl ?_ | refine ean12 rfl (by assumption) (by assumption) rfl ?_ | refine ean7 rfl (by assumption) (by assumption) rfl ?_)
      try dsimp only [set1, set2, kilP, List.set_cons_zero, List.set_cons_succ, List.getElem?_cons_zero, List.getElem?_cons_succ, List.nil_append, List.cons_append, Option.toList_some, Option.toList_none]
      refine etM rfl h2 hi1 rfl (fun M2 eM => ?_)
      repeat (refine ng 38 rfl ?_; first | refine es rfl rfl rfl ?_ | refine eg rfl (by assumption) rfl ?_ | refine ean rfl (by assumption) (by assumption) rfl ?_ | refine eal rfl (by assumption) (by assumption) rfl ?_ | refine eri rfl ?_ | refine erv rfl ?_ | refine erl rfl ?_ | refine era rfl ?_ | refine erz0 rfl ?_ | refine erz1 rfl ?_ | refine ean0 rfl (by assumption) (by assumption) rfl ?_ | refine ean8 rfl (by assumption) (by assumption) rfl ?_ | refine ean12 rfl (by assumption) (by assumption) rfl ?_ | refine ean7 rfl (by assumption) (by assumption) rfl ?_)
      try dsimp only [set1, set2, kilP, List.set_cons_zero, List.set_cons_succ, List.getElem?_cons_zero, List.getElem?_cons_succ, List.nil_append, List.cons_append, Option.toList_some, Option.toList_none]
      rw [nI_1]
      refine ih (i + 1) M2 _ (hy.ar2 (k := 2) eM (by omega)) (hF.up eM (by omega) (by omega)) (by omega) (fun j hj => ?_)
      by_cases e : j = i
      · rw [e, pk_us]
      · rw [pk_un (by omega)]; exact q1 j (by omega)
theorem y_undo (hY : YR M b σ) (hI : Inv σ C) : EvM ad 3 (iX13_undo ad) [.ref b] M (Pq b M (spUndo σ)) := by
  unfold spUndo
  refine ⟨Nat.le_of_ble_eq_true rfl, ?_⟩
  show Ev ad _ (rX13_undo ad) (0, [some (.ref b), none], [], M) _
  refine yEn rfl rfl rfl hY (fun M1 hY hF _ => ?_)
  obtain ⟨⟨oa, ⟨tw, rd⟩, oq⟩, A, hR⟩ := id hY
  have h0 := hR.1.1
  have h2 := hR.1.c.2.1
  by_cases hno : σ.T.hs.n = 0
  · obtain ⟨_, t0⟩ := hR.2.2.2.2.2.2.2.2.2.resolve_right (fun q => by have := q.1; omega)
    replace t0 : tw = .null := t0
    subst t0
    rw [(hI.2.1 hno).2.2.2.1]
    repeat (first | refine es rfl rfl rfl ?_ | refine eg rfl (by assumption) rfl ?_ | refine ean rfl (by assumption) (by assumption) rfl ?_ | refine eal rfl (by assumption) (by assumption) rfl ?_ | refine eri rfl ?_ | refine erv rfl ?_ | refine erl rfl ?_ | refine era rfl ?_ | refine erz0 rfl ?_ | refine erz1 rfl ?_ | refine ean0 rfl (by assumption) (by assumption) rfl ?_ | refine ean8 rfl (by assumption) (by assumption) rfl ?_ | refine ean12 rfl (by assumption) (by assumption) rfl ?_ | refine ean7 rfl (by assumption) (by assumption) rfl ?_)
    try dsimp only [set1, set2, kilP, List.set_cons_zero, List.set_cons_succ, List.getElem?_cons_zero, List.getElem?_cons_succ, List.nil_append, List.cons_append, Option.toList_some, Option.toList_none]
    refine ecv rfl rfl (by assumption) rfl rfl rfl (y_deny hY (by decide)) (by first | rfl | exact Nat.blt_eq.mpr (by omega)) ?_
    rintro v M9 ⟨rfl, hY9, hF9⟩
    try dsimp only [set1, set2, kilP, List.set_cons_zero, List.set_cons_succ, List.getElem?_cons_zero, List.getElem?_cons_succ, List.nil_append, List.cons_append, Option.toList_some, Option.toList_none]
    repeat (first | refine es rfl rfl rfl ?_ | refine eg rfl (by assumption) rfl ?_ | refine ean rfl (by assumption) (by assumption) rfl ?_ | refine eal rfl (by assumption) (by assumption) rfl ?_ | refine eri rfl ?_ | refine erv rfl ?_ | refine erl rfl ?_ | refine era rfl ?_ | refine erz0 rfl ?_ | refine erz1 rfl ?_ | refine ean0 rfl (by assumption) (by assumption) rfl ?_ | refine ean8 rfl (by assumption) (by assumption) rfl ?_ | refine ean12 rfl (by assumption) (by assumption) rfl ?_ | refine ean7 rfl (by assumption) (by assumption) rfl ?_)
    try dsimp only [set1, set2, kilP, List.set_cons_zero, List.set_cons_succ, List.getElem?_cons_zero, List.getElem?_cons_succ, List.nil_append, List.cons_append, Option.toList_some, Option.toList_none]
    exact Pq.dn hY9 (hF.tr (hF9.wide (lo2 := b) (n2 := 16) (by omega) (by omega)) (by omega) (by omega))
  obtain ⟨n1, a, t0, a1, a2, hM, hv, hpa, hmk, hfa⟩ := hR.2.2.2.2.2.2.2.2.2.resolve_left (fun q => by have := q.1; omega)
  replace t0 : tw = .ref a := t0
  subst t0
  obtain ⟨kn, Am, Bm, m0, mc, mH, mS, mP, mC, mN⟩ := id hM
  obtain ⟨m1, m2, m3, m4, m5, m6, m7, m8, m9, m10, m11, m12, m13, m14, m15, m16, m17⟩ := id mc
  obtain ⟨r, ⟨pa, pm⟩, qr⟩ := oq
  have ea : pa = nI σ.ac.length := hR.2.2.2.2.2.2.1
  have em : pm = nI σ.mk.length := hR.2.2.2.2.2.2.2.1
  subst ea
  subst em
  cases hac : σ.ac with
  | nil =>
    rw [hac] at hR h0
    repeat (first | refine es rfl rfl rfl ?_ | refine eg rfl (by assumption) rfl ?_ | refine ean rfl (by assumption) (by assumption) rfl ?_ | refine eal rfl (by assumption) (by assumption) rfl ?_ | refine eri rfl ?_ | refine erv rfl ?_ | refine erl rfl ?_ | refine era rfl ?_ | refine erz0 rfl ?_ | refine erz1 rfl ?_ | refine ean0 rfl (by assumption) (by assumption) rfl ?_ | refine ean8 rfl (by assumption) (by assumption) rfl ?_ | refine ean12 rfl (by assumption) (by assumption) rfl ?_ | refine ean7 rfl (by assumption) (by assumption) rfl ?_)
    try dsimp only [set1, set2, kilP, List.set_cons_zero, List.set_cons_succ, List.getElem?_cons_zero, List.getElem?_cons_succ, List.nil_append, List.cons_append, Option.toList_some, Option.toList_none]
    repeat (first | refine es rfl rfl rfl ?_ | refine eg rfl (by assumption) rfl ?_ | refine ean rfl (by assumption) (by assumption) rfl ?_ | refine eal rfl (by assumption) (by assumption) rfl ?_ | refine eri rfl ?_ | refine erv rfl ?_ | refine erl rfl ?_ | refine era rfl ?_ | refine erz0 rfl ?_ | refine erz1 rfl ?_ | refine ean0 rfl (by assumption) (by assumption) rfl ?_ | refine ean8 rfl (by assumption) (by assumption) rfl ?_ | refine ean12 rfl (by assumption) (by assumption) rfl ?_ | refine ean7 rfl (by assumption) (by assumption) rfl ?_)
    try dsimp only [set1, set2, kilP, List.set_cons_zero, List.set_cons_succ, List.getElem?_cons_zero, List.getElem?_cons_succ, List.nil_append, List.cons_append, Option.toList_some, Option.toList_none]
    refine ecv rfl rfl (by assumption) rfl rfl rfl (y_deny hY (by decide)) (by first | rfl | exact Nat.blt_eq.mpr (by omega)) ?_
    rintro v M9 ⟨rfl, hY9, hF9⟩
    try dsimp only [set1, set2, kilP, List.set_cons_zero, List.set_cons_succ, List.getElem?_cons_zero, List.getElem?_cons_succ, List.nil_append, List.cons_append, Option.toList_some, Option.toList_none]
    repeat (first | refine es rfl rfl rfl ?_ | refine eg rfl (by assumption) rfl ?_ | refine ean rfl (by assumption) (by assumption) rfl ?_ | refine eal rfl (by assumption) (by assumption) rfl ?_ | refine eri rfl ?_ | refine erv rfl ?_ | refine erl rfl ?_ | refine era rfl ?_ | refine erz0 rfl ?_ | refine erz1 rfl ?_ | refine ean0 rfl (by assumption) (by assumption) rfl ?_ | refine ean8 rfl (by assumption) (by assumption) rfl ?_ | refine ean12 rfl (by assumption) (by assumption) rfl ?_ | refine ean7 rfl (by assumption) (by assumption) rfl ?_)
    try dsimp only [set1, set2, kilP, List.set_cons_zero, List.set_cons_succ, List.getElem?_cons_zero, List.getElem?_cons_succ, List.nil_append, List.cons_append, Option.toList_some, Option.toList_none]
    exact Pq.dn hY9 (hF.tr (hF9.wide (lo2 := b) (n2 := 16) (by omega) (by omega)) (by omega) (by omega))
  | cons f0 ac =>
    rw [hac] at hpa
    have hl := hpa.1
    rw [List.length_cons] at hl
    have e1 : σ.ac.length = ac.length + 1 := by rw [hac]; rfl
    repeat (first | refine es rfl rfl rfl ?_ | refine eg rfl (by assumption) rfl ?_ | refine ean rfl (by assumption) (by assumption) rfl ?_ | refine eal rfl (by assumption) (by assumption) rfl ?_ | refine eri rfl ?_ | refine erv rfl ?_ | refine erl rfl ?_ | refine era rfl ?_ | refine erz0 rfl ?_ | refine erz1 rfl ?_ | refine ean0 rfl (by assumption) (by assumption) rfl ?_ | refine ean8 rfl (by assumption) (by assumption) rfl ?_ | refine ean12 rfl (by assumption) (by assumption) rfl ?_ | refine ean7 rfl (by assumption) (by assumption) rfl ?_)
    try dsimp only [set1, set2, kilP, List.set_cons_zero, List.set_cons_succ, List.getElem?_cons_zero, List.getElem?_cons_succ, List.nil_append, List.cons_append, Option.toList_some, Option.toList_none]
    refine ei _ rfl rfl (fun c => ?_) (fun c => ?_)
    rotate_left
    · exact absurd (Decidable.not_not.mp c) (by rw [e1]; exact nI_ne0 (by omega) (by omega))
    repeat (first | refine es rfl rfl rfl ?_ | refine eg rfl (by assumption) rfl ?_ | refine ean rfl (by assumption) (by assumption) rfl ?_ | refine eal rfl (by assumption) (by assumption) rfl ?_ | refine eri rfl ?_ | refine erv rfl ?_ | refine erl rfl ?_ | refine era rfl ?_ | refine erz0 rfl ?_ | refine erz1 rfl ?_ | refine ean0 rfl (by assumption) (by assumption) rfl ?_ | refine ean8 rfl (by assumption) (by assumption) rfl ?_ | refine ean12 rfl (by assumption) (by assumption) rfl ?_ | refine ean7 rfl (by assumption) (by assumption) rfl ?_)
    try dsimp only [set1, set2, kilP, List.set_cons_zero, List.set_cons_succ, List.getElem?_cons_zero, List.getElem?_cons_succ, List.nil_append, List.cons_append, Option.toList_some, Option.toList_none]
    refine epM (fs' := yF b (oa, (.ref a, rd), r, (nI ac.length, nI σ.mk.length), qr)) rfl h0 rfl rfl (by rw [show nI ac.length = nI σ.ac.length - 1 by rw [e1, nI_pred]]; rfl) (fun M2 eM => ?_)
    have hy2 := hR.1.ob eM
    have hF2 := hF.up eM (by omega) (by omega)
    have hF12 := (Fr.rf b 16 M1).up eM (by omega) (by omega)
    repeat (refine ng 38 rfl ?_; first | refine es rfl rfl rfl ?_ | refine eg rfl (by assumption) rfl ?_ | refine ean rfl (by assumption) (by assumption) rfl ?_ | refine eal rfl (by assumption) (by assumption) rfl ?_ | refine eri rfl ?_ | refine erv rfl ?_ | refine erl rfl ?_ | refine era rfl ?_ | refine erz0 rfl ?_ | refine erz1 rfl ?_ | refine ean0 rfl (by assumption) (by assumption) rfl ?_ | refine ean8 rfl (by assumption) (by assumption) rfl ?_ | refine ean12 rfl (by assumption) (by assumption) rfl ?_ | refine ean7 rfl (by assumption) (by assumption) rfl ?_)
    try dsimp only [set1, set2, kilP, List.set_cons_zero, List.set_cons_succ, List.getElem?_cons_zero, List.getElem?_cons_succ, List.nil_append, List.cons_append, Option.toList_some, Option.toList_none]
    refine y_undo_loop (A := A) (M0 := M1) (N := ac.length) (by omega) (fun M3 p hy3 hF3 hp L1 => ?_) 16 0 M2 (A 2) (by rw [sA_id]; exact hy2) hF12 rfl (fun j hj => absurd hj (by omega))
    have hpf : ∀ j, j < 16 → p j = f0 j := by
      intro j hj
      rw [hp j hj]
      have := hpa.2 0 f0 rfl j hj
      rw [List.length_cons, show ac.length + 1 - 1 - 0 = ac.length by omega] at this
      exact this
    have hY3 : YR M3 b (σ.tp, σ.ts, σ.T, p, ac, σ.mk, σ.tr, σ.fn, σ.fp) := by
      refine hR.np hy3 hF3 rfl rfl (fun q hq => rfl) ⟨by omega, fun i r0 hr j hj => ?_⟩ hmk
      have := hpa.2 (i + 1) r0 (by rw [List.getElem?_cons_succ]; exact hr) j hj
      rw [List.length_cons, show ac.length + 1 - 1 - (i + 1) = ac.length - 1 - i by omega] at this
      exact this
    have s0 := hy3.1
    repeat (first | refine es rfl rfl rfl ?_ | refine eg rfl (by assumption) rfl ?_ | refine ean rfl (by assumption) (by assumption) rfl ?_ | refine eal rfl (by assumption) (by assumption) rfl ?_ | refine eri rfl ?_ | refine erv rfl ?_ | refine erl rfl ?_ | refine era rfl ?_ | refine erz0 rfl ?_ | refine erz1 rfl ?_ | refine ean0 rfl (by assumption) (by assumption) rfl ?_ | refine ean8 rfl (by assumption) (by assumption) rfl ?_ | refine ean12 rfl (by assumption) (by assumption) rfl ?_ | refine ean7 rfl (by assumption) (by assumption) rfl ?_)
    try dsimp only [set1, set2, kilP, List.set_cons_zero, List.set_cons_succ, List.getElem?_cons_zero, List.getElem?_cons_succ, List.nil_append, List.cons_append, Option.toList_some, Option.toList_none]
    refine ecv rfl rfl (by assumption) rfl rfl rfl (y_grant hY3) (by first | rfl | exact Nat.blt_eq.mpr (by omega)) ?_
    rintro v M6 ⟨rfl, hY6, hF6⟩
    try dsimp only [set1, set2, kilP, List.set_cons_zero, List.set_cons_succ, List.getElem?_cons_zero, List.getElem?_cons_succ, List.nil_append, List.cons_append, Option.toList_some, Option.toList_none]
    repeat (first | refine es rfl rfl rfl ?_ | refine eg rfl (by assumption) rfl ?_ | refine ean rfl (by assumption) (by assumption) rfl ?_ | refine eal rfl (by assumption) (by assumption) rfl ?_ | refine eri rfl ?_ | refine erv rfl ?_ | refine erl rfl ?_ | refine era rfl ?_ | refine erz0 rfl ?_ | refine erz1 rfl ?_ | refine ean0 rfl (by assumption) (by assumption) rfl ?_ | refine ean8 rfl (by assumption) (by assumption) rfl ?_ | refine ean12 rfl (by assumption) (by assumption) rfl ?_ | refine ean7 rfl (by assumption) (by assumption) rfl ?_)
    try dsimp only [set1, set2, kilP, List.set_cons_zero, List.set_cons_succ, List.getElem?_cons_zero, List.getElem?_cons_succ, List.nil_append, List.cons_append, Option.toList_some, Option.toList_none]
    refine ⟨fun v' σ' h => ?_, (hF.tr hF3 (by omega) (by omega)).tr (hF6.wide (lo2 := b) (n2 := 16) (by omega) (by omega)) (by omega) (by omega)⟩
    obtain ⟨rfl, f', hf', rfl⟩ := h
    exact ⟨rfl, hY6.cf (fun j hj => (hpf j hj).trans (hf' j hj).symm)⟩
theorem y_mark_loop {oa : Int32 × Int32 × Int32} {ow : Value × Value} {r : Yr} {qr : (Int32 × Int32) × (Int32 × Int32 × Int32) × (Int32 × Int32) × Int32} {ac : Int32} {N : Nat} {A : Ar} {M0 : Mm} {P : Option Value → Mm → Prop} (hN : N < 3) (k : ∀ M p, aY M b (oa, ow, r, (ac, nI N), qr) (sA A 4 p) → Fr b 16 M0 M → (∀ j, j < 16 → p (16 * N + j) = A 2 j) → (∀ j, j < 16 * N → p j = A 4 j) → ∀ L1, Ev ad 3 (rX13_mark ad) (66, [some (.ref b), L1], [], M) P) : ∀ (n i : Nat) (M : Mm) (p : Nat → Int32), aY M b (oa, ow, r, (ac, nI N), qr) (sA A 4 p) → Fr b 16 M0 M → i + n = 16 → (∀ j, j < i → p (16 * N + j) = A 2 j) → (∀ j, j < 16 * N → p j = A 4 j) → Ev ad 3 (rX13_mark ad) (34, [some (.ref b), some (.int (nI i))], [], M) P := by
  intro n
  induction n with
  | zero =>
    intro i M p hy hF hi q1 q2
    have h0 := hy.1
    repeat (first | refine es rfl rfl rfl ?_ | refine eg rfl (by assumption) rfl ?_ | refine ean rfl (by assumption) (by assumption) rfl ?_ | refine eal rfl (by assumption) (by assumption) rfl ?_ | refine eri rfl ?_ | refine erv rfl ?_ | refine erl rfl ?_ | refine era rfl ?_ | refine erz0 rfl ?_ | refine erz1 rfl ?_ | refine ean0 rfl (by assumption) (by assumption) rfl ?_ | refine ean8 rfl (by assumption) (by assumption) rfl ?_ | refine ean12 rfl (by assumption) (by assumption) rfl ?_ | refine ean7 rfl (by assumption) (by assumption) rfl ?_)
    try dsimp only [set1, set2, kilP, List.set_cons_zero, List.set_cons_succ, List.getElem?_cons_zero, List.getElem?_cons_succ, List.nil_append, List.cons_append, Option.toList_some, Option.toList_none]
    refine ei _ rfl rfl (fun c => ?_) (fun c => ?_)
    · exact k M p hy hF (fun j hj => q1 j (by omega)) q2 _
    · exact absurd (show (16 : Int32) ≤ nI i from nI_le (a := 16) (by omega) (by omega)) c
  | succ n ih =>
    intro i M p hy hF hi q1 q2
    have h0 := hy.1
    have h2 : M.1 (b + 2) = ints 16 (A 2) := hy.c.2.1
    have h4 : M.1 (b + 4) = ints 48 p := hy.c.2.2.2.1
    have hi1 : i < 16 := by omega
    have hi2 : 16 * N + i < 48 := by omega
    repeat (first | refine es rfl rfl rfl ?_ | refine eg rfl (by assumption) rfl ?_ | refine ean rfl (by assumption) (by assumption) rfl ?_ | refine eal rfl (by assumption) (by assumption) rfl ?_ | refine eri rfl ?_ | refine erv rfl ?_ | refine erl rfl ?_ | refine era rfl ?_ | refine erz0 rfl ?_ | refine erz1 rfl ?_ | refine ean0 rfl (by assumption) (by assumption) rfl ?_ | refine ean8 rfl (by assumption) (by assumption) rfl ?_ | refine ean12 rfl (by assumption) (by assumption) rfl ?_ | refine ean7 rfl (by assumption) (by assumption) rfl ?_)
    try dsimp only [set1, set2, kilP, List.set_cons_zero, List.set_cons_succ, List.getElem?_cons_zero, List.getElem?_cons_succ, List.nil_append, List.cons_append, Option.toList_some, Option.toList_none]
    refine ei _ rfl rfl (fun c => ?_) (fun c => ?_)
    · exact absurd c (nI_ge (b := 16) (by omega) (by omega))
    · repeat (first | refine es rfl rfl rfl ?_ | refine eg rfl (by assumption) rfl ?_ | refine ean rfl (by assumption) (by assumption) rfl ?_ | refine eal rfl (by assumption) (by assumption) rfl ?_ | refine eri rfl ?_ | refine erv rfl ?_ | refine erl rfl ?_ | refine era rfl ?_ | refine erz0 rfl ?_ | refine erz1 rfl ?_ | refine ean0 rfl (by assumption) (by assumption) rfl ?_ | refine ean8 rfl (by assumption) (by assumption) rfl ?_ | refine ean12 rfl (by assumption) (by assumption) rfl ?_ | refine ean7 rfl (by assumption) (by assumption) rfl ?_)
      try dsimp only [set1, set2, kilP, List.set_cons_zero, List.set_cons_succ, List.getElem?_cons_zero, List.getElem?_cons_succ, List.nil_append, List.cons_append, Option.toList_some, Option.toList_none]
      rw [show (16 : Int32) * nI N + nI i = nI (16 * N + i) by rw [show (16 : Int32) * nI N = nI (16 * N) from pk_mul 16 N, nI_add]]
      refine etM rfl h4 hi2 rfl (fun M2 eM => ?_)
      repeat (refine ng 34 rfl ?_; first | refine es rfl rfl rfl ?_ | refine eg rfl (by assumption) rfl ?_ | refine ean rfl (by assumption) (by assumption) rfl ?_ | refine eal rfl (by assumption) (by assumption) rfl ?_ | refine eri rfl ?_ | refine erv rfl ?_ | refine erl rfl ?_ | refine era rfl ?_ | refine erz0 rfl ?_ | refine erz1 rfl ?_ | refine ean0 rfl (by assumption) (by assumption) rfl ?_ | refine ean8 rfl (by assumption) (by assumption) rfl ?_ | refine ean12 rfl (by assumption) (by assumption) rfl ?_ | refine ean7 rfl (by assumption) (by assumption) rfl ?_)
      try dsimp only [set1, set2, kilP, List.set_cons_zero, List.set_cons_succ, List.getElem?_cons_zero, List.getElem?_cons_succ, List.nil_append, List.cons_append, Option.toList_some, Option.toList_none]
      rw [nI_1]
      refine ih (i + 1) M2 _ (hy.ar2 (k := 4) eM (by omega)) (hF.up eM (by omega) (by omega)) (by omega) (fun j hj => ?_) (fun j hj => ?_)
      · by_cases e : j = i
        · rw [e, pk_us]
        · rw [pk_un (by omega)]; exact q1 j (by omega)
      · rw [pk_un (by omega)]; exact q2 j hj
theorem y_mark (hY : YR M b σ) (hI : Inv σ C) : EvM ad 3 (iX13_mark ad) [.ref b] M (Pq b M (spMark σ)) := by
  unfold spMark
  refine ⟨Nat.le_of_ble_eq_true rfl, ?_⟩
  show Ev ad _ (rX13_mark ad) (0, [some (.ref b), none], [], M) _
  refine yEn rfl rfl rfl hY (fun M1 hY hF _ => ?_)
  obtain ⟨⟨oa, ⟨tw, rd⟩, oq⟩, A, hR⟩ := id hY
  have h0 := hR.1.1
  have h2 := hR.1.c.2.1
  by_cases hno : σ.T.hs.n = 0
  · obtain ⟨_, t0⟩ := hR.2.2.2.2.2.2.2.2.2.resolve_right (fun q => by have := q.1; omega)
    replace t0 : tw = .null := t0
    subst t0
    rw [if_pos hno]
    repeat (first | refine es rfl rfl rfl ?_ | refine eg rfl (by assumption) rfl ?_ | refine ean rfl (by assumption) (by assumption) rfl ?_ | refine eal rfl (by assumption) (by assumption) rfl ?_ | refine eri rfl ?_ | refine erv rfl ?_ | refine erl rfl ?_ | refine era rfl ?_ | refine erz0 rfl ?_ | refine erz1 rfl ?_ | refine ean0 rfl (by assumption) (by assumption) rfl ?_ | refine ean8 rfl (by assumption) (by assumption) rfl ?_ | refine ean12 rfl (by assumption) (by assumption) rfl ?_ | refine ean7 rfl (by assumption) (by assumption) rfl ?_)
    try dsimp only [set1, set2, kilP, List.set_cons_zero, List.set_cons_succ, List.getElem?_cons_zero, List.getElem?_cons_succ, List.nil_append, List.cons_append, Option.toList_some, Option.toList_none]
    refine ecv rfl rfl (by assumption) rfl rfl rfl (y_ref hY (by decide)) (by first | rfl | exact Nat.blt_eq.mpr (by omega)) ?_
    rintro v M9 ⟨rfl, hY9, hF9⟩
    try dsimp only [set1, set2, kilP, List.set_cons_zero, List.set_cons_succ, List.getElem?_cons_zero, List.getElem?_cons_succ, List.nil_append, List.cons_append, Option.toList_some, Option.toList_none]
    repeat (first | refine es rfl rfl rfl ?_ | refine eg rfl (by assumption) rfl ?_ | refine ean rfl (by assumption) (by assumption) rfl ?_ | refine eal rfl (by assumption) (by assumption) rfl ?_ | refine eri rfl ?_ | refine erv rfl ?_ | refine erl rfl ?_ | refine era rfl ?_ | refine erz0 rfl ?_ | refine erz1 rfl ?_ | refine ean0 rfl (by assumption) (by assumption) rfl ?_ | refine ean8 rfl (by assumption) (by assumption) rfl ?_ | refine ean12 rfl (by assumption) (by assumption) rfl ?_ | refine ean7 rfl (by assumption) (by assumption) rfl ?_)
    try dsimp only [set1, set2, kilP, List.set_cons_zero, List.set_cons_succ, List.getElem?_cons_zero, List.getElem?_cons_succ, List.nil_append, List.cons_append, Option.toList_some, Option.toList_none]
    exact Pq.rf hY9 (hF.tr (hF9.wide (lo2 := b) (n2 := 16) (by omega) (by omega)) (by omega) (by omega))
  rw [if_neg hno]
  obtain ⟨n1, a, t0, a1, a2, hM, hv, hpa, hmk, hfa⟩ := hR.2.2.2.2.2.2.2.2.2.resolve_left (fun q => by have := q.1; omega)
  replace t0 : tw = .ref a := t0
  subst t0
  obtain ⟨kn, Am, Bm, m0, mc, mH, mS, mP, mC, mN⟩ := id hM
  obtain ⟨m1, m2, m3, m4, m5, m6, m7, m8, m9, m10, m11, m12, m13, m14, m15, m16, m17⟩ := id mc
  obtain ⟨r, ⟨pa, pm⟩, qr⟩ := oq
  have ea : pa = nI σ.ac.length := hR.2.2.2.2.2.2.1
  have em : pm = nI σ.mk.length := hR.2.2.2.2.2.2.2.1
  subst ea
  subst em
  have hl := hmk.1
  have e3 : nI σ.mk.length = 3 ↔ σ.mk.length = 3 := nI_eq (b := 3) (by omega) (by omega)
  repeat (first | refine es rfl rfl rfl ?_ | refine eg rfl (by assumption) rfl ?_ | refine ean rfl (by assumption) (by assumption) rfl ?_ | refine eal rfl (by assumption) (by assumption) rfl ?_ | refine eri rfl ?_ | refine erv rfl ?_ | refine erl rfl ?_ | refine era rfl ?_ | refine erz0 rfl ?_ | refine erz1 rfl ?_ | refine ean0 rfl (by assumption) (by assumption) rfl ?_ | refine ean8 rfl (by assumption) (by assumption) rfl ?_ | refine ean12 rfl (by assumption) (by assumption) rfl ?_ | refine ean7 rfl (by assumption) (by assumption) rfl ?_)
  try dsimp only [set1, set2, kilP, List.set_cons_zero, List.set_cons_succ, List.getElem?_cons_zero, List.getElem?_cons_succ, List.nil_append, List.cons_append, Option.toList_some, Option.toList_none]
  refine ei _ rfl rfl (fun c => ?_) (fun c => ?_)
  rotate_left
  · rw [if_pos (e3.mp (Decidable.not_not.mp c))]
    repeat (first | refine es rfl rfl rfl ?_ | refine eg rfl (by assumption) rfl ?_ | refine ean rfl (by assumption) (by assumption) rfl ?_ | refine eal rfl (by assumption) (by assumption) rfl ?_ | refine eri rfl ?_ | refine erv rfl ?_ | refine erl rfl ?_ | refine era rfl ?_ | refine erz0 rfl ?_ | refine erz1 rfl ?_ | refine ean0 rfl (by assumption) (by assumption) rfl ?_ | refine ean8 rfl (by assumption) (by assumption) rfl ?_ | refine ean12 rfl (by assumption) (by assumption) rfl ?_ | refine ean7 rfl (by assumption) (by assumption) rfl ?_)
    try dsimp only [set1, set2, kilP, List.set_cons_zero, List.set_cons_succ, List.getElem?_cons_zero, List.getElem?_cons_succ, List.nil_append, List.cons_append, Option.toList_some, Option.toList_none]
    refine ecv rfl rfl (by assumption) rfl rfl rfl (y_ref hY (by decide)) (by first | rfl | exact Nat.blt_eq.mpr (by omega)) ?_
    rintro v M9 ⟨rfl, hY9, hF9⟩
    try dsimp only [set1, set2, kilP, List.set_cons_zero, List.set_cons_succ, List.getElem?_cons_zero, List.getElem?_cons_succ, List.nil_append, List.cons_append, Option.toList_some, Option.toList_none]
    repeat (first | refine es rfl rfl rfl ?_ | refine eg rfl (by assumption) rfl ?_ | refine ean rfl (by assumption) (by assumption) rfl ?_ | refine eal rfl (by assumption) (by assumption) rfl ?_ | refine eri rfl ?_ | refine erv rfl ?_ | refine erl rfl ?_ | refine era rfl ?_ | refine erz0 rfl ?_ | refine erz1 rfl ?_ | refine ean0 rfl (by assumption) (by assumption) rfl ?_ | refine ean8 rfl (by assumption) (by assumption) rfl ?_ | refine ean12 rfl (by assumption) (by assumption) rfl ?_ | refine ean7 rfl (by assumption) (by assumption) rfl ?_)
    try dsimp only [set1, set2, kilP, List.set_cons_zero, List.set_cons_succ, List.getElem?_cons_zero, List.getElem?_cons_succ, List.nil_append, List.cons_append, Option.toList_some, Option.toList_none]
    exact Pq.rf hY9 (hF.tr (hF9.wide (lo2 := b) (n2 := 16) (by omega) (by omega)) (by omega) (by omega))
  rw [if_neg (fun q => c (e3.mpr q))]
  have hl3 : σ.mk.length < 3 := by have : ¬ σ.mk.length = 3 := fun q => c (e3.mpr q); omega
  repeat (refine ng 34 rfl ?_; first | refine es rfl rfl rfl ?_ | refine eg rfl (by assumption) rfl ?_ | refine ean rfl (by assumption) (by assumption) rfl ?_ | refine eal rfl (by assumption) (by assumption) rfl ?_ | refine eri rfl ?_ | refine erv rfl ?_ | refine erl rfl ?_ | refine era rfl ?_ | refine erz0 rfl ?_ | refine erz1 rfl ?_ | refine ean0 rfl (by assumption) (by assumption) rfl ?_ | refine ean8 rfl (by assumption) (by assumption) rfl ?_ | refine ean12 rfl (by assumption) (by assumption) rfl ?_ | refine ean7 rfl (by assumption) (by assumption) rfl ?_)
  try dsimp only [set1, set2, kilP, List.set_cons_zero, List.set_cons_succ, List.getElem?_cons_zero, List.getElem?_cons_succ, List.nil_append, List.cons_append, Option.toList_some, Option.toList_none]
  refine y_mark_loop (A := A) (M0 := M1) (N := σ.mk.length) hl3 (fun M3 p hy3 hF3 hp hp2 L1 => ?_) 16 0 M1 (A 4) (by rw [sA_id]; exact hR.1) (Fr.rf b 16 M1) rfl (fun j hj => absurd hj (by omega)) (fun j _ => rfl)
  have s0 := hy3.1
  repeat (first | refine es rfl rfl rfl ?_ | refine eg rfl (by assumption) rfl ?_ | refine ean rfl (by assumption) (by assumption) rfl ?_ | refine eal rfl (by assumption) (by assumption) rfl ?_ | refine eri rfl ?_ | refine erv rfl ?_ | refine erl rfl ?_ | refine era rfl ?_ | refine erz0 rfl ?_ | refine erz1 rfl ?_ | refine ean0 rfl (by assumption) (by assumption) rfl ?_ | refine ean8 rfl (by assumption) (by assumption) rfl ?_ | refine ean12 rfl (by assumption) (by assumption) rfl ?_ | refine ean7 rfl (by assumption) (by assumption) rfl ?_)
  try dsimp only [set1, set2, kilP, List.set_cons_zero, List.set_cons_succ, List.getElem?_cons_zero, List.getElem?_cons_succ, List.nil_append, List.cons_append, Option.toList_some, Option.toList_none]
  refine epM (fs' := yF b (oa, (.ref a, rd), r, (nI σ.ac.length, nI (σ.mk ++ [σ.f]).length), qr)) rfl s0 rfl rfl (by rw [show nI (σ.mk ++ [σ.f]).length = nI σ.mk.length + 1 by rw [nI_1, List.length_append]; rfl]; rfl) (fun M4 eM4 => ?_)
  have hy4 := hy3.ob eM4
  have hF4 := hF3.up eM4 (by omega) (by omega)
  have w0 := hy4.1
  have hY : YR M4 b (σ.tp, σ.ts, σ.T, σ.f, σ.ac, σ.mk ++ [σ.f], σ.tr, σ.fn, σ.fp) := by
    refine hR.np hy4 hF4 rfl rfl hv hpa ⟨by rw [List.length_append]; show σ.mk.length + 1 ≤ 3; omega, fun i r0 hr j hj => ?_⟩
    show p (16 * i + j) = r0 j
    rcases Nat.lt_or_ge i σ.mk.length with q | q
    · rw [List.getElem?_append_left q] at hr
      rw [hp2 _ (by omega)]
      exact hmk.2 i r0 hr j hj
    · rw [List.getElem?_append_right q] at hr
      have : i - σ.mk.length = 0 := by have := (List.getElem?_eq_some_iff.mp hr).1; rw [List.length_singleton] at this; omega
      rw [this] at hr
      injection hr with hr
      subst hr
      rw [show i = σ.mk.length by omega, hp j hj]
      exact hv j hj
  repeat (first | refine es rfl rfl rfl ?_ | refine eg rfl (by assumption) rfl ?_ | refine ean rfl (by assumption) (by assumption) rfl ?_ | refine eal rfl (by assumption) (by assumption) rfl ?_ | refine eri rfl ?_ | refine erv rfl ?_ | refine erl rfl ?_ | refine era rfl ?_ | refine erz0 rfl ?_ | refine erz1 rfl ?_ | refine ean0 rfl (by assumption) (by assumption) rfl ?_ | refine ean8 rfl (by assumption) (by assumption) rfl ?_ | refine ean12 rfl (by assumption) (by assumption) rfl ?_ | refine ean7 rfl (by assumption) (by assumption) rfl ?_)
  try dsimp only [set1, set2, kilP, List.set_cons_zero, List.set_cons_succ, List.getElem?_cons_zero, List.getElem?_cons_succ, List.nil_append, List.cons_append, Option.toList_some, Option.toList_none]
  rw [show nI (σ.mk ++ [σ.f]).length - 1 = nI σ.mk.length by rw [List.length_append]; exact nI_pred _]
  repeat (first | refine es rfl rfl rfl ?_ | refine eg rfl (by assumption) rfl ?_ | refine ean rfl (by assumption) (by assumption) rfl ?_ | refine eal rfl (by assumption) (by assumption) rfl ?_ | refine eri rfl ?_ | refine erv rfl ?_ | refine erl rfl ?_ | refine era rfl ?_ | refine erz0 rfl ?_ | refine erz1 rfl ?_ | refine ean0 rfl (by assumption) (by assumption) rfl ?_ | refine ean8 rfl (by assumption) (by assumption) rfl ?_ | refine ean12 rfl (by assumption) (by assumption) rfl ?_ | refine ean7 rfl (by assumption) (by assumption) rfl ?_)
  try dsimp only [set1, set2, kilP, List.set_cons_zero, List.set_cons_succ, List.getElem?_cons_zero, List.getElem?_cons_succ, List.nil_append, List.cons_append, Option.toList_some, Option.toList_none]
  refine ecv rfl rfl (by assumption) rfl rfl rfl (y_good hY) (by first | rfl | exact Nat.blt_eq.mpr (by omega)) ?_
  rintro v M6 ⟨rfl, hY6, hF6⟩
  try dsimp only [set1, set2, kilP, List.set_cons_zero, List.set_cons_succ, List.getElem?_cons_zero, List.getElem?_cons_succ, List.nil_append, List.cons_append, Option.toList_some, Option.toList_none]
  repeat (first | refine es rfl rfl rfl ?_ | refine eg rfl (by assumption) rfl ?_ | refine ean rfl (by assumption) (by assumption) rfl ?_ | refine eal rfl (by assumption) (by assumption) rfl ?_ | refine eri rfl ?_ | refine erv rfl ?_ | refine erl rfl ?_ | refine era rfl ?_ | refine erz0 rfl ?_ | refine erz1 rfl ?_ | refine ean0 rfl (by assumption) (by assumption) rfl ?_ | refine ean8 rfl (by assumption) (by assumption) rfl ?_ | refine ean12 rfl (by assumption) (by assumption) rfl ?_ | refine ean7 rfl (by assumption) (by assumption) rfl ?_)
  try dsimp only [set1, set2, kilP, List.set_cons_zero, List.set_cons_succ, List.getElem?_cons_zero, List.getElem?_cons_succ, List.nil_append, List.cons_append, Option.toList_some, Option.toList_none]
  exact Pq.eq hY6 ((hF.tr hF4 (by omega) (by omega)).tr (hF6.wide (lo2 := b) (n2 := 16) (by omega) (by omega)) (by omega) (by omega))
theorem y_back_loop {o : Yo} {N : Nat} {A : Ar} {M0 : Mm} {P : Option Value → Mm → Prop} (hN : N < 3) (k : ∀ M p, aY M b o (sA A 2 p) → Fr b 16 M0 M → (∀ j, j < 16 → p j = A 4 (16 * N + j)) → ∀ L1, Ev ad 3 (rX13_back ad) (61, [some (.ref b), some (.int (nI N)), L1], [], M) P) : ∀ (n i : Nat) (M : Mm) (p : Nat → Int32), aY M b o (sA A 2 p) → Fr b 16 M0 M → i + n = 16 → (∀ j, j < i → p j = A 4 (16 * N + j)) → Ev ad 3 (rX13_back ad) (32, [some (.ref b), some (.int (nI N)), some (.int (nI i))], [], M) P := by
  intro n
  induction n with
  | zero =>
    intro i M p hy hF hi q1
    have h0 := hy.1
    repeat (first | refine es rfl rfl rfl ?_ | refine eg rfl (by assumption) rfl ?_ | refine ean rfl (by assumption) (by assumption) rfl ?_ | refine eal rfl (by assumption) (by assumption) rfl ?_ | refine eri rfl ?_ | refine erv rfl ?_ | refine erl rfl ?_ | refine era rfl ?_ | refine erz0 rfl ?_ | refine erz1 rfl ?_ | refine ean0 rfl (by assumption) (by assumption) rfl ?_ | refine ean8 rfl (by assumption) (by assumption) rfl ?_ | refine ean12 rfl (by assumption) (by assumption) rfl ?_ | refine ean7 rfl (by assumption) (by assumption) rfl ?_)
    try dsimp only [set1, set2, kilP, List.set_cons_zero, List.set_cons_succ, List.getElem?_cons_zero, List.getElem?_cons_succ, List.nil_append, List.cons_append, Option.toList_some, Option.toList_none]
    refine ei _ rfl rfl (fun c => ?_) (fun c => ?_)
    · exact k M p hy hF (fun j hj => q1 j (by omega)) _
    · exact absurd (show (16 : Int32) ≤ nI i from nI_le (a := 16) (by omega) (by omega)) c
  | succ n ih =>
    intro i M p hy hF hi q1
    have h0 := hy.1
    have h2 : M.1 (b + 2) = ints 16 p := hy.c.2.1
    have h4 : M.1 (b + 4) = ints 48 (A 4) := hy.c.2.2.2.1
    have hi1 : i < 16 := by omega
    have hi2 : 16 * N + i < 48 := by omega
    repeat (first | refine es rfl rfl rfl ?_ | refine eg rfl (by assumption) rfl ?_ | refine ean rfl (by assumption) (by assumption) rfl ?_ | refine eal rfl (by assumption) (by assumption) rfl ?_ | refine eri rfl ?_ | refine erv rfl ?_ | refine erl rfl ?_ | refine era rfl ?_ | refine erz0 rfl ?_ | refine erz1 rfl ?_ | refine ean0 rfl (by assumption) (by assumption) rfl ?_ | refine ean8 rfl (by assumption) (by assumption) rfl ?_ | refine ean12 rfl (by assumption) (by assumption) rfl ?_ | refine ean7 rfl (by assumption) (by assumption) rfl ?_)
    try dsimp only [set1, set2, kilP, List.set_cons_zero, List.set_cons_succ, List.getElem?_cons_zero, List.getElem?_cons_succ, List.nil_append, List.cons_append, Option.toList_some, Option.toList_none]
    refine ei _ rfl rfl (fun c => ?_) (fun c => ?_)
    · exact absurd c (nI_ge (b := 16) (by omega) (by omega))
    · repeat (first | refine es rfl rfl rfl ?_ | refine eg rfl (by assumption) rfl ?_ | refine ean rfl (by assumption) (by assumption) rfl ?_ | refine eal rfl (by assumption) (by assumption) rfl ?_ | refine eri rfl ?_ | refine erv rfl ?_ | refine erl rfl ?_ | refine era rfl ?_ | refine erz0 rfl ?_ | refine erz1 rfl ?_ | refine ean0 rfl (by assumption) (by assumption) rfl ?_ | refine ean8 rfl (by assumption) (by assumption) rfl ?_ | refine ean12 rfl (by assumption) (by assumption) rfl ?_ | refine ean7 rfl (by assumption) (by assumption) rfl ?_)
      try dsimp only [set1, set2, kilP, List.set_cons_zero, List.set_cons_succ, List.getElem?_cons_zero, List.getElem?_cons_succ, List.nil_append, List.cons_append, Option.toList_some, Option.toList_none]
      rw [show (16 : Int32) * nI N + nI i = nI (16 * N + i) by rw [show (16 : Int32) * nI N = nI (16 * N) from pk_mul 16 N, nI_add]]
      repeat (first | refine es rfl rfl rfl ?_ | refine eg rfl (by assumption) rfl ?_ | refine ean rfl (by assumption) (by assumption) rfl ?_ | refine eal rfl (by assumption) (by assumption) rfl ?_ | refine eri rfl ?_ | refine erv rfl ?_ | refine erl rfl ?_ | refine era rfl ?_ | refine erz0 rfl ?_ | refine erz1 rfl ?_ | refine ean0 rfl (by assumption) (by assumption) rfl ?_ | refine ean8 rfl (by assumption) (by assumption) rfl ?_ | refine ean12 rfl (by assumption) (by assumption) rfl ?_ | refine ean7 rfl (by assumption) (by assumption) rfl ?_)
      try dsimp only [set1, set2, kilP, List.set_cons_zero, List.set_cons_succ, List.getElem?_cons_zero, List.getElem?_cons_succ, List.nil_append, List.cons_append, Option.toList_some, Option.toList_none]
      refine etM rfl h2 hi1 rfl (fun M2 eM => ?_)
      repeat (refine ng 32 rfl ?_; first | refine es rfl rfl rfl ?_ | refine eg rfl (by assumption) rfl ?_ | refine ean rfl (by assumption) (by assumption) rfl ?_ | refine eal rfl (by assumption) (by assumption) rfl ?_ | refine eri rfl ?_ | refine erv rfl ?_ | refine erl rfl ?_ | refine era rfl ?_ | refine erz0 rfl ?_ | refine erz1 rfl ?_ | refine ean0 rfl (by assumption) (by assumption) rfl ?_ | refine ean8 rfl (by assumption) (by assumption) rfl ?_ | refine ean12 rfl (by assumption) (by assumption) rfl ?_ | refine ean7 rfl (by assumption) (by assumption) rfl ?_)
      try dsimp only [set1, set2, kilP, List.set_cons_zero, List.set_cons_succ, List.getElem?_cons_zero, List.getElem?_cons_succ, List.nil_append, List.cons_append, Option.toList_some, Option.toList_none]
      rw [nI_1]
      refine ih (i + 1) M2 _ (hy.ar2 (k := 2) eM (by omega)) (hF.up eM (by omega) (by omega)) (by omega) (fun j hj => ?_)
      by_cases e : j = i
      · rw [e, pk_us]
      · rw [pk_un (by omega)]; exact q1 j (by omega)
theorem y_back {x : Int32} (hY : YR M b σ) (hI : Inv σ C) : EvM ad 3 (iX13_back ad) [.ref b, .int x] M (Pq b M (spBack σ x)) := by
  unfold spBack
  refine ⟨Nat.le_of_ble_eq_true rfl, ?_⟩
  show Ev ad _ (rX13_back ad) (0, [some (.ref b), some (.int x), none], [], M) _
  refine yEn rfl rfl rfl hY (fun M1 hY hF _ => ?_)
  obtain ⟨⟨oa, ⟨tw, rd⟩, oq⟩, A, hR⟩ := id hY
  have h0 := hR.1.1
  have h2 := hR.1.c.2.1
  by_cases hno : σ.T.hs.n = 0
  · obtain ⟨_, t0⟩ := hR.2.2.2.2.2.2.2.2.2.resolve_right (fun q => by have := q.1; omega)
    replace t0 : tw = .null := t0
    subst t0
    rw [if_neg (fun q => by have h3 := q.2; rw [(hI.2.1 hno).2.2.2.2] at h3; exact Int32.not_le.mpr h3 q.1)]
    repeat (first | refine es rfl rfl rfl ?_ | refine eg rfl (by assumption) rfl ?_ | refine ean rfl (by assumption) (by assumption) rfl ?_ | refine eal rfl (by assumption) (by assumption) rfl ?_ | refine eri rfl ?_ | refine erv rfl ?_ | refine erl rfl ?_ | refine era rfl ?_ | refine erz0 rfl ?_ | refine erz1 rfl ?_ | refine ean0 rfl (by assumption) (by assumption) rfl ?_ | refine ean8 rfl (by assumption) (by assumption) rfl ?_ | refine ean12 rfl (by assumption) (by assumption) rfl ?_ | refine ean7 rfl (by assumption) (by assumption) rfl ?_)
    try dsimp only [set1, set2, kilP, List.set_cons_zero, List.set_cons_succ, List.getElem?_cons_zero, List.getElem?_cons_succ, List.nil_append, List.cons_append, Option.toList_some, Option.toList_none]
    refine ecv rfl rfl (by assumption) rfl rfl rfl (y_deny hY (by decide)) (by first | rfl | exact Nat.blt_eq.mpr (by omega)) ?_
    rintro v M9 ⟨rfl, hY9, hF9⟩
    try dsimp only [set1, set2, kilP, List.set_cons_zero, List.set_cons_succ, List.getElem?_cons_zero, List.getElem?_cons_succ, List.nil_append, List.cons_append, Option.toList_some, Option.toList_none]
    repeat (first | refine es rfl rfl rfl ?_ | refine eg rfl (by assumption) rfl ?_ | refine ean rfl (by assumption) (by assumption) rfl ?_ | refine eal rfl (by assumption) (by assumption) rfl ?_ | refine eri rfl ?_ | refine erv rfl ?_ | refine erl rfl ?_ | refine era rfl ?_ | refine erz0 rfl ?_ | refine erz1 rfl ?_ | refine ean0 rfl (by assumption) (by assumption) rfl ?_ | refine ean8 rfl (by assumption) (by assumption) rfl ?_ | refine ean12 rfl (by assumption) (by assumption) rfl ?_ | refine ean7 rfl (by assumption) (by assumption) rfl ?_)
    try dsimp only [set1, set2, kilP, List.set_cons_zero, List.set_cons_succ, List.getElem?_cons_zero, List.getElem?_cons_succ, List.nil_append, List.cons_append, Option.toList_some, Option.toList_none]
    exact Pq.dn hY9 (hF.tr (hF9.wide (lo2 := b) (n2 := 16) (by omega) (by omega)) (by omega) (by omega))
  obtain ⟨n1, a, t0, a1, a2, hM, hv, hpa, hmk, hfa⟩ := hR.2.2.2.2.2.2.2.2.2.resolve_left (fun q => by have := q.1; omega)
  replace t0 : tw = .ref a := t0
  subst t0
  obtain ⟨kn, Am, Bm, m0, mc, mH, mS, mP, mC, mN⟩ := id hM
  obtain ⟨m1, m2, m3, m4, m5, m6, m7, m8, m9, m10, m11, m12, m13, m14, m15, m16, m17⟩ := id mc
  obtain ⟨r, ⟨pa, pm⟩, qr⟩ := oq
  have ea : pa = nI σ.ac.length := hR.2.2.2.2.2.2.1
  have em : pm = nI σ.mk.length := hR.2.2.2.2.2.2.2.1
  subst ea
  subst em
  have hl := hmk.1
  repeat (first | refine es rfl rfl rfl ?_ | refine eg rfl (by assumption) rfl ?_ | refine ean rfl (by assumption) (by assumption) rfl ?_ | refine eal rfl (by assumption) (by assumption) rfl ?_ | refine eri rfl ?_ | refine erv rfl ?_ | refine erl rfl ?_ | refine era rfl ?_ | refine erz0 rfl ?_ | refine erz1 rfl ?_ | refine ean0 rfl (by assumption) (by assumption) rfl ?_ | refine ean8 rfl (by assumption) (by assumption) rfl ?_ | refine ean12 rfl (by assumption) (by assumption) rfl ?_ | refine ean7 rfl (by assumption) (by assumption) rfl ?_)
  try dsimp only [set1, set2, kilP, List.set_cons_zero, List.set_cons_succ, List.getElem?_cons_zero, List.getElem?_cons_succ, List.nil_append, List.cons_append, Option.toList_some, Option.toList_none]
  refine ei _ rfl rfl (fun c => ?_) (fun c => ?_)
  · rw [if_neg (fun q => Int32.not_le.mpr c q.1)]
    repeat (first | refine es rfl rfl rfl ?_ | refine eg rfl (by assumption) rfl ?_ | refine ean rfl (by assumption) (by assumption) rfl ?_ | refine eal rfl (by assumption) (by assumption) rfl ?_ | refine eri rfl ?_ | refine erv rfl ?_ | refine erl rfl ?_ | refine era rfl ?_ | refine erz0 rfl ?_ | refine erz1 rfl ?_ | refine ean0 rfl (by assumption) (by assumption) rfl ?_ | refine ean8 rfl (by assumption) (by assumption) rfl ?_ | refine ean12 rfl (by assumption) (by assumption) rfl ?_ | refine ean7 rfl (by assumption) (by assumption) rfl ?_)
    try dsimp only [set1, set2, kilP, List.set_cons_zero, List.set_cons_succ, List.getElem?_cons_zero, List.getElem?_cons_succ, List.nil_append, List.cons_append, Option.toList_some, Option.toList_none]
    refine ecv rfl rfl (by assumption) rfl rfl rfl (y_deny hY (by decide)) (by first | rfl | exact Nat.blt_eq.mpr (by omega)) ?_
    rintro v M9 ⟨rfl, hY9, hF9⟩
    try dsimp only [set1, set2, kilP, List.set_cons_zero, List.set_cons_succ, List.getElem?_cons_zero, List.getElem?_cons_succ, List.nil_append, List.cons_append, Option.toList_some, Option.toList_none]
    repeat (first | refine es rfl rfl rfl ?_ | refine eg rfl (by assumption) rfl ?_ | refine ean rfl (by assumption) (by assumption) rfl ?_ | refine eal rfl (by assumption) (by assumption) rfl ?_ | refine eri rfl ?_ | refine erv rfl ?_ | refine erl rfl ?_ | refine era rfl ?_ | refine erz0 rfl ?_ | refine erz1 rfl ?_ | refine ean0 rfl (by assumption) (by assumption) rfl ?_ | refine ean8 rfl (by assumption) (by assumption) rfl ?_ | refine ean12 rfl (by assumption) (by assumption) rfl ?_ | refine ean7 rfl (by assumption) (by assumption) rfl ?_)
    try dsimp only [set1, set2, kilP, List.set_cons_zero, List.set_cons_succ, List.getElem?_cons_zero, List.getElem?_cons_succ, List.nil_append, List.cons_append, Option.toList_some, Option.toList_none]
    exact Pq.dn hY9 (hF.tr (hF9.wide (lo2 := b) (n2 := 16) (by omega) (by omega)) (by omega) (by omega))
  repeat (first | refine es rfl rfl rfl ?_ | refine eg rfl (by assumption) rfl ?_ | refine ean rfl (by assumption) (by assumption) rfl ?_ | refine eal rfl (by assumption) (by assumption) rfl ?_ | refine eri rfl ?_ | refine erv rfl ?_ | refine erl rfl ?_ | refine era rfl ?_ | refine erz0 rfl ?_ | refine erz1 rfl ?_ | refine ean0 rfl (by assumption) (by assumption) rfl ?_ | refine ean8 rfl (by assumption) (by assumption) rfl ?_ | refine ean12 rfl (by assumption) (by assumption) rfl ?_ | refine ean7 rfl (by assumption) (by assumption) rfl ?_)
  try dsimp only [set1, set2, kilP, List.set_cons_zero, List.set_cons_succ, List.getElem?_cons_zero, List.getElem?_cons_succ, List.nil_append, List.cons_append, Option.toList_some, Option.toList_none]
  refine ei _ rfl rfl (fun c2 => ?_) (fun c2 => ?_)
  rotate_left
  · rw [if_neg (fun q => c2 q.2)]
    repeat (first | refine es rfl rfl rfl ?_ | refine eg rfl (by assumption) rfl ?_ | refine ean rfl (by assumption) (by assumption) rfl ?_ | refine eal rfl (by assumption) (by assumption) rfl ?_ | refine eri rfl ?_ | refine erv rfl ?_ | refine erl rfl ?_ | refine era rfl ?_ | refine erz0 rfl ?_ | refine erz1 rfl ?_ | refine ean0 rfl (by assumption) (by assumption) rfl ?_ | refine ean8 rfl (by assumption) (by assumption) rfl ?_ | refine ean12 rfl (by assumption) (by assumption) rfl ?_ | refine ean7 rfl (by assumption) (by assumption) rfl ?_)
    try dsimp only [set1, set2, kilP, List.set_cons_zero, List.set_cons_succ, List.getElem?_cons_zero, List.getElem?_cons_succ, List.nil_append, List.cons_append, Option.toList_some, Option.toList_none]
    refine ecv rfl rfl (by assumption) rfl rfl rfl (y_deny hY (by decide)) (by first | rfl | exact Nat.blt_eq.mpr (by omega)) ?_
    rintro v M9 ⟨rfl, hY9, hF9⟩
    try dsimp only [set1, set2, kilP, List.set_cons_zero, List.set_cons_succ, List.getElem?_cons_zero, List.getElem?_cons_succ, List.nil_append, List.cons_append, Option.toList_some, Option.toList_none]
    repeat (first | refine es rfl rfl rfl ?_ | refine eg rfl (by assumption) rfl ?_ | refine ean rfl (by assumption) (by assumption) rfl ?_ | refine eal rfl (by assumption) (by assumption) rfl ?_ | refine eri rfl ?_ | refine erv rfl ?_ | refine erl rfl ?_ | refine era rfl ?_ | refine erz0 rfl ?_ | refine erz1 rfl ?_ | refine ean0 rfl (by assumption) (by assumption) rfl ?_ | refine ean8 rfl (by assumption) (by assumption) rfl ?_ | refine ean12 rfl (by assumption) (by assumption) rfl ?_ | refine ean7 rfl (by assumption) (by assumption) rfl ?_)
    try dsimp only [set1, set2, kilP, List.set_cons_zero, List.set_cons_succ, List.getElem?_cons_zero, List.getElem?_cons_succ, List.nil_append, List.cons_append, Option.toList_some, Option.toList_none]
    exact Pq.dn hY9 (hF.tr (hF9.wide (lo2 := b) (n2 := 16) (by omega) (by omega)) (by omega) (by omega))
  rw [if_pos ⟨Int32.not_lt.mp c, c2⟩]
  obtain ⟨k, hk, rfl⟩ := nI_0k (by omega) ⟨Int32.not_lt.mp c, c2⟩
  rw [nI_clamp (by omega)]
  repeat (refine ng 32 rfl ?_; first | refine es rfl rfl rfl ?_ | refine eg rfl (by assumption) rfl ?_ | refine ean rfl (by assumption) (by assumption) rfl ?_ | refine eal rfl (by assumption) (by assumption) rfl ?_ | refine eri rfl ?_ | refine erv rfl ?_ | refine erl rfl ?_ | refine era rfl ?_ | refine erz0 rfl ?_ | refine erz1 rfl ?_ | refine ean0 rfl (by assumption) (by assumption) rfl ?_ | refine ean8 rfl (by assumption) (by assumption) rfl ?_ | refine ean12 rfl (by assumption) (by assumption) rfl ?_ | refine ean7 rfl (by assumption) (by assumption) rfl ?_)
  try dsimp only [set1, set2, kilP, List.set_cons_zero, List.set_cons_succ, List.getElem?_cons_zero, List.getElem?_cons_succ, List.nil_append, List.cons_append, Option.toList_some, Option.toList_none]
  refine y_back_loop (A := A) (M0 := M1) (N := k) (by omega) (fun M3 p hy3 hF3 hp L1 => ?_) 16 0 M1 (A 2) (by rw [sA_id]; exact hR.1) (Fr.rf b 16 M1) rfl (fun j hj => absurd hj (by omega))
  have s0 := hy3.1
  repeat (first | refine es rfl rfl rfl ?_ | refine eg rfl (by assumption) rfl ?_ | refine ean rfl (by assumption) (by assumption) rfl ?_ | refine eal rfl (by assumption) (by assumption) rfl ?_ | refine eri rfl ?_ | refine erv rfl ?_ | refine erl rfl ?_ | refine era rfl ?_ | refine erz0 rfl ?_ | refine erz1 rfl ?_ | refine ean0 rfl (by assumption) (by assumption) rfl ?_ | refine ean8 rfl (by assumption) (by assumption) rfl ?_ | refine ean12 rfl (by assumption) (by assumption) rfl ?_ | refine ean7 rfl (by assumption) (by assumption) rfl ?_)
  try dsimp only [set1, set2, kilP, List.set_cons_zero, List.set_cons_succ, List.getElem?_cons_zero, List.getElem?_cons_succ, List.nil_append, List.cons_append, Option.toList_some, Option.toList_none]
  refine epM (fs' := yF b (oa, (.ref a, rd), r, (nI ([] : List (Nat → Int32)).length, nI σ.mk.length), qr)) rfl s0 rfl rfl rfl (fun M4 eM4 => ?_)
  have hy4 := hy3.ob eM4
  have hF4 := hF3.up eM4 (by omega) (by omega)
  have w0 := hy4.1
  have hY4 : YR M4 b (σ.tp, σ.ts, σ.T, p, [], σ.mk, σ.tr, σ.fn, σ.fp) := by
    refine hR.np hy4 hF4 rfl rfl (fun q hq => rfl) ⟨by show 0 ≤ 16; omega, fun i r0 hr => ?_⟩ hmk
    simp at hr
  repeat (first | refine es rfl rfl rfl ?_ | refine eg rfl (by assumption) rfl ?_ | refine ean rfl (by assumption) (by assumption) rfl ?_ | refine eal rfl (by assumption) (by assumption) rfl ?_ | refine eri rfl ?_ | refine erv rfl ?_ | refine erl rfl ?_ | refine era rfl ?_ | refine erz0 rfl ?_ | refine erz1 rfl ?_ | refine ean0 rfl (by assumption) (by assumption) rfl ?_ | refine ean8 rfl (by assumption) (by assumption) rfl ?_ | refine ean12 rfl (by assumption) (by assumption) rfl ?_ | refine ean7 rfl (by assumption) (by assumption) rfl ?_)
  try dsimp only [set1, set2, kilP, List.set_cons_zero, List.set_cons_succ, List.getElem?_cons_zero, List.getElem?_cons_succ, List.nil_append, List.cons_append, Option.toList_some, Option.toList_none]
  refine ecv rfl rfl (by assumption) rfl rfl rfl (y_grant hY4) (by first | rfl | exact Nat.blt_eq.mpr (by omega)) ?_
  rintro v M6 ⟨rfl, hY6, hF6⟩
  try dsimp only [set1, set2, kilP, List.set_cons_zero, List.set_cons_succ, List.getElem?_cons_zero, List.getElem?_cons_succ, List.nil_append, List.cons_append, Option.toList_some, Option.toList_none]
  repeat (first | refine es rfl rfl rfl ?_ | refine eg rfl (by assumption) rfl ?_ | refine ean rfl (by assumption) (by assumption) rfl ?_ | refine eal rfl (by assumption) (by assumption) rfl ?_ | refine eri rfl ?_ | refine erv rfl ?_ | refine erl rfl ?_ | refine era rfl ?_ | refine erz0 rfl ?_ | refine erz1 rfl ?_ | refine ean0 rfl (by assumption) (by assumption) rfl ?_ | refine ean8 rfl (by assumption) (by assumption) rfl ?_ | refine ean12 rfl (by assumption) (by assumption) rfl ?_ | refine ean7 rfl (by assumption) (by assumption) rfl ?_)
  try dsimp only [set1, set2, kilP, List.set_cons_zero, List.set_cons_succ, List.getElem?_cons_zero, List.getElem?_cons_succ, List.nil_append, List.cons_append, Option.toList_some, Option.toList_none]
  refine ⟨fun v' σ' h => ?_, (hF.tr hF4 (by omega) (by omega)).tr (hF6.wide (lo2 := b) (n2 := 16) (by omega) (by omega)) (by omega) (by omega)⟩
  obtain ⟨rfl, r0, f', hr0, hf', rfl⟩ := h
  exact ⟨rfl, hY6.cf (fun j hj => ((hp j hj).trans (hmk.2 k r0 hr0 j hj)).trans (hf' j hj).symm)⟩
end RACTS
