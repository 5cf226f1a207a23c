/-! The reference: rows that fit -/
section RMAY
variable {ad : Nat → Nat} {M : Mm} {a : Nat} {T : Tw}
noncomputable abbrev mayP (T : Tw) (h g : Nat) : Int32 := @ite _ (¬ h = g ∧ alwB T.cs (nI h) (T.hs.sm g) (T.hs.ro g)) (Classical.propDecidable _) 1 0
theorem t_may2 {h g : Nat} (hM : aMt M a T) (hn : T.hs.n ≤ 7) (hz : T.cs.nz ≤ 4) (hg : g < T.hs.n) (hne : ¬ h = g) (hs : ∀ j, j < T.cs.sg → T.cs.sh j = nI h → T.cs.ss j = T.hs.sm g) : ∀ (n i : Nat), i + n = T.cs.nz → (∀ j, j < i → T.cs.nh j = nI h → T.cs.nr j ≤ T.hs.ro g) → Ev ad 0 (rX12_mayBe ad) (53, [some (.ref a), some (.int (nI h)), some (.int (nI g)), some (.int (nI i))], [], M) (fun v' M' => v' = some (.int (mayP T h g)) ∧ M' = M) := by
  obtain ⟨kn, Am, Bm, m0, mc, mH, mS, mP, mC, mN⟩ := id hM
  obtain ⟨m1, m2, m3, m4, m5, m6, m7, m8, m9, m10, m11, m12, m13, m14, m15, m16, m17⟩ := id mc
  have hg7 : g < 7 := by omega
  intro n
  induction n with
  | zero =>
    intro i hi hq
    repeat (first | refine es rfl rfl rfl ?_ | refine eg rfl (by assumption) rfl ?_ | refine eanE rfl (by assumption) (by with_reducible first | exact rfl | exact Int32.zero_add _ | exact ix8 _ | exact ix12 _ | exact ix7r _ _ | exact n7 | exact n0 | exact n1) (by assumption) rfl ?_ | refine eal rfl (by assumption) (by assumption) rfl ?_ | refine eri rfl ?_ | refine erv rfl ?_ | refine erl rfl ?_ | refine era rfl ?_ | refine erz0 rfl ?_ | refine erz1 rfl ?_)
    try dsimp only [set1, set2, kilP, List.set_cons_zero, List.set_cons_succ, List.getElem?_cons_zero, List.getElem?_cons_succ, List.nil_append, List.cons_append, Option.toList_some, Option.toList_none]
    refine ei _ rfl rfl (fun c => ?_) (fun c => ?_)
    · repeat (first | refine es rfl rfl rfl ?_ | refine eg rfl (by assumption) rfl ?_ | refine eanE rfl (by assumption) (by with_reducible first | exact rfl | exact Int32.zero_add _ | exact ix8 _ | exact ix12 _ | exact ix7r _ _ | exact n7 | exact n0 | exact n1) (by assumption) rfl ?_ | refine eal rfl (by assumption) (by assumption) rfl ?_ | refine eri rfl ?_ | refine erv rfl ?_ | refine erl rfl ?_ | refine era rfl ?_ | refine erz0 rfl ?_ | refine erz1 rfl ?_)
      try dsimp only [set1, set2, kilP, List.set_cons_zero, List.set_cons_succ, List.getElem?_cons_zero, List.getElem?_cons_succ, List.nil_append, List.cons_append, Option.toList_some, Option.toList_none]
      rw [show mayP T h g = 1 from if_pos ⟨hne, hs, fun j hj => hq j (by omega)⟩]
      exact ⟨rfl, rfl⟩
    · exact absurd (nI_le (by omega) (by omega)) c
  | succ n ih =>
    intro i hi hq
    have hi4 : i < 4 := by omega
    repeat (first | refine es rfl rfl rfl ?_ | refine eg rfl (by assumption) rfl ?_ | refine eanE rfl (by assumption) (by with_reducible first | exact rfl | exact Int32.zero_add _ | exact ix8 _ | exact ix12 _ | exact ix7r _ _ | exact n7 | exact n0 | exact n1) (by assumption) rfl ?_ | refine eal rfl (by assumption) (by assumption) rfl ?_ | refine eri rfl ?_ | refine erv rfl ?_ | refine erl rfl ?_ | refine era rfl ?_ | refine erz0 rfl ?_ | refine erz1 rfl ?_)
    try dsimp only [set1, set2, kilP, List.set_cons_zero, List.set_cons_succ, List.getElem?_cons_zero, List.getElem?_cons_succ, List.nil_append, List.cons_append, Option.toList_some, Option.toList_none]
    refine ei _ rfl rfl (fun c => ?_) (fun c => ?_)
    · exact absurd c (nI_ge (by omega) (by omega))
    repeat (first | refine es rfl rfl rfl ?_ | refine eg rfl (by assumption) rfl ?_ | refine eanE rfl (by assumption) (by with_reducible first | exact rfl | exact Int32.zero_add _ | exact ix8 _ | exact ix12 _ | exact ix7r _ _ | exact n7 | exact n0 | exact n1) (by assumption) rfl ?_ | refine eal rfl (by assumption) (by assumption) rfl ?_ | refine eri rfl ?_ | refine erv rfl ?_ | refine erl rfl ?_ | refine era rfl ?_ | refine erz0 rfl ?_ | refine erz1 rfl ?_)
    try dsimp only [set1, set2, kilP, List.set_cons_zero, List.set_cons_succ, List.getElem?_cons_zero, List.getElem?_cons_succ, List.nil_append, List.cons_append, Option.toList_some, Option.toList_none]
    rw [(mC.2 i (by omega)).1]
    refine ei _ rfl rfl (fun c1 => ?_) (fun c1 => ?_)
    · repeat (refine ng 53 rfl ?_; first | refine es rfl rfl rfl ?_ | refine eg rfl (by assumption) rfl ?_ | refine eanE rfl (by assumption) (by with_reducible first | exact rfl | exact Int32.zero_add _ | exact ix8 _ | exact ix12 _ | exact ix7r _ _ | exact n7 | exact n0 | exact n1) (by assumption) rfl ?_ | refine eal rfl (by assumption) (by assumption) rfl ?_ | refine eri rfl ?_ | refine erv rfl ?_ | refine erl rfl ?_ | refine era rfl ?_ | refine erz0 rfl ?_ | refine erz1 rfl ?_)
      try dsimp only [set1, set2, kilP, List.set_cons_zero, List.set_cons_succ, List.getElem?_cons_zero, List.getElem?_cons_succ, List.nil_append, List.cons_append, Option.toList_some, Option.toList_none]
      rw [nI_1]
      refine ih (i + 1) (by omega) (fun j hj e => ?_)
      by_cases q : j = i
      · rw [q] at e; exact absurd e c1
      · exact hq j (by omega) e
    repeat (first | refine es rfl rfl rfl ?_ | refine eg rfl (by assumption) rfl ?_ | refine eanE rfl (by assumption) (by with_reducible first | exact rfl | exact Int32.zero_add _ | exact ix8 _ | exact ix12 _ | exact ix7r _ _ | exact n7 | exact n0 | exact n1) (by assumption) rfl ?_ | refine eal rfl (by assumption) (by assumption) rfl ?_ | refine eri rfl ?_ | refine erv rfl ?_ | refine erl rfl ?_ | refine era rfl ?_ | refine erz0 rfl ?_ | refine erz1 rfl ?_)
    try dsimp only [set1, set2, kilP, List.set_cons_zero, List.set_cons_succ, List.getElem?_cons_zero, List.getElem?_cons_succ, List.nil_append, List.cons_append, Option.toList_some, Option.toList_none]
    rw [(mC.2 i (by omega)).2, (mH g hg).1]
    refine ei _ rfl rfl (fun c2 => ?_) (fun c2 => ?_)
    · repeat (refine ng 53 rfl ?_; first | refine es rfl rfl rfl ?_ | refine eg rfl (by assumption) rfl ?_ | refine eanE rfl (by assumption) (by with_reducible first | exact rfl | exact Int32.zero_add _ | exact ix8 _ | exact ix12 _ | exact ix7r _ _ | exact n7 | exact n0 | exact n1) (by assumption) rfl ?_ | refine eal rfl (by assumption) (by assumption) rfl ?_ | refine eri rfl ?_ | refine erv rfl ?_ | refine erl rfl ?_ | refine era rfl ?_ | refine erz0 rfl ?_ | refine erz1 rfl ?_)
      try dsimp only [set1, set2, kilP, List.set_cons_zero, List.set_cons_succ, List.getElem?_cons_zero, List.getElem?_cons_succ, List.nil_append, List.cons_append, Option.toList_some, Option.toList_none]
      rw [nI_1]
      refine ih (i + 1) (by omega) (fun j hj e => ?_)
      by_cases q : j = i
      · rw [q]; exact c2
      · exact hq j (by omega) e
    · repeat (first | refine es rfl rfl rfl ?_ | refine eg rfl (by assumption) rfl ?_ | refine eanE rfl (by assumption) (by with_reducible first | exact rfl | exact Int32.zero_add _ | exact ix8 _ | exact ix12 _ | exact ix7r _ _ | exact n7 | exact n0 | exact n1) (by assumption) rfl ?_ | refine eal rfl (by assumption) (by assumption) rfl ?_ | refine eri rfl ?_ | refine erv rfl ?_ | refine erl rfl ?_ | refine era rfl ?_ | refine erz0 rfl ?_ | refine erz1 rfl ?_)
      try dsimp only [set1, set2, kilP, List.set_cons_zero, List.set_cons_succ, List.getElem?_cons_zero, List.getElem?_cons_succ, List.nil_append, List.cons_append, Option.toList_some, Option.toList_none]
      rw [show mayP T h g = 0 from if_neg (fun w => c2 (w.2.2 i (by omega) (Decidable.not_not.mp c1)))]
      exact ⟨rfl, rfl⟩
theorem t_may1 {h g : Nat} (hM : aMt M a T) (hn : T.hs.n ≤ 7) (hz : T.cs.nz ≤ 4) (hsg : T.cs.sg ≤ 8) (hg : g < T.hs.n) (hne : ¬ h = g) : ∀ (n i : Nat), i + n = T.cs.sg → (∀ j, j < i → T.cs.sh j = nI h → T.cs.ss j = T.hs.sm g) → Ev ad 0 (rX12_mayBe ad) (9, [some (.ref a), some (.int (nI h)), some (.int (nI g)), some (.int (nI i))], [], M) (fun v' M' => v' = some (.int (mayP T h g)) ∧ M' = M) := by
  obtain ⟨kn, Am, Bm, m0, mc, mH, mS, mP, mC, mN⟩ := id hM
  obtain ⟨m1, m2, m3, m4, m5, m6, m7, m8, m9, m10, m11, m12, m13, m14, m15, m16, m17⟩ := id mc
  have hg7 : g < 7 := by omega
  intro n
  induction n with
  | zero =>
    intro i hi hq
    repeat (first | refine es rfl rfl rfl ?_ | refine eg rfl (by assumption) rfl ?_ | refine eanE rfl (by assumption) (by with_reducible first | exact rfl | exact Int32.zero_add _ | exact ix8 _ | exact ix12 _ | exact ix7r _ _ | exact n7 | exact n0 | exact n1) (by assumption) rfl ?_ | refine eal rfl (by assumption) (by assumption) rfl ?_ | refine eri rfl ?_ | refine erv rfl ?_ | refine erl rfl ?_ | refine era rfl ?_ | refine erz0 rfl ?_ | refine erz1 rfl ?_)
    try dsimp only [set1, set2, kilP, List.set_cons_zero, List.set_cons_succ, List.getElem?_cons_zero, List.getElem?_cons_succ, List.nil_append, List.cons_append, Option.toList_some, Option.toList_none]
    refine ei _ rfl rfl (fun c => ?_) (fun c => ?_)
    · repeat (refine ng 53 rfl ?_; first | refine es rfl rfl rfl ?_ | refine eg rfl (by assumption) rfl ?_ | refine eanE rfl (by assumption) (by with_reducible first | exact rfl | exact Int32.zero_add _ | exact ix8 _ | exact ix12 _ | exact ix7r _ _ | exact n7 | exact n0 | exact n1) (by assumption) rfl ?_ | refine eal rfl (by assumption) (by assumption) rfl ?_ | refine eri rfl ?_ | refine erv rfl ?_ | refine erl rfl ?_ | refine era rfl ?_ | refine erz0 rfl ?_ | refine erz1 rfl ?_)
      try dsimp only [set1, set2, kilP, List.set_cons_zero, List.set_cons_succ, List.getElem?_cons_zero, List.getElem?_cons_succ, List.nil_append, List.cons_append, Option.toList_some, Option.toList_none]
      exact t_may2 hM hn hz hg hne (fun j hj => hq j (by omega)) T.cs.nz 0 (by omega) (fun j hj => absurd hj (by omega))
    · exact absurd (nI_le (by omega) (by omega)) c
  | succ n ih =>
    intro i hi hq
    have hi8 : i < 8 := by omega
    repeat (first | refine es rfl rfl rfl ?_ | refine eg rfl (by assumption) rfl ?_ | refine eanE rfl (by assumption) (by with_reducible first | exact rfl | exact Int32.zero_add _ | exact ix8 _ | exact ix12 _ | exact ix7r _ _ | exact n7 | exact n0 | exact n1) (by assumption) rfl ?_ | refine eal rfl (by assumption) (by assumption) rfl ?_ | refine eri rfl ?_ | refine erv rfl ?_ | refine erl rfl ?_ | refine era rfl ?_ | refine erz0 rfl ?_ | refine erz1 rfl ?_)
    try dsimp only [set1, set2, kilP, List.set_cons_zero, List.set_cons_succ, List.getElem?_cons_zero, List.getElem?_cons_succ, List.nil_append, List.cons_append, Option.toList_some, Option.toList_none]
    refine ei _ rfl rfl (fun c => ?_) (fun c => ?_)
    · exact absurd c (nI_ge (by omega) (by omega))
    repeat (first | refine es rfl rfl rfl ?_ | refine eg rfl (by assumption) rfl ?_ | refine eanE rfl (by assumption) (by with_reducible first | exact rfl | exact Int32.zero_add _ | exact ix8 _ | exact ix12 _ | exact ix7r _ _ | exact n7 | exact n0 | exact n1) (by assumption) rfl ?_ | refine eal rfl (by assumption) (by assumption) rfl ?_ | refine eri rfl ?_ | refine erv rfl ?_ | refine erl rfl ?_ | refine era rfl ?_ | refine erz0 rfl ?_ | refine erz1 rfl ?_)
    try dsimp only [set1, set2, kilP, List.set_cons_zero, List.set_cons_succ, List.getElem?_cons_zero, List.getElem?_cons_succ, List.nil_append, List.cons_append, Option.toList_some, Option.toList_none]
    rw [(mC.1 i (by omega)).1]
    refine ei _ rfl rfl (fun c1 => ?_) (fun c1 => ?_)
    · repeat (refine ng 9 rfl ?_; first | refine es rfl rfl rfl ?_ | refine eg rfl (by assumption) rfl ?_ | refine eanE rfl (by assumption) (by with_reducible first | exact rfl | exact Int32.zero_add _ | exact ix8 _ | exact ix12 _ | exact ix7r _ _ | exact n7 | exact n0 | exact n1) (by assumption) rfl ?_ | refine eal rfl (by assumption) (by assumption) rfl ?_ | refine eri rfl ?_ | refine erv rfl ?_ | refine erl rfl ?_ | refine era rfl ?_ | refine erz0 rfl ?_ | refine erz1 rfl ?_)
      try dsimp only [set1, set2, kilP, List.set_cons_zero, List.set_cons_succ, List.getElem?_cons_zero, List.getElem?_cons_succ, List.nil_append, List.cons_append, Option.toList_some, Option.toList_none]
      rw [nI_1]
      refine ih (i + 1) (by omega) (fun j hj e => ?_)
      by_cases q : j = i
      · rw [q] at e; exact absurd e c1
      · exact hq j (by omega) e
    repeat (first | refine es rfl rfl rfl ?_ | refine eg rfl (by assumption) rfl ?_ | refine eanE rfl (by assumption) (by with_reducible first | exact rfl | exact Int32.zero_add _ | exact ix8 _ | exact ix12 _ | exact ix7r _ _ | exact n7 | exact n0 | exact n1) (by assumption) rfl ?_ | refine eal rfl (by assumption) (by assumption) rfl ?_ | refine eri rfl ?_ | refine erv rfl ?_ | refine erl rfl ?_ | refine era rfl ?_ | refine erz0 rfl ?_ | refine erz1 rfl ?_)
    try dsimp only [set1, set2, kilP, List.set_cons_zero, List.set_cons_succ, List.getElem?_cons_zero, List.getElem?_cons_succ, List.nil_append, List.cons_append, Option.toList_some, Option.toList_none]
    rw [(mC.1 i (by omega)).2, (mH g hg).2.2.2.2.2.2]
    refine ei _ rfl rfl (fun c2 => ?_) (fun c2 => ?_)
    · repeat (refine ng 9 rfl ?_; first | refine es rfl rfl rfl ?_ | refine eg rfl (by assumption) rfl ?_ | refine eanE rfl (by assumption) (by with_reducible first | exact rfl | exact Int32.zero_add _ | exact ix8 _ | exact ix12 _ | exact ix7r _ _ | exact n7 | exact n0 | exact n1) (by assumption) rfl ?_ | refine eal rfl (by assumption) (by assumption) rfl ?_ | refine eri rfl ?_ | refine erv rfl ?_ | refine erl rfl ?_ | refine era rfl ?_ | refine erz0 rfl ?_ | refine erz1 rfl ?_)
      try dsimp only [set1, set2, kilP, List.set_cons_zero, List.set_cons_succ, List.getElem?_cons_zero, List.getElem?_cons_succ, List.nil_append, List.cons_append, Option.toList_some, Option.toList_none]
      rw [nI_1]
      refine ih (i + 1) (by omega) (fun j hj e => ?_)
      by_cases q : j = i
      · rw [q]; exact lcmp_eq.mp c2
      · exact hq j (by omega) e
    · repeat (first | refine es rfl rfl rfl ?_ | refine eg rfl (by assumption) rfl ?_ | refine eanE rfl (by assumption) (by with_reducible first | exact rfl | exact Int32.zero_add _ | exact ix8 _ | exact ix12 _ | exact ix7r _ _ | exact n7 | exact n0 | exact n1) (by assumption) rfl ?_ | refine eal rfl (by assumption) (by assumption) rfl ?_ | refine eri rfl ?_ | refine erv rfl ?_ | refine erl rfl ?_ | refine era rfl ?_ | refine erz0 rfl ?_ | refine erz1 rfl ?_)
      try dsimp only [set1, set2, kilP, List.set_cons_zero, List.set_cons_succ, List.getElem?_cons_zero, List.getElem?_cons_succ, List.nil_append, List.cons_append, Option.toList_some, Option.toList_none]
      rw [show mayP T h g = 0 from if_neg (fun w => c2 (lcmp_eq.mpr (w.2.1 i (by omega) (Decidable.not_not.mp c1))))]
      exact ⟨rfl, rfl⟩
theorem t_may {h g : Nat} (hM : aMt M a T) (hn : T.hs.n ≤ 7) (hz : T.cs.nz ≤ 4) (hsg : T.cs.sg ≤ 8) (hh : h < 7) (hg : g < T.hs.n) : Rd ad 0 (iX12_mayBe ad) [.ref a, .int (nI h), .int (nI g)] M (some (.int (mayP T h g))) := by
  refine ⟨Nat.le_of_ble_eq_true rfl, ?_⟩
  show Ev ad _ (rX12_mayBe ad) (0, [some (.ref a), some (.int (nI h)), some (.int (nI g)), none], [], M) _
  repeat (first | refine es rfl rfl rfl ?_ | refine eg rfl (by assumption) rfl ?_ | refine eanE rfl (by assumption) (by with_reducible first | exact rfl | exact Int32.zero_add _ | exact ix8 _ | exact ix12 _ | exact ix7r _ _ | exact n7 | exact n0 | exact n1) (by assumption) rfl ?_ | refine eal rfl (by assumption) (by assumption) rfl ?_ | refine eri rfl ?_ | refine erv rfl ?_ | refine erl rfl ?_ | refine era rfl ?_ | refine erz0 rfl ?_ | refine erz1 rfl ?_)
  try dsimp only [set1, set2, kilP, List.set_cons_zero, List.set_cons_succ, List.getElem?_cons_zero, List.getElem?_cons_succ, List.nil_append, List.cons_append, Option.toList_some, Option.toList_none]
  refine ei _ rfl rfl (fun c => ?_) (fun c => ?_)
  · repeat (refine ng 9 rfl ?_; first | refine es rfl rfl rfl ?_ | refine eg rfl (by assumption) rfl ?_ | refine eanE rfl (by assumption) (by with_reducible first | exact rfl | exact Int32.zero_add _ | exact ix8 _ | exact ix12 _ | exact ix7r _ _ | exact n7 | exact n0 | exact n1) (by assumption) rfl ?_ | refine eal rfl (by assumption) (by assumption) rfl ?_ | refine eri rfl ?_ | refine erv rfl ?_ | refine erl rfl ?_ | refine era rfl ?_ | refine erz0 rfl ?_ | refine erz1 rfl ?_)
    try dsimp only [set1, set2, kilP, List.set_cons_zero, List.set_cons_succ, List.getElem?_cons_zero, List.getElem?_cons_succ, List.nil_append, List.cons_append, Option.toList_some, Option.toList_none]
    exact t_may1 hM hn hz hsg hg (fun q => c (by rw [q])) T.cs.sg 0 (by omega) (fun j hj => absurd hj (by omega))
  · have e : h = g := (nI_eq (by omega) (by omega)).mp (Decidable.not_not.mp c)
    repeat (first | refine es rfl rfl rfl ?_ | refine eg rfl (by assumption) rfl ?_ | refine eanE rfl (by assumption) (by with_reducible first | exact rfl | exact Int32.zero_add _ | exact ix8 _ | exact ix12 _ | exact ix7r _ _ | exact n7 | exact n0 | exact n1) (by assumption) rfl ?_ | refine eal rfl (by assumption) (by assumption) rfl ?_ | refine eri rfl ?_ | refine erv rfl ?_ | refine erl rfl ?_ | refine era rfl ?_ | refine erz0 rfl ?_ | refine erz1 rfl ?_)
    try dsimp only [set1, set2, kilP, List.set_cons_zero, List.set_cons_succ, List.getElem?_cons_zero, List.getElem?_cons_succ, List.nil_append, List.cons_append, Option.toList_some, Option.toList_none]
    rw [show mayP T h g = 0 from if_neg (fun w => w.1 e)]
    exact ⟨rfl, rfl⟩
end RMAY
/-- what is counted: rows, counts, the first row -/
def faR (n : Nat) (ro : Int32) (ct fi : Nat → Int32) (acc : List Fo) : Prop := ro = nI acc.length ∧ (∀ h g, h < n → g < 7 → ct (7 * h + g) = nI (cntL acc h g)) ∧ ∀ r0 L', acc = r0 :: L' → ∀ j, j < n → fi j = nI (r0 j)
abbrev Y2 : Type := (Int32 × Int32) × Int32
section RFIT
variable {ad : Nat → Nat} {M : Mm} {b : Nat} {σ : Sg} {C : Nat} {a : Nat} {oa : Int32 × Int32 × Int32} {rd : Value} {r : Yr} {p1 p2 : Int32 × Int32} {al0 : Int32} {q4 : Y2} {M0 : Mm} {A0 : Ar}
def yU (M : Mm) (b a : Nat) (σ : Sg) (oa : Int32 × Int32 × Int32) (rd : Value) (r : Yr) (p1 p2 : Int32 × Int32) (q4 : Y2) (M0 : Mm) (A0 : Ar) (un ro al : Int32) (A : Ar) : Prop := yW M b a σ oa rd (r, p1, p2, (un, ro, al), q4) A ∧ (∀ k, k ≠ 9 → k ≠ 10 → k ≠ 11 → k ≠ 12 → A k = A0 k) ∧ Fr b 16 M0 M
theorem yU.ar {A : Ar} {un ro al : Int32} {k : Nat} {g : Nat → Int32} {M2 : Mm} (h : yU M b a σ oa rd r p1 p2 q4 M0 A0 un ro al A) (e : M2 = up M (b + k) (.inl (tyk k, szk k, .inl g))) (hk : k = 9 ∨ k = 10 ∨ k = 11 ∨ k = 12) : yU M2 b a σ oa rd r p1 p2 q4 M0 A0 un ro al (sA A k g) := by
  obtain ⟨⟨h1, h2, h3, h4⟩, h5, h6⟩ := h
  refine ⟨⟨h1.ar e (by omega), h2, h3.fr ((Fr.rf b 16 M).up e (by omega) (by omega)) (by omega), fun j hj => ?_⟩, fun j a1 a2 a3 a4 => ?_, h6.up e (by omega) (by omega)⟩
  · rw [sA_n (by omega)]; exact h4 j hj
  · rw [sA_n (by omega)]; exact h5 j a1 a2 a3 a4
theorem yU.ob {A : Ar} {un ro al un2 ro2 al2 : Int32} {M2 : Mm} (h : yU M b a σ oa rd r p1 p2 q4 M0 A0 un ro al A) (e : M2 = up M b (.inr (13, yF b (oa, (.ref a, rd), r, p1, p2, (un2, ro2, al2), q4)))) : yU M2 b a σ oa rd r p1 p2 q4 M0 A0 un2 ro2 al2 A := by
  obtain ⟨⟨h1, h2, h3, h4⟩, h5, h6⟩ := h
  exact ⟨⟨h1.ob e, h2, h3.fr ((Fr.rf b 16 M).up e (by omega) (by omega)) (by omega), h4⟩, h5, h6.up e (by omega) (by omega)⟩
theorem yU.R {M' : Mm} {A A' : Ar} {un ro al un' ro' al' : Int32} (hV : yU M' b a σ oa rd r p1 p2 q4 M A un' ro' al' A') (hR : yR M b σ (oa, (.ref a, rd), r, p1, p2, (un, ro, al), q4) A) : yR M' b σ (oa, (.ref a, rd), r, p1, p2, (un', ro', al'), q4) A' :=
  hR.sc hV.1.1 hV.2.2 rfl (hV.2.1 1 (by omega) (by omega) (by omega) (by omega)) (hV.2.1 2 (by omega) (by omega) (by omega) (by omega)) (hV.2.1 3 (by omega) (by omega) (by omega) (by omega)) (hV.2.1 4 (by omega) (by omega) (by omega) (by omega)) (hV.2.1 15 (by omega) (by omega) (by omega) (by omega))
theorem cntL_1 {acc : List Fo} {w : Fo} {h g : Nat} : cntL (acc ++ [w]) h g = cntL acc h g + (if w h = g then 1 else 0) := by
  rw [cntL_app]
  congr 1
  unfold cntL
  by_cases e : w h = g
  · rw [if_pos e]; simp [e]
  · rw [if_neg e]; simp [e]
/-- a row is counted -/
theorem y_cr_loop {un al : Int32} {acc : List Fo} {w : Fo} (hn : σ.T.hs.n ≤ 7) (hw : ∀ j, j < σ.T.hs.n → w j < 7) (hal : acc.length < 2 ^ 30) {ct0 : Nat → Int32} (h0c : ∀ h g, h < σ.T.hs.n → g < 7 → ct0 (7 * h + g) = nI (cntL acc h g)) (hfi : ∀ fi : Nat → Int32, True) : ∀ (n h : Nat) (M : Mm) (A : Ar), yU M b a σ oa rd r p1 p2 q4 M0 A0 un (nI acc.length) al A → h + n = σ.T.hs.n → (∀ j, j < σ.T.hs.n → A 10 j = nI (w j)) → (∀ h' g', h' < σ.T.hs.n → g' < 7 → A 12 (7 * h' + g') = nI (cntL acc h' g' + if h' < h ∧ w h' = g' then 1 else 0)) → (acc = [] → ∀ j, j < h → A 11 j = nI (w j)) → (∀ r0 L', acc = r0 :: L' → ∀ j, j < σ.T.hs.n → A 11 j = nI (r0 j)) → Ev ad 0 (rX13_countsRow ad) (2, [some (.ref b), some (.int (nI h))], [], M) (fun v' M' => v' = none ∧ ∃ A', yU M' b a σ oa rd r p1 p2 q4 M0 A0 un (nI (acc ++ [w]).length) al A' ∧ A' 9 = A 9 ∧ A' 10 = A 10 ∧ faR σ.T.hs.n (nI (acc ++ [w]).length) (A' 12) (A' 11) (acc ++ [w])) := by
  intro n
  induction n with
  | zero =>
    intro h M A hV hh ho hc hf1 hf2
    obtain ⟨_, _, ⟨kn, Am, Bm, m0, -⟩, _⟩ := hV.1
    have h0 := hV.1.1.1
    have el : (acc ++ [w]).length = acc.length + 1 := by rw [List.length_append]; rfl
    repeat (first | refine es rfl rfl rfl ?_ | refine eg rfl (by assumption) rfl ?_ | refine eanE rfl (by assumption) (by with_reducible first | exact rfl | exact Int32.zero_add _ | exact ix8 _ | exact ix12 _ | exact ix7r _ _ | exact n7 | exact n0 | exact n1) (by assumption) rfl ?_ | refine eal rfl (by assumption) (by assumption) rfl ?_ | refine eri rfl ?_ | refine erv rfl ?_ | refine erl rfl ?_ | refine era rfl ?_ | refine erz0 rfl ?_ | refine erz1 rfl ?_)
    try dsimp only [set1, set2, kilP, List.set_cons_zero, List.set_cons_succ, List.getElem?_cons_zero, List.getElem?_cons_succ, List.nil_append, List.cons_append, Option.toList_some, Option.toList_none]
    refine ei _ rfl rfl (fun c => ?_) (fun c => ?_)
    · repeat (first | refine es rfl rfl rfl ?_ | refine eg rfl (by assumption) rfl ?_ | refine eanE rfl (by assumption) (by with_reducible first | exact rfl | exact Int32.zero_add _ | exact ix8 _ | exact ix12 _ | exact ix7r _ _ | exact n7 | exact n0 | exact n1) (by assumption) rfl ?_ | refine eal rfl (by assumption) (by assumption) rfl ?_ | refine eri rfl ?_ | refine erv rfl ?_ | refine erl rfl ?_ | refine era rfl ?_ | refine erz0 rfl ?_ | refine erz1 rfl ?_)
      try dsimp only [set1, set2, kilP, List.set_cons_zero, List.set_cons_succ, List.getElem?_cons_zero, List.getElem?_cons_succ, List.nil_append, List.cons_append, Option.toList_some, Option.toList_none]
      refine epM (fs' := yF b (oa, (.ref a, rd), r, p1, p2, (un, nI (acc ++ [w]).length, al), q4)) rfl h0 rfl rfl (by rw [el, ← nI_1]; rfl) (fun M2 eM => ?_)
      repeat (first | refine es rfl rfl rfl ?_ | refine eg rfl (by assumption) rfl ?_ | refine eanE rfl (by assumption) (by with_reducible first | exact rfl | exact Int32.zero_add _ | exact ix8 _ | exact ix12 _ | exact ix7r _ _ | exact n7 | exact n0 | exact n1) (by assumption) rfl ?_ | refine eal rfl (by assumption) (by assumption) rfl ?_ | refine eri rfl ?_ | refine erv rfl ?_ | refine erl rfl ?_ | refine era rfl ?_ | refine erz0 rfl ?_ | refine erz1 rfl ?_)
      try dsimp only [set1, set2, kilP, List.set_cons_zero, List.set_cons_succ, List.getElem?_cons_zero, List.getElem?_cons_succ, List.nil_append, List.cons_append, Option.toList_some, Option.toList_none]
      refine ⟨rfl, A, hV.ob eM, rfl, rfl, rfl, fun h' g' x1 x2 => ?_, fun r0 L' e j hj => ?_⟩
      · rw [hc h' g' x1 x2, cntL_1]
        congr 2
        by_cases e : w h' = g'
        · rw [if_pos ⟨by omega, e⟩, if_pos e]
        · rw [if_neg (fun z => e z.2), if_neg e]
      · cases ea : acc with
        | nil =>
          rw [ea, List.nil_append] at e
          injection e with e1 _
          rw [← e1]
          exact hf1 ea j (by omega)
        | cons x A' =>
          rw [ea, List.cons_append] at e
          injection e with e1 _
          rw [← e1]
          exact hf2 x A' ea j hj
    · exact absurd (nI_le (by omega) (by omega)) c
  | succ n ih =>
    intro h M A hV hh ho hc hf1 hf2
    obtain ⟨_, _, ⟨kn, Am, Bm, m0, -⟩, _⟩ := hV.1
    have h0 := hV.1.1.1
    obtain ⟨c1', c2', c3', c4', c5', c6', c7', c8', c9', c10', c11', c12', -⟩ := hV.1.1.c
    have hn7 : h < 7 := by omega
    have hwh := hw h (by omega)
    have hi : 7 * h + w h < 49 := by omega
    repeat (first | refine es rfl rfl rfl ?_ | refine eg rfl (by assumption) rfl ?_ | refine eanE rfl (by assumption) (by with_reducible first | exact rfl | exact Int32.zero_add _ | exact ix8 _ | exact ix12 _ | exact ix7r _ _ | exact n7 | exact n0 | exact n1) (by assumption) rfl ?_ | refine eal rfl (by assumption) (by assumption) rfl ?_ | refine eri rfl ?_ | refine erv rfl ?_ | refine erl rfl ?_ | refine era rfl ?_ | refine erz0 rfl ?_ | refine erz1 rfl ?_)
    try dsimp only [set1, set2, kilP, List.set_cons_zero, List.set_cons_succ, List.getElem?_cons_zero, List.getElem?_cons_succ, List.nil_append, List.cons_append, Option.toList_some, Option.toList_none]
    refine ei _ rfl rfl (fun c => ?_) (fun c => ?_)
    · exact absurd c (nI_ge (by omega) (by omega))
    repeat (first | refine es rfl rfl rfl ?_ | refine eg rfl (by assumption) rfl ?_ | refine eanE rfl (by assumption) (by with_reducible first | exact rfl | exact Int32.zero_add _ | exact ix8 _ | exact ix12 _ | exact ix7r _ _ | exact n7 | exact n0 | exact n1) (by assumption) rfl ?_ | refine eal rfl (by assumption) (by assumption) rfl ?_ | refine eri rfl ?_ | refine erv rfl ?_ | refine erl rfl ?_ | refine era rfl ?_ | refine erz0 rfl ?_ | refine erz1 rfl ?_)
    try dsimp only [set1, set2, kilP, List.set_cons_zero, List.set_cons_succ, List.getElem?_cons_zero, List.getElem?_cons_succ, List.nil_append, List.cons_append, Option.toList_some, Option.toList_none]
    rw [ho h (by omega)]
    repeat (first | refine es rfl rfl rfl ?_ | refine eg rfl (by assumption) rfl ?_ | refine eanE rfl (by assumption) (by with_reducible first | exact rfl | exact Int32.zero_add _ | exact ix8 _ | exact ix12 _ | exact ix7r _ _ | exact n7 | exact n0 | exact n1) (by assumption) rfl ?_ | refine eal rfl (by assumption) (by assumption) rfl ?_ | refine eri rfl ?_ | refine erv rfl ?_ | refine erl rfl ?_ | refine era rfl ?_ | refine erz0 rfl ?_ | refine erz1 rfl ?_)
    try dsimp only [set1, set2, kilP, List.set_cons_zero, List.set_cons_succ, List.getElem?_cons_zero, List.getElem?_cons_succ, List.nil_append, List.cons_append, Option.toList_some, Option.toList_none]
    rw [ix7r]
    refine etM rfl c12' hi rfl (fun M2 eM => ?_)
    have hV2 := hV.ar (k := 12) eM (by omega)
    have k0 := hV2.1.1.1
    have k10 : M2.1 (b + 10) = ints 7 (A 10) := hV2.1.1.c.2.2.2.2.2.2.2.2.2.1
    have k11 : M2.1 (b + 11) = ints 7 (A 11) := hV2.1.1.c.2.2.2.2.2.2.2.2.2.2.1
    have hc2 : ∀ h' g', h' < σ.T.hs.n → g' < 7 → upd (A 12) (7 * h + w h) (A 12 (7 * h + w h) + 1) (7 * h' + g') = nI (cntL acc h' g' + if h' < h + 1 ∧ w h' = g' then 1 else 0) := by
      intro h' g' x1 x2
      by_cases e : h' = h ∧ g' = w h
      · rw [e.1, e.2, pk_us, hc h (w h) (by omega) hwh, nI_1, if_neg (by omega), if_pos ⟨by omega, rfl⟩]
      · rw [pk_un (by omega), hc h' g' x1 x2]
        congr 2
        by_cases e2 : h' < h ∧ w h' = g'
        · rw [if_pos e2, if_pos ⟨by omega, e2.2⟩]
        · rw [if_neg e2, if_neg (fun z => by
            by_cases e3 : h' = h
            · exact e ⟨e3, by rw [← z.2, e3]⟩
            · exact e2 ⟨by omega, z.2⟩)]
    repeat (first | refine es rfl rfl rfl ?_ | refine eg rfl (by assumption) rfl ?_ | refine eanE rfl (by assumption) (by with_reducible first | exact rfl | exact Int32.zero_add _ | exact ix8 _ | exact ix12 _ | exact ix7r _ _ | exact n7 | exact n0 | exact n1) (by assumption) rfl ?_ | refine eal rfl (by assumption) (by assumption) rfl ?_ | refine eri rfl ?_ | refine erv rfl ?_ | refine erl rfl ?_ | refine era rfl ?_ | refine erz0 rfl ?_ | refine erz1 rfl ?_)
    try dsimp only [set1, set2, kilP, List.set_cons_zero, List.set_cons_succ, List.getElem?_cons_zero, List.getElem?_cons_succ, List.nil_append, List.cons_append, Option.toList_some, Option.toList_none]
    refine ei _ rfl rfl (fun c2 => ?_) (fun c2 => ?_)
    · repeat (refine ng 2 rfl ?_; first | refine es rfl rfl rfl ?_ | refine eg rfl (by assumption) rfl ?_ | refine eanE rfl (by assumption) (by with_reducible first | exact rfl | exact Int32.zero_add _ | exact ix8 _ | exact ix12 _ | exact ix7r _ _ | exact n7 | exact n0 | exact n1) (by assumption) rfl ?_ | refine eal rfl (by assumption) (by assumption) rfl ?_ | refine eri rfl ?_ | refine erv rfl ?_ | refine erl rfl ?_ | refine era rfl ?_ | refine erz0 rfl ?_ | refine erz1 rfl ?_)
      try dsimp only [set1, set2, kilP, List.set_cons_zero, List.set_cons_succ, List.getElem?_cons_zero, List.getElem?_cons_succ, List.nil_append, List.cons_append, Option.toList_some, Option.toList_none]
      rw [nI_1]
      have hne : ¬ acc = [] := fun q => c2 (by show nI acc.length = 0; rw [q]; rfl)
      refine (ih (h + 1) M2 _ hV2 (by omega) ho hc2 (fun q => absurd q hne) hf2).im (fun v M' q => ?_)
      obtain ⟨q1, A', q2, q3, q4', q5⟩ := q
      exact ⟨q1, A', q2, q3, q4', q5⟩
    · have he : acc = [] := by
        have := (nI_eq (a := acc.length) (b := 0) (by omega) (by omega)).mp (Decidable.not_not.mp c2)
        exact List.eq_nil_of_length_eq_zero this
      repeat (first | refine es rfl rfl rfl ?_ | refine eg rfl (by assumption) rfl ?_ | refine eanE rfl (by assumption) (by with_reducible first | exact rfl | exact Int32.zero_add _ | exact ix8 _ | exact ix12 _ | exact ix7r _ _ | exact n7 | exact n0 | exact n1) (by assumption) rfl ?_ | refine eal rfl (by assumption) (by assumption) rfl ?_ | refine eri rfl ?_ | refine erv rfl ?_ | refine erl rfl ?_ | refine era rfl ?_ | refine erz0 rfl ?_ | refine erz1 rfl ?_)
      try dsimp only [set1, set2, kilP, List.set_cons_zero, List.set_cons_succ, List.getElem?_cons_zero, List.getElem?_cons_succ, List.nil_append, List.cons_append, Option.toList_some, Option.toList_none]
      refine etM rfl k11 hn7 rfl (fun M3 eM3 => ?_)
      have hV3 := hV2.ar (k := 11) eM3 (by omega)
      repeat (refine ng 2 rfl ?_; first | refine es rfl rfl rfl ?_ | refine eg rfl (by assumption) rfl ?_ | refine eanE rfl (by assumption) (by with_reducible first | exact rfl | exact Int32.zero_add _ | exact ix8 _ | exact ix12 _ | exact ix7r _ _ | exact n7 | exact n0 | exact n1) (by assumption) rfl ?_ | refine eal rfl (by assumption) (by assumption) rfl ?_ | refine eri rfl ?_ | refine erv rfl ?_ | refine erl rfl ?_ | refine era rfl ?_ | refine erz0 rfl ?_ | refine erz1 rfl ?_)
      try dsimp only [set1, set2, kilP, List.set_cons_zero, List.set_cons_succ, List.getElem?_cons_zero, List.getElem?_cons_succ, List.nil_append, List.cons_append, Option.toList_some, Option.toList_none]
      rw [nI_1]
      refine (ih (h + 1) M3 _ hV3 (by omega) ho hc2 (fun q j hj => ?_) (fun r0 L' e => by rw [he] at e; cases e)).im (fun v M' q => ?_)
      · show upd (A 11) h (A 10 h) j = nI (w j)
        by_cases e : j = h
        · rw [e, pk_us]; exact ho h (by omega)
        · rw [pk_un e]; exact hf1 q j (by omega)
      · obtain ⟨q1, A', q2, q3, q4', q5⟩ := q
        exact ⟨q1, A', q2, q3, q4', q5⟩
theorem y_cr {un al : Int32} {acc : List Fo} {w : Fo} {A : Ar} {ro : Int32} (hn : σ.T.hs.n ≤ 7) (hw : ∀ j, j < σ.T.hs.n → w j < 7) (hal : acc.length < 2 ^ 30) (hV : yU M b a σ oa rd r p1 p2 q4 M0 A0 un ro al A) (ho : ∀ j, j < σ.T.hs.n → A 10 j = nI (w j)) (hf : faR σ.T.hs.n ro (A 12) (A 11) acc) : EvM ad 0 (iX13_countsRow ad) [.ref b] M (fun v' M' => v' = none ∧ ∃ A', yU M' b a σ oa rd r p1 p2 q4 M0 A0 un (nI (acc ++ [w]).length) al A' ∧ A' 9 = A 9 ∧ A' 10 = A 10 ∧ faR σ.T.hs.n (nI (acc ++ [w]).length) (A' 12) (A' 11) (acc ++ [w])) := by
  obtain ⟨f1, f2, f3⟩ := hf
  subst f1
  refine ⟨Nat.le_of_ble_eq_true rfl, ?_⟩
  show Ev ad _ (rX13_countsRow ad) (0, [some (.ref b), none], [], M) _
  repeat (refine ng 2 rfl ?_; first | refine es rfl rfl rfl ?_ | refine eg rfl (by assumption) rfl ?_ | refine eanE rfl (by assumption) (by with_reducible first | exact rfl | exact Int32.zero_add _ | exact ix8 _ | exact ix12 _ | exact ix7r _ _ | exact n7 | exact n0 | exact n1) (by assumption) rfl ?_ | refine eal rfl (by assumption) (by assumption) rfl ?_ | refine eri rfl ?_ | refine erv rfl ?_ | refine erl rfl ?_ | refine era rfl ?_ | refine erz0 rfl ?_ | refine erz1 rfl ?_)
  try dsimp only [set1, set2, kilP, List.set_cons_zero, List.set_cons_succ, List.getElem?_cons_zero, List.getElem?_cons_succ, List.nil_append, List.cons_append, Option.toList_some, Option.toList_none]
  exact y_cr_loop hn hw hal f2 (fun _ => trivial) σ.T.hs.n 0 M A hV (by omega) ho (fun h' g' x1 x2 => by rw [f2 h' g' x1 x2, if_neg (by omega), Nat.add_zero]) (fun _ j hj => absurd hj (by omega)) f3
end RFIT
