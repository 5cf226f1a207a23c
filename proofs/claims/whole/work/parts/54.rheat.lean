/-! The reference: heat, rents, builders -/
theorem prtF_sc {u : Int} {d c : Nat} {l : Int32} (hc : 0 < c) : prtF (u * c) (c * d) l = prtF u d l := by
  unfold prtF
  have e1 : Nat.gcd (u * c).natAbs (c * d) = c * Nat.gcd u.natAbs d := by
    rw [Int.natAbs_mul, show (c : Int).natAbs = c from rfl, Nat.mul_comm u.natAbs c, Nat.gcd_mul_left]
  rw [e1]
  have hc' : (0 : Int) < c := by omega
  by_cases h : l = 0
  · rw [if_pos h, if_pos h, Int.natCast_mul, Int.mul_comm u c, Int.mul_tdiv_mul_of_pos _ _ hc']
  · rw [if_neg h, if_neg h, Int.natCast_mul, Int.natCast_mul, Int.mul_tdiv_mul_of_pos _ _ hc']
section RHEAT
variable {ad : Nat → Nat} {M : Mm} {b : Nat} {σ : Sg} {C : Nat}
theorem y_cm_loop {x0 x1 : Int64} : ∀ (y x : Nat) (L8 L9 : Option Value), x < 2 ^ 50 → y < 2 ^ 50 → (L8 = none ∨ ∃ z, L8 = some (.long z)) → Ev ad 0 (rX13_common ad) (17, [some (.long x0), none, some (.long x1), none, some (.long (iL x)), none, some (.long (iL y)), none, L8, L9], [], M) (fun v' M' => v' = some (.long (iL (Nat.gcd x y))) ∧ M' = M) := by
  intro y
  induction y using Nat.strongRecOn with
  | ind y ih =>
    intro x L8 L9 hx hy h8
    by_cases e : y = 0
    · subst e
      repeat (first | refine es rfl rfl rfl ?_ | refine eg rfl (by assumption) rfl ?_ | refine ean rfl (by assumption) (by assumption) rfl ?_ | refine eal rfl (by assumption) (by assumption) rfl ?_ | refine eri rfl ?_ | refine erv rfl ?_ | refine erl rfl ?_ | refine era rfl ?_ | refine erz0 rfl ?_ | refine erz1 rfl ?_ | refine ean0 rfl (by assumption) (by assumption) rfl ?_ | refine ean8 rfl (by assumption) (by assumption) rfl ?_ | refine ean12 rfl (by assumption) (by assumption) rfl ?_ | refine ean7 rfl (by assumption) (by assumption) rfl ?_)
      try dsimp only [set1, set2, kilP, List.set_cons_zero, List.set_cons_succ, List.getElem?_cons_zero, List.getElem?_cons_succ, List.nil_append, List.cons_append, Option.toList_some, Option.toList_none]
      rw [Nat.gcd_zero_right]
      exact ⟨rfl, rfl⟩
    · repeat (first | refine es rfl rfl rfl ?_ | refine eg rfl (by assumption) rfl ?_ | refine ean rfl (by assumption) (by assumption) rfl ?_ | refine eal rfl (by assumption) (by assumption) rfl ?_ | refine eri rfl ?_ | refine erv rfl ?_ | refine erl rfl ?_ | refine era rfl ?_ | refine erz0 rfl ?_ | refine erz1 rfl ?_ | refine ean0 rfl (by assumption) (by assumption) rfl ?_ | refine ean8 rfl (by assumption) (by assumption) rfl ?_ | refine ean12 rfl (by assumption) (by assumption) rfl ?_ | refine ean7 rfl (by assumption) (by assumption) rfl ?_)
      try dsimp only [set1, set2, kilP, List.set_cons_zero, List.set_cons_succ, List.getElem?_cons_zero, List.getElem?_cons_succ, List.nil_append, List.cons_append, Option.toList_some, Option.toList_none]
      refine ei _ rfl rfl (fun c => ?_) (fun c => ?_)
      · exact absurd (lcmp_eq.mp c) (iL_n0 (by omega) (by omega))
      · repeat (first | refine es rfl rfl rfl ?_ | refine eg rfl (by assumption) rfl ?_ | refine ean rfl (by assumption) (by assumption) rfl ?_ | refine eal rfl (by assumption) (by assumption) rfl ?_ | refine eri rfl ?_ | refine erv rfl ?_ | refine erl rfl ?_ | refine era rfl ?_ | refine erz0 rfl ?_ | refine erz1 rfl ?_ | refine ean0 rfl (by assumption) (by assumption) rfl ?_ | refine ean8 rfl (by assumption) (by assumption) rfl ?_ | refine ean12 rfl (by assumption) (by assumption) rfl ?_ | refine ean7 rfl (by assumption) (by assumption) rfl ?_)
        try dsimp only [set1, set2, kilP, List.set_cons_zero, List.set_cons_succ, List.getElem?_cons_zero, List.getElem?_cons_succ, List.nil_append, List.cons_append, Option.toList_some, Option.toList_none]
        refine ebdL rfl (iL_n0 (by omega) (by omega)) ?_
        rw [iL_mod hx hy]
        have h1 := Nat.mod_lt x (show 0 < y by omega)
        have h2 : Nat.gcd x y = Nat.gcd y (x % y) := by rw [Nat.gcd_comm x y, Nat.gcd_rec y x, Nat.gcd_comm]
        rw [h2]
        rcases h8 with rfl | ⟨z, rfl⟩
        · repeat (refine ng 17 rfl ?_; first | refine es rfl rfl rfl ?_ | refine eg rfl (by assumption) rfl ?_ | refine ean rfl (by assumption) (by assumption) rfl ?_ | refine eal rfl (by assumption) (by assumption) rfl ?_ | refine eri rfl ?_ | refine erv rfl ?_ | refine erl rfl ?_ | refine era rfl ?_ | refine erz0 rfl ?_ | refine erz1 rfl ?_ | refine ean0 rfl (by assumption) (by assumption) rfl ?_ | refine ean8 rfl (by assumption) (by assumption) rfl ?_ | refine ean12 rfl (by assumption) (by assumption) rfl ?_ | refine ean7 rfl (by assumption) (by assumption) rfl ?_)
          try dsimp only [set1, set2, kilP, List.set_cons_zero, List.set_cons_succ, List.getElem?_cons_zero, List.getElem?_cons_succ, List.nil_append, List.cons_append, Option.toList_some, Option.toList_none]
          exact ih (x % y) h1 y _ _ hy (by omega) (Or.inr ⟨_, rfl⟩)
        · repeat (refine ng 17 rfl ?_; first | refine es rfl rfl rfl ?_ | refine eg rfl (by assumption) rfl ?_ | refine ean rfl (by assumption) (by assumption) rfl ?_ | refine eal rfl (by assumption) (by assumption) rfl ?_ | refine eri rfl ?_ | refine erv rfl ?_ | refine erl rfl ?_ | refine era rfl ?_ | refine erz0 rfl ?_ | refine erz1 rfl ?_ | refine ean0 rfl (by assumption) (by assumption) rfl ?_ | refine ean8 rfl (by assumption) (by assumption) rfl ?_ | refine ean12 rfl (by assumption) (by assumption) rfl ?_ | refine ean7 rfl (by assumption) (by assumption) rfl ?_)
          try dsimp only [set1, set2, kilP, List.set_cons_zero, List.set_cons_succ, List.getElem?_cons_zero, List.getElem?_cons_succ, List.nil_append, List.cons_append, Option.toList_some, Option.toList_none]
          exact ih (x % y) h1 y _ _ hy (by omega) (Or.inr ⟨_, rfl⟩)
theorem iL_neg (z : Int) : -(iL z) = iL (-z) := (Int64.ofInt_neg z).symm
theorem y_common {u : Int} {d : Nat} (hu : u.natAbs < 2 ^ 50) (hd : d < 2 ^ 50) : Rd ad 0 (iX13_common ad) [.long (iL u), .long (iL d)] M (some (.long (iL (Nat.gcd u.natAbs d)))) := by
  refine ⟨Nat.le_of_ble_eq_true rfl, ?_⟩
  show Ev ad _ (rX13_common ad) (0, [some (.long (iL u)), none, some (.long (iL d)), none, none, none, none, none, none, none], [], M) _
  repeat (first | refine es rfl rfl rfl ?_ | refine eg rfl (by assumption) rfl ?_ | refine ean rfl (by assumption) (by assumption) rfl ?_ | refine eal rfl (by assumption) (by assumption) rfl ?_ | refine eri rfl ?_ | refine erv rfl ?_ | refine erl rfl ?_ | refine era rfl ?_ | refine erz0 rfl ?_ | refine erz1 rfl ?_ | refine ean0 rfl (by assumption) (by assumption) rfl ?_ | refine ean8 rfl (by assumption) (by assumption) rfl ?_ | refine ean12 rfl (by assumption) (by assumption) rfl ?_ | refine ean7 rfl (by assumption) (by assumption) rfl ?_)
  try dsimp only [set1, set2, kilP, List.set_cons_zero, List.set_cons_succ, List.getElem?_cons_zero, List.getElem?_cons_succ, List.nil_append, List.cons_append, Option.toList_some, Option.toList_none]
  refine ei _ rfl rfl (fun c => ?_) (fun c => ?_)
  · have h : 0 ≤ u := by
      have := lcmp_ge.mp c
      have h2 : ¬ iL u < iL 0 := Int64.not_lt.mpr this
      rw [iL_lt (by omega) (by decide)] at h2
      omega
    repeat (refine ng 17 rfl ?_; first | refine es rfl rfl rfl ?_ | refine eg rfl (by assumption) rfl ?_ | refine ean rfl (by assumption) (by assumption) rfl ?_ | refine eal rfl (by assumption) (by assumption) rfl ?_ | refine eri rfl ?_ | refine erv rfl ?_ | refine erl rfl ?_ | refine era rfl ?_ | refine erz0 rfl ?_ | refine erz1 rfl ?_ | refine ean0 rfl (by assumption) (by assumption) rfl ?_ | refine ean8 rfl (by assumption) (by assumption) rfl ?_ | refine ean12 rfl (by assumption) (by assumption) rfl ?_ | refine ean7 rfl (by assumption) (by assumption) rfl ?_)
    try dsimp only [set1, set2, kilP, List.set_cons_zero, List.set_cons_succ, List.getElem?_cons_zero, List.getElem?_cons_succ, List.nil_append, List.cons_append, Option.toList_some, Option.toList_none]
    rw [show iL u = iL (u.natAbs : Int) by rw [Int.natAbs_of_nonneg h]]
    exact y_cm_loop d u.natAbs _ _ hu hd (Or.inl rfl)
  · have h : u < 0 := by
      rcases Int.lt_or_le u 0 with q | q
      · exact q
      · exact absurd (lcmp_ge.mpr (show iL 0 ≤ iL u from Int64.not_lt.mp (fun w => by rw [iL_lt (by omega) (by decide)] at w; omega))) c
    repeat (refine ng 17 rfl ?_; first | refine es rfl rfl rfl ?_ | refine eg rfl (by assumption) rfl ?_ | refine ean rfl (by assumption) (by assumption) rfl ?_ | refine eal rfl (by assumption) (by assumption) rfl ?_ | refine eri rfl ?_ | refine erv rfl ?_ | refine erl rfl ?_ | refine era rfl ?_ | refine erz0 rfl ?_ | refine erz1 rfl ?_ | refine ean0 rfl (by assumption) (by assumption) rfl ?_ | refine ean8 rfl (by assumption) (by assumption) rfl ?_ | refine ean12 rfl (by assumption) (by assumption) rfl ?_ | refine ean7 rfl (by assumption) (by assumption) rfl ?_)
    try dsimp only [set1, set2, kilP, List.set_cons_zero, List.set_cons_succ, List.getElem?_cons_zero, List.getElem?_cons_succ, List.nil_append, List.cons_append, Option.toList_some, Option.toList_none]
    rw [iL_neg, show iL (-u) = iL (u.natAbs : Int) by rw [Int.ofNat_natAbs_of_nonpos (by omega)]]
    exact y_cm_loop d u.natAbs _ _ hu hd (Or.inl rfl)
theorem y_frac {u : Int} {d : Nat} {l : Int32} (hY : YR M b σ) (hu : u.natAbs < 2 ^ 50) (hd : d < 2 ^ 50) (hd1 : 1 ≤ d) : EvM ad 1 (iX13_fraction ad) [.ref b, .long (iL u), .long (iL d), .int l] M (fun v' M' => v' = some (.long (prtF u d l)) ∧ YR M' b (σ.wt 0) ∧ Fr b 1 M M') := by
  obtain ⟨o, A, hR⟩ := id hY
  have h0 := hR.1.1
  have hg1 : 0 < Nat.gcd u.natAbs d := Nat.gcd_pos_of_pos_right _ hd1
  have hg2 : Nat.gcd u.natAbs d ≤ d := Nat.le_of_dvd hd1 (Nat.gcd_dvd_right _ _)
  refine ⟨Nat.le_of_ble_eq_true rfl, ?_⟩
  show Ev ad _ (rX13_fraction ad) (0, [some (.ref b), some (.long (iL u)), none, some (.long (iL d)), none, some (.int l)], [], M) _
  repeat (first | refine es rfl rfl rfl ?_ | refine eg rfl (by assumption) rfl ?_ | refine ean rfl (by assumption) (by assumption) rfl ?_ | refine eal rfl (by assumption) (by assumption) rfl ?_ | refine eri rfl ?_ | refine erv rfl ?_ | refine erl rfl ?_ | refine era rfl ?_ | refine erz0 rfl ?_ | refine erz1 rfl ?_ | refine ean0 rfl (by assumption) (by assumption) rfl ?_ | refine ean8 rfl (by assumption) (by assumption) rfl ?_ | refine ean12 rfl (by assumption) (by assumption) rfl ?_ | refine ean7 rfl (by assumption) (by assumption) rfl ?_)
  try dsimp only [set1, set2, kilP, List.set_cons_zero, List.set_cons_succ, List.getElem?_cons_zero, List.getElem?_cons_succ, List.nil_append, List.cons_append, Option.toList_some, Option.toList_none]
  refine ecv rfl rfl (by assumption) rfl rfl rfl (y_good hY) (by first | rfl | exact Nat.blt_eq.mpr (by omega)) ?_
  rintro v M2 ⟨rfl, hY2, hF⟩
  try dsimp only [set1, set2, kilP, List.set_cons_zero, List.set_cons_succ, List.getElem?_cons_zero, List.getElem?_cons_succ, List.nil_append, List.cons_append, Option.toList_some, Option.toList_none]
  repeat (first | refine es rfl rfl rfl ?_ | refine eg rfl (by assumption) rfl ?_ | refine ean rfl (by assumption) (by assumption) rfl ?_ | refine eal rfl (by assumption) (by assumption) rfl ?_ | refine eri rfl ?_ | refine erv rfl ?_ | refine erl rfl ?_ | refine era rfl ?_ | refine erz0 rfl ?_ | refine erz1 rfl ?_ | refine ean0 rfl (by assumption) (by assumption) rfl ?_ | refine ean8 rfl (by assumption) (by assumption) rfl ?_ | refine ean12 rfl (by assumption) (by assumption) rfl ?_ | refine ean7 rfl (by assumption) (by assumption) rfl ?_)
  try dsimp only [set1, set2, kilP, List.set_cons_zero, List.set_cons_succ, List.getElem?_cons_zero, List.getElem?_cons_succ, List.nil_append, List.cons_append, Option.toList_some, Option.toList_none]
  unfold prtF
  refine ei _ rfl rfl (fun c => ?_) (fun c => ?_)
  · rw [if_pos c]
    repeat (first | refine es rfl rfl rfl ?_ | refine eg rfl (by assumption) rfl ?_ | refine ean rfl (by assumption) (by assumption) rfl ?_ | refine eal rfl (by assumption) (by assumption) rfl ?_ | refine eri rfl ?_ | refine erv rfl ?_ | refine erl rfl ?_ | refine era rfl ?_ | refine erz0 rfl ?_ | refine erz1 rfl ?_ | refine ean0 rfl (by assumption) (by assumption) rfl ?_ | refine ean8 rfl (by assumption) (by assumption) rfl ?_ | refine ean12 rfl (by assumption) (by assumption) rfl ?_ | refine ean7 rfl (by assumption) (by assumption) rfl ?_)
    try dsimp only [set1, set2, kilP, List.set_cons_zero, List.set_cons_succ, List.getElem?_cons_zero, List.getElem?_cons_succ, List.nil_append, List.cons_append, Option.toList_some, Option.toList_none]
    refine ecsr rfl rfl rfl rfl rfl rfl (y_common hu hd) (by first | rfl | exact Nat.blt_eq.mpr (by omega)) rfl ?_
    refine ebdL rfl (iL_n0 hg1 (by omega)) ?_
    rw [iL_div (by omega) (by omega)]
    repeat (first | refine es rfl rfl rfl ?_ | refine eg rfl (by assumption) rfl ?_ | refine ean rfl (by assumption) (by assumption) rfl ?_ | refine eal rfl (by assumption) (by assumption) rfl ?_ | refine eri rfl ?_ | refine erv rfl ?_ | refine erl rfl ?_ | refine era rfl ?_ | refine erz0 rfl ?_ | refine erz1 rfl ?_ | refine ean0 rfl (by assumption) (by assumption) rfl ?_ | refine ean8 rfl (by assumption) (by assumption) rfl ?_ | refine ean12 rfl (by assumption) (by assumption) rfl ?_ | refine ean7 rfl (by assumption) (by assumption) rfl ?_)
    try dsimp only [set1, set2, kilP, List.set_cons_zero, List.set_cons_succ, List.getElem?_cons_zero, List.getElem?_cons_succ, List.nil_append, List.cons_append, Option.toList_some, Option.toList_none]
    exact ⟨rfl, hY2, hF⟩
  · rw [if_neg c]
    repeat (first | refine es rfl rfl rfl ?_ | refine eg rfl (by assumption) rfl ?_ | refine ean rfl (by assumption) (by assumption) rfl ?_ | refine eal rfl (by assumption) (by assumption) rfl ?_ | refine eri rfl ?_ | refine erv rfl ?_ | refine erl rfl ?_ | refine era rfl ?_ | refine erz0 rfl ?_ | refine erz1 rfl ?_ | refine ean0 rfl (by assumption) (by assumption) rfl ?_ | refine ean8 rfl (by assumption) (by assumption) rfl ?_ | refine ean12 rfl (by assumption) (by assumption) rfl ?_ | refine ean7 rfl (by assumption) (by assumption) rfl ?_)
    try dsimp only [set1, set2, kilP, List.set_cons_zero, List.set_cons_succ, List.getElem?_cons_zero, List.getElem?_cons_succ, List.nil_append, List.cons_append, Option.toList_some, Option.toList_none]
    refine ecsr rfl rfl rfl rfl rfl rfl (y_common hu hd) (by first | rfl | exact Nat.blt_eq.mpr (by omega)) rfl ?_
    refine ebdL rfl (iL_n0 hg1 (by omega)) ?_
    rw [iL_div (by omega) (by omega)]
    repeat (first | refine es rfl rfl rfl ?_ | refine eg rfl (by assumption) rfl ?_ | refine ean rfl (by assumption) (by assumption) rfl ?_ | refine eal rfl (by assumption) (by assumption) rfl ?_ | refine eri rfl ?_ | refine erv rfl ?_ | refine erl rfl ?_ | refine era rfl ?_ | refine erz0 rfl ?_ | refine erz1 rfl ?_ | refine ean0 rfl (by assumption) (by assumption) rfl ?_ | refine ean8 rfl (by assumption) (by assumption) rfl ?_ | refine ean12 rfl (by assumption) (by assumption) rfl ?_ | refine ean7 rfl (by assumption) (by assumption) rfl ?_)
    try dsimp only [set1, set2, kilP, List.set_cons_zero, List.set_cons_succ, List.getElem?_cons_zero, List.getElem?_cons_succ, List.nil_append, List.cons_append, Option.toList_some, Option.toList_none]
    exact ⟨rfl, hY2, hF⟩
theorem y_owed {a k : Nat} {oa : Int32 × Int32 × Int32} {rd : Value} {oq : Yr × Yq} {A : Ar} (hW : yW M b a σ oa rd oq A) (hI : Inv σ C) (hn : 0 < σ.T.hs.n) (hk : k < σ.T.hs.n) : Rd ad 1 (iX13_owedBy ad) [.ref b, .int (nI k)] M (some (.int (nI (owN σ k).1))) := by
  obtain ⟨hy, ha, ⟨kn, Am, Bm, m0, mc, mH, -⟩, hv⟩ := id hW
  have h0 := hy.1
  have m3 := mc.2.2.1
  have hn7 := hI.n7
  refine ⟨Nat.le_of_ble_eq_true rfl, ?_⟩
  show Ev ad _ (rX13_owedBy ad) (0, [some (.ref b), some (.int (nI k)), none], [], M) _
  repeat (first | refine es rfl rfl rfl ?_ | refine eg rfl (by assumption) rfl ?_ | refine ean rfl (by assumption) (by assumption) rfl ?_ | refine eal rfl (by assumption) (by assumption) rfl ?_ | refine eri rfl ?_ | refine erv rfl ?_ | refine erl rfl ?_ | refine era rfl ?_ | refine erz0 rfl ?_ | refine erz1 rfl ?_ | refine ean0 rfl (by assumption) (by assumption) rfl ?_ | refine ean8 rfl (by assumption) (by assumption) rfl ?_ | refine ean12 rfl (by assumption) (by assumption) rfl ?_ | refine ean7 rfl (by assumption) (by assumption) rfl ?_)
  try dsimp only [set1, set2, kilP, List.set_cons_zero, List.set_cons_succ, List.getElem?_cons_zero, List.getElem?_cons_succ, List.nil_append, List.cons_append, Option.toList_some, Option.toList_none]
  refine ecr rfl rfl (by assumption) rfl rfl rfl (y_who hW hI hn (by omega)) (by first | rfl | exact Nat.blt_eq.mpr (by omega)) rfl ?_
  rcases hI.who hk with ⟨e1, e2⟩ | ⟨j, r, c, hj, e1, h1, h2, e3, e4, e5⟩
  · rw [e1, e2]
    repeat (first | refine es rfl rfl rfl ?_ | refine eg rfl (by assumption) rfl ?_ | refine ean rfl (by assumption) (by assumption) rfl ?_ | refine eal rfl (by assumption) (by assumption) rfl ?_ | refine eri rfl ?_ | refine erv rfl ?_ | refine erl rfl ?_ | refine era rfl ?_ | refine erz0 rfl ?_ | refine erz1 rfl ?_ | refine ean0 rfl (by assumption) (by assumption) rfl ?_ | refine ean8 rfl (by assumption) (by assumption) rfl ?_ | refine ean12 rfl (by assumption) (by assumption) rfl ?_ | refine ean7 rfl (by assumption) (by assumption) rfl ?_)
    try dsimp only [set1, set2, kilP, List.set_cons_zero, List.set_cons_succ, List.getElem?_cons_zero, List.getElem?_cons_succ, List.nil_append, List.cons_append, Option.toList_some, Option.toList_none]
    exact ⟨rfl, rfl⟩
  · rw [e1, e5]
    have hj7 : j < 7 := by omega
    repeat (first | refine es rfl rfl rfl ?_ | refine eg rfl (by assumption) rfl ?_ | refine ean rfl (by assumption) (by assumption) rfl ?_ | refine eal rfl (by assumption) (by assumption) rfl ?_ | refine eri rfl ?_ | refine erv rfl ?_ | refine erl rfl ?_ | refine era rfl ?_ | refine erz0 rfl ?_ | refine erz1 rfl ?_ | refine ean0 rfl (by assumption) (by assumption) rfl ?_ | refine ean8 rfl (by assumption) (by assumption) rfl ?_ | refine ean12 rfl (by assumption) (by assumption) rfl ?_ | refine ean7 rfl (by assumption) (by assumption) rfl ?_)
    try dsimp only [set1, set2, kilP, List.set_cons_zero, List.set_cons_succ, List.getElem?_cons_zero, List.getElem?_cons_succ, List.nil_append, List.cons_append, Option.toList_some, Option.toList_none]
    refine ei _ rfl rfl (fun q => ?_) (fun q => ?_)
    · repeat (first | refine es rfl rfl rfl ?_ | refine eg rfl (by assumption) rfl ?_ | refine ean rfl (by assumption) (by assumption) rfl ?_ | refine eal rfl (by assumption) (by assumption) rfl ?_ | refine eri rfl ?_ | refine erv rfl ?_ | refine erl rfl ?_ | refine era rfl ?_ | refine erz0 rfl ?_ | refine erz1 rfl ?_ | refine ean0 rfl (by assumption) (by assumption) rfl ?_ | refine ean8 rfl (by assumption) (by assumption) rfl ?_ | refine ean12 rfl (by assumption) (by assumption) rfl ?_ | refine ean7 rfl (by assumption) (by assumption) rfl ?_)
      try dsimp only [set1, set2, kilP, List.set_cons_zero, List.set_cons_succ, List.getElem?_cons_zero, List.getElem?_cons_succ, List.nil_append, List.cons_append, Option.toList_some, Option.toList_none]
      rw [(mH j hj).2.2.1, e4]
      exact ⟨rfl, rfl⟩
    · exact absurd (Decidable.not_not.mp q) (nI_n2 (by omega))
theorem y_parts {a k : Nat} {oa : Int32 × Int32 × Int32} {rd : Value} {oq : Yr × Yq} {A : Ar} (hW : yW M b a σ oa rd oq A) (hI : Inv σ C) (hn : 0 < σ.T.hs.n) (hk : k < σ.T.hs.n) : Rd ad 1 (iX13_partsBy ad) [.ref b, .int (nI k)] M (some (.int (nI (owN σ k).2))) := by
  obtain ⟨hy, ha, ⟨kn, Am, Bm, m0, mc, mH, -⟩, hv⟩ := id hW
  have h0 := hy.1
  have m1 := mc.1
  have hn7 := hI.n7
  refine ⟨Nat.le_of_ble_eq_true rfl, ?_⟩
  show Ev ad _ (rX13_partsBy ad) (0, [some (.ref b), some (.int (nI k)), none], [], M) _
  repeat (first | refine es rfl rfl rfl ?_ | refine eg rfl (by assumption) rfl ?_ | refine ean rfl (by assumption) (by assumption) rfl ?_ | refine eal rfl (by assumption) (by assumption) rfl ?_ | refine eri rfl ?_ | refine erv rfl ?_ | refine erl rfl ?_ | refine era rfl ?_ | refine erz0 rfl ?_ | refine erz1 rfl ?_ | refine ean0 rfl (by assumption) (by assumption) rfl ?_ | refine ean8 rfl (by assumption) (by assumption) rfl ?_ | refine ean12 rfl (by assumption) (by assumption) rfl ?_ | refine ean7 rfl (by assumption) (by assumption) rfl ?_)
  try dsimp only [set1, set2, kilP, List.set_cons_zero, List.set_cons_succ, List.getElem?_cons_zero, List.getElem?_cons_succ, List.nil_append, List.cons_append, Option.toList_some, Option.toList_none]
  refine ecr rfl rfl (by assumption) rfl rfl rfl (y_who hW hI hn (by omega)) (by first | rfl | exact Nat.blt_eq.mpr (by omega)) rfl ?_
  rcases hI.who hk with ⟨e1, e2⟩ | ⟨j, r, c, hj, e1, h1, h2, e3, e4, e5⟩
  · rw [e1, e2]
    repeat (first | refine es rfl rfl rfl ?_ | refine eg rfl (by assumption) rfl ?_ | refine ean rfl (by assumption) (by assumption) rfl ?_ | refine eal rfl (by assumption) (by assumption) rfl ?_ | refine eri rfl ?_ | refine erv rfl ?_ | refine erl rfl ?_ | refine era rfl ?_ | refine erz0 rfl ?_ | refine erz1 rfl ?_ | refine ean0 rfl (by assumption) (by assumption) rfl ?_ | refine ean8 rfl (by assumption) (by assumption) rfl ?_ | refine ean12 rfl (by assumption) (by assumption) rfl ?_ | refine ean7 rfl (by assumption) (by assumption) rfl ?_)
    try dsimp only [set1, set2, kilP, List.set_cons_zero, List.set_cons_succ, List.getElem?_cons_zero, List.getElem?_cons_succ, List.nil_append, List.cons_append, Option.toList_some, Option.toList_none]
    exact ⟨rfl, rfl⟩
  · rw [e1, e5]
    have hj7 : j < 7 := by omega
    repeat (first | refine es rfl rfl rfl ?_ | refine eg rfl (by assumption) rfl ?_ | refine ean rfl (by assumption) (by assumption) rfl ?_ | refine eal rfl (by assumption) (by assumption) rfl ?_ | refine eri rfl ?_ | refine erv rfl ?_ | refine erl rfl ?_ | refine era rfl ?_ | refine erz0 rfl ?_ | refine erz1 rfl ?_ | refine ean0 rfl (by assumption) (by assumption) rfl ?_ | refine ean8 rfl (by assumption) (by assumption) rfl ?_ | refine ean12 rfl (by assumption) (by assumption) rfl ?_ | refine ean7 rfl (by assumption) (by assumption) rfl ?_)
    try dsimp only [set1, set2, kilP, List.set_cons_zero, List.set_cons_succ, List.getElem?_cons_zero, List.getElem?_cons_succ, List.nil_append, List.cons_append, Option.toList_some, Option.toList_none]
    refine ei _ rfl rfl (fun q => ?_) (fun q => ?_)
    · repeat (first | refine es rfl rfl rfl ?_ | refine eg rfl (by assumption) rfl ?_ | refine ean rfl (by assumption) (by assumption) rfl ?_ | refine eal rfl (by assumption) (by assumption) rfl ?_ | refine eri rfl ?_ | refine erv rfl ?_ | refine erl rfl ?_ | refine era rfl ?_ | refine erz0 rfl ?_ | refine erz1 rfl ?_ | refine ean0 rfl (by assumption) (by assumption) rfl ?_ | refine ean8 rfl (by assumption) (by assumption) rfl ?_ | refine ean12 rfl (by assumption) (by assumption) rfl ?_ | refine ean7 rfl (by assumption) (by assumption) rfl ?_)
      try dsimp only [set1, set2, kilP, List.set_cons_zero, List.set_cons_succ, List.getElem?_cons_zero, List.getElem?_cons_succ, List.nil_append, List.cons_append, Option.toList_some, Option.toList_none]
      rw [(mH j hj).1, e3, nI_1]
      exact ⟨rfl, rfl⟩
    · exact absurd (Decidable.not_not.mp q) (nI_n2 (by omega))
theorem y_owes {x l : Int32} (hY : YR M b σ) (hI : Inv σ C) : EvM ad 2 (iX13_owes ad) [.ref b, .int x, .int l] M (Pq b M (spOwes σ x l)) := by
  have hn7 := hI.n7
  unfold spOwes
  refine ⟨Nat.le_of_ble_eq_true rfl, ?_⟩
  show Ev ad _ (rX13_owes ad) (0, [some (.ref b), some (.int x), some (.int l)], [], M) _
  refine yEn rfl rfl rfl hY (fun M1 hY hF _ => ?_)
  obtain ⟨⟨oa, ⟨tw, rd⟩, oq⟩, A, hR⟩ := id hY
  have h0 := hR.1.1
  have h2 := hR.1.c.2.1
  repeat (first | refine es rfl rfl rfl ?_ | refine eg rfl (by assumption) rfl ?_ | refine ean rfl (by assumption) (by assumption) rfl ?_ | refine eal rfl (by assumption) (by assumption) rfl ?_ | refine eri rfl ?_ | refine erv rfl ?_ | refine erl rfl ?_ | refine era rfl ?_ | refine erz0 rfl ?_ | refine erz1 rfl ?_ | refine ean0 rfl (by assumption) (by assumption) rfl ?_ | refine ean8 rfl (by assumption) (by assumption) rfl ?_ | refine ean12 rfl (by assumption) (by assumption) rfl ?_ | refine ean7 rfl (by assumption) (by assumption) rfl ?_)
  try dsimp only [set1, set2, kilP, List.set_cons_zero, List.set_cons_succ, List.getElem?_cons_zero, List.getElem?_cons_succ, List.nil_append, List.cons_append, Option.toList_some, Option.toList_none]
  refine ecr rfl rfl (by assumption) rfl rfl rfl (y_isH hY) (by first | rfl | exact Nat.blt_eq.mpr (by omega)) rfl ?_
  by_cases c : isH σ x
  rotate_left
  · rw [if_neg c, show bI (isH σ x) = 0 from if_neg c]
    repeat (first | refine es rfl rfl rfl ?_ | refine eg rfl (by assumption) rfl ?_ | refine ean rfl (by assumption) (by assumption) rfl ?_ | refine eal rfl (by assumption) (by assumption) rfl ?_ | refine eri rfl ?_ | refine erv rfl ?_ | refine erl rfl ?_ | refine era rfl ?_ | refine erz0 rfl ?_ | refine erz1 rfl ?_ | refine ean0 rfl (by assumption) (by assumption) rfl ?_ | refine ean8 rfl (by assumption) (by assumption) rfl ?_ | refine ean12 rfl (by assumption) (by assumption) rfl ?_ | refine ean7 rfl (by assumption) (by assumption) rfl ?_)
    try dsimp only [set1, set2, kilP, List.set_cons_zero, List.set_cons_succ, List.getElem?_cons_zero, List.getElem?_cons_succ, List.nil_append, List.cons_append, Option.toList_some, Option.toList_none]
    refine ecv rfl rfl (by assumption) rfl rfl rfl (y_ref hY (by decide)) (by first | rfl | exact Nat.blt_eq.mpr (by omega)) ?_
    rintro v M9 ⟨rfl, hY9, hF9⟩
    try dsimp only [set1, set2, kilP, List.set_cons_zero, List.set_cons_succ, List.getElem?_cons_zero, List.getElem?_cons_succ, List.nil_append, List.cons_append, Option.toList_some, Option.toList_none]
    repeat (first | refine es rfl rfl rfl ?_ | refine eg rfl (by assumption) rfl ?_ | refine ean rfl (by assumption) (by assumption) rfl ?_ | refine eal rfl (by assumption) (by assumption) rfl ?_ | refine eri rfl ?_ | refine erv rfl ?_ | refine erl rfl ?_ | refine era rfl ?_ | refine erz0 rfl ?_ | refine erz1 rfl ?_ | refine ean0 rfl (by assumption) (by assumption) rfl ?_ | refine ean8 rfl (by assumption) (by assumption) rfl ?_ | refine ean12 rfl (by assumption) (by assumption) rfl ?_ | refine ean7 rfl (by assumption) (by assumption) rfl ?_)
    try dsimp only [set1, set2, kilP, List.set_cons_zero, List.set_cons_succ, List.getElem?_cons_zero, List.getElem?_cons_succ, List.nil_append, List.cons_append, Option.toList_some, Option.toList_none]
    exact Pq.eq (x := .long (-1)) hY9 (hF.tr (hF9.wide (lo2 := b) (n2 := 16) (by omega) (by omega)) (by omega) (by omega))
  rw [if_pos c, show bI (isH σ x) = 1 from if_pos c]
  obtain ⟨k, hk, rfl⟩ := isH_k hn7 c
  obtain ⟨n1, a, t0, a1, a2, hM, hv, hpa, hmk, hfa⟩ := hR.2.2.2.2.2.2.2.2.2.resolve_left (fun q => by have := q.1; omega)
  replace t0 : tw = .ref a := t0
  subst t0
  obtain ⟨kn, Am, Bm, m0, mc, mH, mS, mP, mC, mN⟩ := id hM
  obtain ⟨m1, m2, m3, m4, m5, m6, m7, m8, m9, m10, m11, m12, m13, m14, m15, m16, m17⟩ := id mc
  rw [nI_clamp (by omega)]
  have hW : yW M1 b a σ oa rd oq A := ⟨hR.1, a1, hM, hv⟩
  obtain ⟨b1, b2, b3⟩ := hI.owb hk
  repeat (first | refine es rfl rfl rfl ?_ | refine eg rfl (by assumption) rfl ?_ | refine ean rfl (by assumption) (by assumption) rfl ?_ | refine eal rfl (by assumption) (by assumption) rfl ?_ | refine eri rfl ?_ | refine erv rfl ?_ | refine erl rfl ?_ | refine era rfl ?_ | refine erz0 rfl ?_ | refine erz1 rfl ?_ | refine ean0 rfl (by assumption) (by assumption) rfl ?_ | refine ean8 rfl (by assumption) (by assumption) rfl ?_ | refine ean12 rfl (by assumption) (by assumption) rfl ?_ | refine ean7 rfl (by assumption) (by assumption) rfl ?_)
  try dsimp only [set1, set2, kilP, List.set_cons_zero, List.set_cons_succ, List.getElem?_cons_zero, List.getElem?_cons_succ, List.nil_append, List.cons_append, Option.toList_some, Option.toList_none]
  refine ecr rfl rfl (by assumption) rfl rfl rfl (y_owed hW hI n1 hk) (by first | rfl | exact Nat.blt_eq.mpr (by omega)) rfl ?_
  repeat (first | refine es rfl rfl rfl ?_ | refine eg rfl (by assumption) rfl ?_ | refine ean rfl (by assumption) (by assumption) rfl ?_ | refine eal rfl (by assumption) (by assumption) rfl ?_ | refine eri rfl ?_ | refine erv rfl ?_ | refine erl rfl ?_ | refine era rfl ?_ | refine erz0 rfl ?_ | refine erz1 rfl ?_ | refine ean0 rfl (by assumption) (by assumption) rfl ?_ | refine ean8 rfl (by assumption) (by assumption) rfl ?_ | refine ean12 rfl (by assumption) (by assumption) rfl ?_ | refine ean7 rfl (by assumption) (by assumption) rfl ?_)
  try dsimp only [set1, set2, kilP, List.set_cons_zero, List.set_cons_succ, List.getElem?_cons_zero, List.getElem?_cons_succ, List.nil_append, List.cons_append, Option.toList_some, Option.toList_none]
  rw [nI_long (by omega)]
  refine ecr rfl rfl (by assumption) rfl rfl rfl (y_parts hW hI n1 hk) (by first | rfl | exact Nat.blt_eq.mpr (by omega)) rfl ?_
  repeat (first | refine es rfl rfl rfl ?_ | refine eg rfl (by assumption) rfl ?_ | refine ean rfl (by assumption) (by assumption) rfl ?_ | refine eal rfl (by assumption) (by assumption) rfl ?_ | refine eri rfl ?_ | refine erv rfl ?_ | refine erl rfl ?_ | refine era rfl ?_ | refine erz0 rfl ?_ | refine erz1 rfl ?_ | refine ean0 rfl (by assumption) (by assumption) rfl ?_ | refine ean8 rfl (by assumption) (by assumption) rfl ?_ | refine ean12 rfl (by assumption) (by assumption) rfl ?_ | refine ean7 rfl (by assumption) (by assumption) rfl ?_)
  try dsimp only [set1, set2, kilP, List.set_cons_zero, List.set_cons_succ, List.getElem?_cons_zero, List.getElem?_cons_succ, List.nil_append, List.cons_append, Option.toList_some, Option.toList_none]
  rw [nI_long (by omega)]
  repeat (first | refine es rfl rfl rfl ?_ | refine eg rfl (by assumption) rfl ?_ | refine ean rfl (by assumption) (by assumption) rfl ?_ | refine eal rfl (by assumption) (by assumption) rfl ?_ | refine eri rfl ?_ | refine erv rfl ?_ | refine erl rfl ?_ | refine era rfl ?_ | refine erz0 rfl ?_ | refine erz1 rfl ?_ | refine ean0 rfl (by assumption) (by assumption) rfl ?_ | refine ean8 rfl (by assumption) (by assumption) rfl ?_ | refine ean12 rfl (by assumption) (by assumption) rfl ?_ | refine ean7 rfl (by assumption) (by assumption) rfl ?_)
  try dsimp only [set1, set2, kilP, List.set_cons_zero, List.set_cons_succ, List.getElem?_cons_zero, List.getElem?_cons_succ, List.nil_append, List.cons_append, Option.toList_some, Option.toList_none]
  refine ecv rfl rfl (by assumption) rfl rfl rfl (y_frac hY (by omega) (by omega) b2) (by first | rfl | exact Nat.blt_eq.mpr (by omega)) ?_
  rintro v M9 ⟨rfl, hY9, hF9⟩
  try dsimp only [set1, set2, kilP, List.set_cons_zero, List.set_cons_succ, List.getElem?_cons_zero, List.getElem?_cons_succ, List.nil_append, List.cons_append, Option.toList_some, Option.toList_none]
  repeat (first | refine es rfl rfl rfl ?_ | refine eg rfl (by assumption) rfl ?_ | refine ean rfl (by assumption) (by assumption) rfl ?_ | refine eal rfl (by assumption) (by assumption) rfl ?_ | refine eri rfl ?_ | refine erv rfl ?_ | refine erl rfl ?_ | refine era rfl ?_ | refine erz0 rfl ?_ | refine erz1 rfl ?_ | refine ean0 rfl (by assumption) (by assumption) rfl ?_ | refine ean8 rfl (by assumption) (by assumption) rfl ?_ | refine ean12 rfl (by assumption) (by assumption) rfl ?_ | refine ean7 rfl (by assumption) (by assumption) rfl ?_)
  try dsimp only [set1, set2, kilP, List.set_cons_zero, List.set_cons_succ, List.getElem?_cons_zero, List.getElem?_cons_succ, List.nil_append, List.cons_append, Option.toList_some, Option.toList_none]
  exact Pq.eq hY9 (hF.tr (hF9.wide (lo2 := b) (n2 := 16) (by omega) (by omega)) (by omega) (by omega))
theorem y_net {x l : Int32} (hY : YR M b σ) (hI : Inv σ C) : EvM ad 2 (iX13_net ad) [.ref b, .int x, .int l] M (Pq b M (spNet σ x l)) := by
  have hn7 := hI.n7
  unfold spNet
  refine ⟨Nat.le_of_ble_eq_true rfl, ?_⟩
  show Ev ad _ (rX13_net ad) (0, [some (.ref b), some (.int x), some (.int l), none, none, none, none], [], M) _
  refine yEn rfl rfl rfl hY (fun M1 hY hF _ => ?_)
  obtain ⟨⟨oa, ⟨tw, rd⟩, oq⟩, A, hR⟩ := id hY
  have h0 := hR.1.1
  have h2 := hR.1.c.2.1
  repeat (first | refine es rfl rfl rfl ?_ | refine eg rfl (by assumption) rfl ?_ | refine ean rfl (by assumption) (by assumption) rfl ?_ | refine eal rfl (by assumption) (by assumption) rfl ?_ | refine eri rfl ?_ | refine erv rfl ?_ | refine erl rfl ?_ | refine era rfl ?_ | refine erz0 rfl ?_ | refine erz1 rfl ?_ | refine ean0 rfl (by assumption) (by assumption) rfl ?_ | refine ean8 rfl (by assumption) (by assumption) rfl ?_ | refine ean12 rfl (by assumption) (by assumption) rfl ?_ | refine ean7 rfl (by assumption) (by assumption) rfl ?_)
  try dsimp only [set1, set2, kilP, List.set_cons_zero, List.set_cons_succ, List.getElem?_cons_zero, List.getElem?_cons_succ, List.nil_append, List.cons_append, Option.toList_some, Option.toList_none]
  refine ecr rfl rfl (by assumption) rfl rfl rfl (y_isH hY) (by first | rfl | exact Nat.blt_eq.mpr (by omega)) rfl ?_
  by_cases c : isH σ x
  rotate_left
  · rw [if_neg c, show bI (isH σ x) = 0 from if_neg c]
    repeat (first | refine es rfl rfl rfl ?_ | refine eg rfl (by assumption) rfl ?_ | refine ean rfl (by assumption) (by assumption) rfl ?_ | refine eal rfl (by assumption) (by assumption) rfl ?_ | refine eri rfl ?_ | refine erv rfl ?_ | refine erl rfl ?_ | refine era rfl ?_ | refine erz0 rfl ?_ | refine erz1 rfl ?_ | refine ean0 rfl (by assumption) (by assumption) rfl ?_ | refine ean8 rfl (by assumption) (by assumption) rfl ?_ | refine ean12 rfl (by assumption) (by assumption) rfl ?_ | refine ean7 rfl (by assumption) (by assumption) rfl ?_)
    try dsimp only [set1, set2, kilP, List.set_cons_zero, List.set_cons_succ, List.getElem?_cons_zero, List.getElem?_cons_succ, List.nil_append, List.cons_append, Option.toList_some, Option.toList_none]
    refine ecv rfl rfl (by assumption) rfl rfl rfl (y_ref hY (by decide)) (by first | rfl | exact Nat.blt_eq.mpr (by omega)) ?_
    rintro v M9 ⟨rfl, hY9, hF9⟩
    try dsimp only [set1, set2, kilP, List.set_cons_zero, List.set_cons_succ, List.getElem?_cons_zero, List.getElem?_cons_succ, List.nil_append, List.cons_append, Option.toList_some, Option.toList_none]
    repeat (first | refine es rfl rfl rfl ?_ | refine eg rfl (by assumption) rfl ?_ | refine ean rfl (by assumption) (by assumption) rfl ?_ | refine eal rfl (by assumption) (by assumption) rfl ?_ | refine eri rfl ?_ | refine erv rfl ?_ | refine erl rfl ?_ | refine era rfl ?_ | refine erz0 rfl ?_ | refine erz1 rfl ?_ | refine ean0 rfl (by assumption) (by assumption) rfl ?_ | refine ean8 rfl (by assumption) (by assumption) rfl ?_ | refine ean12 rfl (by assumption) (by assumption) rfl ?_ | refine ean7 rfl (by assumption) (by assumption) rfl ?_)
    try dsimp only [set1, set2, kilP, List.set_cons_zero, List.set_cons_succ, List.getElem?_cons_zero, List.getElem?_cons_succ, List.nil_append, List.cons_append, Option.toList_some, Option.toList_none]
    exact Pq.eq hY9 (hF.tr (hF9.wide (lo2 := b) (n2 := 16) (by omega) (by omega)) (by omega) (by omega))
  rw [if_pos c, show bI (isH σ x) = 1 from if_pos c]
  obtain ⟨k, hk, rfl⟩ := isH_k hn7 c
  obtain ⟨n1, a, t0, a1, a2, hM, hv, hpa, hmk, hfa⟩ := hR.2.2.2.2.2.2.2.2.2.resolve_left (fun q => by have := q.1; omega)
  replace t0 : tw = .ref a := t0
  subst t0
  obtain ⟨kn, Am, Bm, m0, mc, mH, mS, mP, mC, mN⟩ := id hM
  obtain ⟨m1, m2, m3, m4, m5, m6, m7, m8, m9, m10, m11, m12, m13, m14, m15, m16, m17⟩ := id mc
  have hk7 : k < 7 := by omega
  have hk16 : k < 16 := by omega
  rw [nI_clamp (by omega)]
  have hW : yW M1 b a σ oa rd oq A := ⟨hR.1, a1, hM, hv⟩
  obtain ⟨b1, b2, b3⟩ := hI.owb hk
  obtain ⟨r, e, q, ⟨r1, r2⟩, _, q1, er, _, eq'⟩ := (hI.tI n1).2.1 k hk
  repeat (first | refine es rfl rfl rfl ?_ | refine eg rfl (by assumption) rfl ?_ | refine ean rfl (by assumption) (by assumption) rfl ?_ | refine eal rfl (by assumption) (by assumption) rfl ?_ | refine eri rfl ?_ | refine erv rfl ?_ | refine erl rfl ?_ | refine era rfl ?_ | refine erz0 rfl ?_ | refine erz1 rfl ?_ | refine ean0 rfl (by assumption) (by assumption) rfl ?_ | refine ean8 rfl (by assumption) (by assumption) rfl ?_ | refine ean12 rfl (by assumption) (by assumption) rfl ?_ | refine ean7 rfl (by assumption) (by assumption) rfl ?_)
  try dsimp only [set1, set2, kilP, List.set_cons_zero, List.set_cons_succ, List.getElem?_cons_zero, List.getElem?_cons_succ, List.nil_append, List.cons_append, Option.toList_some, Option.toList_none]
  rw [(mH k hk).1, er, nI_1, nI_long (by omega), hv k hk16]
  have fin : ∀ (g : Nat), g ≤ 999 → prtF ((g : Int) * (owN σ k).2 - (owN σ k).1 * ((r + 1 : Nat) : Int)) ((r + 1) * (owN σ k).2) l = prtF (netN σ k).1 (netN σ k).2 l → Ev ad 2 (rX13_net ad) (65, [some (.ref b), some (.int (nI k)), some (.int l), some (.long (iL ((r + 1 : Nat) : Int))), none, some (.long (iL (g : Int))), none], [], M1) (Pq b M (fun v σ' => v = some (.long (prtF (netN σ k).1 (netN σ k).2 l)) ∧ σ' = σ.wt 0)) := by
    intro g hg hq
    repeat (first | refine es rfl rfl rfl ?_ | refine eg rfl (by assumption) rfl ?_ | refine ean rfl (by assumption) (by assumption) rfl ?_ | refine eal rfl (by assumption) (by assumption) rfl ?_ | refine eri rfl ?_ | refine erv rfl ?_ | refine erl rfl ?_ | refine era rfl ?_ | refine erz0 rfl ?_ | refine erz1 rfl ?_ | refine ean0 rfl (by assumption) (by assumption) rfl ?_ | refine ean8 rfl (by assumption) (by assumption) rfl ?_ | refine ean12 rfl (by assumption) (by assumption) rfl ?_ | refine ean7 rfl (by assumption) (by assumption) rfl ?_)
    try dsimp only [set1, set2, kilP, List.set_cons_zero, List.set_cons_succ, List.getElem?_cons_zero, List.getElem?_cons_succ, List.nil_append, List.cons_append, Option.toList_some, Option.toList_none]
    refine ecr rfl rfl (by assumption) rfl rfl rfl (y_parts hW hI n1 hk) (by first | rfl | exact Nat.blt_eq.mpr (by omega)) rfl ?_
    repeat (first | refine es rfl rfl rfl ?_ | refine eg rfl (by assumption) rfl ?_ | refine ean rfl (by assumption) (by assumption) rfl ?_ | refine eal rfl (by assumption) (by assumption) rfl ?_ | refine eri rfl ?_ | refine erv rfl ?_ | refine erl rfl ?_ | refine era rfl ?_ | refine erz0 rfl ?_ | refine erz1 rfl ?_ | refine ean0 rfl (by assumption) (by assumption) rfl ?_ | refine ean8 rfl (by assumption) (by assumption) rfl ?_ | refine ean12 rfl (by assumption) (by assumption) rfl ?_ | refine ean7 rfl (by assumption) (by assumption) rfl ?_)
    try dsimp only [set1, set2, kilP, List.set_cons_zero, List.set_cons_succ, List.getElem?_cons_zero, List.getElem?_cons_succ, List.nil_append, List.cons_append, Option.toList_some, Option.toList_none]
    rw [nI_long (by omega), iL_mul]
    refine ecr rfl rfl (by assumption) rfl rfl rfl (y_owed hW hI n1 hk) (by first | rfl | exact Nat.blt_eq.mpr (by omega)) rfl ?_
    repeat (first | refine es rfl rfl rfl ?_ | refine eg rfl (by assumption) rfl ?_ | refine ean rfl (by assumption) (by assumption) rfl ?_ | refine eal rfl (by assumption) (by assumption) rfl ?_ | refine eri rfl ?_ | refine erv rfl ?_ | refine erl rfl ?_ | refine era rfl ?_ | refine erz0 rfl ?_ | refine erz1 rfl ?_ | refine ean0 rfl (by assumption) (by assumption) rfl ?_ | refine ean8 rfl (by assumption) (by assumption) rfl ?_ | refine ean12 rfl (by assumption) (by assumption) rfl ?_ | refine ean7 rfl (by assumption) (by assumption) rfl ?_)
    try dsimp only [set1, set2, kilP, List.set_cons_zero, List.set_cons_succ, List.getElem?_cons_zero, List.getElem?_cons_succ, List.nil_append, List.cons_append, Option.toList_some, Option.toList_none]
    rw [nI_long (by omega), iL_mul, iL_sub]
    refine ecr rfl rfl (by assumption) rfl rfl rfl (y_parts hW hI n1 hk) (by first | rfl | exact Nat.blt_eq.mpr (by omega)) rfl ?_
    repeat (first | refine es rfl rfl rfl ?_ | refine eg rfl (by assumption) rfl ?_ | refine ean rfl (by assumption) (by assumption) rfl ?_ | refine eal rfl (by assumption) (by assumption) rfl ?_ | refine eri rfl ?_ | refine erv rfl ?_ | refine erl rfl ?_ | refine era rfl ?_ | refine erz0 rfl ?_ | refine erz1 rfl ?_ | refine ean0 rfl (by assumption) (by assumption) rfl ?_ | refine ean8 rfl (by assumption) (by assumption) rfl ?_ | refine ean12 rfl (by assumption) (by assumption) rfl ?_ | refine ean7 rfl (by assumption) (by assumption) rfl ?_)
    try dsimp only [set1, set2, kilP, List.set_cons_zero, List.set_cons_succ, List.getElem?_cons_zero, List.getElem?_cons_succ, List.nil_append, List.cons_append, Option.toList_some, Option.toList_none]
    rw [nI_long (by omega), iL_mul, ← Int.natCast_mul]
    have g1 : g * (owN σ k).2 ≤ 999 * 10 := mul_b hg b3
    have g2 : (owN σ k).1 * (r + 1) ≤ 999 * 10 := mul_b b1 (by omega)
    have g3 : (r + 1) * (owN σ k).2 ≤ 10 * 10 := mul_b (by omega) b3
    have g4 : 1 * 1 ≤ (r + 1) * (owN σ k).2 := mul_b (by omega) b2
    refine ecv rfl rfl (by assumption) rfl rfl rfl (y_frac hY (by rw [← Int.natCast_mul, ← Int.natCast_mul]; omega) (by omega) (by omega)) (by first | rfl | exact Nat.blt_eq.mpr (by omega)) ?_
    rintro v M9 ⟨rfl, hY9, hF9⟩
    try dsimp only [set1, set2, kilP, List.set_cons_zero, List.set_cons_succ, List.getElem?_cons_zero, List.getElem?_cons_succ, List.nil_append, List.cons_append, Option.toList_some, Option.toList_none]
    repeat (first | refine es rfl rfl rfl ?_ | refine eg rfl (by assumption) rfl ?_ | refine ean rfl (by assumption) (by assumption) rfl ?_ | refine eal rfl (by assumption) (by assumption) rfl ?_ | refine eri rfl ?_ | refine erv rfl ?_ | refine erl rfl ?_ | refine era rfl ?_ | refine erz0 rfl ?_ | refine erz1 rfl ?_ | refine ean0 rfl (by assumption) (by assumption) rfl ?_ | refine ean8 rfl (by assumption) (by assumption) rfl ?_ | refine ean12 rfl (by assumption) (by assumption) rfl ?_ | refine ean7 rfl (by assumption) (by assumption) rfl ?_)
    try dsimp only [set1, set2, kilP, List.set_cons_zero, List.set_cons_succ, List.getElem?_cons_zero, List.getElem?_cons_succ, List.nil_append, List.cons_append, Option.toList_some, Option.toList_none]
    rw [hq]
    exact Pq.eq hY9 (hF.tr (hF9.wide (lo2 := b) (n2 := 16) (by omega) (by omega)) (by omega) (by omega))
  refine ei _ rfl rfl (fun c1 => ?_) (fun c1 => ?_)
  · repeat (refine ng 65 rfl ?_; first | refine es rfl rfl rfl ?_ | refine eg rfl (by assumption) rfl ?_ | refine ean rfl (by assumption) (by assumption) rfl ?_ | refine eal rfl (by assumption) (by assumption) rfl ?_ | refine eri rfl ?_ | refine erv rfl ?_ | refine erl rfl ?_ | refine era rfl ?_ | refine erz0 rfl ?_ | refine erz1 rfl ?_ | refine ean0 rfl (by assumption) (by assumption) rfl ?_ | refine ean8 rfl (by assumption) (by assumption) rfl ?_ | refine ean12 rfl (by assumption) (by assumption) rfl ?_ | refine ean7 rfl (by assumption) (by assumption) rfl ?_)
    try dsimp only [set1, set2, kilP, List.set_cons_zero, List.set_cons_succ, List.getElem?_cons_zero, List.getElem?_cons_succ, List.nil_append, List.cons_append, Option.toList_some, Option.toList_none]
    rw [(mH k hk).2.2.1, eq', nI_long (by omega)]
    refine fin q q1 ?_
    unfold netN
    rw [if_neg c1, eq', er, nI_clamp (by omega), nI_clamp (by omega)]
    rfl
  · repeat (refine ng 65 rfl ?_; first | refine es rfl rfl rfl ?_ | refine eg rfl (by assumption) rfl ?_ | refine ean rfl (by assumption) (by assumption) rfl ?_ | refine eal rfl (by assumption) (by assumption) rfl ?_ | refine eri rfl ?_ | refine erv rfl ?_ | refine erl rfl ?_ | refine era rfl ?_ | refine erz0 rfl ?_ | refine erz1 rfl ?_ | refine ean0 rfl (by assumption) (by assumption) rfl ?_ | refine ean8 rfl (by assumption) (by assumption) rfl ?_ | refine ean12 rfl (by assumption) (by assumption) rfl ?_ | refine ean7 rfl (by assumption) (by assumption) rfl ?_)
    try dsimp only [set1, set2, kilP, List.set_cons_zero, List.set_cons_succ, List.getElem?_cons_zero, List.getElem?_cons_succ, List.nil_append, List.cons_append, Option.toList_some, Option.toList_none]
    refine fin 0 (by omega) ?_
    unfold netN
    rw [if_pos (Decidable.not_not.mp c1)]
    rw [show ((0 : Nat) : Int) * ((owN σ k).2 : Int) - (owN σ k).1 * ((r + 1 : Nat) : Int) = (-((owN σ k).1 : Int)) * ((r + 1 : Nat) : Int) by rw [Int.neg_mul]; simp]
    exact prtF_sc (by omega)
theorem y_db_loop {a : Nat} {oa : Int32 × Int32 × Int32} {rd : Value} {oq : Yr × Yq} {A : Ar} {M0 : Mm} (hY : YR M b σ) (hW : yW M b a σ oa rd oq A) (hI : Inv σ C) (hn : 0 < σ.T.hs.n) (hF : Fr b 16 M0 M) : ∀ (n h : Nat) (z : Option Nat), h + n = σ.T.hs.n → (∀ k, z = some k → k < σ.T.hs.n) → Ev ad 2 (rX13_debtor ad) (23, [some (.ref b), some (.int (oI z)), some (.int (nI h))], [], M) (Pq b M0 (an σ (oI (dbF (owN σ) n h z)))) := by
  obtain ⟨hy, ha, ⟨kn, Am, Bm, m0, mc, mH, -⟩, hv⟩ := id hW
  have h0 := hy.1
  have hn7 := hI.n7
  intro n
  induction n with
  | zero =>
    intro h z hh hz
    rw [dbF]
    repeat (first | refine es rfl rfl rfl ?_ | refine eg rfl (by assumption) rfl ?_ | refine ean rfl (by assumption) (by assumption) rfl ?_ | refine eal rfl (by assumption) (by assumption) rfl ?_ | refine eri rfl ?_ | refine erv rfl ?_ | refine erl rfl ?_ | refine era rfl ?_ | refine erz0 rfl ?_ | refine erz1 rfl ?_ | refine ean0 rfl (by assumption) (by assumption) rfl ?_ | refine ean8 rfl (by assumption) (by assumption) rfl ?_ | refine ean12 rfl (by assumption) (by assumption) rfl ?_ | refine ean7 rfl (by assumption) (by assumption) rfl ?_)
    try dsimp only [set1, set2, kilP, List.set_cons_zero, List.set_cons_succ, List.getElem?_cons_zero, List.getElem?_cons_succ, List.nil_append, List.cons_append, Option.toList_some, Option.toList_none]
    refine ei _ rfl rfl (fun c => ?_) (fun c => ?_)
    · repeat (first | refine es rfl rfl rfl ?_ | refine eg rfl (by assumption) rfl ?_ | refine ean rfl (by assumption) (by assumption) rfl ?_ | refine eal rfl (by assumption) (by assumption) rfl ?_ | refine eri rfl ?_ | refine erv rfl ?_ | refine erl rfl ?_ | refine era rfl ?_ | refine erz0 rfl ?_ | refine erz1 rfl ?_ | refine ean0 rfl (by assumption) (by assumption) rfl ?_ | refine ean8 rfl (by assumption) (by assumption) rfl ?_ | refine ean12 rfl (by assumption) (by assumption) rfl ?_ | refine ean7 rfl (by assumption) (by assumption) rfl ?_)
      try dsimp only [set1, set2, kilP, List.set_cons_zero, List.set_cons_succ, List.getElem?_cons_zero, List.getElem?_cons_succ, List.nil_append, List.cons_append, Option.toList_some, Option.toList_none]
      refine ecv rfl rfl (by assumption) rfl rfl rfl (y_good hY) (by first | rfl | exact Nat.blt_eq.mpr (by omega)) ?_
      rintro v M9 ⟨rfl, hY9, hF9⟩
      try dsimp only [set1, set2, kilP, List.set_cons_zero, List.set_cons_succ, List.getElem?_cons_zero, List.getElem?_cons_succ, List.nil_append, List.cons_append, Option.toList_some, Option.toList_none]
      repeat (first | refine es rfl rfl rfl ?_ | refine eg rfl (by assumption) rfl ?_ | refine ean rfl (by assumption) (by assumption) rfl ?_ | refine eal rfl (by assumption) (by assumption) rfl ?_ | refine eri rfl ?_ | refine erv rfl ?_ | refine erl rfl ?_ | refine era rfl ?_ | refine erz0 rfl ?_ | refine erz1 rfl ?_ | refine ean0 rfl (by assumption) (by assumption) rfl ?_ | refine ean8 rfl (by assumption) (by assumption) rfl ?_ | refine ean12 rfl (by assumption) (by assumption) rfl ?_ | refine ean7 rfl (by assumption) (by assumption) rfl ?_)
      try dsimp only [set1, set2, kilP, List.set_cons_zero, List.set_cons_succ, List.getElem?_cons_zero, List.getElem?_cons_succ, List.nil_append, List.cons_append, Option.toList_some, Option.toList_none]
      exact Pq.an hY9 (hF.tr (hF9.wide (lo2 := b) (n2 := 16) (by omega) (by omega)) (by omega) (by omega))
    · exact absurd (nI_le (by omega) (by omega)) c
  | succ n ih =>
    intro h z hh hz
    have hk : h < σ.T.hs.n := by omega
    obtain ⟨b1, b2, b3⟩ := hI.owb hk
    rw [dbF]
    repeat (first | refine es rfl rfl rfl ?_ | refine eg rfl (by assumption) rfl ?_ | refine ean rfl (by assumption) (by assumption) rfl ?_ | refine eal rfl (by assumption) (by assumption) rfl ?_ | refine eri rfl ?_ | refine erv rfl ?_ | refine erl rfl ?_ | refine era rfl ?_ | refine erz0 rfl ?_ | refine erz1 rfl ?_ | refine ean0 rfl (by assumption) (by assumption) rfl ?_ | refine ean8 rfl (by assumption) (by assumption) rfl ?_ | refine ean12 rfl (by assumption) (by assumption) rfl ?_ | refine ean7 rfl (by assumption) (by assumption) rfl ?_)
    try dsimp only [set1, set2, kilP, List.set_cons_zero, List.set_cons_succ, List.getElem?_cons_zero, List.getElem?_cons_succ, List.nil_append, List.cons_append, Option.toList_some, Option.toList_none]
    refine ei _ rfl rfl (fun c => ?_) (fun c => ?_)
    · exact absurd c (nI_ge (by omega) (by omega))
    · repeat (first | refine es rfl rfl rfl ?_ | refine eg rfl (by assumption) rfl ?_ | refine ean rfl (by assumption) (by assumption) rfl ?_ | refine eal rfl (by assumption) (by assumption) rfl ?_ | refine eri rfl ?_ | refine erv rfl ?_ | refine erl rfl ?_ | refine era rfl ?_ | refine erz0 rfl ?_ | refine erz1 rfl ?_ | refine ean0 rfl (by assumption) (by assumption) rfl ?_ | refine ean8 rfl (by assumption) (by assumption) rfl ?_ | refine ean12 rfl (by assumption) (by assumption) rfl ?_ | refine ean7 rfl (by assumption) (by assumption) rfl ?_)
      try dsimp only [set1, set2, kilP, List.set_cons_zero, List.set_cons_succ, List.getElem?_cons_zero, List.getElem?_cons_succ, List.nil_append, List.cons_append, Option.toList_some, Option.toList_none]
      refine ecr rfl rfl (by assumption) rfl rfl rfl (y_owed hW hI hn hk) (by first | rfl | exact Nat.blt_eq.mpr (by omega)) rfl ?_
      have e0 : nI (owN σ h).1 = 0 ↔ (owN σ h).1 = 0 := nI_eq (b := 0) (by omega) (by omega)
      refine ei _ rfl rfl (fun c1 => ?_) (fun c1 => ?_)
      rotate_left
      · have c1 := e0.mp (Decidable.not_not.mp c1)
        repeat (refine ng 23 rfl ?_; first | refine es rfl rfl rfl ?_ | refine eg rfl (by assumption) rfl ?_ | refine ean rfl (by assumption) (by assumption) rfl ?_ | refine eal rfl (by assumption) (by assumption) rfl ?_ | refine eri rfl ?_ | refine erv rfl ?_ | refine erl rfl ?_ | refine era rfl ?_ | refine erz0 rfl ?_ | refine erz1 rfl ?_ | refine ean0 rfl (by assumption) (by assumption) rfl ?_ | refine ean8 rfl (by assumption) (by assumption) rfl ?_ | refine ean12 rfl (by assumption) (by assumption) rfl ?_ | refine ean7 rfl (by assumption) (by assumption) rfl ?_)
        try dsimp only [set1, set2, kilP, List.set_cons_zero, List.set_cons_succ, List.getElem?_cons_zero, List.getElem?_cons_succ, List.nil_append, List.cons_append, Option.toList_some, Option.toList_none]
        rw [nI_1]
        rw [if_neg (by
          cases z with
          | none => simp [dbL, c1]
          | some k => simp [dbL, c1])]
        exact ih (h + 1) z (by omega) hz
      have c1' : 0 < (owN σ h).1 := Nat.pos_of_ne_zero (fun q => c1 (e0.mpr q))
      repeat (first | refine es rfl rfl rfl ?_ | refine eg rfl (by assumption) rfl ?_ | refine ean rfl (by assumption) (by assumption) rfl ?_ | refine eal rfl (by assumption) (by assumption) rfl ?_ | refine eri rfl ?_ | refine erv rfl ?_ | refine erl rfl ?_ | refine era rfl ?_ | refine erz0 rfl ?_ | refine erz1 rfl ?_ | refine ean0 rfl (by assumption) (by assumption) rfl ?_ | refine ean8 rfl (by assumption) (by assumption) rfl ?_ | refine ean12 rfl (by assumption) (by assumption) rfl ?_ | refine ean7 rfl (by assumption) (by assumption) rfl ?_)
      try dsimp only [set1, set2, kilP, List.set_cons_zero, List.set_cons_succ, List.getElem?_cons_zero, List.getElem?_cons_succ, List.nil_append, List.cons_append, Option.toList_some, Option.toList_none]
      cases z with
      | none =>
        repeat (refine ng 23 rfl ?_; first | refine es rfl rfl rfl ?_ | refine eg rfl (by assumption) rfl ?_ | refine ean rfl (by assumption) (by assumption) rfl ?_ | refine eal rfl (by assumption) (by assumption) rfl ?_ | refine eri rfl ?_ | refine erv rfl ?_ | refine erl rfl ?_ | refine era rfl ?_ | refine erz0 rfl ?_ | refine erz1 rfl ?_ | refine ean0 rfl (by assumption) (by assumption) rfl ?_ | refine ean8 rfl (by assumption) (by assumption) rfl ?_ | refine ean12 rfl (by assumption) (by assumption) rfl ?_ | refine ean7 rfl (by assumption) (by assumption) rfl ?_)
        try dsimp only [set1, set2, kilP, List.set_cons_zero, List.set_cons_succ, List.getElem?_cons_zero, List.getElem?_cons_succ, List.nil_append, List.cons_append, Option.toList_some, Option.toList_none]
        rw [nI_1, if_pos (by simp [dbL, c1'])]
        exact ih (h + 1) (some h) (by omega) (fun k e => by injection e with e; omega)
      | some j =>
        have hj := hz j rfl
        obtain ⟨d1, d2, d3⟩ := hI.owb hj
        refine ei _ rfl rfl (fun c2 => ?_) (fun c2 => ?_)
        · exact absurd c2 (nI_n2 (by omega))
        repeat (first | refine es rfl rfl rfl ?_ | refine eg rfl (by assumption) rfl ?_ | refine ean rfl (by assumption) (by assumption) rfl ?_ | refine eal rfl (by assumption) (by assumption) rfl ?_ | refine eri rfl ?_ | refine erv rfl ?_ | refine erl rfl ?_ | refine era rfl ?_ | refine erz0 rfl ?_ | refine erz1 rfl ?_ | refine ean0 rfl (by assumption) (by assumption) rfl ?_ | refine ean8 rfl (by assumption) (by assumption) rfl ?_ | refine ean12 rfl (by assumption) (by assumption) rfl ?_ | refine ean7 rfl (by assumption) (by assumption) rfl ?_)
        try dsimp only [set1, set2, kilP, List.set_cons_zero, List.set_cons_succ, List.getElem?_cons_zero, List.getElem?_cons_succ, List.nil_append, List.cons_append, Option.toList_some, Option.toList_none]
        refine ecr rfl rfl (by assumption) rfl rfl rfl (y_owed hW hI hn hk) (by first | rfl | exact Nat.blt_eq.mpr (by omega)) rfl ?_
        repeat (first | refine es rfl rfl rfl ?_ | refine eg rfl (by assumption) rfl ?_ | refine ean rfl (by assumption) (by assumption) rfl ?_ | refine eal rfl (by assumption) (by assumption) rfl ?_ | refine eri rfl ?_ | refine erv rfl ?_ | refine erl rfl ?_ | refine era rfl ?_ | refine erz0 rfl ?_ | refine erz1 rfl ?_ | refine ean0 rfl (by assumption) (by assumption) rfl ?_ | refine ean8 rfl (by assumption) (by assumption) rfl ?_ | refine ean12 rfl (by assumption) (by assumption) rfl ?_ | refine ean7 rfl (by assumption) (by assumption) rfl ?_)
        try dsimp only [set1, set2, kilP, List.set_cons_zero, List.set_cons_succ, List.getElem?_cons_zero, List.getElem?_cons_succ, List.nil_append, List.cons_append, Option.toList_some, Option.toList_none]
        refine ecr rfl rfl (by assumption) rfl rfl rfl (y_parts hW hI hn hj) (by first | rfl | exact Nat.blt_eq.mpr (by omega)) rfl ?_
        repeat (first | refine es rfl rfl rfl ?_ | refine eg rfl (by assumption) rfl ?_ | refine ean rfl (by assumption) (by assumption) rfl ?_ | refine eal rfl (by assumption) (by assumption) rfl ?_ | refine eri rfl ?_ | refine erv rfl ?_ | refine erl rfl ?_ | refine era rfl ?_ | refine erz0 rfl ?_ | refine erz1 rfl ?_ | refine ean0 rfl (by assumption) (by assumption) rfl ?_ | refine ean8 rfl (by assumption) (by assumption) rfl ?_ | refine ean12 rfl (by assumption) (by assumption) rfl ?_ | refine ean7 rfl (by assumption) (by assumption) rfl ?_)
        try dsimp only [set1, set2, kilP, List.set_cons_zero, List.set_cons_succ, List.getElem?_cons_zero, List.getElem?_cons_succ, List.nil_append, List.cons_append, Option.toList_some, Option.toList_none]
        rw [pk_mul]
        refine ecr rfl rfl (by assumption) rfl rfl rfl (y_owed hW hI hn hj) (by first | rfl | exact Nat.blt_eq.mpr (by omega)) rfl ?_
        repeat (first | refine es rfl rfl rfl ?_ | refine eg rfl (by assumption) rfl ?_ | refine ean rfl (by assumption) (by assumption) rfl ?_ | refine eal rfl (by assumption) (by assumption) rfl ?_ | refine eri rfl ?_ | refine erv rfl ?_ | refine erl rfl ?_ | refine era rfl ?_ | refine erz0 rfl ?_ | refine erz1 rfl ?_ | refine ean0 rfl (by assumption) (by assumption) rfl ?_ | refine ean8 rfl (by assumption) (by assumption) rfl ?_ | refine ean12 rfl (by assumption) (by assumption) rfl ?_ | refine ean7 rfl (by assumption) (by assumption) rfl ?_)
        try dsimp only [set1, set2, kilP, List.set_cons_zero, List.set_cons_succ, List.getElem?_cons_zero, List.getElem?_cons_succ, List.nil_append, List.cons_append, Option.toList_some, Option.toList_none]
        refine ecr rfl rfl (by assumption) rfl rfl rfl (y_parts hW hI hn hk) (by first | rfl | exact Nat.blt_eq.mpr (by omega)) rfl ?_
        repeat (first | refine es rfl rfl rfl ?_ | refine eg rfl (by assumption) rfl ?_ | refine ean rfl (by assumption) (by assumption) rfl ?_ | refine eal rfl (by assumption) (by assumption) rfl ?_ | refine eri rfl ?_ | refine erv rfl ?_ | refine erl rfl ?_ | refine era rfl ?_ | refine erz0 rfl ?_ | refine erz1 rfl ?_ | refine ean0 rfl (by assumption) (by assumption) rfl ?_ | refine ean8 rfl (by assumption) (by assumption) rfl ?_ | refine ean12 rfl (by assumption) (by assumption) rfl ?_ | refine ean7 rfl (by assumption) (by assumption) rfl ?_)
        try dsimp only [set1, set2, kilP, List.set_cons_zero, List.set_cons_succ, List.getElem?_cons_zero, List.getElem?_cons_succ, List.nil_append, List.cons_append, Option.toList_some, Option.toList_none]
        rw [pk_mul]
        have g1 : (owN σ h).1 * (owN σ j).2 ≤ 999 * 10 := mul_b b1 d3
        have g2 : (owN σ j).1 * (owN σ h).2 ≤ 999 * 10 := mul_b d1 b3
        refine ei _ rfl rfl (fun c3 => ?_) (fun c3 => ?_)
        · have c3' := (nI_leI (by omega) (by omega)).mp c3
          repeat (refine ng 23 rfl ?_; first | refine es rfl rfl rfl ?_ | refine eg rfl (by assumption) rfl ?_ | refine ean rfl (by assumption) (by assumption) rfl ?_ | refine eal rfl (by assumption) (by assumption) rfl ?_ | refine eri rfl ?_ | refine erv rfl ?_ | refine erl rfl ?_ | refine era rfl ?_ | refine erz0 rfl ?_ | refine erz1 rfl ?_ | refine ean0 rfl (by assumption) (by assumption) rfl ?_ | refine ean8 rfl (by assumption) (by assumption) rfl ?_ | refine ean12 rfl (by assumption) (by assumption) rfl ?_ | refine ean7 rfl (by assumption) (by assumption) rfl ?_)
          try dsimp only [set1, set2, kilP, List.set_cons_zero, List.set_cons_succ, List.getElem?_cons_zero, List.getElem?_cons_succ, List.nil_append, List.cons_append, Option.toList_some, Option.toList_none]
          rw [nI_1, if_neg (by simp [dbL]; omega)]
          exact ih (h + 1) (some j) (by omega) hz
        · have c3' : ¬ (owN σ h).1 * (owN σ j).2 ≤ (owN σ j).1 * (owN σ h).2 := fun q => c3 (nI_le q (by omega))
          repeat (refine ng 23 rfl ?_; first | refine es rfl rfl rfl ?_ | refine eg rfl (by assumption) rfl ?_ | refine ean rfl (by assumption) (by assumption) rfl ?_ | refine eal rfl (by assumption) (by assumption) rfl ?_ | refine eri rfl ?_ | refine erv rfl ?_ | refine erl rfl ?_ | refine era rfl ?_ | refine erz0 rfl ?_ | refine erz1 rfl ?_ | refine ean0 rfl (by assumption) (by assumption) rfl ?_ | refine ean8 rfl (by assumption) (by assumption) rfl ?_ | refine ean12 rfl (by assumption) (by assumption) rfl ?_ | refine ean7 rfl (by assumption) (by assumption) rfl ?_)
          try dsimp only [set1, set2, kilP, List.set_cons_zero, List.set_cons_succ, List.getElem?_cons_zero, List.getElem?_cons_succ, List.nil_append, List.cons_append, Option.toList_some, Option.toList_none]
          rw [nI_1, if_pos (by simp [dbL]; omega)]
          exact ih (h + 1) (some h) (by omega) (fun k e => by injection e with e; omega)
theorem y_debtor (hY : YR M b σ) (hI : Inv σ C) : EvM ad 2 (iX13_debtor ad) [.ref b] M (Pq b M (spDebtor σ)) := by
  unfold spDebtor
  refine ⟨Nat.le_of_ble_eq_true rfl, ?_⟩
  show Ev ad _ (rX13_debtor ad) (0, [some (.ref b), none, none], [], M) _
  refine yEn rfl rfl rfl hY (fun M1 hY hF _ => ?_)
  obtain ⟨⟨oa, ⟨tw, rd⟩, oq⟩, A, hR⟩ := id hY
  have h0 := hR.1.1
  have h2 := hR.1.c.2.1
  by_cases hno : σ.T.hs.n = 0
  · obtain ⟨_, t0⟩ := hR.2.2.2.2.2.2.2.2.2.resolve_right (fun q => by have := q.1; omega)
    replace t0 : tw = .null := t0
    subst t0
    rw [if_pos hno]
    repeat (first | refine es rfl rfl rfl ?_ | refine eg rfl (by assumption) rfl ?_ | refine ean rfl (by assumption) (by assumption) rfl ?_ | refine eal rfl (by assumption) (by assumption) rfl ?_ | refine eri rfl ?_ | refine erv rfl ?_ | refine erl rfl ?_ | refine era rfl ?_ | refine erz0 rfl ?_ | refine erz1 rfl ?_ | refine ean0 rfl (by assumption) (by assumption) rfl ?_ | refine ean8 rfl (by assumption) (by assumption) rfl ?_ | refine ean12 rfl (by assumption) (by assumption) rfl ?_ | refine ean7 rfl (by assumption) (by assumption) rfl ?_)
    try dsimp only [set1, set2, kilP, List.set_cons_zero, List.set_cons_succ, List.getElem?_cons_zero, List.getElem?_cons_succ, List.nil_append, List.cons_append, Option.toList_some, Option.toList_none]
    refine ecv rfl rfl (by assumption) rfl rfl rfl (y_ref hY (by decide)) (by first | rfl | exact Nat.blt_eq.mpr (by omega)) ?_
    rintro v M9 ⟨rfl, hY9, hF9⟩
    try dsimp only [set1, set2, kilP, List.set_cons_zero, List.set_cons_succ, List.getElem?_cons_zero, List.getElem?_cons_succ, List.nil_append, List.cons_append, Option.toList_some, Option.toList_none]
    repeat (first | refine es rfl rfl rfl ?_ | refine eg rfl (by assumption) rfl ?_ | refine ean rfl (by assumption) (by assumption) rfl ?_ | refine eal rfl (by assumption) (by assumption) rfl ?_ | refine eri rfl ?_ | refine erv rfl ?_ | refine erl rfl ?_ | refine era rfl ?_ | refine erz0 rfl ?_ | refine erz1 rfl ?_ | refine ean0 rfl (by assumption) (by assumption) rfl ?_ | refine ean8 rfl (by assumption) (by assumption) rfl ?_ | refine ean12 rfl (by assumption) (by assumption) rfl ?_ | refine ean7 rfl (by assumption) (by assumption) rfl ?_)
    try dsimp only [set1, set2, kilP, List.set_cons_zero, List.set_cons_succ, List.getElem?_cons_zero, List.getElem?_cons_succ, List.nil_append, List.cons_append, Option.toList_some, Option.toList_none]
    exact Pq.rf hY9 (hF.tr (hF9.wide (lo2 := b) (n2 := 16) (by omega) (by omega)) (by omega) (by omega))
  rw [if_neg hno]
  obtain ⟨n1, a, t0, a1, a2, hM, hv, hpa, hmk, hfa⟩ := hR.2.2.2.2.2.2.2.2.2.resolve_left (fun q => by have := q.1; omega)
  replace t0 : tw = .ref a := t0
  subst t0
  obtain ⟨kn, Am, Bm, m0, mc, mH, mS, mP, mC, mN⟩ := id hM
  obtain ⟨m1, m2, m3, m4, m5, m6, m7, m8, m9, m10, m11, m12, m13, m14, m15, m16, m17⟩ := id mc
  repeat (refine ng 23 rfl ?_; first | refine es rfl rfl rfl ?_ | refine eg rfl (by assumption) rfl ?_ | refine ean rfl (by assumption) (by assumption) rfl ?_ | refine eal rfl (by assumption) (by assumption) rfl ?_ | refine eri rfl ?_ | refine erv rfl ?_ | refine erl rfl ?_ | refine era rfl ?_ | refine erz0 rfl ?_ | refine erz1 rfl ?_ | refine ean0 rfl (by assumption) (by assumption) rfl ?_ | refine ean8 rfl (by assumption) (by assumption) rfl ?_ | refine ean12 rfl (by assumption) (by assumption) rfl ?_ | refine ean7 rfl (by assumption) (by assumption) rfl ?_)
  try dsimp only [set1, set2, kilP, List.set_cons_zero, List.set_cons_succ, List.getElem?_cons_zero, List.getElem?_cons_succ, List.nil_append, List.cons_append, Option.toList_some, Option.toList_none]
  exact y_db_loop hY ⟨hR.1, a1, hM, hv⟩ hI n1 hF _ 0 none (by omega) (fun k e => by cases e)
end RHEAT
