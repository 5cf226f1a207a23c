/-! The reference: the search for rows that fit -/
section RFS
variable {ad : Nat → Nat} {M : Mm} {b : Nat} {σ : Sg} {C : Nat} {a : Nat} {oa : Int32 × Int32 × Int32} {rd : Value} {r : Yr} {p1 p2 : Int32 × Int32} {q4 : Y2} {M0 : Mm} {A0 : Ar}
def ofR (n : Nat) (of : Nat → Int32) (w : Fo) (h : Nat) (us : List Nat) : Prop := ∀ j, j < n → ¬ j = h → (j ∈ us → of j = -2) ∧ (j ∉ us → of j = nI (w j) ∧ w j < n)
def vaR (T : Tw) (w : Fo) (h : Nat) (us tk : List Nat) : Prop := ∀ x, x < T.hs.n → ((∃ j, j < T.hs.n ∧ ¬ j = h ∧ j ∉ us ∧ w j = x) ↔ (x ∈ tk ∨ ∃ k, k < T.hs.n ∧ T.hs.to k = nI x))
noncomputable abbrev ftI (T : Tw) (h g : Nat) (tk : List Nat) : Int32 := @ite _ (fitB T h g = true ∧ g ∉ tk) (Classical.propDecidable _) 1 0
theorem y_isf_loop {A : Ar} {un ro al : Int32} {h g : Nat} {w : Fo} {us tk : List Nat} (hI : Inv σ C) (hn : 0 < σ.T.hs.n) (hV : yU M b a σ oa rd r p1 p2 q4 M0 A0 un ro al A) (hh : h < σ.T.hs.n) (hg : g < σ.T.hs.n) (e9 : A 10 h = nI g) (ho : ofR σ.T.hs.n (A 10) w h us) (hv : vaR σ.T w h us tk) : ∀ (n i : Nat), i + n = σ.T.hs.n → (∀ j, j < i → ¬ j = h → ¬ A 10 j = nI g) → Ev ad 1 (rX13_isFitting ad) (2, [some (.ref b), some (.int (nI h)), some (.int (nI i))], [], M) (fun v' M' => v' = some (.int (ftI σ.T h g tk)) ∧ M' = M) := by
  have hn7 := hI.n7
  have tI := hI.tI hn
  obtain ⟨_, _, hM, _⟩ := id hV.1
  obtain ⟨kn, Am, Bm, m0, -⟩ := id hM
  have h0 := hV.1.1.1
  have c10 : M.1 (b + 10) = ints 7 (A 10) := hV.1.1.c.2.2.2.2.2.2.2.2.2.1
  have hh7 : h < 7 := by omega
  have key : (∃ j, j < σ.T.hs.n ∧ ¬ j = h ∧ A 10 j = nI g) ↔ (g ∈ tk ∨ ∃ k, k < σ.T.hs.n ∧ σ.T.hs.to k = nI g) := by
    rw [← hv g hg]
    constructor
    · rintro ⟨j, j1, j2, j3⟩
      have := ho j j1 j2
      by_cases q : j ∈ us
      · rw [this.1 q] at j3; exact absurd j3.symm (nI_n2 (by omega))
      · obtain ⟨e1, e2⟩ := this.2 q
        rw [e1] at j3
        exact ⟨j, j1, j2, q, (nI_eq (by omega) (by omega)).mp j3⟩
    · rintro ⟨j, j1, j2, j3, j4⟩
      exact ⟨j, j1, j2, by rw [((ho j j1 j2).2 j3).1, j4]⟩
  intro n
  induction n with
  | zero =>
    intro i hi hq
    have hne : ¬ (g ∈ tk ∨ ∃ k, k < σ.T.hs.n ∧ σ.T.hs.to k = nI g) := by
      rw [← key]
      rintro ⟨j, j1, j2, j3⟩
      exact hq j (by omega) j2 j3
    repeat (first | refine es rfl rfl rfl ?_ | refine eg rfl (by assumption) rfl ?_ | refine eanE rfl (by assumption) (by with_reducible first | exact rfl | exact Int32.zero_add _ | exact ix8 _ | exact ix12 _ | exact ix7r _ _ | exact n7 | exact n0 | exact n1) (by assumption) rfl ?_ | refine eal rfl (by assumption) (by assumption) rfl ?_ | refine eri rfl ?_ | refine erv rfl ?_ | refine erl rfl ?_ | refine era rfl ?_ | refine erz0 rfl ?_ | refine erz1 rfl ?_)
    try dsimp only [set1, set2, kilP, List.set_cons_zero, List.set_cons_succ, List.getElem?_cons_zero, List.getElem?_cons_succ, List.nil_append, List.cons_append, Option.toList_some, Option.toList_none]
    refine ei _ rfl rfl (fun c => ?_) (fun c => ?_)
    · repeat (first | refine es rfl rfl rfl ?_ | refine eg rfl (by assumption) rfl ?_ | refine eanE rfl (by assumption) (by with_reducible first | exact rfl | exact Int32.zero_add _ | exact ix8 _ | exact ix12 _ | exact ix7r _ _ | exact n7 | exact n0 | exact n1) (by assumption) rfl ?_ | refine eal rfl (by assumption) (by assumption) rfl ?_ | refine eri rfl ?_ | refine erv rfl ?_ | refine erl rfl ?_ | refine era rfl ?_ | refine erz0 rfl ?_ | refine erz1 rfl ?_)
      try dsimp only [set1, set2, kilP, List.set_cons_zero, List.set_cons_succ, List.getElem?_cons_zero, List.getElem?_cons_succ, List.nil_append, List.cons_append, Option.toList_some, Option.toList_none]
      rw [e9]
      refine ecr rfl rfl (by assumption) rfl rfl rfl (t_may hM hn7 tI.1.1.2.2.2.2.1 tI.1.1.2.2.2.1 hh7 hg) (by first | rfl | exact Nat.blt_eq.mpr (by omega)) rfl ?_
      have e : mayP σ.T h g = ftI σ.T h g tk := by
        by_cases q : ¬ h = g ∧ alwB σ.T.cs (nI h) (σ.T.hs.sm g) (σ.T.hs.ro g)
        · rw [show mayP σ.T h g = 1 from if_pos q]
          refine (if_pos ⟨fitB_i.mpr ⟨fun w => q.1 w.symm, fun k hk e => hne (Or.inr ⟨k, hk, e⟩), q.2⟩, fun w => hne (Or.inl w)⟩).symm
        · rw [show mayP σ.T h g = 0 from if_neg q]
          refine (if_neg (fun w => q ?_)).symm
          have := fitB_i.mp w.1
          exact ⟨fun e => this.1 e.symm, this.2.2⟩
      rw [e]
      by_cases q : fitB σ.T h g = true ∧ g ∉ tk
      · rw [show ftI σ.T h g tk = 1 from if_pos q]
        repeat (first | refine es rfl rfl rfl ?_ | refine eg rfl (by assumption) rfl ?_ | refine eanE rfl (by assumption) (by with_reducible first | exact rfl | exact Int32.zero_add _ | exact ix8 _ | exact ix12 _ | exact ix7r _ _ | exact n7 | exact n0 | exact n1) (by assumption) rfl ?_ | refine eal rfl (by assumption) (by assumption) rfl ?_ | refine eri rfl ?_ | refine erv rfl ?_ | refine erl rfl ?_ | refine era rfl ?_ | refine erz0 rfl ?_ | refine erz1 rfl ?_)
        try dsimp only [set1, set2, kilP, List.set_cons_zero, List.set_cons_succ, List.getElem?_cons_zero, List.getElem?_cons_succ, List.nil_append, List.cons_append, Option.toList_some, Option.toList_none]
        exact ⟨rfl, rfl⟩
      · rw [show ftI σ.T h g tk = 0 from if_neg q]
        repeat (first | refine es rfl rfl rfl ?_ | refine eg rfl (by assumption) rfl ?_ | refine eanE rfl (by assumption) (by with_reducible first | exact rfl | exact Int32.zero_add _ | exact ix8 _ | exact ix12 _ | exact ix7r _ _ | exact n7 | exact n0 | exact n1) (by assumption) rfl ?_ | refine eal rfl (by assumption) (by assumption) rfl ?_ | refine eri rfl ?_ | refine erv rfl ?_ | refine erl rfl ?_ | refine era rfl ?_ | refine erz0 rfl ?_ | refine erz1 rfl ?_)
        try dsimp only [set1, set2, kilP, List.set_cons_zero, List.set_cons_succ, List.getElem?_cons_zero, List.getElem?_cons_succ, List.nil_append, List.cons_append, Option.toList_some, Option.toList_none]
        exact ⟨rfl, rfl⟩
    · exact absurd (nI_le (by omega) (by omega)) c
  | succ n ih =>
    intro i hi hq
    have hi7 : i < 7 := by omega
    repeat (first | refine es rfl rfl rfl ?_ | refine eg rfl (by assumption) rfl ?_ | refine eanE rfl (by assumption) (by with_reducible first | exact rfl | exact Int32.zero_add _ | exact ix8 _ | exact ix12 _ | exact ix7r _ _ | exact n7 | exact n0 | exact n1) (by assumption) rfl ?_ | refine eal rfl (by assumption) (by assumption) rfl ?_ | refine eri rfl ?_ | refine erv rfl ?_ | refine erl rfl ?_ | refine era rfl ?_ | refine erz0 rfl ?_ | refine erz1 rfl ?_)
    try dsimp only [set1, set2, kilP, List.set_cons_zero, List.set_cons_succ, List.getElem?_cons_zero, List.getElem?_cons_succ, List.nil_append, List.cons_append, Option.toList_some, Option.toList_none]
    refine ei _ rfl rfl (fun c => ?_) (fun c => ?_)
    · exact absurd c (nI_ge (by omega) (by omega))
    repeat (first | refine es rfl rfl rfl ?_ | refine eg rfl (by assumption) rfl ?_ | refine eanE rfl (by assumption) (by with_reducible first | exact rfl | exact Int32.zero_add _ | exact ix8 _ | exact ix12 _ | exact ix7r _ _ | exact n7 | exact n0 | exact n1) (by assumption) rfl ?_ | refine eal rfl (by assumption) (by assumption) rfl ?_ | refine eri rfl ?_ | refine erv rfl ?_ | refine erl rfl ?_ | refine era rfl ?_ | refine erz0 rfl ?_ | refine erz1 rfl ?_)
    try dsimp only [set1, set2, kilP, List.set_cons_zero, List.set_cons_succ, List.getElem?_cons_zero, List.getElem?_cons_succ, List.nil_append, List.cons_append, Option.toList_some, Option.toList_none]
    refine ei _ rfl rfl (fun c1 => ?_) (fun c1 => ?_)
    · have e : i = h := (nI_eq (by omega) (by omega)).mp c1
      repeat (refine ng 2 rfl ?_; first | refine es rfl rfl rfl ?_ | refine eg rfl (by assumption) rfl ?_ | refine eanE rfl (by assumption) (by with_reducible first | exact rfl | exact Int32.zero_add _ | exact ix8 _ | exact ix12 _ | exact ix7r _ _ | exact n7 | exact n0 | exact n1) (by assumption) rfl ?_ | refine eal rfl (by assumption) (by assumption) rfl ?_ | refine eri rfl ?_ | refine erv rfl ?_ | refine erl rfl ?_ | refine era rfl ?_ | refine erz0 rfl ?_ | refine erz1 rfl ?_)
      try dsimp only [set1, set2, kilP, List.set_cons_zero, List.set_cons_succ, List.getElem?_cons_zero, List.getElem?_cons_succ, List.nil_append, List.cons_append, Option.toList_some, Option.toList_none]
      rw [nI_1]
      refine ih (i + 1) (by omega) (fun j hj hne => ?_)
      by_cases q : j = i
      · exact absurd (q.trans e) hne
      · exact hq j (by omega) hne
    have c1' : ¬ i = h := fun q => c1 (by rw [q])
    repeat (first | refine es rfl rfl rfl ?_ | refine eg rfl (by assumption) rfl ?_ | refine eanE rfl (by assumption) (by with_reducible first | exact rfl | exact Int32.zero_add _ | exact ix8 _ | exact ix12 _ | exact ix7r _ _ | exact n7 | exact n0 | exact n1) (by assumption) rfl ?_ | refine eal rfl (by assumption) (by assumption) rfl ?_ | refine eri rfl ?_ | refine erv rfl ?_ | refine erl rfl ?_ | refine era rfl ?_ | refine erz0 rfl ?_ | refine erz1 rfl ?_)
    try dsimp only [set1, set2, kilP, List.set_cons_zero, List.set_cons_succ, List.getElem?_cons_zero, List.getElem?_cons_succ, List.nil_append, List.cons_append, Option.toList_some, Option.toList_none]
    rw [e9]
    refine ei _ rfl rfl (fun c2 => ?_) (fun c2 => ?_)
    · repeat (refine ng 2 rfl ?_; first | refine es rfl rfl rfl ?_ | refine eg rfl (by assumption) rfl ?_ | refine eanE rfl (by assumption) (by with_reducible first | exact rfl | exact Int32.zero_add _ | exact ix8 _ | exact ix12 _ | exact ix7r _ _ | exact n7 | exact n0 | exact n1) (by assumption) rfl ?_ | refine eal rfl (by assumption) (by assumption) rfl ?_ | refine eri rfl ?_ | refine erv rfl ?_ | refine erl rfl ?_ | refine era rfl ?_ | refine erz0 rfl ?_ | refine erz1 rfl ?_)
      try dsimp only [set1, set2, kilP, List.set_cons_zero, List.set_cons_succ, List.getElem?_cons_zero, List.getElem?_cons_succ, List.nil_append, List.cons_append, Option.toList_some, Option.toList_none]
      rw [nI_1]
      refine ih (i + 1) (by omega) (fun j hj hne => ?_)
      by_cases q : j = i
      · rw [q]; exact c2
      · exact hq j (by omega) hne
    · repeat (first | refine es rfl rfl rfl ?_ | refine eg rfl (by assumption) rfl ?_ | refine eanE rfl (by assumption) (by with_reducible first | exact rfl | exact Int32.zero_add _ | exact ix8 _ | exact ix12 _ | exact ix7r _ _ | exact n7 | exact n0 | exact n1) (by assumption) rfl ?_ | refine eal rfl (by assumption) (by assumption) rfl ?_ | refine eri rfl ?_ | refine erv rfl ?_ | refine erl rfl ?_ | refine era rfl ?_ | refine erz0 rfl ?_ | refine erz1 rfl ?_)
      try dsimp only [set1, set2, kilP, List.set_cons_zero, List.set_cons_succ, List.getElem?_cons_zero, List.getElem?_cons_succ, List.nil_append, List.cons_append, Option.toList_some, Option.toList_none]
      have hk := key.mp ⟨i, by omega, c1', Decidable.not_not.mp c2⟩
      rw [show ftI σ.T h g tk = 0 from if_neg (fun w => by
        rcases hk with q | ⟨k, k1, k2⟩
        · exact w.2 q
        · exact (fitB_i.mp w.1).2.1 k k1 k2)]
      exact ⟨rfl, rfl⟩
theorem y_isf {A : Ar} {un ro al : Int32} {h g : Nat} {w : Fo} {us tk : List Nat} (hI : Inv σ C) (hn : 0 < σ.T.hs.n) (hV : yU M b a σ oa rd r p1 p2 q4 M0 A0 un ro al A) (hh : h < σ.T.hs.n) (hg : g < σ.T.hs.n) (e9 : A 10 h = nI g) (ho : ofR σ.T.hs.n (A 10) w h us) (hv : vaR σ.T w h us tk) : Rd ad 1 (iX13_isFitting ad) [.ref b, .int (nI h)] M (some (.int (ftI σ.T h g tk))) := by
  refine ⟨Nat.le_of_ble_eq_true rfl, ?_⟩
  show Ev ad _ (rX13_isFitting ad) (0, [some (.ref b), some (.int (nI h)), none], [], M) _
  repeat (refine ng 2 rfl ?_; first | refine es rfl rfl rfl ?_ | refine eg rfl (by assumption) rfl ?_ | refine eanE rfl (by assumption) (by with_reducible first | exact rfl | exact Int32.zero_add _ | exact ix8 _ | exact ix12 _ | exact ix7r _ _ | exact n7 | exact n0 | exact n1) (by assumption) rfl ?_ | refine eal rfl (by assumption) (by assumption) rfl ?_ | refine eri rfl ?_ | refine erv rfl ?_ | refine erl rfl ?_ | refine era rfl ?_ | refine erz0 rfl ?_ | refine erz1 rfl ?_)
  try dsimp only [set1, set2, kilP, List.set_cons_zero, List.set_cons_succ, List.getElem?_cons_zero, List.getElem?_cons_succ, List.nil_append, List.cons_append, Option.toList_some, Option.toList_none]
  exact y_isf_loop hI hn hV hh hg e9 ho hv σ.T.hs.n 0 (by omega) (fun j hj => absurd hj (by omega))
def askR (as : Nat → Int32) (U : List Nat) : Prop := ∀ i x, U[i]? = some x → as i = nI x
/-- at a level again: the next house is tried -/
theorem y_fhd {A : Ar} {un ro al : Int32} {k h : Nat} {x : Int32} {L2 : Option Value} {P : Option Value → Mm → Prop} (hV : yU M b a σ oa rd r p1 p2 q4 M0 A0 un ro al A) (hk : k < 7) (hh : h < 7) (e1 : A 9 k = nI h) (e2 : A 10 h = x) (hL : L2 = none ∨ ∃ z, L2 = some (.int z)) (K : ∀ M', yU M' b a σ oa rd r p1 p2 q4 M0 A0 un ro al (sA A 10 (upd (A 10) h (x + 1))) → Ev ad 2 (rX13_fitting ad) (145, [some (.ref b), some (.int (nI k)), some (.int (nI h))], [], M') P) : Ev ad 2 (rX13_fitting ad) (124, [some (.ref b), some (.int (nI k)), L2], [], M) P := by
  have h0 := hV.1.1.1
  obtain ⟨c1', c2', c3', c4', c5', c6', c7', c8', c9', c10', c11', c12', -⟩ := hV.1.1.c
  repeat (first | refine es rfl rfl rfl ?_ | refine eg rfl (by assumption) rfl ?_ | refine eanE rfl (by assumption) (by with_reducible first | exact rfl | exact Int32.zero_add _ | exact ix8 _ | exact ix12 _ | exact ix7r _ _ | exact n7 | exact n0 | exact n1) (by assumption) rfl ?_ | refine eal rfl (by assumption) (by assumption) rfl ?_ | refine eri rfl ?_ | refine erv rfl ?_ | refine erl rfl ?_ | refine era rfl ?_ | refine erz0 rfl ?_ | refine erz1 rfl ?_)
  try dsimp only [set1, set2, kilP, List.set_cons_zero, List.set_cons_succ, List.getElem?_cons_zero, List.getElem?_cons_succ, List.nil_append, List.cons_append, Option.toList_some, Option.toList_none]
  refine ei _ rfl rfl (fun c => ?_) (fun c => ?_)
  · exact absurd c (nI_pos (by omega))
  rcases hL with rfl | ⟨z, rfl⟩
  · repeat (first | refine es rfl rfl rfl ?_ | refine eg rfl (by assumption) rfl ?_ | refine eanE rfl (by assumption) (by with_reducible first | exact rfl | exact Int32.zero_add _ | exact ix8 _ | exact ix12 _ | exact ix7r _ _ | exact n7 | exact n0 | exact n1) (by assumption) rfl ?_ | refine eal rfl (by assumption) (by assumption) rfl ?_ | refine eri rfl ?_ | refine erv rfl ?_ | refine erl rfl ?_ | refine era rfl ?_ | refine erz0 rfl ?_ | refine erz1 rfl ?_)
    try dsimp only [set1, set2, kilP, List.set_cons_zero, List.set_cons_succ, List.getElem?_cons_zero, List.getElem?_cons_succ, List.nil_append, List.cons_append, Option.toList_some, Option.toList_none]
    rw [e1]
    repeat (first | refine es rfl rfl rfl ?_ | refine eg rfl (by assumption) rfl ?_ | refine eanE rfl (by assumption) (by with_reducible first | exact rfl | exact Int32.zero_add _ | exact ix8 _ | exact ix12 _ | exact ix7r _ _ | exact n7 | exact n0 | exact n1) (by assumption) rfl ?_ | refine eal rfl (by assumption) (by assumption) rfl ?_ | refine eri rfl ?_ | refine erv rfl ?_ | refine erl rfl ?_ | refine era rfl ?_ | refine erz0 rfl ?_ | refine erz1 rfl ?_)
    try dsimp only [set1, set2, kilP, List.set_cons_zero, List.set_cons_succ, List.getElem?_cons_zero, List.getElem?_cons_succ, List.nil_append, List.cons_append, Option.toList_some, Option.toList_none]
    rw [e2]
    refine etM rfl c10' hh rfl (fun M2 eM => ?_)
    repeat (refine ng 145 rfl ?_; first | refine es rfl rfl rfl ?_ | refine eg rfl (by assumption) rfl ?_ | refine eanE rfl (by assumption) (by with_reducible first | exact rfl | exact Int32.zero_add _ | exact ix8 _ | exact ix12 _ | exact ix7r _ _ | exact n7 | exact n0 | exact n1) (by assumption) rfl ?_ | refine eal rfl (by assumption) (by assumption) rfl ?_ | refine eri rfl ?_ | refine erv rfl ?_ | refine erl rfl ?_ | refine era rfl ?_ | refine erz0 rfl ?_ | refine erz1 rfl ?_)
    try dsimp only [set1, set2, kilP, List.set_cons_zero, List.set_cons_succ, List.getElem?_cons_zero, List.getElem?_cons_succ, List.nil_append, List.cons_append, Option.toList_some, Option.toList_none]
    exact K M2 (hV.ar (k := 10) eM (by omega))
  · repeat (first | refine es rfl rfl rfl ?_ | refine eg rfl (by assumption) rfl ?_ | refine eanE rfl (by assumption) (by with_reducible first | exact rfl | exact Int32.zero_add _ | exact ix8 _ | exact ix12 _ | exact ix7r _ _ | exact n7 | exact n0 | exact n1) (by assumption) rfl ?_ | refine eal rfl (by assumption) (by assumption) rfl ?_ | refine eri rfl ?_ | refine erv rfl ?_ | refine erl rfl ?_ | refine era rfl ?_ | refine erz0 rfl ?_ | refine erz1 rfl ?_)
    try dsimp only [set1, set2, kilP, List.set_cons_zero, List.set_cons_succ, List.getElem?_cons_zero, List.getElem?_cons_succ, List.nil_append, List.cons_append, Option.toList_some, Option.toList_none]
    rw [e1]
    repeat (first | refine es rfl rfl rfl ?_ | refine eg rfl (by assumption) rfl ?_ | refine eanE rfl (by assumption) (by with_reducible first | exact rfl | exact Int32.zero_add _ | exact ix8 _ | exact ix12 _ | exact ix7r _ _ | exact n7 | exact n0 | exact n1) (by assumption) rfl ?_ | refine eal rfl (by assumption) (by assumption) rfl ?_ | refine eri rfl ?_ | refine erv rfl ?_ | refine erl rfl ?_ | refine era rfl ?_ | refine erz0 rfl ?_ | refine erz1 rfl ?_)
    try dsimp only [set1, set2, kilP, List.set_cons_zero, List.set_cons_succ, List.getElem?_cons_zero, List.getElem?_cons_succ, List.nil_append, List.cons_append, Option.toList_some, Option.toList_none]
    rw [e2]
    refine etM rfl c10' hh rfl (fun M2 eM => ?_)
    repeat (refine ng 145 rfl ?_; first | refine es rfl rfl rfl ?_ | refine eg rfl (by assumption) rfl ?_ | refine eanE rfl (by assumption) (by with_reducible first | exact rfl | exact Int32.zero_add _ | exact ix8 _ | exact ix12 _ | exact ix7r _ _ | exact n7 | exact n0 | exact n1) (by assumption) rfl ?_ | refine eal rfl (by assumption) (by assumption) rfl ?_ | refine eri rfl ?_ | refine erv rfl ?_ | refine erl rfl ?_ | refine era rfl ?_ | refine erz0 rfl ?_ | refine erz1 rfl ?_)
    try dsimp only [set1, set2, kilP, List.set_cons_zero, List.set_cons_succ, List.getElem?_cons_zero, List.getElem?_cons_succ, List.nil_append, List.cons_append, Option.toList_some, Option.toList_none]
    exact K M2 (hV.ar (k := 10) eM (by omega))
theorem y_fit_l1 {al : Int32} {U dn us tk : List Nat} {h : Nat} {w : Fo} {P : Option Value → Mm → Prop} (hI : Inv σ C) (hn : 0 < σ.T.hs.n) (hU : U = dn ++ h :: us) (hUl : U.length ≤ 7) (hh : h < σ.T.hs.n) (hv : vaR σ.T w h us tk)
    (hD : ∀ (g : Nat) (M : Mm) (A : Ar) (ro : Int32) (acc : List Fo), g < σ.T.hs.n → fitB σ.T h g = true → g ∉ tk → yU M b a σ oa rd r p1 p2 q4 M0 A0 (nI U.length) ro al A → askR (A 9) U → A 10 h = nI g → ofR σ.T.hs.n (A 10) w h us → faR σ.T.hs.n ro (A 12) (A 11) acc → acc.length + 7 ^ us.length ≤ 2 ^ 20 → (∀ M' A' ro', yU M' b a σ oa rd r p1 p2 q4 M0 A0 (nI U.length) ro' al A' → askR (A' 9) U → A' 10 h = nI g → ofR σ.T.hs.n (A' 10) w h us → faR σ.T.hs.n ro' (A' 12) (A' 11) (acc ++ fitU (fitB σ.T) σ.T.hs.n us (g :: tk) (updN w h g)) → ∀ z, Ev ad 2 (rX13_fitting ad) (124, [some (.ref b), some (.int (nI dn.length)), some (.int z)], [], M') P) → Ev ad 2 (rX13_fitting ad) (212, [some (.ref b), some (.int (nI dn.length)), some (.int (nI h))], [], M) P) :
    ∀ (cnt g : Nat) (M : Mm) (A : Ar) (ro : Int32) (acc : List Fo), g + cnt = σ.T.hs.n → yU M b a σ oa rd r p1 p2 q4 M0 A0 (nI U.length) ro al A → askR (A 9) U → A 10 h = nI g → ofR σ.T.hs.n (A 10) w h us → faR σ.T.hs.n ro (A 12) (A 11) acc → acc.length + cnt * 7 ^ us.length ≤ 2 ^ 20 → (∀ M' A' ro', yU M' b a σ oa rd r p1 p2 q4 M0 A0 (nI U.length) ro' al A' → askR (A' 9) U → A' 10 h = -2 → ofR σ.T.hs.n (A' 10) w h us → faR σ.T.hs.n ro' (A' 12) (A' 11) (acc ++ flG (fitU (fitB σ.T) σ.T.hs.n us) (fitB σ.T h) tk w h cnt g) → ∀ z, Ev ad 2 (rX13_fitting ad) (124, [some (.ref b), some (.int (nI dn.length + (-1))), some (.int z)], [], M') P) → Ev ad 2 (rX13_fitting ad) (145, [some (.ref b), some (.int (nI dn.length)), some (.int (nI h))], [], M) P := by
  have hn7 := hI.n7
  have hh7 : h < 7 := by omega
  have hdl : dn.length < 7 := by rw [hU, List.length_append, List.length_cons] at hUl; omega
  have hask : ∀ as, askR as U → as dn.length = nI h := by
    intro as q
    refine q dn.length h ?_
    rw [hU, List.getElem?_append_right (Nat.le_refl _), Nat.sub_self]
    rfl
  intro cnt
  induction cnt with
  | zero =>
    intro g M A ro acc hg hV ha e ho hf hb K
    obtain ⟨_, _, ⟨kn, Am, Bm, m0, -⟩, _⟩ := hV.1
    have h0 := hV.1.1.1
    obtain ⟨c1', c2', c3', c4', c5', c6', c7', c8', c9', c10', c11', c12', -⟩ := hV.1.1.c
    repeat (first | refine es rfl rfl rfl ?_ | refine eg rfl (by assumption) rfl ?_ | refine eanE rfl (by assumption) (by with_reducible first | exact rfl | exact Int32.zero_add _ | exact ix8 _ | exact ix12 _ | exact ix7r _ _ | exact n7 | exact n0 | exact n1) (by assumption) rfl ?_ | refine eal rfl (by assumption) (by assumption) rfl ?_ | refine eri rfl ?_ | refine erv rfl ?_ | refine erl rfl ?_ | refine era rfl ?_ | refine erz0 rfl ?_ | refine erz1 rfl ?_)
    try dsimp only [set1, set2, kilP, List.set_cons_zero, List.set_cons_succ, List.getElem?_cons_zero, List.getElem?_cons_succ, List.nil_append, List.cons_append, Option.toList_some, Option.toList_none]
    rw [e]
    refine ei _ rfl rfl (fun c => ?_) (fun c => ?_)
    rotate_left
    · exact absurd (nI_le (by omega) (by omega)) c
    repeat (first | refine es rfl rfl rfl ?_ | refine eg rfl (by assumption) rfl ?_ | refine eanE rfl (by assumption) (by with_reducible first | exact rfl | exact Int32.zero_add _ | exact ix8 _ | exact ix12 _ | exact ix7r _ _ | exact n7 | exact n0 | exact n1) (by assumption) rfl ?_ | refine eal rfl (by assumption) (by assumption) rfl ?_ | refine eri rfl ?_ | refine erv rfl ?_ | refine erl rfl ?_ | refine era rfl ?_ | refine erz0 rfl ?_ | refine erz1 rfl ?_)
    try dsimp only [set1, set2, kilP, List.set_cons_zero, List.set_cons_succ, List.getElem?_cons_zero, List.getElem?_cons_succ, List.nil_append, List.cons_append, Option.toList_some, Option.toList_none]
    rw [e]
    refine ei _ rfl rfl (fun c2 => ?_) (fun c2 => ?_)
    · exact absurd c2 (nI_nlt (by omega) (by omega))
    repeat (first | refine es rfl rfl rfl ?_ | refine eg rfl (by assumption) rfl ?_ | refine eanE rfl (by assumption) (by with_reducible first | exact rfl | exact Int32.zero_add _ | exact ix8 _ | exact ix12 _ | exact ix7r _ _ | exact n7 | exact n0 | exact n1) (by assumption) rfl ?_ | refine eal rfl (by assumption) (by assumption) rfl ?_ | refine eri rfl ?_ | refine erv rfl ?_ | refine erl rfl ?_ | refine era rfl ?_ | refine erz0 rfl ?_ | refine erz1 rfl ?_)
    try dsimp only [set1, set2, kilP, List.set_cons_zero, List.set_cons_succ, List.getElem?_cons_zero, List.getElem?_cons_succ, List.nil_append, List.cons_append, Option.toList_some, Option.toList_none]
    refine etM rfl c10' hh7 rfl (fun M2 eM => ?_)
    repeat (refine ng 124 rfl ?_; first | refine es rfl rfl rfl ?_ | refine eg rfl (by assumption) rfl ?_ | refine eanE rfl (by assumption) (by with_reducible first | exact rfl | exact Int32.zero_add _ | exact ix8 _ | exact ix12 _ | exact ix7r _ _ | exact n7 | exact n0 | exact n1) (by assumption) rfl ?_ | refine eal rfl (by assumption) (by assumption) rfl ?_ | refine eri rfl ?_ | refine erv rfl ?_ | refine erl rfl ?_ | refine era rfl ?_ | refine erz0 rfl ?_ | refine erz1 rfl ?_)
    try dsimp only [set1, set2, kilP, List.set_cons_zero, List.set_cons_succ, List.getElem?_cons_zero, List.getElem?_cons_succ, List.nil_append, List.cons_append, Option.toList_some, Option.toList_none]
    refine K M2 _ ro (hV.ar (k := 10) eM (by omega)) ha pk_us ?_ (by rw [flG, List.append_nil]; exact hf) _
    intro j hj hne
    show (j ∈ us → upd (A 10) h (-2) j = -2) ∧ (j ∉ us → upd (A 10) h (-2) j = nI (w j) ∧ w j < σ.T.hs.n)
    rw [pk_un hne]
    exact ho j hj hne
  | succ cnt ihc =>
    intro g M A ro acc hg hV ha e ho hf hb K
    have hgn : g < σ.T.hs.n := by omega
    rw [Nat.succ_mul] at hb
    obtain ⟨_, _, ⟨kn, Am, Bm, m0, -⟩, _⟩ := hV.1
    have h0 := hV.1.1.1
    obtain ⟨c1', c2', c3', c4', c5', c6', c7', c8', c9', c10', c11', c12', -⟩ := hV.1.1.c
    have ho2 : ∀ (A2 : Ar) (x : Int32), ofR σ.T.hs.n (A2 10) w h us → ofR σ.T.hs.n (upd (A2 10) h x) w h us := by
      intro A2 x q j hj hne
      rw [pk_un hne]
      exact q j hj hne
    repeat (first | refine es rfl rfl rfl ?_ | refine eg rfl (by assumption) rfl ?_ | refine eanE rfl (by assumption) (by with_reducible first | exact rfl | exact Int32.zero_add _ | exact ix8 _ | exact ix12 _ | exact ix7r _ _ | exact n7 | exact n0 | exact n1) (by assumption) rfl ?_ | refine eal rfl (by assumption) (by assumption) rfl ?_ | refine eri rfl ?_ | refine erv rfl ?_ | refine erl rfl ?_ | refine era rfl ?_ | refine erz0 rfl ?_ | refine erz1 rfl ?_)
    try dsimp only [set1, set2, kilP, List.set_cons_zero, List.set_cons_succ, List.getElem?_cons_zero, List.getElem?_cons_succ, List.nil_append, List.cons_append, Option.toList_some, Option.toList_none]
    rw [e]
    refine ei _ rfl rfl (fun c => ?_) (fun c => ?_)
    · exact absurd c (nI_ge (by omega) (by omega))
    repeat (first | refine es rfl rfl rfl ?_ | refine eg rfl (by assumption) rfl ?_ | refine eanE rfl (by assumption) (by with_reducible first | exact rfl | exact Int32.zero_add _ | exact ix8 _ | exact ix12 _ | exact ix7r _ _ | exact n7 | exact n0 | exact n1) (by assumption) rfl ?_ | refine eal rfl (by assumption) (by assumption) rfl ?_ | refine eri rfl ?_ | refine erv rfl ?_ | refine erl rfl ?_ | refine era rfl ?_ | refine erz0 rfl ?_ | refine erz1 rfl ?_)
    try dsimp only [set1, set2, kilP, List.set_cons_zero, List.set_cons_succ, List.getElem?_cons_zero, List.getElem?_cons_succ, List.nil_append, List.cons_append, Option.toList_some, Option.toList_none]
    refine ecr rfl rfl (by assumption) rfl rfl rfl (y_isf hI hn hV hh hgn e ho hv) (by first | rfl | exact Nat.blt_eq.mpr (by omega)) rfl ?_
    by_cases q : fitB σ.T h g = true ∧ g ∉ tk
    · rw [show ftI σ.T h g tk = 1 from if_pos q]
      repeat (first | refine es rfl rfl rfl ?_ | refine eg rfl (by assumption) rfl ?_ | refine eanE rfl (by assumption) (by with_reducible first | exact rfl | exact Int32.zero_add _ | exact ix8 _ | exact ix12 _ | exact ix7r _ _ | exact n7 | exact n0 | exact n1) (by assumption) rfl ?_ | refine eal rfl (by assumption) (by assumption) rfl ?_ | refine eri rfl ?_ | refine erv rfl ?_ | refine erl rfl ?_ | refine era rfl ?_ | refine erz0 rfl ?_ | refine erz1 rfl ?_)
      try dsimp only [set1, set2, kilP, List.set_cons_zero, List.set_cons_succ, List.getElem?_cons_zero, List.getElem?_cons_succ, List.nil_append, List.cons_append, Option.toList_some, Option.toList_none]
      rw [e]
      refine ei _ rfl rfl (fun c2 => ?_) (fun c2 => ?_)
      rotate_left
      · exact absurd (nI_lt hgn (by omega)) c2
      refine hD g M A ro acc hgn q.1 q.2 hV ha e ho hf (by omega) (fun M' A' ro' hV' ha' e' ho' hf' z => ?_)
      refine y_fhd hV' hdl hh7 (hask _ ha') e' (Or.inr ⟨z, rfl⟩) (fun M2 hV2 => ?_)
      have hlen := fitU_len (al := fitB σ.T) hn7 us (g :: tk) (updN w h g)
      refine ihc (g + 1) M2 _ ro' _ (by omega) hV2 ha' (by rw [nI_1]; exact pk_us) (ho2 A' _ ho') hf' (by rw [List.length_append]; omega) ?_
      rw [flG, if_pos q, ← List.append_assoc] at K
      exact K
    · rw [show ftI σ.T h g tk = 0 from if_neg q]
      repeat (first | refine es rfl rfl rfl ?_ | refine eg rfl (by assumption) rfl ?_ | refine eanE rfl (by assumption) (by with_reducible first | exact rfl | exact Int32.zero_add _ | exact ix8 _ | exact ix12 _ | exact ix7r _ _ | exact n7 | exact n0 | exact n1) (by assumption) rfl ?_ | refine eal rfl (by assumption) (by assumption) rfl ?_ | refine eri rfl ?_ | refine erv rfl ?_ | refine erl rfl ?_ | refine era rfl ?_ | refine erz0 rfl ?_ | refine erz1 rfl ?_)
      try dsimp only [set1, set2, kilP, List.set_cons_zero, List.set_cons_succ, List.getElem?_cons_zero, List.getElem?_cons_succ, List.nil_append, List.cons_append, Option.toList_some, Option.toList_none]
      rw [e]
      refine etM rfl c10' hh7 rfl (fun M2 eM => ?_)
      repeat (refine ng 145 rfl ?_; first | refine es rfl rfl rfl ?_ | refine eg rfl (by assumption) rfl ?_ | refine eanE rfl (by assumption) (by with_reducible first | exact rfl | exact Int32.zero_add _ | exact ix8 _ | exact ix12 _ | exact ix7r _ _ | exact n7 | exact n0 | exact n1) (by assumption) rfl ?_ | refine eal rfl (by assumption) (by assumption) rfl ?_ | refine eri rfl ?_ | refine erv rfl ?_ | refine erl rfl ?_ | refine era rfl ?_ | refine erz0 rfl ?_ | refine erz1 rfl ?_)
      try dsimp only [set1, set2, kilP, List.set_cons_zero, List.set_cons_succ, List.getElem?_cons_zero, List.getElem?_cons_succ, List.nil_append, List.cons_append, Option.toList_some, Option.toList_none]
      refine ihc (g + 1) M2 _ ro acc (by omega) (hV.ar (k := 10) eM (by omega)) ha (by rw [← nI_1]; exact pk_us) (ho2 A _ ho) hf (Nat.le_trans (Nat.add_le_add_left (Nat.le_add_right _ _) _) hb) ?_
      rw [flG, if_neg q, List.nil_append] at K
      exact K
theorem y_fit_lv {al : Int32} {U : List Nat} {P : Option Value → Mm → Prop} (hI : Inv σ C) (hn : 0 < σ.T.hs.n) (hUl : U.length ≤ 7) (hUn : U.Nodup) (hUm : ∀ x, x ∈ U → x < σ.T.hs.n) : ∀ (us dn tk : List Nat) (h : Nat) (w : Fo), U = dn ++ h :: us → vaR σ.T w h us tk → ∀ (cnt g : Nat) (M : Mm) (A : Ar) (ro : Int32) (acc : List Fo), g + cnt = σ.T.hs.n → yU M b a σ oa rd r p1 p2 q4 M0 A0 (nI U.length) ro al A → askR (A 9) U → A 10 h = nI g → ofR σ.T.hs.n (A 10) w h us → faR σ.T.hs.n ro (A 12) (A 11) acc → acc.length + cnt * 7 ^ us.length ≤ 2 ^ 20 → (∀ M' A' ro', yU M' b a σ oa rd r p1 p2 q4 M0 A0 (nI U.length) ro' al A' → askR (A' 9) U → A' 10 h = -2 → ofR σ.T.hs.n (A' 10) w h us → faR σ.T.hs.n ro' (A' 12) (A' 11) (acc ++ flG (fitU (fitB σ.T) σ.T.hs.n us) (fitB σ.T h) tk w h cnt g) → ∀ z, Ev ad 2 (rX13_fitting ad) (124, [some (.ref b), some (.int (nI dn.length + (-1))), some (.int z)], [], M') P) → Ev ad 2 (rX13_fitting ad) (145, [some (.ref b), some (.int (nI dn.length)), some (.int (nI h))], [], M) P := by
  have hn7 := hI.n7
  intro us
  induction us with
  | nil =>
    intro dn tk h w hU hv
    have hh : h < σ.T.hs.n := hUm h (by rw [hU]; simp)
    refine y_fit_l1 hI hn hU hUl hh hv ?_
    intro g M A ro acc hgn hfit htk hV ha e ho hf hb K
    obtain ⟨_, _, ⟨kn, Am, Bm, m0, -⟩, _⟩ := hV.1
    have h0 := hV.1.1.1
    have hl : dn.length + 1 = U.length := by rw [hU, List.length_append]; rfl
    repeat (first | refine es rfl rfl rfl ?_ | refine eg rfl (by assumption) rfl ?_ | refine eanE rfl (by assumption) (by with_reducible first | exact rfl | exact Int32.zero_add _ | exact ix8 _ | exact ix12 _ | exact ix7r _ _ | exact n7 | exact n0 | exact n1) (by assumption) rfl ?_ | refine eal rfl (by assumption) (by assumption) rfl ?_ | refine eri rfl ?_ | refine erv rfl ?_ | refine erl rfl ?_ | refine era rfl ?_ | refine erz0 rfl ?_ | refine erz1 rfl ?_)
    try dsimp only [set1, set2, kilP, List.set_cons_zero, List.set_cons_succ, List.getElem?_cons_zero, List.getElem?_cons_succ, List.nil_append, List.cons_append, Option.toList_some, Option.toList_none]
    rw [nI_1]
    refine ei _ rfl rfl (fun c => ?_) (fun c => ?_)
    rotate_left
    · exact absurd (nI_le (by omega) (by omega)) c
    repeat (first | refine es rfl rfl rfl ?_ | refine eg rfl (by assumption) rfl ?_ | refine eanE rfl (by assumption) (by with_reducible first | exact rfl | exact Int32.zero_add _ | exact ix8 _ | exact ix12 _ | exact ix7r _ _ | exact n7 | exact n0 | exact n1) (by assumption) rfl ?_ | refine eal rfl (by assumption) (by assumption) rfl ?_ | refine eri rfl ?_ | refine erv rfl ?_ | refine erl rfl ?_ | refine era rfl ?_ | refine erz0 rfl ?_ | refine erz1 rfl ?_)
    try dsimp only [set1, set2, kilP, List.set_cons_zero, List.set_cons_succ, List.getElem?_cons_zero, List.getElem?_cons_succ, List.nil_append, List.cons_append, Option.toList_some, Option.toList_none]
    have ho' : ∀ j, j < σ.T.hs.n → A 10 j = nI (updN w h g j) := by
      intro j hj
      by_cases q : j = h
      · rw [q, updN_s]; exact e
      · rw [updN_n q]; exact ((ho j hj q).2 (by simp)).1
    have hw7 : ∀ j, j < σ.T.hs.n → updN w h g j < 7 := by
      intro j hj
      by_cases q : j = h
      · rw [q, updN_s]; omega
      · rw [updN_n q]; have := ((ho j hj q).2 (by simp)).2; omega
    refine ecv rfl rfl (by assumption) rfl rfl rfl (y_cr (w := updN w h g) hn7 hw7 (Nat.lt_of_le_of_lt (Nat.le_trans (Nat.le_add_right _ _) hb) (by decide)) hV ho' hf) (by first | rfl | exact Nat.blt_eq.mpr (by omega)) ?_
    rintro v M2 ⟨rfl, A2, hV2, e9, e10, hf2⟩
    try dsimp only [set1, set2, kilP, List.set_cons_zero, List.set_cons_succ, List.getElem?_cons_zero, List.getElem?_cons_succ, List.nil_append, List.cons_append, Option.toList_some, Option.toList_none]
    repeat (refine ng 124 rfl ?_; first | refine es rfl rfl rfl ?_ | refine eg rfl (by assumption) rfl ?_ | refine eanE rfl (by assumption) (by with_reducible first | exact rfl | exact Int32.zero_add _ | exact ix8 _ | exact ix12 _ | exact ix7r _ _ | exact n7 | exact n0 | exact n1) (by assumption) rfl ?_ | refine eal rfl (by assumption) (by assumption) rfl ?_ | refine eri rfl ?_ | refine erv rfl ?_ | refine erl rfl ?_ | refine era rfl ?_ | refine erz0 rfl ?_ | refine erz1 rfl ?_)
    try dsimp only [set1, set2, kilP, List.set_cons_zero, List.set_cons_succ, List.getElem?_cons_zero, List.getElem?_cons_succ, List.nil_append, List.cons_append, Option.toList_some, Option.toList_none]
    exact K M2 A2 _ hV2 (by rw [e9]; exact ha) (by rw [e10]; exact e) (by rw [e10]; exact ho) hf2 _
  | cons h2 us ih =>
    intro dn tk h w hU hv
    have hh : h < σ.T.hs.n := hUm h (by rw [hU]; simp)
    have hh2 : h2 < σ.T.hs.n := hUm h2 (by rw [hU]; simp)
    have hnd : (h :: h2 :: us).Nodup := by rw [hU] at hUn; exact (List.nodup_append.mp hUn).2.1
    have hn1 : ¬ h = h2 ∧ h ∉ us := by
      have := (List.nodup_cons.mp hnd).1
      exact ⟨fun q => this (by rw [q]; simp), fun q => this (List.mem_cons_of_mem _ q)⟩
    have hn2 : h2 ∉ us := (List.nodup_cons.mp (List.nodup_cons.mp hnd).2).1
    refine y_fit_l1 hI hn hU hUl hh hv ?_
    intro g M A ro acc hgn hfit htk hV ha e ho hf hb K
    obtain ⟨_, _, ⟨kn, Am, Bm, m0, -⟩, _⟩ := hV.1
    have h0 := hV.1.1.1
    obtain ⟨c1', c2', c3', c4', c5', c6', c7', c8', c9', c10', c11', c12', -⟩ := hV.1.1.c
    have hl : dn.length + 1 < U.length := by rw [hU, List.length_append, List.length_cons, List.length_cons]; omega
    have hl7 : dn.length + 1 < 7 := by omega
    have hh27 : h2 < 7 := by omega
    have ea : A 9 (dn.length + 1) = nI h2 := by
      refine ha (dn.length + 1) h2 ?_
      rw [hU, List.getElem?_append_right (by omega), show dn.length + 1 - dn.length = 1 by omega]
      rfl
    have hU2 : U = (dn ++ [h]) ++ h2 :: us := by rw [hU, List.append_assoc]; rfl
    have el : (dn ++ [h]).length = dn.length + 1 := by rw [List.length_append]; rfl
    repeat (first | refine es rfl rfl rfl ?_ | refine eg rfl (by assumption) rfl ?_ | refine eanE rfl (by assumption) (by with_reducible first | exact rfl | exact Int32.zero_add _ | exact ix8 _ | exact ix12 _ | exact ix7r _ _ | exact n7 | exact n0 | exact n1) (by assumption) rfl ?_ | refine eal rfl (by assumption) (by assumption) rfl ?_ | refine eri rfl ?_ | refine erv rfl ?_ | refine erl rfl ?_ | refine era rfl ?_ | refine erz0 rfl ?_ | refine erz1 rfl ?_)
    try dsimp only [set1, set2, kilP, List.set_cons_zero, List.set_cons_succ, List.getElem?_cons_zero, List.getElem?_cons_succ, List.nil_append, List.cons_append, Option.toList_some, Option.toList_none]
    rw [nI_1]
    refine ei _ rfl rfl (fun c => ?_) (fun c => ?_)
    · exact absurd c (nI_ge (by omega) (by omega))
    repeat (first | refine es rfl rfl rfl ?_ | refine eg rfl (by assumption) rfl ?_ | refine eanE rfl (by assumption) (by with_reducible first | exact rfl | exact Int32.zero_add _ | exact ix8 _ | exact ix12 _ | exact ix7r _ _ | exact n7 | exact n0 | exact n1) (by assumption) rfl ?_ | refine eal rfl (by assumption) (by assumption) rfl ?_ | refine eri rfl ?_ | refine erv rfl ?_ | refine erl rfl ?_ | refine era rfl ?_ | refine erz0 rfl ?_ | refine erz1 rfl ?_)
    try dsimp only [set1, set2, kilP, List.set_cons_zero, List.set_cons_succ, List.getElem?_cons_zero, List.getElem?_cons_succ, List.nil_append, List.cons_append, Option.toList_some, Option.toList_none]
    rw [nI_1]
    repeat (first | refine es rfl rfl rfl ?_ | refine eg rfl (by assumption) rfl ?_ | refine eanE rfl (by assumption) (by with_reducible first | exact rfl | exact Int32.zero_add _ | exact ix8 _ | exact ix12 _ | exact ix7r _ _ | exact n7 | exact n0 | exact n1) (by assumption) rfl ?_ | refine eal rfl (by assumption) (by assumption) rfl ?_ | refine eri rfl ?_ | refine erv rfl ?_ | refine erl rfl ?_ | refine era rfl ?_ | refine erz0 rfl ?_ | refine erz1 rfl ?_)
    try dsimp only [set1, set2, kilP, List.set_cons_zero, List.set_cons_succ, List.getElem?_cons_zero, List.getElem?_cons_succ, List.nil_append, List.cons_append, Option.toList_some, Option.toList_none]
    rw [ea]
    refine etM rfl c10' hh27 rfl (fun M2 eM => ?_)
    have hV2 := hV.ar (k := 10) eM (by omega)
    repeat (refine ng 124 rfl ?_; first | refine es rfl rfl rfl ?_ | refine eg rfl (by assumption) rfl ?_ | refine eanE rfl (by assumption) (by with_reducible first | exact rfl | exact Int32.zero_add _ | exact ix8 _ | exact ix12 _ | exact ix7r _ _ | exact n7 | exact n0 | exact n1) (by assumption) rfl ?_ | refine eal rfl (by assumption) (by assumption) rfl ?_ | refine eri rfl ?_ | refine erv rfl ?_ | refine erl rfl ?_ | refine era rfl ?_ | refine erz0 rfl ?_ | refine erz1 rfl ?_)
    try dsimp only [set1, set2, kilP, List.set_cons_zero, List.set_cons_succ, List.getElem?_cons_zero, List.getElem?_cons_succ, List.nil_append, List.cons_append, Option.toList_some, Option.toList_none]
    refine y_fhd hV2 hl7 hh27 ea (x := -1) pk_us (Or.inr ⟨_, rfl⟩) (fun M3 hV3 => ?_)
    have hv2 : vaR σ.T (updN w h g) h2 us (g :: tk) := by
      intro x hx
      constructor
      · rintro ⟨j, j1, j2, j3, j4⟩
        by_cases q : j = h
        · rw [q, updN_s] at j4
          exact Or.inl (by rw [← j4]; exact List.mem_cons_self)
        · rw [updN_n q] at j4
          rcases (hv x hx).mp ⟨j, j1, q, fun z => by rcases List.mem_cons.mp z with y | y; exact j2 y; exact j3 y, j4⟩ with y | y
          · exact Or.inl (List.mem_cons_of_mem _ y)
          · exact Or.inr y
      · intro q
        have fin : (x ∈ tk ∨ ∃ k, k < σ.T.hs.n ∧ σ.T.hs.to k = nI x) → ∃ j, j < σ.T.hs.n ∧ ¬ j = h2 ∧ j ∉ us ∧ updN w h g j = x := by
          intro z
          obtain ⟨j, j1, j2, j3, j4⟩ := (hv x hx).mpr z
          exact ⟨j, j1, fun y => j3 (by rw [y]; exact List.mem_cons_self), fun y => j3 (List.mem_cons_of_mem _ y), by rw [updN_n j2]; exact j4⟩
        rcases q with q | q
        · rcases List.mem_cons.mp q with y | y
          · exact ⟨h, hh, hn1.1, hn1.2, by rw [updN_s, y]⟩
          · exact fin (Or.inl y)
        · exact fin (Or.inr q)
    have key := ih (dn ++ [h]) (g :: tk) h2 (updN w h g) hU2 hv2 σ.T.hs.n 0 M3 _ ro acc (by omega) hV3 ha (by show upd (upd (A 10) h2 (-1)) h2 (-1 + 1) h2 = nI 0; rw [pk_us]; rfl) (fun j hj hne => by
      show (j ∈ us → upd (upd (A 10) h2 (-1)) h2 (-1 + 1) j = -2) ∧ (j ∉ us → upd (upd (A 10) h2 (-1)) h2 (-1 + 1) j = nI (updN w h g j) ∧ updN w h g j < σ.T.hs.n)
      rw [pk_un hne, pk_un hne]
      by_cases q : j = h
      · rw [q, updN_s]
        exact ⟨fun z => absurd z hn1.2, fun _ => ⟨e, hgn⟩⟩
      · rw [updN_n q]
        refine ⟨fun z => (ho j hj q).1 (List.mem_cons_of_mem _ z), fun z => (ho j hj q).2 (fun y => ?_)⟩
        rcases List.mem_cons.mp y with y | y
        · exact hne y
        · exact z y) hf (by
      refine Nat.le_trans (Nat.add_le_add_left ?_ _) hb
      rw [List.length_cons, Nat.pow_succ, Nat.mul_comm (7 ^ us.length)]
      exact Nat.mul_le_mul_right _ hn7)
    rw [el] at key
    refine key (fun M4 A4 ro4 hV4 ha4 e4 ho4 hf4 z => ?_)
    rw [show nI (dn.length + 1) + (-1) = nI dn.length from pk_m1 _]
    refine K M4 A4 ro4 hV4 ha4 ?_ ?_ hf4 z
    · have := ((ho4 h hh hn1.1).2 hn1.2).1
      rw [updN_s] at this
      exact this
    · intro j hj hne
      by_cases q : j = h2
      · rw [q]
        exact ⟨fun _ => e4, fun z => absurd (List.mem_cons_self) z⟩
      · have := ho4 j hj q
        rw [updN_n hne] at this
        exact ⟨fun z => this.1 (by rcases List.mem_cons.mp z with y | y; exact absurd y q; exact y), fun z => this.2 (fun y => z (List.mem_cons_of_mem _ y))⟩
end RFS
