/-! The reference: builders -/
section RBLD
variable {ad : Nat → Nat} {M : Mm} {b : Nat} {σ : Sg} {C : Nat} {a : Nat} {oa : Int32 × Int32 × Int32} {rd : Value} {oq : Yr × Yq}
theorem iL_i (n : Nat) : (iL (n : Int)).toInt32 = nI n := by
  rw [show iL (n : Int) = lN n from Int64.ofInt_eq_ofNat]
  exact lN_i n
/-- the object without its seed -/
abbrev Yz : Type := (Int32 × Int32) × (Int32 × Int32) × (Int32 × Int32 × Int32) × (Int32 × Int32)
abbrev Yz.s (z : Yz) (s : Int32) : Yq := (z.1, z.2.1, z.2.2.1, z.2.2.2, s)
theorem yW.s {A : Ar} {r : Yr} {z : Yz} {s s2 : Int32} {M2 : Mm} (h : yW M b a σ oa rd (r, z.s s) A) (e : M2 = up M b (.inr (13, yF b (oa, (.ref a, rd), (r, z.s s2))))) : yW M2 b a σ oa rd (r, z.s s2) A := by
  obtain ⟨h1, h2, h3, h4⟩ := h
  exact ⟨h1.ob e, h2, h3.fr ((Fr.rf b 16 M).up e (by omega) (by omega)) (by omega), h4⟩
theorem y_drawn {A : Ar} {r : Yr} {z : Yz} {s : Nat} (hW : yW M b a σ oa rd (r, z.s (nI s)) A) (hs : s < 65537) (hn : 0 < σ.T.hs.n) (hn7 : σ.T.hs.n ≤ 7) : EvM ad 0 (iX13_drawn ad) [.ref b] M (fun v' M' => v' = some (.int (nI (nxS s % σ.T.hs.n))) ∧ M' = up M b (.inr (13, yF b (oa, (.ref a, rd), (r, z.s (nI (nxS s))))))) := by
  obtain ⟨hy, ha, ⟨kn, Am, Bm, m0, mc, mH, -⟩, hv⟩ := id hW
  have h0 := hy.1
  have hx := nxS_lt s
  refine ⟨Nat.le_of_ble_eq_true rfl, ?_⟩
  show Ev ad _ (rX13_drawn ad) (0, [some (.ref b)], [], M) _
  repeat (first | refine es rfl rfl rfl ?_ | refine eg rfl (by assumption) rfl ?_ | refine eanE rfl (by assumption) (by with_reducible first | exact rfl | exact Int32.zero_add _ | exact ix8 _ | exact ix12 _ | exact ix7r _ _ | exact n7 | exact n0 | exact n1) (by assumption) rfl ?_ | refine eal rfl (by assumption) (by assumption) rfl ?_ | refine eri rfl ?_ | refine erv rfl ?_ | refine erl rfl ?_ | refine era rfl ?_ | refine erz0 rfl ?_ | refine erz1 rfl ?_)
  try dsimp only [set1, set2, kilP, List.set_cons_zero, List.set_cons_succ, List.getElem?_cons_zero, List.getElem?_cons_succ, List.nil_append, List.cons_append, Option.toList_some, Option.toList_none]
  rw [nI_long (by omega), show (75 : Int64) * iL (s : Int) + 74 = iL ((75 * s + 74 : Nat) : Int) by rw [show (75 : Int64) = iL 75 from rfl, iL_mul, show (74 : Int64) = iL 74 from rfl, iL_add]; congr 1, show (65537 : Int64) = iL ((65537 : Nat) : Int) from rfl, iL_mod (by omega) (by omega)]
  rw [iL_i, show (75 * s + 74) % 65537 = nxS s from rfl]
  refine epM (fs' := yF b (oa, (.ref a, rd), (r, z.s (nI (nxS s))))) rfl h0 rfl rfl rfl (fun M2 eM => ?_)
  have hW2 := hW.s eM
  obtain ⟨hy2, _, ⟨kn, Am, Bm, n0, mc, mH, -⟩, _⟩ := id hW2
  have k0 := hy2.1
  repeat (first | refine es rfl rfl rfl ?_ | refine eg rfl (by assumption) rfl ?_ | refine eanE rfl (by assumption) (by with_reducible first | exact rfl | exact Int32.zero_add _ | exact ix8 _ | exact ix12 _ | exact ix7r _ _ | exact n7 | exact n0 | exact n1) (by assumption) rfl ?_ | refine eal rfl (by assumption) (by assumption) rfl ?_ | refine eri rfl ?_ | refine erv rfl ?_ | refine erl rfl ?_ | refine era rfl ?_ | refine erz0 rfl ?_ | refine erz1 rfl ?_)
  try dsimp only [set1, set2, kilP, List.set_cons_zero, List.set_cons_succ, List.getElem?_cons_zero, List.getElem?_cons_succ, List.nil_append, List.cons_append, Option.toList_some, Option.toList_none]
  refine ebd rfl (nI_ne0 hn (by omega)) ?_
  rw [pk_rem (by omega) hn (by omega)]
  repeat (first | refine es rfl rfl rfl ?_ | refine eg rfl (by assumption) rfl ?_ | refine eanE rfl (by assumption) (by with_reducible first | exact rfl | exact Int32.zero_add _ | exact ix8 _ | exact ix12 _ | exact ix7r _ _ | exact n7 | exact n0 | exact n1) (by assumption) rfl ?_ | refine eal rfl (by assumption) (by assumption) rfl ?_ | refine eri rfl ?_ | refine erv rfl ?_ | refine erl rfl ?_ | refine era rfl ?_ | refine erz0 rfl ?_ | refine erz1 rfl ?_)
  try dsimp only [set1, set2, kilP, List.set_cons_zero, List.set_cons_succ, List.getElem?_cons_zero, List.getElem?_cons_succ, List.nil_append, List.cons_append, Option.toList_some, Option.toList_none]
  exact ⟨rfl, eM⟩
theorem canS_cg {f g : Nat → Int32} (h : ∀ j, j < 7 → f j = g j) {k j : Nat} (hk : k < 7) (hj : j < 7) : canS f k j ↔ canS g k j := by unfold canS; rw [h k hk, h j hj]
theorem swp_cg {f g : Nat → Int32} (h : ∀ j, j < 7 → f j = g j) {k j : Nat} (hk : k < 7) (hj : j < 7) : ∀ q, q < 7 → swpF f k j q = swpF g k j q := by
  intro q hq
  unfold swpF
  rw [h k hk, h j hj]
  by_cases e : q = j
  · rw [e, pk_us, pk_us]
  · rw [pk_un e, pk_un e]
    by_cases e2 : q = k
    · rw [e2, pk_us, pk_us]
    · rw [pk_un e2, pk_un e2]; exact h q hq
theorem bld_cg {N : Nat} (h0 : 0 < N) (h7 : N ≤ 7) : ∀ n (f g : Nat → Int32) s, (∀ j, j < 7 → f j = g j) → ∀ q, q < 7 → bldF N n f s q = bldF N n g s q
  | 0, f, g, s, h => h
  | n + 1, f, g, s, h => by
    rw [bldF, bldF]
    have a1 := Nat.mod_lt (nxS s) h0
    have a2 := Nat.mod_lt (nxS (nxS s)) h0
    apply bld_cg h0 h7 n
    intro q hq
    by_cases c : canS f (nxS s % N) (nxS (nxS s) % N)
    · rw [if_pos c, if_pos ((canS_cg h (by omega) (by omega)).mp c)]
      exact swp_cg h (by omega) (by omega) q hq
    · rw [if_neg c, if_neg (fun w => c ((canS_cg h (by omega) (by omega)).mpr w))]
      exact h q hq
theorem y_bld_loop {r : Yr} {z : Yz} {x2 D : Nat} {is : Int32} {M0 : Mm} (hn : 0 < σ.T.hs.n) (hn7 : σ.T.hs.n ≤ 7) (hD : D ≤ 60) : ∀ (n i s : Nat) (M : Mm) (A : Ar) (L5 L6 : Option Value), yW M b a σ oa rd (r, z.s (nI s)) A → Fr b 16 M0 M → s < 65537 → i + n = D → Ev ad 2 (rX13_builds ad) (41, [some (.ref b), some (.int is), some (.int (nI x2)), some (.int (nI D)), some (.int (nI i)), L5, L6], [], M) (fun v' M' => v' = some (.int 0) ∧ ∃ s' A', yW M' b a σ oa rd (r, z.s s') A' ∧ (∃ g, A' = sA A 5 g) ∧ A' 5 = bldF σ.T.hs.n n (A 5) s ∧ Fr b 16 M0 M') := by
  intro n
  induction n with
  | zero =>
    intro i s M A L5 L6 hW hF hs hi
    have h0 := hW.1.1
    repeat (first | refine es rfl rfl rfl ?_ | refine eg rfl (by assumption) rfl ?_ | refine eanE rfl (by assumption) (by with_reducible first | exact rfl | exact Int32.zero_add _ | exact ix8 _ | exact ix12 _ | exact ix7r _ _ | exact n7 | exact n0 | exact n1) (by assumption) rfl ?_ | refine eal rfl (by assumption) (by assumption) rfl ?_ | refine eri rfl ?_ | refine erv rfl ?_ | refine erl rfl ?_ | refine era rfl ?_ | refine erz0 rfl ?_ | refine erz1 rfl ?_)
    try dsimp only [set1, set2, kilP, List.set_cons_zero, List.set_cons_succ, List.getElem?_cons_zero, List.getElem?_cons_succ, List.nil_append, List.cons_append, Option.toList_some, Option.toList_none]
    refine ei _ rfl rfl (fun c => ?_) (fun c => ?_)
    · repeat (first | refine es rfl rfl rfl ?_ | refine eg rfl (by assumption) rfl ?_ | refine eanE rfl (by assumption) (by with_reducible first | exact rfl | exact Int32.zero_add _ | exact ix8 _ | exact ix12 _ | exact ix7r _ _ | exact n7 | exact n0 | exact n1) (by assumption) rfl ?_ | refine eal rfl (by assumption) (by assumption) rfl ?_ | refine eri rfl ?_ | refine erv rfl ?_ | refine erl rfl ?_ | refine era rfl ?_ | refine erz0 rfl ?_ | refine erz1 rfl ?_)
      try dsimp only [set1, set2, kilP, List.set_cons_zero, List.set_cons_succ, List.getElem?_cons_zero, List.getElem?_cons_succ, List.nil_append, List.cons_append, Option.toList_some, Option.toList_none]
      exact ⟨rfl, _, A, hW, ⟨A 5, sA_id.symm⟩, rfl, hF⟩
    · exact absurd (nI_le (by omega) (by omega)) c
  | succ n ih =>
    intro i s M A L5 L6 hW hF hs hi
    have h0 := hW.1.1
    have a1 := Nat.mod_lt (nxS s) hn
    have a2 := Nat.mod_lt (nxS (nxS s)) hn
    have a3 : nxS s % σ.T.hs.n < 7 := by omega
    have a4 : nxS (nxS s) % σ.T.hs.n < 7 := by omega
    rw [bldF]
    repeat (first | refine es rfl rfl rfl ?_ | refine eg rfl (by assumption) rfl ?_ | refine eanE rfl (by assumption) (by with_reducible first | exact rfl | exact Int32.zero_add _ | exact ix8 _ | exact ix12 _ | exact ix7r _ _ | exact n7 | exact n0 | exact n1) (by assumption) rfl ?_ | refine eal rfl (by assumption) (by assumption) rfl ?_ | refine eri rfl ?_ | refine erv rfl ?_ | refine erl rfl ?_ | refine era rfl ?_ | refine erz0 rfl ?_ | refine erz1 rfl ?_)
    try dsimp only [set1, set2, kilP, List.set_cons_zero, List.set_cons_succ, List.getElem?_cons_zero, List.getElem?_cons_succ, List.nil_append, List.cons_append, Option.toList_some, Option.toList_none]
    refine ei _ rfl rfl (fun c => ?_) (fun c => ?_)
    · exact absurd c (nI_ge (by omega) (by omega))
    · repeat (first | refine es rfl rfl rfl ?_ | refine eg rfl (by assumption) rfl ?_ | refine eanE rfl (by assumption) (by with_reducible first | exact rfl | exact Int32.zero_add _ | exact ix8 _ | exact ix12 _ | exact ix7r _ _ | exact n7 | exact n0 | exact n1) (by assumption) rfl ?_ | refine eal rfl (by assumption) (by assumption) rfl ?_ | refine eri rfl ?_ | refine erv rfl ?_ | refine erl rfl ?_ | refine era rfl ?_ | refine erz0 rfl ?_ | refine erz1 rfl ?_)
      try dsimp only [set1, set2, kilP, List.set_cons_zero, List.set_cons_succ, List.getElem?_cons_zero, List.getElem?_cons_succ, List.nil_append, List.cons_append, Option.toList_some, Option.toList_none]
      refine ecv rfl rfl (by assumption) rfl rfl rfl (y_drawn hW hs hn hn7) (by first | rfl | exact Nat.blt_eq.mpr (by omega)) ?_
      rintro v M2 ⟨rfl, eM⟩
      have hW2 := hW.s eM
      have hF2 := hF.up eM (by omega) (by omega)
      have k0 := hW2.1.1
      try dsimp only [set1, set2, kilP, List.set_cons_zero, List.set_cons_succ, List.getElem?_cons_zero, List.getElem?_cons_succ, List.nil_append, List.cons_append, Option.toList_some, Option.toList_none]
      repeat (first | refine es rfl rfl rfl ?_ | refine eg rfl (by assumption) rfl ?_ | refine eanE rfl (by assumption) (by with_reducible first | exact rfl | exact Int32.zero_add _ | exact ix8 _ | exact ix12 _ | exact ix7r _ _ | exact n7 | exact n0 | exact n1) (by assumption) rfl ?_ | refine eal rfl (by assumption) (by assumption) rfl ?_ | refine eri rfl ?_ | refine erv rfl ?_ | refine erl rfl ?_ | refine era rfl ?_ | refine erz0 rfl ?_ | refine erz1 rfl ?_)
      try dsimp only [set1, set2, kilP, List.set_cons_zero, List.set_cons_succ, List.getElem?_cons_zero, List.getElem?_cons_succ, List.nil_append, List.cons_append, Option.toList_some, Option.toList_none]
      refine ecv rfl rfl (by assumption) rfl rfl rfl (y_drawn hW2 (nxS_lt s) hn hn7) (by first | rfl | exact Nat.blt_eq.mpr (by omega)) ?_
      rintro v M3 ⟨rfl, eM3⟩
      have hW3 := hW2.s eM3
      have hF3 := hF2.up eM3 (by omega) (by omega)
      have q0 := hW3.1.1
      have q5 : M3.1 (b + 5) = ints 7 (A 5) := hW3.1.c.2.2.2.2.1
      try dsimp only [set1, set2, kilP, List.set_cons_zero, List.set_cons_succ, List.getElem?_cons_zero, List.getElem?_cons_succ, List.nil_append, List.cons_append, Option.toList_some, Option.toList_none]
      repeat (first | refine es rfl rfl rfl ?_ | refine eg rfl (by assumption) rfl ?_ | refine eanE rfl (by assumption) (by with_reducible first | exact rfl | exact Int32.zero_add _ | exact ix8 _ | exact ix12 _ | exact ix7r _ _ | exact n7 | exact n0 | exact n1) (by assumption) rfl ?_ | refine eal rfl (by assumption) (by assumption) rfl ?_ | refine eri rfl ?_ | refine erv rfl ?_ | refine erl rfl ?_ | refine era rfl ?_ | refine erz0 rfl ?_ | refine erz1 rfl ?_)
      try dsimp only [set1, set2, kilP, List.set_cons_zero, List.set_cons_succ, List.getElem?_cons_zero, List.getElem?_cons_succ, List.nil_append, List.cons_append, Option.toList_some, Option.toList_none]
      refine ecsr rfl rfl rfl rfl rfl rfl (y_canEx q5 rfl a3 a4) (by first | rfl | exact Nat.blt_eq.mpr (by omega)) rfl ?_
      by_cases c1 : canS (A 5) (nxS s % σ.T.hs.n) (nxS (nxS s) % σ.T.hs.n)
      · rw [show bI (canS (A 5) (nxS s % σ.T.hs.n) (nxS (nxS s) % σ.T.hs.n)) = 1 from if_pos c1, if_pos c1]
        repeat (first | refine es rfl rfl rfl ?_ | refine eg rfl (by assumption) rfl ?_ | refine eanE rfl (by assumption) (by with_reducible first | exact rfl | exact Int32.zero_add _ | exact ix8 _ | exact ix12 _ | exact ix7r _ _ | exact n7 | exact n0 | exact n1) (by assumption) rfl ?_ | refine eal rfl (by assumption) (by assumption) rfl ?_ | refine eri rfl ?_ | refine erv rfl ?_ | refine erl rfl ?_ | refine era rfl ?_ | refine erz0 rfl ?_ | refine erz1 rfl ?_)
        try dsimp only [set1, set2, kilP, List.set_cons_zero, List.set_cons_succ, List.getElem?_cons_zero, List.getElem?_cons_succ, List.nil_append, List.cons_append, Option.toList_some, Option.toList_none]
        refine ecs rfl rfl rfl rfl rfl rfl (y_exch q5 rfl a3 a4) (by first | rfl | exact Nat.blt_eq.mpr (by omega)) ?_
        rintro v M4 ⟨rfl, eM4⟩
        try dsimp only [set1, set2, kilP, List.set_cons_zero, List.set_cons_succ, List.getElem?_cons_zero, List.getElem?_cons_succ, List.nil_append, List.cons_append, Option.toList_some, Option.toList_none]
        repeat (refine ng 41 rfl ?_; first | refine es rfl rfl rfl ?_ | refine eg rfl (by assumption) rfl ?_ | refine eanE rfl (by assumption) (by with_reducible first | exact rfl | exact Int32.zero_add _ | exact ix8 _ | exact ix12 _ | exact ix7r _ _ | exact n7 | exact n0 | exact n1) (by assumption) rfl ?_ | refine eal rfl (by assumption) (by assumption) rfl ?_ | refine eri rfl ?_ | refine erv rfl ?_ | refine erl rfl ?_ | refine era rfl ?_ | refine erz0 rfl ?_ | refine erz1 rfl ?_)
        try dsimp only [set1, set2, kilP, List.set_cons_zero, List.set_cons_succ, List.getElem?_cons_zero, List.getElem?_cons_succ, List.nil_append, List.cons_append, Option.toList_some, Option.toList_none]
        rw [nI_1]
        refine (ih (i + 1) (nxS (nxS s)) M4 _ _ _ (hW3.x eM4) (hF3.up eM4 (by omega) (by omega)) (nxS_lt _) (by omega)).im (fun v M' q => ?_)
        obtain ⟨q1, s', A', q2, ⟨g, q3⟩, q4, q5⟩ := q
        exact ⟨q1, s', A', q2, ⟨g, by rw [q3, sA_sA]⟩, q4, q5⟩
      · rw [show bI (canS (A 5) (nxS s % σ.T.hs.n) (nxS (nxS s) % σ.T.hs.n)) = 0 from if_neg c1, if_neg c1]
        repeat (refine ng 41 rfl ?_; first | refine es rfl rfl rfl ?_ | refine eg rfl (by assumption) rfl ?_ | refine eanE rfl (by assumption) (by with_reducible first | exact rfl | exact Int32.zero_add _ | exact ix8 _ | exact ix12 _ | exact ix7r _ _ | exact n7 | exact n0 | exact n1) (by assumption) rfl ?_ | refine eal rfl (by assumption) (by assumption) rfl ?_ | refine eri rfl ?_ | refine erv rfl ?_ | refine erl rfl ?_ | refine era rfl ?_ | refine erz0 rfl ?_ | refine erz1 rfl ?_)
        try dsimp only [set1, set2, kilP, List.set_cons_zero, List.set_cons_succ, List.getElem?_cons_zero, List.getElem?_cons_succ, List.nil_append, List.cons_append, Option.toList_some, Option.toList_none]
        rw [nI_1]
        exact ih (i + 1) (nxS (nxS s)) M3 A _ _ hW3 hF3 (nxS_lt _) (by omega)
theorem y_builds {A : Ar} {r : Yr} {z : Yz} {s0 x n is : Int32} (hW : yW M b a σ oa rd (r, z.s s0) A) (hI : Inv σ C) (hn : 0 < σ.T.hs.n) (his : ¬ is = 0) : EvM ad 3 (iX13_builds ad) [.ref b, .int is, .int x, .int n] M (fun v' M' => if isW x n then (v' = some (.int 0) ∧ ∃ s' A', yW M' b a σ oa rd (r, z.s s') A' ∧ (∃ g, A' = sA A 5 g) ∧ (∃ f0, (∀ j, j < 7 → f0 j = σ.f j) ∧ A' 5 = bldF σ.T.hs.n n.toNatClampNeg f0 x.toNatClampNeg) ∧ Fr b 16 M M') else v' = some (.int 2) ∧ M' = M) := by
  have hn7 := hI.n7
  have h0 := hW.1.1
  have e5 : ((0 : Int32) ≤ x ∧ x ≤ 65536) ↔ (0 ≤ x ∧ x < 65537) := in5 (N := 65536) (by omega)
  refine ⟨Nat.le_of_ble_eq_true rfl, ?_⟩
  show Ev ad _ (rX13_builds ad) (0, [some (.ref b), some (.int is), some (.int x), some (.int n), none, none, none], [], M) _
  repeat (first | refine es rfl rfl rfl ?_ | refine eg rfl (by assumption) rfl ?_ | refine eanE rfl (by assumption) (by with_reducible first | exact rfl | exact Int32.zero_add _ | exact ix8 _ | exact ix12 _ | exact ix7r _ _ | exact n7 | exact n0 | exact n1) (by assumption) rfl ?_ | refine eal rfl (by assumption) (by assumption) rfl ?_ | refine eri rfl ?_ | refine erv rfl ?_ | refine erl rfl ?_ | refine era rfl ?_ | refine erz0 rfl ?_ | refine erz1 rfl ?_)
  try dsimp only [set1, set2, kilP, List.set_cons_zero, List.set_cons_succ, List.getElem?_cons_zero, List.getElem?_cons_succ, List.nil_append, List.cons_append, Option.toList_some, Option.toList_none]
  refine ei _ rfl rfl (fun c => ?_) (fun c => ?_)
  rotate_left
  · exact absurd (Decidable.not_not.mp c) his
  repeat (first | refine es rfl rfl rfl ?_ | refine eg rfl (by assumption) rfl ?_ | refine eanE rfl (by assumption) (by with_reducible first | exact rfl | exact Int32.zero_add _ | exact ix8 _ | exact ix12 _ | exact ix7r _ _ | exact n7 | exact n0 | exact n1) (by assumption) rfl ?_ | refine eal rfl (by assumption) (by assumption) rfl ?_ | refine eri rfl ?_ | refine erv rfl ?_ | refine erl rfl ?_ | refine era rfl ?_ | refine erz0 rfl ?_ | refine erz1 rfl ?_)
  try dsimp only [set1, set2, kilP, List.set_cons_zero, List.set_cons_succ, List.getElem?_cons_zero, List.getElem?_cons_succ, List.nil_append, List.cons_append, Option.toList_some, Option.toList_none]
  refine ecsr rfl rfl rfl rfl rfl rfl (y_in) (by first | rfl | exact Nat.blt_eq.mpr (by omega)) rfl ?_
  by_cases c1 : (0 : Int32) ≤ x ∧ x ≤ 65536
  rotate_left
  · rw [show bI ((0 : Int32) ≤ x ∧ x ≤ 65536) = 0 from if_neg c1]
    repeat (first | refine es rfl rfl rfl ?_ | refine eg rfl (by assumption) rfl ?_ | refine eanE rfl (by assumption) (by with_reducible first | exact rfl | exact Int32.zero_add _ | exact ix8 _ | exact ix12 _ | exact ix7r _ _ | exact n7 | exact n0 | exact n1) (by assumption) rfl ?_ | refine eal rfl (by assumption) (by assumption) rfl ?_ | refine eri rfl ?_ | refine erv rfl ?_ | refine erl rfl ?_ | refine era rfl ?_ | refine erz0 rfl ?_ | refine erz1 rfl ?_)
    try dsimp only [set1, set2, kilP, List.set_cons_zero, List.set_cons_succ, List.getElem?_cons_zero, List.getElem?_cons_succ, List.nil_append, List.cons_append, Option.toList_some, Option.toList_none]
    rw [if_neg (fun q => c1 (e5.mpr q.1))]
    exact ⟨rfl, rfl⟩
  rw [show bI ((0 : Int32) ≤ x ∧ x ≤ 65536) = 1 from if_pos c1]
  repeat (first | refine es rfl rfl rfl ?_ | refine eg rfl (by assumption) rfl ?_ | refine eanE rfl (by assumption) (by with_reducible first | exact rfl | exact Int32.zero_add _ | exact ix8 _ | exact ix12 _ | exact ix7r _ _ | exact n7 | exact n0 | exact n1) (by assumption) rfl ?_ | refine eal rfl (by assumption) (by assumption) rfl ?_ | refine eri rfl ?_ | refine erv rfl ?_ | refine erl rfl ?_ | refine era rfl ?_ | refine erz0 rfl ?_ | refine erz1 rfl ?_)
  try dsimp only [set1, set2, kilP, List.set_cons_zero, List.set_cons_succ, List.getElem?_cons_zero, List.getElem?_cons_succ, List.nil_append, List.cons_append, Option.toList_some, Option.toList_none]
  refine ecsr rfl rfl rfl rfl rfl rfl (y_in) (by first | rfl | exact Nat.blt_eq.mpr (by omega)) rfl ?_
  by_cases c2 : (0 : Int32) ≤ n ∧ n ≤ 60
  rotate_left
  · rw [show bI ((0 : Int32) ≤ n ∧ n ≤ 60) = 0 from if_neg c2]
    repeat (first | refine es rfl rfl rfl ?_ | refine eg rfl (by assumption) rfl ?_ | refine eanE rfl (by assumption) (by with_reducible first | exact rfl | exact Int32.zero_add _ | exact ix8 _ | exact ix12 _ | exact ix7r _ _ | exact n7 | exact n0 | exact n1) (by assumption) rfl ?_ | refine eal rfl (by assumption) (by assumption) rfl ?_ | refine eri rfl ?_ | refine erv rfl ?_ | refine erl rfl ?_ | refine era rfl ?_ | refine erz0 rfl ?_ | refine erz1 rfl ?_)
    try dsimp only [set1, set2, kilP, List.set_cons_zero, List.set_cons_succ, List.getElem?_cons_zero, List.getElem?_cons_succ, List.nil_append, List.cons_append, Option.toList_some, Option.toList_none]
    rw [if_neg (fun q => c2 q.2)]
    exact ⟨rfl, rfl⟩
  rw [show bI ((0 : Int32) ≤ n ∧ n ≤ 60) = 1 from if_pos c2]
  have hw : isW x n := ⟨e5.mp c1, c2⟩
  rw [show (fun (v' : Option Value) (M' : Mm) => if isW x n then (v' = some (.int 0) ∧ ∃ s' A', yW M' b a σ oa rd (r, z.s s') A' ∧ (∃ g, A' = sA A 5 g) ∧ (∃ f0, (∀ j, j < 7 → f0 j = σ.f j) ∧ A' 5 = bldF σ.T.hs.n n.toNatClampNeg f0 x.toNatClampNeg) ∧ Fr b 16 M M') else v' = some (.int 2) ∧ M' = M) = (fun v' M' => v' = some (.int 0) ∧ ∃ s' A', yW M' b a σ oa rd (r, z.s s') A' ∧ (∃ g, A' = sA A 5 g) ∧ (∃ f0, (∀ j, j < 7 → f0 j = σ.f j) ∧ A' 5 = bldF σ.T.hs.n n.toNatClampNeg f0 x.toNatClampNeg) ∧ Fr b 16 M M') from by funext v' M'; rw [if_pos hw]]
  obtain ⟨x, n, hx, hn60, rfl, rfl⟩ := isW_k hw
  rw [nI_clamp (by omega), nI_clamp (by omega)]
  repeat (first | refine es rfl rfl rfl ?_ | refine eg rfl (by assumption) rfl ?_ | refine eanE rfl (by assumption) (by with_reducible first | exact rfl | exact Int32.zero_add _ | exact ix8 _ | exact ix12 _ | exact ix7r _ _ | exact n7 | exact n0 | exact n1) (by assumption) rfl ?_ | refine eal rfl (by assumption) (by assumption) rfl ?_ | refine eri rfl ?_ | refine erv rfl ?_ | refine erl rfl ?_ | refine era rfl ?_ | refine erz0 rfl ?_ | refine erz1 rfl ?_)
  try dsimp only [set1, set2, kilP, List.set_cons_zero, List.set_cons_succ, List.getElem?_cons_zero, List.getElem?_cons_succ, List.nil_append, List.cons_append, Option.toList_some, Option.toList_none]
  refine epM (fs' := yF b (oa, (.ref a, rd), (r, z.s (nI x)))) rfl h0 rfl rfl rfl (fun M2 eM => ?_)
  have hW2 := hW.s eM
  have hF2 := (Fr.rf b 16 M).up eM (by omega) (by omega)
  have k0 := hW2.1.1
  repeat (first | refine es rfl rfl rfl ?_ | refine eg rfl (by assumption) rfl ?_ | refine eanE rfl (by assumption) (by with_reducible first | exact rfl | exact Int32.zero_add _ | exact ix8 _ | exact ix12 _ | exact ix7r _ _ | exact n7 | exact n0 | exact n1) (by assumption) rfl ?_ | refine eal rfl (by assumption) (by assumption) rfl ?_ | refine eri rfl ?_ | refine erv rfl ?_ | refine erl rfl ?_ | refine era rfl ?_ | refine erz0 rfl ?_ | refine erz1 rfl ?_)
  try dsimp only [set1, set2, kilP, List.set_cons_zero, List.set_cons_succ, List.getElem?_cons_zero, List.getElem?_cons_succ, List.nil_append, List.cons_append, Option.toList_some, Option.toList_none]
  refine ecv rfl rfl (by assumption) rfl rfl rfl (y_tries hW2.1) (by first | rfl | exact Nat.blt_eq.mpr (by omega)) ?_
  rintro v M3 ⟨rfl, g, hg, eM3⟩
  have hW3 := hW2.x eM3
  try dsimp only [set1, set2, kilP, List.set_cons_zero, List.set_cons_succ, List.getElem?_cons_zero, List.getElem?_cons_succ, List.nil_append, List.cons_append, Option.toList_some, Option.toList_none]
  repeat (refine ng 41 rfl ?_; first | refine es rfl rfl rfl ?_ | refine eg rfl (by assumption) rfl ?_ | refine eanE rfl (by assumption) (by with_reducible first | exact rfl | exact Int32.zero_add _ | exact ix8 _ | exact ix12 _ | exact ix7r _ _ | exact n7 | exact n0 | exact n1) (by assumption) rfl ?_ | refine eal rfl (by assumption) (by assumption) rfl ?_ | refine eri rfl ?_ | refine erv rfl ?_ | refine erl rfl ?_ | refine era rfl ?_ | refine erz0 rfl ?_ | refine erz1 rfl ?_)
  try dsimp only [set1, set2, kilP, List.set_cons_zero, List.set_cons_succ, List.getElem?_cons_zero, List.getElem?_cons_succ, List.nil_append, List.cons_append, Option.toList_some, Option.toList_none]
  refine ((y_bld_loop (M0 := M) hn hn7 hn60 n 0 x M3 _ _ _ hW3 (hF2.up eM3 (by omega) (by omega)) hx (by omega)).up (d2 := 3) (by omega)).im (fun v M' q => ?_)
  obtain ⟨q1, s', A', q2, ⟨g', q3⟩, q4, q5⟩ := q
  exact ⟨q1, s', A', q2, ⟨g', by rw [q3, sA_sA]⟩, ⟨g, fun j hj => (hg j hj).trans (hW.2.2.2 j (by omega)), q4⟩, q5⟩
theorem yR.bs {M' : Mm} {A A' : Ar} {r : Yr} {z : Yz} {s s' : Int32} {g : Nat → Int32} (hR : yR M b σ (oa, (.ref a, rd), (r, z.s s)) A) (hW : yW M' b a σ oa rd (r, z.s s') A') (hg : A' = sA A 5 g) (hF : Fr b 16 M M') : yR M' b σ (oa, (.ref a, rd), (r, z.s s')) A' := by
  refine hR.sc hW.1 hF rfl ?_ ?_ ?_ ?_ ?_ <;> (rw [hg]; rfl)
theorem y_builders {x n : Int32} (hY : YR M b σ) (hI : Inv σ C) : EvM ad 4 (iX13_builders ad) [.ref b, .int x, .int n] M (Pq b M (spBuilders σ x n)) := by
  have hn7 := hI.n7
  unfold spBuilders
  refine ⟨Nat.le_of_ble_eq_true rfl, ?_⟩
  show Ev ad _ (rX13_builders ad) (0, [some (.ref b), some (.int x), some (.int n), none], [], M) _
  refine yEn rfl rfl rfl hY (fun M1 hY hF _ => ?_)
  obtain ⟨⟨oa, ⟨tw, rd⟩, oq⟩, A, hR⟩ := id hY
  have h0 := hR.1.1
  have h2 := hR.1.c.2.1
  by_cases hno : σ.T.hs.n = 0
  · obtain ⟨_, t0⟩ := hR.2.2.2.2.2.2.2.2.2.resolve_right (fun q => by have := q.1; omega)
    replace t0 : tw = .null := t0
    subst t0
    rw [if_pos hno]
    have hz : Rd ad 0 (iX13_builds ad) [.ref b, .int 0, .int x, .int n] M1 (some (.int 1)) := by
      refine ⟨Nat.le_of_ble_eq_true rfl, ?_⟩
      show Ev ad _ (rX13_builds ad) (0, [some (.ref b), some (.int 0), some (.int x), some (.int n), none, none, none], [], M1) _
      repeat (first | refine es rfl rfl rfl ?_ | refine eg rfl (by assumption) rfl ?_ | refine eanE rfl (by assumption) (by with_reducible first | exact rfl | exact Int32.zero_add _ | exact ix8 _ | exact ix12 _ | exact ix7r _ _ | exact n7 | exact n0 | exact n1) (by assumption) rfl ?_ | refine eal rfl (by assumption) (by assumption) rfl ?_ | refine eri rfl ?_ | refine erv rfl ?_ | refine erl rfl ?_ | refine era rfl ?_ | refine erz0 rfl ?_ | refine erz1 rfl ?_)
      try dsimp only [set1, set2, kilP, List.set_cons_zero, List.set_cons_succ, List.getElem?_cons_zero, List.getElem?_cons_succ, List.nil_append, List.cons_append, Option.toList_some, Option.toList_none]
      exact ⟨rfl, rfl⟩
    repeat (first | refine es rfl rfl rfl ?_ | refine eg rfl (by assumption) rfl ?_ | refine eanE rfl (by assumption) (by with_reducible first | exact rfl | exact Int32.zero_add _ | exact ix8 _ | exact ix12 _ | exact ix7r _ _ | exact n7 | exact n0 | exact n1) (by assumption) rfl ?_ | refine eal rfl (by assumption) (by assumption) rfl ?_ | refine eri rfl ?_ | refine erv rfl ?_ | refine erl rfl ?_ | refine era rfl ?_ | refine erz0 rfl ?_ | refine erz1 rfl ?_)
    try dsimp only [set1, set2, kilP, List.set_cons_zero, List.set_cons_succ, List.getElem?_cons_zero, List.getElem?_cons_succ, List.nil_append, List.cons_append, Option.toList_some, Option.toList_none]
    refine ecr rfl rfl (by assumption) rfl rfl rfl (hz) (by first | rfl | exact Nat.blt_eq.mpr (by omega)) rfl ?_
    repeat (first | refine es rfl rfl rfl ?_ | refine eg rfl (by assumption) rfl ?_ | refine eanE rfl (by assumption) (by with_reducible first | exact rfl | exact Int32.zero_add _ | exact ix8 _ | exact ix12 _ | exact ix7r _ _ | exact n7 | exact n0 | exact n1) (by assumption) rfl ?_ | refine eal rfl (by assumption) (by assumption) rfl ?_ | refine eri rfl ?_ | refine erv rfl ?_ | refine erl rfl ?_ | refine era rfl ?_ | refine erz0 rfl ?_ | refine erz1 rfl ?_)
    try dsimp only [set1, set2, kilP, List.set_cons_zero, List.set_cons_succ, List.getElem?_cons_zero, List.getElem?_cons_succ, List.nil_append, List.cons_append, Option.toList_some, Option.toList_none]
    refine ecv rfl rfl (by assumption) rfl rfl rfl (y_ref hY (by decide)) (by first | rfl | exact Nat.blt_eq.mpr (by omega)) ?_
    rintro v M9 ⟨rfl, hY9, hF9⟩
    try dsimp only [set1, set2, kilP, List.set_cons_zero, List.set_cons_succ, List.getElem?_cons_zero, List.getElem?_cons_succ, List.nil_append, List.cons_append, Option.toList_some, Option.toList_none]
    repeat (first | refine es rfl rfl rfl ?_ | refine eg rfl (by assumption) rfl ?_ | refine eanE rfl (by assumption) (by with_reducible first | exact rfl | exact Int32.zero_add _ | exact ix8 _ | exact ix12 _ | exact ix7r _ _ | exact n7 | exact n0 | exact n1) (by assumption) rfl ?_ | refine eal rfl (by assumption) (by assumption) rfl ?_ | refine eri rfl ?_ | refine erv rfl ?_ | refine erl rfl ?_ | refine era rfl ?_ | refine erz0 rfl ?_ | refine erz1 rfl ?_)
    try dsimp only [set1, set2, kilP, List.set_cons_zero, List.set_cons_succ, List.getElem?_cons_zero, List.getElem?_cons_succ, List.nil_append, List.cons_append, Option.toList_some, Option.toList_none]
    exact Pq.rf hY9 (hF.tr (hF9.wide (lo2 := b) (n2 := 16) (by omega) (by omega)) (by omega) (by omega))
  rw [if_neg hno]
  obtain ⟨n1, a, t0, a1, a2, hM, hv, hpa, hmk, hfa⟩ := hR.2.2.2.2.2.2.2.2.2.resolve_left (fun q => by have := q.1; omega)
  replace t0 : tw = .ref a := t0
  subst t0
  obtain ⟨kn, Am, Bm, m0, mc, mH, mS, mP, mC, mN⟩ := id hM
  obtain ⟨m1, m2, m3, m4, m5, m6, m7, m8, m9, m10, m11, m12, m13, m14, m15, m16, m17⟩ := id mc
  obtain ⟨r, q1, q2, q3, q4, s0⟩ := oq
  have hW : yW M1 b a σ oa rd (r, Yz.s (q1, q2, q3, q4) s0) A := ⟨hR.1, a1, hM, hv⟩
  repeat (first | refine es rfl rfl rfl ?_ | refine eg rfl (by assumption) rfl ?_ | refine eanE rfl (by assumption) (by with_reducible first | exact rfl | exact Int32.zero_add _ | exact ix8 _ | exact ix12 _ | exact ix7r _ _ | exact n7 | exact n0 | exact n1) (by assumption) rfl ?_ | refine eal rfl (by assumption) (by assumption) rfl ?_ | refine eri rfl ?_ | refine erv rfl ?_ | refine erl rfl ?_ | refine era rfl ?_ | refine erz0 rfl ?_ | refine erz1 rfl ?_)
  try dsimp only [set1, set2, kilP, List.set_cons_zero, List.set_cons_succ, List.getElem?_cons_zero, List.getElem?_cons_succ, List.nil_append, List.cons_append, Option.toList_some, Option.toList_none]
  refine ecv rfl rfl (by assumption) rfl rfl rfl (y_builds hW hI n1 (by decide)) (by first | rfl | exact Nat.blt_eq.mpr (by omega)) ?_
  by_cases c : isW x n
  rotate_left
  · rw [if_neg c]
    intro v M2 hq
    rw [if_neg c] at hq
    obtain ⟨rfl, rfl⟩ := hq
    try dsimp only [set1, set2, kilP, List.set_cons_zero, List.set_cons_succ, List.getElem?_cons_zero, List.getElem?_cons_succ, List.nil_append, List.cons_append, Option.toList_some, Option.toList_none]
    repeat (first | refine es rfl rfl rfl ?_ | refine eg rfl (by assumption) rfl ?_ | refine eanE rfl (by assumption) (by with_reducible first | exact rfl | exact Int32.zero_add _ | exact ix8 _ | exact ix12 _ | exact ix7r _ _ | exact n7 | exact n0 | exact n1) (by assumption) rfl ?_ | refine eal rfl (by assumption) (by assumption) rfl ?_ | refine eri rfl ?_ | refine erv rfl ?_ | refine erl rfl ?_ | refine era rfl ?_ | refine erz0 rfl ?_ | refine erz1 rfl ?_)
    try dsimp only [set1, set2, kilP, List.set_cons_zero, List.set_cons_succ, List.getElem?_cons_zero, List.getElem?_cons_succ, List.nil_append, List.cons_append, Option.toList_some, Option.toList_none]
    refine ecv rfl rfl (by assumption) rfl rfl rfl (y_ref hY (by decide)) (by first | rfl | exact Nat.blt_eq.mpr (by omega)) ?_
    rintro v M9 ⟨rfl, hY9, hF9⟩
    try dsimp only [set1, set2, kilP, List.set_cons_zero, List.set_cons_succ, List.getElem?_cons_zero, List.getElem?_cons_succ, List.nil_append, List.cons_append, Option.toList_some, Option.toList_none]
    repeat (first | refine es rfl rfl rfl ?_ | refine eg rfl (by assumption) rfl ?_ | refine eanE rfl (by assumption) (by with_reducible first | exact rfl | exact Int32.zero_add _ | exact ix8 _ | exact ix12 _ | exact ix7r _ _ | exact n7 | exact n0 | exact n1) (by assumption) rfl ?_ | refine eal rfl (by assumption) (by assumption) rfl ?_ | refine eri rfl ?_ | refine erv rfl ?_ | refine erl rfl ?_ | refine era rfl ?_ | refine erz0 rfl ?_ | refine erz1 rfl ?_)
    try dsimp only [set1, set2, kilP, List.set_cons_zero, List.set_cons_succ, List.getElem?_cons_zero, List.getElem?_cons_succ, List.nil_append, List.cons_append, Option.toList_some, Option.toList_none]
    exact Pq.rf hY9 (hF.tr (hF9.wide (lo2 := b) (n2 := 16) (by omega) (by omega)) (by omega) (by omega))
  rw [if_pos c]
  intro v M2 hq
  rw [if_pos c] at hq
  obtain ⟨rfl, s', A', hW2, ⟨g, hg⟩, ⟨f0, hf0, eA⟩, hF2⟩ := hq
  have hR2 := hR.bs (z := (q1, q2, q3, q4)) hW2 hg hF2
  have hY : YR M2 b σ := ⟨_, _, hR2⟩
  have hF := hF.tr hF2 (by omega) (by omega)
  have k0 := hW2.1.1
  have k5 : M2.1 (b + 5) = ints 7 (A' 5) := hW2.1.c.2.2.2.2.1
  obtain ⟨x, n, hx, hn60, rfl, rfl⟩ := isW_k c
  rw [nI_clamp (by omega), nI_clamp (by omega)] at *
  have hok : okR (A' 5) := by rw [eA]; exact okR_bld n1 hn7 _ _ _ (okR_cp hI.ok hf0)
  try dsimp only [set1, set2, kilP, List.set_cons_zero, List.set_cons_succ, List.getElem?_cons_zero, List.getElem?_cons_succ, List.nil_append, List.cons_append, Option.toList_some, Option.toList_none]
  repeat (first | refine es rfl rfl rfl ?_ | refine eg rfl (by assumption) rfl ?_ | refine eanE rfl (by assumption) (by with_reducible first | exact rfl | exact Int32.zero_add _ | exact ix8 _ | exact ix12 _ | exact ix7r _ _ | exact n7 | exact n0 | exact n1) (by assumption) rfl ?_ | refine eal rfl (by assumption) (by assumption) rfl ?_ | refine eri rfl ?_ | refine erv rfl ?_ | refine erl rfl ?_ | refine era rfl ?_ | refine erz0 rfl ?_ | refine erz1 rfl ?_)
  try dsimp only [set1, set2, kilP, List.set_cons_zero, List.set_cons_succ, List.getElem?_cons_zero, List.getElem?_cons_succ, List.nil_append, List.cons_append, Option.toList_some, Option.toList_none]
  refine ecsr rfl rfl rfl rfl rfl rfl (y_pairedIn k5 (by omega) rfl hok) (by first | rfl | exact Nat.blt_eq.mpr (by omega)) rfl ?_
  rw [mbF_N _ 7 (Nat.le_refl _)]
  refine ecsr rfl rfl rfl rfl rfl rfl (y_bits (mbN_128 _)) (by first | rfl | exact Nat.blt_eq.mpr (by omega)) rfl ?_
  repeat (first | refine es rfl rfl rfl ?_ | refine eg rfl (by assumption) rfl ?_ | refine eanE rfl (by assumption) (by with_reducible first | exact rfl | exact Int32.zero_add _ | exact ix8 _ | exact ix12 _ | exact ix7r _ _ | exact n7 | exact n0 | exact n1) (by assumption) rfl ?_ | refine eal rfl (by assumption) (by assumption) rfl ?_ | refine eri rfl ?_ | refine erv rfl ?_ | refine erl rfl ?_ | refine era rfl ?_ | refine erz0 rfl ?_ | refine erz1 rfl ?_)
  try dsimp only [set1, set2, kilP, List.set_cons_zero, List.set_cons_succ, List.getElem?_cons_zero, List.getElem?_cons_succ, List.nil_append, List.cons_append, Option.toList_some, Option.toList_none]
  refine ecv rfl rfl (by assumption) rfl rfl rfl (y_good hY) (by first | rfl | exact Nat.blt_eq.mpr (by omega)) ?_
  rintro v M9 ⟨rfl, hY9, hF9⟩
  try dsimp only [set1, set2, kilP, List.set_cons_zero, List.set_cons_succ, List.getElem?_cons_zero, List.getElem?_cons_succ, List.nil_append, List.cons_append, Option.toList_some, Option.toList_none]
  repeat (first | refine es rfl rfl rfl ?_ | refine eg rfl (by assumption) rfl ?_ | refine eanE rfl (by assumption) (by with_reducible first | exact rfl | exact Int32.zero_add _ | exact ix8 _ | exact ix12 _ | exact ix7r _ _ | exact n7 | exact n0 | exact n1) (by assumption) rfl ?_ | refine eal rfl (by assumption) (by assumption) rfl ?_ | refine eri rfl ?_ | refine erv rfl ?_ | refine erl rfl ?_ | refine era rfl ?_ | refine erz0 rfl ?_ | refine erz1 rfl ?_)
  try dsimp only [set1, set2, kilP, List.set_cons_zero, List.set_cons_succ, List.getElem?_cons_zero, List.getElem?_cons_succ, List.nil_append, List.cons_append, Option.toList_some, Option.toList_none]
  refine ⟨fun v' σ' h => ?_, hF.tr (hF9.wide (lo2 := b) (n2 := 16) (by omega) (by omega)) (by omega) (by omega)⟩
  obtain ⟨r', hr', rfl, rfl⟩ := h
  refine ⟨?_, hY9⟩
  congr 4
  rw [eA]
  refine mbN_cg (okR_bld n1 hn7 _ _ _ (okR_cp hI.ok hr')) (fun j hj => bld_cg n1 hn7 _ _ _ _ (fun j hj => (hr' j hj).trans (hf0 j hj).symm) j hj) 7 (Nat.le_refl _)
theorem y_builtOf {w x n : Int32} (hY : YR M b σ) (hI : Inv σ C) : EvM ad 4 (iX13_builtOf ad) [.ref b, .int w, .int x, .int n] M (Pq b M (spBuiltOf σ w x n)) := by
  have hn7 := hI.n7
  unfold spBuiltOf
  refine ⟨Nat.le_of_ble_eq_true rfl, ?_⟩
  show Ev ad _ (rX13_builtOf ad) (0, [some (.ref b), some (.int w), some (.int x), some (.int n), none], [], M) _
  refine yEn rfl rfl rfl hY (fun M1 hY hF _ => ?_)
  obtain ⟨⟨oa, ⟨tw, rd⟩, oq⟩, A, hR⟩ := id hY
  have h0 := hR.1.1
  have h2 := hR.1.c.2.1
  repeat (first | refine es rfl rfl rfl ?_ | refine eg rfl (by assumption) rfl ?_ | refine eanE rfl (by assumption) (by with_reducible first | exact rfl | exact Int32.zero_add _ | exact ix8 _ | exact ix12 _ | exact ix7r _ _ | exact n7 | exact n0 | exact n1) (by assumption) rfl ?_ | refine eal rfl (by assumption) (by assumption) rfl ?_ | refine eri rfl ?_ | refine erv rfl ?_ | refine erl rfl ?_ | refine era rfl ?_ | refine erz0 rfl ?_ | refine erz1 rfl ?_)
  try dsimp only [set1, set2, kilP, List.set_cons_zero, List.set_cons_succ, List.getElem?_cons_zero, List.getElem?_cons_succ, List.nil_append, List.cons_append, Option.toList_some, Option.toList_none]
  refine ecr rfl rfl (by assumption) rfl rfl rfl (y_isH hY) (by first | rfl | exact Nat.blt_eq.mpr (by omega)) rfl ?_
  by_cases c0 : isH σ w
  rotate_left
  · rw [if_neg c0, show bI (isH σ w) = 0 from if_neg c0]
    have hz : Rd ad 0 (iX13_builds ad) [.ref b, .int 0, .int x, .int n] M1 (some (.int 1)) := by
      refine ⟨Nat.le_of_ble_eq_true rfl, ?_⟩
      show Ev ad _ (rX13_builds ad) (0, [some (.ref b), some (.int 0), some (.int x), some (.int n), none, none, none], [], M1) _
      repeat (first | refine es rfl rfl rfl ?_ | refine eg rfl (by assumption) rfl ?_ | refine eanE rfl (by assumption) (by with_reducible first | exact rfl | exact Int32.zero_add _ | exact ix8 _ | exact ix12 _ | exact ix7r _ _ | exact n7 | exact n0 | exact n1) (by assumption) rfl ?_ | refine eal rfl (by assumption) (by assumption) rfl ?_ | refine eri rfl ?_ | refine erv rfl ?_ | refine erl rfl ?_ | refine era rfl ?_ | refine erz0 rfl ?_ | refine erz1 rfl ?_)
      try dsimp only [set1, set2, kilP, List.set_cons_zero, List.set_cons_succ, List.getElem?_cons_zero, List.getElem?_cons_succ, List.nil_append, List.cons_append, Option.toList_some, Option.toList_none]
      exact ⟨rfl, rfl⟩
    repeat (first | refine es rfl rfl rfl ?_ | refine eg rfl (by assumption) rfl ?_ | refine eanE rfl (by assumption) (by with_reducible first | exact rfl | exact Int32.zero_add _ | exact ix8 _ | exact ix12 _ | exact ix7r _ _ | exact n7 | exact n0 | exact n1) (by assumption) rfl ?_ | refine eal rfl (by assumption) (by assumption) rfl ?_ | refine eri rfl ?_ | refine erv rfl ?_ | refine erl rfl ?_ | refine era rfl ?_ | refine erz0 rfl ?_ | refine erz1 rfl ?_)
    try dsimp only [set1, set2, kilP, List.set_cons_zero, List.set_cons_succ, List.getElem?_cons_zero, List.getElem?_cons_succ, List.nil_append, List.cons_append, Option.toList_some, Option.toList_none]
    refine ecr rfl rfl (by assumption) rfl rfl rfl (hz) (by first | rfl | exact Nat.blt_eq.mpr (by omega)) rfl ?_
    repeat (first | refine es rfl rfl rfl ?_ | refine eg rfl (by assumption) rfl ?_ | refine eanE rfl (by assumption) (by with_reducible first | exact rfl | exact Int32.zero_add _ | exact ix8 _ | exact ix12 _ | exact ix7r _ _ | exact n7 | exact n0 | exact n1) (by assumption) rfl ?_ | refine eal rfl (by assumption) (by assumption) rfl ?_ | refine eri rfl ?_ | refine erv rfl ?_ | refine erl rfl ?_ | refine era rfl ?_ | refine erz0 rfl ?_ | refine erz1 rfl ?_)
    try dsimp only [set1, set2, kilP, List.set_cons_zero, List.set_cons_succ, List.getElem?_cons_zero, List.getElem?_cons_succ, List.nil_append, List.cons_append, Option.toList_some, Option.toList_none]
    refine ecv rfl rfl (by assumption) rfl rfl rfl (y_ref hY (by decide)) (by first | rfl | exact Nat.blt_eq.mpr (by omega)) ?_
    rintro v M9 ⟨rfl, hY9, hF9⟩
    try dsimp only [set1, set2, kilP, List.set_cons_zero, List.set_cons_succ, List.getElem?_cons_zero, List.getElem?_cons_succ, List.nil_append, List.cons_append, Option.toList_some, Option.toList_none]
    repeat (first | refine es rfl rfl rfl ?_ | refine eg rfl (by assumption) rfl ?_ | refine eanE rfl (by assumption) (by with_reducible first | exact rfl | exact Int32.zero_add _ | exact ix8 _ | exact ix12 _ | exact ix7r _ _ | exact n7 | exact n0 | exact n1) (by assumption) rfl ?_ | refine eal rfl (by assumption) (by assumption) rfl ?_ | refine eri rfl ?_ | refine erv rfl ?_ | refine erl rfl ?_ | refine era rfl ?_ | refine erz0 rfl ?_ | refine erz1 rfl ?_)
    try dsimp only [set1, set2, kilP, List.set_cons_zero, List.set_cons_succ, List.getElem?_cons_zero, List.getElem?_cons_succ, List.nil_append, List.cons_append, Option.toList_some, Option.toList_none]
    exact Pq.rf hY9 (hF.tr (hF9.wide (lo2 := b) (n2 := 16) (by omega) (by omega)) (by omega) (by omega))
  rw [if_pos c0, show bI (isH σ w) = 1 from if_pos c0]
  obtain ⟨k, hk, rfl⟩ := isH_k hn7 c0
  have hk7 : k < 7 := by omega
  obtain ⟨n1, a, t0, a1, a2, hM, hv, hpa, hmk, hfa⟩ := hR.2.2.2.2.2.2.2.2.2.resolve_left (fun q => by have := q.1; omega)
  replace t0 : tw = .ref a := t0
  subst t0
  obtain ⟨kn, Am, Bm, m0, mc, mH, mS, mP, mC, mN⟩ := id hM
  obtain ⟨m1, m2, m3, m4, m5, m6, m7, m8, m9, m10, m11, m12, m13, m14, m15, m16, m17⟩ := id mc
  obtain ⟨r, q1, q2, q3, q4, s0⟩ := oq
  have hW : yW M1 b a σ oa rd (r, Yz.s (q1, q2, q3, q4) s0) A := ⟨hR.1, a1, hM, hv⟩
  repeat (first | refine es rfl rfl rfl ?_ | refine eg rfl (by assumption) rfl ?_ | refine eanE rfl (by assumption) (by with_reducible first | exact rfl | exact Int32.zero_add _ | exact ix8 _ | exact ix12 _ | exact ix7r _ _ | exact n7 | exact n0 | exact n1) (by assumption) rfl ?_ | refine eal rfl (by assumption) (by assumption) rfl ?_ | refine eri rfl ?_ | refine erv rfl ?_ | refine erl rfl ?_ | refine era rfl ?_ | refine erz0 rfl ?_ | refine erz1 rfl ?_)
  try dsimp only [set1, set2, kilP, List.set_cons_zero, List.set_cons_succ, List.getElem?_cons_zero, List.getElem?_cons_succ, List.nil_append, List.cons_append, Option.toList_some, Option.toList_none]
  refine ecv rfl rfl (by assumption) rfl rfl rfl (y_builds hW hI n1 (by decide)) (by first | rfl | exact Nat.blt_eq.mpr (by omega)) ?_
  by_cases c : isW x n
  rotate_left
  · rw [if_neg c]
    intro v M2 hq
    rw [if_neg c] at hq
    obtain ⟨rfl, rfl⟩ := hq
    try dsimp only [set1, set2, kilP, List.set_cons_zero, List.set_cons_succ, List.getElem?_cons_zero, List.getElem?_cons_succ, List.nil_append, List.cons_append, Option.toList_some, Option.toList_none]
    repeat (first | refine es rfl rfl rfl ?_ | refine eg rfl (by assumption) rfl ?_ | refine eanE rfl (by assumption) (by with_reducible first | exact rfl | exact Int32.zero_add _ | exact ix8 _ | exact ix12 _ | exact ix7r _ _ | exact n7 | exact n0 | exact n1) (by assumption) rfl ?_ | refine eal rfl (by assumption) (by assumption) rfl ?_ | refine eri rfl ?_ | refine erv rfl ?_ | refine erl rfl ?_ | refine era rfl ?_ | refine erz0 rfl ?_ | refine erz1 rfl ?_)
    try dsimp only [set1, set2, kilP, List.set_cons_zero, List.set_cons_succ, List.getElem?_cons_zero, List.getElem?_cons_succ, List.nil_append, List.cons_append, Option.toList_some, Option.toList_none]
    refine ecv rfl rfl (by assumption) rfl rfl rfl (y_ref hY (by decide)) (by first | rfl | exact Nat.blt_eq.mpr (by omega)) ?_
    rintro v M9 ⟨rfl, hY9, hF9⟩
    try dsimp only [set1, set2, kilP, List.set_cons_zero, List.set_cons_succ, List.getElem?_cons_zero, List.getElem?_cons_succ, List.nil_append, List.cons_append, Option.toList_some, Option.toList_none]
    repeat (first | refine es rfl rfl rfl ?_ | refine eg rfl (by assumption) rfl ?_ | refine eanE rfl (by assumption) (by with_reducible first | exact rfl | exact Int32.zero_add _ | exact ix8 _ | exact ix12 _ | exact ix7r _ _ | exact n7 | exact n0 | exact n1) (by assumption) rfl ?_ | refine eal rfl (by assumption) (by assumption) rfl ?_ | refine eri rfl ?_ | refine erv rfl ?_ | refine erl rfl ?_ | refine era rfl ?_ | refine erz0 rfl ?_ | refine erz1 rfl ?_)
    try dsimp only [set1, set2, kilP, List.set_cons_zero, List.set_cons_succ, List.getElem?_cons_zero, List.getElem?_cons_succ, List.nil_append, List.cons_append, Option.toList_some, Option.toList_none]
    exact Pq.rf hY9 (hF.tr (hF9.wide (lo2 := b) (n2 := 16) (by omega) (by omega)) (by omega) (by omega))
  rw [if_pos c]
  intro v M2 hq
  rw [if_pos c] at hq
  obtain ⟨rfl, s', A', hW2, ⟨g, hg⟩, ⟨f0, hf0, eA⟩, hF2⟩ := hq
  have hR2 := hR.bs (z := (q1, q2, q3, q4)) hW2 hg hF2
  have hY : YR M2 b σ := ⟨_, _, hR2⟩
  have hF := hF.tr hF2 (by omega) (by omega)
  have k0 := hW2.1.1
  have k5 : M2.1 (b + 5) = ints 7 (A' 5) := hW2.1.c.2.2.2.2.1
  obtain ⟨x, n, hx, hn60, rfl, rfl⟩ := isW_k c
  rw [nI_clamp (by omega), nI_clamp (by omega), nI_clamp (by omega)]
  rw [nI_clamp (by omega), nI_clamp (by omega)] at eA
  try dsimp only [set1, set2, kilP, List.set_cons_zero, List.set_cons_succ, List.getElem?_cons_zero, List.getElem?_cons_succ, List.nil_append, List.cons_append, Option.toList_some, Option.toList_none]
  repeat (first | refine es rfl rfl rfl ?_ | refine eg rfl (by assumption) rfl ?_ | refine eanE rfl (by assumption) (by with_reducible first | exact rfl | exact Int32.zero_add _ | exact ix8 _ | exact ix12 _ | exact ix7r _ _ | exact n7 | exact n0 | exact n1) (by assumption) rfl ?_ | refine eal rfl (by assumption) (by assumption) rfl ?_ | refine eri rfl ?_ | refine erv rfl ?_ | refine erl rfl ?_ | refine era rfl ?_ | refine erz0 rfl ?_ | refine erz1 rfl ?_)
  try dsimp only [set1, set2, kilP, List.set_cons_zero, List.set_cons_succ, List.getElem?_cons_zero, List.getElem?_cons_succ, List.nil_append, List.cons_append, Option.toList_some, Option.toList_none]
  refine ecv rfl rfl (by assumption) rfl rfl rfl (y_good hY) (by first | rfl | exact Nat.blt_eq.mpr (by omega)) ?_
  rintro v M9 ⟨rfl, hY9, hF9⟩
  try dsimp only [set1, set2, kilP, List.set_cons_zero, List.set_cons_succ, List.getElem?_cons_zero, List.getElem?_cons_succ, List.nil_append, List.cons_append, Option.toList_some, Option.toList_none]
  repeat (first | refine es rfl rfl rfl ?_ | refine eg rfl (by assumption) rfl ?_ | refine eanE rfl (by assumption) (by with_reducible first | exact rfl | exact Int32.zero_add _ | exact ix8 _ | exact ix12 _ | exact ix7r _ _ | exact n7 | exact n0 | exact n1) (by assumption) rfl ?_ | refine eal rfl (by assumption) (by assumption) rfl ?_ | refine eri rfl ?_ | refine erv rfl ?_ | refine erl rfl ?_ | refine era rfl ?_ | refine erz0 rfl ?_ | refine erz1 rfl ?_)
  try dsimp only [set1, set2, kilP, List.set_cons_zero, List.set_cons_succ, List.getElem?_cons_zero, List.getElem?_cons_succ, List.nil_append, List.cons_append, Option.toList_some, Option.toList_none]
  refine ⟨fun v' σ' h => ?_, hF.tr (hF9.wide (lo2 := b) (n2 := 16) (by omega) (by omega)) (by omega) (by omega)⟩
  obtain ⟨r', hr', rfl, rfl⟩ := h
  refine ⟨?_, hY9⟩
  rw [eA, bld_cg n1 hn7 _ _ _ _ (fun j hj => (hr' j hj).trans (hf0 j hj).symm) k hk7]
end RBLD
