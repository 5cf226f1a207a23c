/-! The reference: the search for exchanges -/
section RSS
variable {ad : Nat → Nat} {M : Mm} {b : Nat} {σ : Sg} {C : Nat} {a : Nat} {oa : Int32 × Int32 × Int32} {rd : Value} {r : Yr} {q5 : Y4} {sd : Int32} {M0 : Mm} {A0 : Ar}
def saR (bp bm : Int32) (bs : Nat → Int32) (ac : Sa) : Prop := match ac with
  | none => bp = -1
  | some (m, l, e) => m ≤ 7 ∧ bp = nI m ∧ bm = nI l ∧ l ≤ 3 ∧ ∀ i, i < l → e i < 49 ∧ bs i = nI (e i)
theorem y_cpB {many : Nat} {c : Fo} {bp bm : Int32} {x2 : Int32} {P : Option Value → Mm → Prop} (hm3 : many ≤ 3) (K : ∀ M A L3, yZ M b a σ oa rd r q5 sd M0 A0 bp bm A → (∀ i, i < many → A 13 i = nI (c i)) → (∀ i, i < many → A 14 i = nI (c i)) → Ev ad 3 (rX13_seeksOf ad) (99, [some (.ref b), some (.int (nI many)), some (.int x2), L3], [], M) P) : ∀ (n k : Nat) (M : Mm) (A : Ar), yZ M b a σ oa rd r q5 sd M0 A0 bp bm A → k + n = many → (∀ i, i < many → A 13 i = nI (c i)) → (∀ i, i < k → A 14 i = nI (c i)) → Ev ad 3 (rX13_seeksOf ad) (76, [some (.ref b), some (.int (nI many)), some (.int x2), some (.int (nI k))], [], M) P := by
  intro n
  induction n with
  | zero =>
    intro k M A hV hk hp hq
    have h0 := hV.1.1.1
    repeat (first | refine es rfl rfl rfl ?_ | refine eg rfl (by assumption) rfl ?_ | refine eanE rfl (by assumption) (by with_reducible first | exact rfl | exact Int32.zero_add _ | exact ix8 _ | exact ix12 _ | exact ix7r _ _ | exact n7 | exact n0 | exact n1) (by assumption) rfl ?_ | refine eal rfl (by assumption) (by assumption) rfl ?_ | refine eri rfl ?_ | refine erv rfl ?_ | refine erl rfl ?_ | refine era rfl ?_ | refine erz0 rfl ?_ | refine erz1 rfl ?_)
    try dsimp only [set1, set2, kilP, List.set_cons_zero, List.set_cons_succ, List.getElem?_cons_zero, List.getElem?_cons_succ, List.nil_append, List.cons_append, Option.toList_some, Option.toList_none]
    refine ei _ rfl rfl (fun c1 => ?_) (fun c1 => ?_)
    · exact K M A _ hV hp (fun i hi => hq i (by omega))
    · exact absurd (nI_le (by omega) (by omega)) c1
  | succ n ih =>
    intro k M A hV hk hp hq
    have h0 := hV.1.1.1
    obtain ⟨c1', c2', c3', c4', c5', c6', c7', c8', c9', c10', c11', c12', c13', c14', -⟩ := hV.1.1.c
    have hk3 : k < 3 := by omega
    repeat (first | refine es rfl rfl rfl ?_ | refine eg rfl (by assumption) rfl ?_ | refine eanE rfl (by assumption) (by with_reducible first | exact rfl | exact Int32.zero_add _ | exact ix8 _ | exact ix12 _ | exact ix7r _ _ | exact n7 | exact n0 | exact n1) (by assumption) rfl ?_ | refine eal rfl (by assumption) (by assumption) rfl ?_ | refine eri rfl ?_ | refine erv rfl ?_ | refine erl rfl ?_ | refine era rfl ?_ | refine erz0 rfl ?_ | refine erz1 rfl ?_)
    try dsimp only [set1, set2, kilP, List.set_cons_zero, List.set_cons_succ, List.getElem?_cons_zero, List.getElem?_cons_succ, List.nil_append, List.cons_append, Option.toList_some, Option.toList_none]
    refine ei _ rfl rfl (fun c1 => ?_) (fun c1 => ?_)
    · exact absurd c1 (nI_ge (by omega) (by omega))
    repeat (first | refine es rfl rfl rfl ?_ | refine eg rfl (by assumption) rfl ?_ | refine eanE rfl (by assumption) (by with_reducible first | exact rfl | exact Int32.zero_add _ | exact ix8 _ | exact ix12 _ | exact ix7r _ _ | exact n7 | exact n0 | exact n1) (by assumption) rfl ?_ | refine eal rfl (by assumption) (by assumption) rfl ?_ | refine eri rfl ?_ | refine erv rfl ?_ | refine erl rfl ?_ | refine era rfl ?_ | refine erz0 rfl ?_ | refine erz1 rfl ?_)
    try dsimp only [set1, set2, kilP, List.set_cons_zero, List.set_cons_succ, List.getElem?_cons_zero, List.getElem?_cons_succ, List.nil_append, List.cons_append, Option.toList_some, Option.toList_none]
    rw [hp k (by omega)]
    refine etM rfl c14' hk3 rfl (fun M2 eM => ?_)
    repeat (refine ng 76 rfl ?_; first | refine es rfl rfl rfl ?_ | refine eg rfl (by assumption) rfl ?_ | refine eanE rfl (by assumption) (by with_reducible first | exact rfl | exact Int32.zero_add _ | exact ix8 _ | exact ix12 _ | exact ix7r _ _ | exact n7 | exact n0 | exact n1) (by assumption) rfl ?_ | refine eal rfl (by assumption) (by assumption) rfl ?_ | refine eri rfl ?_ | refine erv rfl ?_ | refine erl rfl ?_ | refine era rfl ?_ | refine erz0 rfl ?_ | refine erz1 rfl ?_)
    try dsimp only [set1, set2, kilP, List.set_cons_zero, List.set_cons_succ, List.getElem?_cons_zero, List.getElem?_cons_succ, List.nil_append, List.cons_append, Option.toList_some, Option.toList_none]
    rw [nI_1]
    refine ih (k + 1) M2 _ (hV.ar (k := 14) eM (by omega)) (by omega) hp (fun i hi => ?_)
    show upd (A 14) k (nI (c k)) i = nI (c i)
    by_cases e : i = k
    · rw [e, pk_us]
    · rw [pk_un e]; exact hq i (by omega)
/-- one row of pairs is tried -/
theorem y_leaf {many : Nat} {c : Fo} {bp bm : Int32} {ac : Sa} {A : Ar} {L3 : Option Value} {P : Option Value → Mm → Prop} (hI : Inv σ C) (hm3 : many ≤ 3) (hc : ∀ i, i < many → c i < 49) (hV : yZ M b a σ oa rd r q5 sd M0 A0 bp bm A) (hp : ∀ i, i < many → A 13 i = nI (c i)) (hac : saR bp bm (A 14) ac) (K : ∀ M' A' bp' bm' L3, yZ M' b a σ oa rd r q5 sd M0 A0 bp' bm' A' → (∀ i, i < many → A' 13 i = nI (c i)) → saR bp' bm' (A' 14) (lfP many c ac (chn σ.T.hs.n c σ.f many)) → Ev ad 3 (rX13_seeksOf ad) (99, [some (.ref b), some (.int (nI many)), some (.int 1), L3], [], M') P) : Ev ad 3 (rX13_seeksOf ad) (22, [some (.ref b), some (.int (nI many)), some (.int 1), L3], [], M) P := by
  have hn7 := hI.n7
  have h0 := hV.1.1.1
  repeat (first | refine es rfl rfl rfl ?_ | refine eg rfl (by assumption) rfl ?_ | refine eanE rfl (by assumption) (by with_reducible first | exact rfl | exact Int32.zero_add _ | exact ix8 _ | exact ix12 _ | exact ix7r _ _ | exact n7 | exact n0 | exact n1) (by assumption) rfl ?_ | refine eal rfl (by assumption) (by assumption) rfl ?_ | refine eri rfl ?_ | refine erv rfl ?_ | refine erl rfl ?_ | refine era rfl ?_ | refine erz0 rfl ?_ | refine erz1 rfl ?_)
  try dsimp only [set1, set2, kilP, List.set_cons_zero, List.set_cons_succ, List.getElem?_cons_zero, List.getElem?_cons_succ, List.nil_append, List.cons_append, Option.toList_some, Option.toList_none]
  refine ecv rfl rfl (by assumption) rfl rfl rfl (y_tries hV.1.1) (by first | rfl | exact Nat.blt_eq.mpr (by omega)) ?_
  rintro v M2 ⟨rfl, g, hg, eM⟩
  have hV2 := hV.ar (k := 5) eM (by omega)
  have k0 := hV2.1.1.1
  have hgf : ∀ j, j < 7 → g j = σ.f j := fun j hj => (hg j hj).trans (hV.1.2.2.2 j (by omega))
  have hgo : okR g := okR_cp hI.ok hgf
  try dsimp only [set1, set2, kilP, List.set_cons_zero, List.set_cons_succ, List.getElem?_cons_zero, List.getElem?_cons_succ, List.nil_append, List.cons_append, Option.toList_some, Option.toList_none]
  repeat (first | refine es rfl rfl rfl ?_ | refine eg rfl (by assumption) rfl ?_ | refine eanE rfl (by assumption) (by with_reducible first | exact rfl | exact Int32.zero_add _ | exact ix8 _ | exact ix12 _ | exact ix7r _ _ | exact n7 | exact n0 | exact n1) (by assumption) rfl ?_ | refine eal rfl (by assumption) (by assumption) rfl ?_ | refine eri rfl ?_ | refine erv rfl ?_ | refine erl rfl ?_ | refine era rfl ?_ | refine erz0 rfl ?_ | refine erz1 rfl ?_)
  try dsimp only [set1, set2, kilP, List.set_cons_zero, List.set_cons_succ, List.getElem?_cons_zero, List.getElem?_cons_succ, List.nil_append, List.cons_append, Option.toList_some, Option.toList_none]
  refine ecv rfl rfl (by assumption) rfl rfl rfl (y_done (c := c) hn7 hm3 hc hV2 hp) (by first | rfl | exact Nat.blt_eq.mpr (by omega)) ?_
  rintro v M3 ⟨rfl, g3, eM3, hg3⟩
  have hV3 := hV2.ar (k := 5) eM3 (by omega)
  have w0 := hV3.1.1.1
  have w5 : M3.1 (b + 5) = ints 7 g3 := hV3.1.1.c.2.2.2.2.1
  have hop := chn_cg (N := σ.T.hs.n) (c := c) hgo hgf many hc
  have hg3' : ∀ tr, chn σ.T.hs.n c g many = some tr → g3 = tr := hg3
  have eA : (sA A 5 g) 5 = g := rfl
  cases e1 : chn σ.T.hs.n c g many with
  | none =>
    rw [e1] at hop
    have e2 : chn σ.T.hs.n c σ.f many = none := by
      cases e2 : chn σ.T.hs.n c σ.f many with
      | none => rfl
      | some y => rw [e2] at hop; exact absurd hop id
    rw [show smI (chn σ.T.hs.n c ((sA A 5 g) 5) many) = 0 by rw [eA, e1]]
    try dsimp only [set1, set2, kilP, List.set_cons_zero, List.set_cons_succ, List.getElem?_cons_zero, List.getElem?_cons_succ, List.nil_append, List.cons_append, Option.toList_some, Option.toList_none]
    repeat (refine ng 99 rfl ?_; first | refine es rfl rfl rfl ?_ | refine eg rfl (by assumption) rfl ?_ | refine eanE rfl (by assumption) (by with_reducible first | exact rfl | exact Int32.zero_add _ | exact ix8 _ | exact ix12 _ | exact ix7r _ _ | exact n7 | exact n0 | exact n1) (by assumption) rfl ?_ | refine eal rfl (by assumption) (by assumption) rfl ?_ | refine eri rfl ?_ | refine erv rfl ?_ | refine erl rfl ?_ | refine era rfl ?_ | refine erz0 rfl ?_ | refine erz1 rfl ?_)
    try dsimp only [set1, set2, kilP, List.set_cons_zero, List.set_cons_succ, List.getElem?_cons_zero, List.getElem?_cons_succ, List.nil_append, List.cons_append, Option.toList_some, Option.toList_none]
    refine K M3 _ bp bm _ hV3 hp ?_
    rw [e2]
    exact hac
  | some x =>
    rw [e1] at hop
    cases e2 : chn σ.T.hs.n c σ.f many with
    | none => rw [e2] at hop; exact absurd hop id
    | some y =>
      rw [e2] at hop
      obtain ⟨o1, o2⟩ := hop
      have e3 := hg3' x e1
      subst e3
      have hpc : pcN g3 = pcN y := pcN_cg o1 o2
      have h7 := pcN_7 y
      rw [show smI (chn σ.T.hs.n c ((sA A 5 g) 5) many) = 1 by rw [eA, e1]]
      try dsimp only [set1, set2, kilP, List.set_cons_zero, List.set_cons_succ, List.getElem?_cons_zero, List.getElem?_cons_succ, List.nil_append, List.cons_append, Option.toList_some, Option.toList_none]
      repeat (first | refine es rfl rfl rfl ?_ | refine eg rfl (by assumption) rfl ?_ | refine eanE rfl (by assumption) (by with_reducible first | exact rfl | exact Int32.zero_add _ | exact ix8 _ | exact ix12 _ | exact ix7r _ _ | exact n7 | exact n0 | exact n1) (by assumption) rfl ?_ | refine eal rfl (by assumption) (by assumption) rfl ?_ | refine eri rfl ?_ | refine erv rfl ?_ | refine erl rfl ?_ | refine era rfl ?_ | refine erz0 rfl ?_ | refine erz1 rfl ?_)
      try dsimp only [set1, set2, kilP, List.set_cons_zero, List.set_cons_succ, List.getElem?_cons_zero, List.getElem?_cons_succ, List.nil_append, List.cons_append, Option.toList_some, Option.toList_none]
      refine ecsr rfl rfl rfl rfl rfl rfl (y_pairedIn w5 (by omega) rfl o1) (by first | rfl | exact Nat.blt_eq.mpr (by omega)) rfl ?_
      rw [mbF_N _ 7 (Nat.le_refl _)]
      refine ecsr rfl rfl rfl rfl rfl rfl (y_bits (mbN_128 _)) (by first | rfl | exact Nat.blt_eq.mpr (by omega)) rfl ?_
      rw [show popc (mbN g3 7) = pcN y from hpc]
      repeat (first | refine es rfl rfl rfl ?_ | refine eg rfl (by assumption) rfl ?_ | refine eanE rfl (by assumption) (by with_reducible first | exact rfl | exact Int32.zero_add _ | exact ix8 _ | exact ix12 _ | exact ix7r _ _ | exact n7 | exact n0 | exact n1) (by assumption) rfl ?_ | refine eal rfl (by assumption) (by assumption) rfl ?_ | refine eri rfl ?_ | refine erv rfl ?_ | refine erl rfl ?_ | refine era rfl ?_ | refine erz0 rfl ?_ | refine erz1 rfl ?_)
      try dsimp only [set1, set2, kilP, List.set_cons_zero, List.set_cons_succ, List.getElem?_cons_zero, List.getElem?_cons_succ, List.nil_append, List.cons_append, Option.toList_some, Option.toList_none]
      rw [e2] at K
      have key : (nI (pcN y) ≤ bp ∧ lfU (pcN y) many c ac = ac) ∨ (¬ nI (pcN y) ≤ bp ∧ lfU (pcN y) many c ac = some (pcN y, many, c)) := by
        cases ac with
        | none =>
          refine Or.inr ⟨?_, rfl⟩
          rw [show bp = -1 from hac]
          intro q
          exact nI_pos (n := pcN y) (by omega) (Int32.lt_of_le_of_lt q (by decide))
        | some z =>
          obtain ⟨m, l, e⟩ := z
          obtain ⟨b1, b2, _⟩ := id hac
          rw [b2, lfU]
          by_cases q : m < pcN y
          · exact Or.inr ⟨nI_ge q (by omega), if_pos q⟩
          · exact Or.inl ⟨nI_le (by omega) (by omega), if_neg q⟩
      have K2 : ∀ M' A' bp' bm' L3, yZ M' b a σ oa rd r q5 sd M0 A0 bp' bm' A' → (∀ i, i < many → A' 13 i = nI (c i)) → saR bp' bm' (A' 14) (lfU (pcN y) many c ac) → Ev ad 3 (rX13_seeksOf ad) (99, [some (.ref b), some (.int (nI many)), some (.int 1), L3], [], M') P := K
      rcases key with ⟨q1, q2⟩ | ⟨q1, q2⟩
      · refine ei _ rfl rfl (fun c1 => ?_) (fun c1 => ?_)
        rotate_left
        · exact absurd q1 c1
        exact K2 M3 _ bp bm _ hV3 hp (by rw [q2]; exact hac)
      · refine ei _ rfl rfl (fun c1 => ?_) (fun c1 => ?_)
        · exact absurd c1 q1
        repeat (first | refine es rfl rfl rfl ?_ | refine eg rfl (by assumption) rfl ?_ | refine eanE rfl (by assumption) (by with_reducible first | exact rfl | exact Int32.zero_add _ | exact ix8 _ | exact ix12 _ | exact ix7r _ _ | exact n7 | exact n0 | exact n1) (by assumption) rfl ?_ | refine eal rfl (by assumption) (by assumption) rfl ?_ | refine eri rfl ?_ | refine erv rfl ?_ | refine erl rfl ?_ | refine era rfl ?_ | refine erz0 rfl ?_ | refine erz1 rfl ?_)
        try dsimp only [set1, set2, kilP, List.set_cons_zero, List.set_cons_succ, List.getElem?_cons_zero, List.getElem?_cons_succ, List.nil_append, List.cons_append, Option.toList_some, Option.toList_none]
        refine ecsr rfl rfl rfl rfl rfl rfl (y_pairedIn w5 (by omega) rfl o1) (by first | rfl | exact Nat.blt_eq.mpr (by omega)) rfl ?_
        rw [mbF_N _ 7 (Nat.le_refl _)]
        refine ecsr rfl rfl rfl rfl rfl rfl (y_bits (mbN_128 _)) (by first | rfl | exact Nat.blt_eq.mpr (by omega)) rfl ?_
        rw [show popc (mbN g3 7) = pcN y from hpc]
        refine epM (fs' := yF b (oa, (.ref a, rd), r, q5.1, q5.2.1, q5.2.2, (nI (pcN y), bm), sd)) rfl w0 rfl rfl rfl (fun M4 eM4 => ?_)
        have hV4 := hV3.ob eM4
        have x0 := hV4.1.1.1
        repeat (first | refine es rfl rfl rfl ?_ | refine eg rfl (by assumption) rfl ?_ | refine eanE rfl (by assumption) (by with_reducible first | exact rfl | exact Int32.zero_add _ | exact ix8 _ | exact ix12 _ | exact ix7r _ _ | exact n7 | exact n0 | exact n1) (by assumption) rfl ?_ | refine eal rfl (by assumption) (by assumption) rfl ?_ | refine eri rfl ?_ | refine erv rfl ?_ | refine erl rfl ?_ | refine era rfl ?_ | refine erz0 rfl ?_ | refine erz1 rfl ?_)
        try dsimp only [set1, set2, kilP, List.set_cons_zero, List.set_cons_succ, List.getElem?_cons_zero, List.getElem?_cons_succ, List.nil_append, List.cons_append, Option.toList_some, Option.toList_none]
        refine epM (fs' := yF b (oa, (.ref a, rd), r, q5.1, q5.2.1, q5.2.2, (nI (pcN y), nI many), sd)) rfl x0 rfl rfl rfl (fun M5 eM5 => ?_)
        have hV5 := hV4.ob eM5
        repeat (refine ng 76 rfl ?_; first | refine es rfl rfl rfl ?_ | refine eg rfl (by assumption) rfl ?_ | refine eanE rfl (by assumption) (by with_reducible first | exact rfl | exact Int32.zero_add _ | exact ix8 _ | exact ix12 _ | exact ix7r _ _ | exact n7 | exact n0 | exact n1) (by assumption) rfl ?_ | refine eal rfl (by assumption) (by assumption) rfl ?_ | refine eri rfl ?_ | refine erv rfl ?_ | refine erl rfl ?_ | refine era rfl ?_ | refine erz0 rfl ?_ | refine erz1 rfl ?_)
        try dsimp only [set1, set2, kilP, List.set_cons_zero, List.set_cons_succ, List.getElem?_cons_zero, List.getElem?_cons_succ, List.nil_append, List.cons_append, Option.toList_some, Option.toList_none]
        refine y_cpB (c := c) hm3 (fun M6 A6 L3 hV6 hp6 hq6 => ?_) many 0 M5 _ hV5 (by omega) hp (fun i hi => absurd hi (by omega))
        refine K2 M6 A6 _ _ _ hV6 hp6 ?_
        rw [q2]
        exact ⟨h7, rfl, rfl, hm3, fun i hi => ⟨hc i hi, hq6 i hi⟩⟩
/-- all rows of pairs that begin so -/
theorem y_odo {many : Nat} {P : Option Value → Mm → Prop} (hI : Inv σ C) (hm3 : many ≤ 3) : ∀ (n d : Nat) (c : Fo) (M : Mm) (A : Ar) (bp bm : Int32) (ac : Sa) (L3 : Option Value), d + n = many → (∀ i, i < many → c i < 49) → (∀ i, d ≤ i → c i = 0) → yZ M b a σ oa rd r q5 sd M0 A0 bp bm A → (∀ i, i < many → A 13 i = nI (c i)) → saR bp bm (A 14) ac → (∀ M' A' bp' bm' L3, yZ M' b a σ oa rd r q5 sd M0 A0 bp' bm' A' → (∀ i, i < d → A' 13 i = nI (c i)) → (∀ i, d ≤ i → i < many → A' 13 i = nI 48) → saR bp' bm' (A' 14) (swT σ.T.hs.n σ.f n d c ac) → Ev ad 3 (rX13_seeksOf ad) (99, [some (.ref b), some (.int (nI many)), some (.int 1), L3], [], M') P) → Ev ad 3 (rX13_seeksOf ad) (22, [some (.ref b), some (.int (nI many)), some (.int 1), L3], [], M) P := by
  intro n
  induction n with
  | zero =>
    intro d c M A bp bm ac L3 hd hc hz hV hp hac K
    have e : d = many := by omega
    subst e
    refine y_leaf hI hm3 hc hV hp hac (fun M' A' bp' bm' L3 hV' hp' hac' => ?_)
    exact K M' A' bp' bm' L3 hV' hp' (fun i a1 a2 => absurd a2 (by omega)) (by rw [swT]; exact hac')
  | succ n ih =>
    intro d c M A bp bm ac L3 hd hc hz hV hp hac K
    have main : ∀ (k q : Nat) (M : Mm) (A : Ar) (bp bm : Int32) (ac : Sa) (L3 : Option Value), q + (k + 1) = 49 → yZ M b a σ oa rd r q5 sd M0 A0 bp bm A → (∀ i, i < many → A 13 i = nI (updN c d q i)) → saR bp bm (A 14) ac → (∀ M' A' bp' bm' L3, yZ M' b a σ oa rd r q5 sd M0 A0 bp' bm' A' → (∀ i, i < d → A' 13 i = nI (c i)) → (∀ i, d ≤ i → i < many → A' 13 i = nI 48) → saR bp' bm' (A' 14) (swTL (swT σ.T.hs.n σ.f n (d + 1)) d c (k + 1) q ac) → Ev ad 3 (rX13_seeksOf ad) (99, [some (.ref b), some (.int (nI many)), some (.int 1), L3], [], M') P) → Ev ad 3 (rX13_seeksOf ad) (22, [some (.ref b), some (.int (nI many)), some (.int 1), L3], [], M) P := by
      intro k
      induction k with
      | zero =>
        intro q M A bp bm ac L3 hq hV hp hac K
        refine ih (d + 1) (updN c d q) M A bp bm ac L3 (by omega) (fun i hi => by by_cases e : i = d; (rw [e, updN_s]; omega); (rw [updN_n e]; exact hc i hi)) (fun i hi => by rw [updN_n (by omega)]; exact hz i (by omega)) hV hp hac (fun M' A' bp' bm' L3 hV' h1 h2 hac' => ?_)
        refine K M' A' bp' bm' L3 hV' (fun i hi => by rw [h1 i (by omega), updN_n (by omega)]) (fun i a1 a2 => ?_) (by rw [swTL, swTL]; exact hac')
        by_cases e : i = d
        · rw [e, h1 d (by omega), updN_s, show q = 48 by omega]
        · exact h2 i (by omega) a2
      | succ k ihk =>
        intro q M A bp bm ac L3 hq hV hp hac K
        refine ih (d + 1) (updN c d q) M A bp bm ac L3 (by omega) (fun i hi => by by_cases e : i = d; (rw [e, updN_s]; omega); (rw [updN_n e]; exact hc i hi)) (fun i hi => by rw [updN_n (by omega)]; exact hz i (by omega)) hV hp hac (fun M' A' bp' bm' L3 hV' h1 h2 hac' => ?_)
        have h0 := hV'.1.1.1
        repeat (first | refine es rfl rfl rfl ?_ | refine eg rfl (by assumption) rfl ?_ | refine eanE rfl (by assumption) (by with_reducible first | exact rfl | exact Int32.zero_add _ | exact ix8 _ | exact ix12 _ | exact ix7r _ _ | exact n7 | exact n0 | exact n1) (by assumption) rfl ?_ | refine eal rfl (by assumption) (by assumption) rfl ?_ | refine eri rfl ?_ | refine erv rfl ?_ | refine erl rfl ?_ | refine era rfl ?_ | refine erz0 rfl ?_ | refine erz1 rfl ?_)
        try dsimp only [set1, set2, kilP, List.set_cons_zero, List.set_cons_succ, List.getElem?_cons_zero, List.getElem?_cons_succ, List.nil_append, List.cons_append, Option.toList_some, Option.toList_none]
        refine ecv rfl rfl (by assumption) rfl rfl rfl (y_next (d := d + 1) (n := n) (c := updN c d q) hm3 (by omega) (fun _ => by show updN c d q d < 48; rw [updN_s]; omega) hV' h1 (fun i a1 a2 => h2 i a1 a2)) (by first | rfl | exact Nat.blt_eq.mpr (by omega)) ?_
        rintro v M2 ⟨rfl, A2, hV2, e14, f1, f2, f3⟩
        have f2 : A2 13 d = nI (updN c d q d + 1) := f2 (by omega)
        rw [updN_s] at f2
        rw [show (if 0 < d + 1 then (1 : Int32) else 0) = 1 from if_pos (by omega)]
        try dsimp only [set1, set2, kilP, List.set_cons_zero, List.set_cons_succ, List.getElem?_cons_zero, List.getElem?_cons_succ, List.nil_append, List.cons_append, Option.toList_some, Option.toList_none]
        repeat (refine ng 22 rfl ?_; first | refine es rfl rfl rfl ?_ | refine eg rfl (by assumption) rfl ?_ | refine eanE rfl (by assumption) (by with_reducible first | exact rfl | exact Int32.zero_add _ | exact ix8 _ | exact ix12 _ | exact ix7r _ _ | exact n7 | exact n0 | exact n1) (by assumption) rfl ?_ | refine eal rfl (by assumption) (by assumption) rfl ?_ | refine eri rfl ?_ | refine erv rfl ?_ | refine erl rfl ?_ | refine era rfl ?_ | refine erz0 rfl ?_ | refine erz1 rfl ?_)
        try dsimp only [set1, set2, kilP, List.set_cons_zero, List.set_cons_succ, List.getElem?_cons_zero, List.getElem?_cons_succ, List.nil_append, List.cons_append, Option.toList_some, Option.toList_none]
        refine ihk (q + 1) M2 A2 bp' bm' _ _ (by omega) hV2 (fun i hi => ?_) (by rw [e14]; exact hac') ?_
        · by_cases e : i = d
          · rw [e, updN_s]; exact f2
          · rw [updN_n e]
            rcases Nat.lt_or_ge i d with w | w
            · rw [f1 i (by omega), updN_n e]
            · rw [f3 i (by omega) hi, hz i (by omega)]; rfl
        · rw [swTL] at K
          exact K
    refine main 48 0 M A bp bm ac L3 rfl hV (fun i hi => ?_) hac (by rw [swT] at K; exact K)
    by_cases e : i = d
    · rw [e, updN_s, hp d (by omega), hz d (Nat.le_refl _)]
    · rw [updN_n e]; exact hp i hi
theorem y_sof_z {many : Nat} {bp bm : Int32} {bs : Nat → Int32} {P : Option Value → Mm → Prop} (hm3 : many ≤ 3) (K : ∀ M A L2, yZ M b a σ oa rd r q5 sd M0 A0 bp bm A → (∀ i, i < many → A 13 i = 0) → A 14 = bs → Ev ad 3 (rX13_seeksOf ad) (20, [some (.ref b), some (.int (nI many)), L2, none], [], M) P) : ∀ (n k : Nat) (M : Mm) (A : Ar), yZ M b a σ oa rd r q5 sd M0 A0 bp bm A → k + n = many → (∀ i, i < k → A 13 i = 0) → A 14 = bs → Ev ad 3 (rX13_seeksOf ad) (2, [some (.ref b), some (.int (nI many)), some (.int (nI k)), none], [], M) P := by
  intro n
  induction n with
  | zero =>
    intro k M A hV hk hq hb
    have h0 := hV.1.1.1
    repeat (first | refine es rfl rfl rfl ?_ | refine eg rfl (by assumption) rfl ?_ | refine eanE rfl (by assumption) (by with_reducible first | exact rfl | exact Int32.zero_add _ | exact ix8 _ | exact ix12 _ | exact ix7r _ _ | exact n7 | exact n0 | exact n1) (by assumption) rfl ?_ | refine eal rfl (by assumption) (by assumption) rfl ?_ | refine eri rfl ?_ | refine erv rfl ?_ | refine erl rfl ?_ | refine era rfl ?_ | refine erz0 rfl ?_ | refine erz1 rfl ?_)
    try dsimp only [set1, set2, kilP, List.set_cons_zero, List.set_cons_succ, List.getElem?_cons_zero, List.getElem?_cons_succ, List.nil_append, List.cons_append, Option.toList_some, Option.toList_none]
    refine ei _ rfl rfl (fun c1 => ?_) (fun c1 => ?_)
    · exact K M A _ hV (fun i hi => hq i (by omega)) hb
    · exact absurd (nI_le (by omega) (by omega)) c1
  | succ n ih =>
    intro k M A hV hk hq hb
    have h0 := hV.1.1.1
    obtain ⟨c1', c2', c3', c4', c5', c6', c7', c8', c9', c10', c11', c12', c13', c14', -⟩ := hV.1.1.c
    have hk3 : k < 3 := by omega
    repeat (first | refine es rfl rfl rfl ?_ | refine eg rfl (by assumption) rfl ?_ | refine eanE rfl (by assumption) (by with_reducible first | exact rfl | exact Int32.zero_add _ | exact ix8 _ | exact ix12 _ | exact ix7r _ _ | exact n7 | exact n0 | exact n1) (by assumption) rfl ?_ | refine eal rfl (by assumption) (by assumption) rfl ?_ | refine eri rfl ?_ | refine erv rfl ?_ | refine erl rfl ?_ | refine era rfl ?_ | refine erz0 rfl ?_ | refine erz1 rfl ?_)
    try dsimp only [set1, set2, kilP, List.set_cons_zero, List.set_cons_succ, List.getElem?_cons_zero, List.getElem?_cons_succ, List.nil_append, List.cons_append, Option.toList_some, Option.toList_none]
    refine ei _ rfl rfl (fun c1 => ?_) (fun c1 => ?_)
    · exact absurd c1 (nI_ge (by omega) (by omega))
    repeat (first | refine es rfl rfl rfl ?_ | refine eg rfl (by assumption) rfl ?_ | refine eanE rfl (by assumption) (by with_reducible first | exact rfl | exact Int32.zero_add _ | exact ix8 _ | exact ix12 _ | exact ix7r _ _ | exact n7 | exact n0 | exact n1) (by assumption) rfl ?_ | refine eal rfl (by assumption) (by assumption) rfl ?_ | refine eri rfl ?_ | refine erv rfl ?_ | refine erl rfl ?_ | refine era rfl ?_ | refine erz0 rfl ?_ | refine erz1 rfl ?_)
    try dsimp only [set1, set2, kilP, List.set_cons_zero, List.set_cons_succ, List.getElem?_cons_zero, List.getElem?_cons_succ, List.nil_append, List.cons_append, Option.toList_some, Option.toList_none]
    refine etM rfl c13' hk3 rfl (fun M2 eM => ?_)
    repeat (refine ng 2 rfl ?_; first | refine es rfl rfl rfl ?_ | refine eg rfl (by assumption) rfl ?_ | refine eanE rfl (by assumption) (by with_reducible first | exact rfl | exact Int32.zero_add _ | exact ix8 _ | exact ix12 _ | exact ix7r _ _ | exact n7 | exact n0 | exact n1) (by assumption) rfl ?_ | refine eal rfl (by assumption) (by assumption) rfl ?_ | refine eri rfl ?_ | refine erv rfl ?_ | refine erl rfl ?_ | refine era rfl ?_ | refine erz0 rfl ?_ | refine erz1 rfl ?_)
    try dsimp only [set1, set2, kilP, List.set_cons_zero, List.set_cons_succ, List.getElem?_cons_zero, List.getElem?_cons_succ, List.nil_append, List.cons_append, Option.toList_some, Option.toList_none]
    rw [nI_1]
    refine ih (k + 1) M2 _ (hV.ar (k := 13) eM (by omega)) (by omega) (fun i hi => ?_) hb
    show upd (A 13) k 0 i = 0
    by_cases e : i = k
    · rw [e, pk_us]
    · rw [pk_un e]; exact hq i (by omega)
theorem y_seeksOf {many : Nat} {bp bm : Int32} {ac : Sa} {A : Ar} (hI : Inv σ C) (hm3 : many ≤ 3) (hV : yZ M b a σ oa rd r q5 sd M0 A0 bp bm A) (hac : saR bp bm (A 14) ac) : EvM ad 3 (iX13_seeksOf ad) [.ref b, .int (nI many)] M (fun v' M' => v' = none ∧ ∃ bp' bm' A', yZ M' b a σ oa rd r q5 sd M0 A0 bp' bm' A' ∧ saR bp' bm' (A' 14) (swU σ.T.hs.n many 0 σ.f (fun _ => 0) ac)) := by
  refine ⟨Nat.le_of_ble_eq_true rfl, ?_⟩
  show Ev ad _ (rX13_seeksOf ad) (0, [some (.ref b), some (.int (nI many)), none, none], [], M) _
  repeat (refine ng 2 rfl ?_; first | refine es rfl rfl rfl ?_ | refine eg rfl (by assumption) rfl ?_ | refine eanE rfl (by assumption) (by with_reducible first | exact rfl | exact Int32.zero_add _ | exact ix8 _ | exact ix12 _ | exact ix7r _ _ | exact n7 | exact n0 | exact n1) (by assumption) rfl ?_ | refine eal rfl (by assumption) (by assumption) rfl ?_ | refine eri rfl ?_ | refine erv rfl ?_ | refine erl rfl ?_ | refine era rfl ?_ | refine erz0 rfl ?_ | refine erz1 rfl ?_)
  try dsimp only [set1, set2, kilP, List.set_cons_zero, List.set_cons_succ, List.getElem?_cons_zero, List.getElem?_cons_succ, List.nil_append, List.cons_append, Option.toList_some, Option.toList_none]
  refine y_sof_z (bs := A 14) hm3 (fun M2 A2 L2 hV2 hz2 hb2 => ?_) many 0 M A hV (by omega) (fun i hi => absurd hi (by omega)) rfl
  repeat (refine ng 22 rfl ?_; first | refine es rfl rfl rfl ?_ | refine eg rfl (by assumption) rfl ?_ | refine eanE rfl (by assumption) (by with_reducible first | exact rfl | exact Int32.zero_add _ | exact ix8 _ | exact ix12 _ | exact ix7r _ _ | exact n7 | exact n0 | exact n1) (by assumption) rfl ?_ | refine eal rfl (by assumption) (by assumption) rfl ?_ | refine eri rfl ?_ | refine erv rfl ?_ | refine erl rfl ?_ | refine era rfl ?_ | refine erz0 rfl ?_ | refine erz1 rfl ?_)
  try dsimp only [set1, set2, kilP, List.set_cons_zero, List.set_cons_succ, List.getElem?_cons_zero, List.getElem?_cons_succ, List.nil_append, List.cons_append, Option.toList_some, Option.toList_none]
  refine y_odo hI hm3 many 0 (fun _ => 0) M2 A2 bp bm ac _ (by omega) (fun i hi => by omega) (fun i _ => rfl) hV2 hz2 (by rw [hb2]; exact hac) (fun M3 A3 bp3 bm3 L3 hV3 h1 h2 hac3 => ?_)
  have h0 := hV3.1.1.1
  repeat (first | refine es rfl rfl rfl ?_ | refine eg rfl (by assumption) rfl ?_ | refine eanE rfl (by assumption) (by with_reducible first | exact rfl | exact Int32.zero_add _ | exact ix8 _ | exact ix12 _ | exact ix7r _ _ | exact n7 | exact n0 | exact n1) (by assumption) rfl ?_ | refine eal rfl (by assumption) (by assumption) rfl ?_ | refine eri rfl ?_ | refine erv rfl ?_ | refine erl rfl ?_ | refine era rfl ?_ | refine erz0 rfl ?_ | refine erz1 rfl ?_)
  try dsimp only [set1, set2, kilP, List.set_cons_zero, List.set_cons_succ, List.getElem?_cons_zero, List.getElem?_cons_succ, List.nil_append, List.cons_append, Option.toList_some, Option.toList_none]
  refine ecv rfl rfl (by assumption) rfl rfl rfl (y_next (d := 0) (n := many) (c := fun _ => 0) hm3 (by omega) (fun q => absurd q (by omega)) hV3 h1 h2) (by first | rfl | exact Nat.blt_eq.mpr (by omega)) ?_
  rintro v M4 ⟨rfl, A4, hV4, e14, _⟩
  try dsimp only [set1, set2, kilP, List.set_cons_zero, List.set_cons_succ, List.getElem?_cons_zero, List.getElem?_cons_succ, List.nil_append, List.cons_append, Option.toList_some, Option.toList_none]
  repeat (first | refine es rfl rfl rfl ?_ | refine eg rfl (by assumption) rfl ?_ | refine eanE rfl (by assumption) (by with_reducible first | exact rfl | exact Int32.zero_add _ | exact ix8 _ | exact ix12 _ | exact ix7r _ _ | exact n7 | exact n0 | exact n1) (by assumption) rfl ?_ | refine eal rfl (by assumption) (by assumption) rfl ?_ | refine eri rfl ?_ | refine erv rfl ?_ | refine erl rfl ?_ | refine era rfl ?_ | refine erz0 rfl ?_ | refine erz1 rfl ?_)
  try dsimp only [set1, set2, kilP, List.set_cons_zero, List.set_cons_succ, List.getElem?_cons_zero, List.getElem?_cons_succ, List.nil_append, List.cons_append, Option.toList_some, Option.toList_none]
  refine ⟨rfl, bp3, bm3, A4, hV4, ?_⟩
  rw [e14, ← swT_U (f := σ.f) many 0 (fun _ => 0) ac σ.f rfl]
  exact hac3
theorem y_seeks_loop (hI : Inv σ C) : ∀ (n k : Nat) (M : Mm) (A : Ar) (bp bm : Int32) (ac : Sa), k + n = 4 → yZ M b a σ oa rd r q5 sd M0 A0 bp bm A → saR bp bm (A 14) ac → Ev ad 4 (rX13_seeks ad) (7, [some (.ref b), some (.int (nI k))], [], M) (fun v' M' => v' = none ∧ ∃ bp' bm' A', yZ M' b a σ oa rd r q5 sd M0 A0 bp' bm' A' ∧ saR bp' bm' (A' 14) (swF σ.T.hs.n σ.f n k ac)) := by
  intro n
  induction n with
  | zero =>
    intro k M A bp bm ac hk hV hac
    have h0 := hV.1.1.1
    repeat (first | refine es rfl rfl rfl ?_ | refine eg rfl (by assumption) rfl ?_ | refine eanE rfl (by assumption) (by with_reducible first | exact rfl | exact Int32.zero_add _ | exact ix8 _ | exact ix12 _ | exact ix7r _ _ | exact n7 | exact n0 | exact n1) (by assumption) rfl ?_ | refine eal rfl (by assumption) (by assumption) rfl ?_ | refine eri rfl ?_ | refine erv rfl ?_ | refine erl rfl ?_ | refine era rfl ?_ | refine erz0 rfl ?_ | refine erz1 rfl ?_)
    try dsimp only [set1, set2, kilP, List.set_cons_zero, List.set_cons_succ, List.getElem?_cons_zero, List.getElem?_cons_succ, List.nil_append, List.cons_append, Option.toList_some, Option.toList_none]
    refine ei _ rfl rfl (fun c => ?_) (fun c => ?_)
    · repeat (first | refine es rfl rfl rfl ?_ | refine eg rfl (by assumption) rfl ?_ | refine eanE rfl (by assumption) (by with_reducible first | exact rfl | exact Int32.zero_add _ | exact ix8 _ | exact ix12 _ | exact ix7r _ _ | exact n7 | exact n0 | exact n1) (by assumption) rfl ?_ | refine eal rfl (by assumption) (by assumption) rfl ?_ | refine eri rfl ?_ | refine erv rfl ?_ | refine erl rfl ?_ | refine era rfl ?_ | refine erz0 rfl ?_ | refine erz1 rfl ?_)
      try dsimp only [set1, set2, kilP, List.set_cons_zero, List.set_cons_succ, List.getElem?_cons_zero, List.getElem?_cons_succ, List.nil_append, List.cons_append, Option.toList_some, Option.toList_none]
      exact ⟨rfl, bp, bm, A, hV, hac⟩
    · exact absurd (show (3 : Int32) < nI k from nI_lt (a := 3) (by omega) (by omega)) c
  | succ n ih =>
    intro k M A bp bm ac hk hV hac
    have h0 := hV.1.1.1
    repeat (first | refine es rfl rfl rfl ?_ | refine eg rfl (by assumption) rfl ?_ | refine eanE rfl (by assumption) (by with_reducible first | exact rfl | exact Int32.zero_add _ | exact ix8 _ | exact ix12 _ | exact ix7r _ _ | exact n7 | exact n0 | exact n1) (by assumption) rfl ?_ | refine eal rfl (by assumption) (by assumption) rfl ?_ | refine eri rfl ?_ | refine erv rfl ?_ | refine erl rfl ?_ | refine era rfl ?_ | refine erz0 rfl ?_ | refine erz1 rfl ?_)
    try dsimp only [set1, set2, kilP, List.set_cons_zero, List.set_cons_succ, List.getElem?_cons_zero, List.getElem?_cons_succ, List.nil_append, List.cons_append, Option.toList_some, Option.toList_none]
    refine ei _ rfl rfl (fun c => ?_) (fun c => ?_)
    · exact absurd c (nI_nlt (a := 3) (by omega) (by omega))
    repeat (first | refine es rfl rfl rfl ?_ | refine eg rfl (by assumption) rfl ?_ | refine eanE rfl (by assumption) (by with_reducible first | exact rfl | exact Int32.zero_add _ | exact ix8 _ | exact ix12 _ | exact ix7r _ _ | exact n7 | exact n0 | exact n1) (by assumption) rfl ?_ | refine eal rfl (by assumption) (by assumption) rfl ?_ | refine eri rfl ?_ | refine erv rfl ?_ | refine erl rfl ?_ | refine era rfl ?_ | refine erz0 rfl ?_ | refine erz1 rfl ?_)
    try dsimp only [set1, set2, kilP, List.set_cons_zero, List.set_cons_succ, List.getElem?_cons_zero, List.getElem?_cons_succ, List.nil_append, List.cons_append, Option.toList_some, Option.toList_none]
    refine ecv rfl rfl (by assumption) rfl rfl rfl (y_seeksOf hI (by omega) hV hac) (by first | rfl | exact Nat.blt_eq.mpr (by omega)) ?_
    rintro v M2 ⟨rfl, bp2, bm2, A2, hV2, hac2⟩
    try dsimp only [set1, set2, kilP, List.set_cons_zero, List.set_cons_succ, List.getElem?_cons_zero, List.getElem?_cons_succ, List.nil_append, List.cons_append, Option.toList_some, Option.toList_none]
    repeat (refine ng 7 rfl ?_; first | refine es rfl rfl rfl ?_ | refine eg rfl (by assumption) rfl ?_ | refine eanE rfl (by assumption) (by with_reducible first | exact rfl | exact Int32.zero_add _ | exact ix8 _ | exact ix12 _ | exact ix7r _ _ | exact n7 | exact n0 | exact n1) (by assumption) rfl ?_ | refine eal rfl (by assumption) (by assumption) rfl ?_ | refine eri rfl ?_ | refine erv rfl ?_ | refine erl rfl ?_ | refine era rfl ?_ | refine erz0 rfl ?_ | refine erz1 rfl ?_)
    try dsimp only [set1, set2, kilP, List.set_cons_zero, List.set_cons_succ, List.getElem?_cons_zero, List.getElem?_cons_succ, List.nil_append, List.cons_append, Option.toList_some, Option.toList_none]
    rw [nI_1, swF]
    exact ih (k + 1) M2 A2 bp2 bm2 _ (by omega) hV2 hac2
theorem y_seeks {A : Ar} {bp bm : Int32} (hI : Inv σ C) (hV : yZ M b a σ oa rd r q5 sd M0 A0 bp bm A) : EvM ad 4 (iX13_seeks ad) [.ref b] M (fun v' M' => v' = none ∧ ∃ bp' bm' A', yZ M' b a σ oa rd r q5 sd M0 A0 bp' bm' A' ∧ saR bp' bm' (A' 14) (swF σ.T.hs.n σ.f 4 0 none)) := by
  have h0 := hV.1.1.1
  refine ⟨Nat.le_of_ble_eq_true rfl, ?_⟩
  show Ev ad _ (rX13_seeks ad) (0, [some (.ref b), none], [], M) _
  repeat (first | refine es rfl rfl rfl ?_ | refine eg rfl (by assumption) rfl ?_ | refine eanE rfl (by assumption) (by with_reducible first | exact rfl | exact Int32.zero_add _ | exact ix8 _ | exact ix12 _ | exact ix7r _ _ | exact n7 | exact n0 | exact n1) (by assumption) rfl ?_ | refine eal rfl (by assumption) (by assumption) rfl ?_ | refine eri rfl ?_ | refine erv rfl ?_ | refine erl rfl ?_ | refine era rfl ?_ | refine erz0 rfl ?_ | refine erz1 rfl ?_)
  try dsimp only [set1, set2, kilP, List.set_cons_zero, List.set_cons_succ, List.getElem?_cons_zero, List.getElem?_cons_succ, List.nil_append, List.cons_append, Option.toList_some, Option.toList_none]
  refine epM (fs' := yF b (oa, (.ref a, rd), r, q5.1, q5.2.1, q5.2.2, (-1, bm), sd)) rfl h0 rfl rfl rfl (fun M2 eM => ?_)
  repeat (refine ng 7 rfl ?_; first | refine es rfl rfl rfl ?_ | refine eg rfl (by assumption) rfl ?_ | refine eanE rfl (by assumption) (by with_reducible first | exact rfl | exact Int32.zero_add _ | exact ix8 _ | exact ix12 _ | exact ix7r _ _ | exact n7 | exact n0 | exact n1) (by assumption) rfl ?_ | refine eal rfl (by assumption) (by assumption) rfl ?_ | refine eri rfl ?_ | refine erv rfl ?_ | refine erl rfl ?_ | refine era rfl ?_ | refine erz0 rfl ?_ | refine erz1 rfl ?_)
  try dsimp only [set1, set2, kilP, List.set_cons_zero, List.set_cons_succ, List.getElem?_cons_zero, List.getElem?_cons_succ, List.nil_append, List.cons_append, Option.toList_some, Option.toList_none]
  exact y_seeks_loop hI 4 0 M2 A (-1) bm none rfl (hV.ob eM) rfl
end RSS
