/-! The reference: exchanges -/
def chS (N q : Nat) : Option (Nat → Int32) → Option (Nat → Int32)
  | none => none
  | some tr => if gdS N tr q then some (swpF tr (q / 7) (q % 7)) else none
def chn (N : Nat) (c : Fo) (f : Nat → Int32) : Nat → Option (Nat → Int32)
  | 0 => some f
  | k + 1 => chS N (c k) (chn N c f k)
theorem chn_none {N : Nat} {c : Fo} {f : Nat → Int32} {k : Nat} (h : chn N c f k = none) : ∀ d, chn N c f (k + d) = none
  | 0 => h
  | d + 1 => by rw [show k + (d + 1) = (k + d) + 1 by omega, chn, chn_none h d]; rfl
theorem chn_ag {N : Nat} {c c' : Fo} {f : Nat → Int32} : ∀ k, (∀ i, i < k → c i = c' i) → chn N c f k = chn N c' f k
  | 0, _ => rfl
  | k + 1, h => by rw [chn, chn, chn_ag k (fun i hi => h i (by omega)), h k (by omega)]
/-- the same rows below seven -/
def opR : Option (Nat → Int32) → Option (Nat → Int32) → Prop
  | none, none => True
  | some f, some g => okR f ∧ ∀ j, j < 7 → f j = g j
  | _, _ => False
theorem chn_cg {N : Nat} {c : Fo} {f g : Nat → Int32} (hf : okR f) (h : ∀ j, j < 7 → f j = g j) : ∀ k, (∀ i, i < k → c i < 49) → opR (chn N c f k) (chn N c g k)
  | 0, _ => ⟨hf, h⟩
  | k + 1, hc => by
    have ih := chn_cg (N := N) (c := c) hf h k (fun i hi => hc i (by omega))
    have hk := hc k (by omega)
    rw [chn, chn]
    cases e1 : chn N c f k with
    | none =>
      cases e2 : chn N c g k with
      | none => exact trivial
      | some y => rw [e1, e2] at ih; exact absurd ih id
    | some x =>
      cases e2 : chn N c g k with
      | none => rw [e1, e2] at ih; exact absurd ih id
      | some y =>
        rw [e1, e2] at ih
        obtain ⟨i1, i2⟩ := ih
        have hcg := canS_cg i2 (k := c k / 7) (j := c k % 7) (by omega) (by omega)
        show opR (if gdS N x (c k) then some (swpF x (c k / 7) (c k % 7)) else none) (if gdS N y (c k) then some (swpF y (c k / 7) (c k % 7)) else none)
        by_cases w : gdS N x (c k)
        · rw [if_pos w, if_pos ⟨w.1, w.2.1, hcg.mp w.2.2⟩]
          exact ⟨okR_swp i1 (by omega) (by omega), swp_cg i2 (by omega) (by omega)⟩
        · rw [if_neg w, if_neg (fun z => w ⟨z.1, z.2.1, hcg.mpr z.2.2⟩)]
          exact trivial
noncomputable def lfP (d : Nat) (c : Fo) (a : Sa) : Option (Nat → Int32) → Sa
  | none => a
  | some tr => lfU (pcN tr) d c a
def swTL (rc : Fo → Sa → Sa) (d : Nat) (c : Fo) : Nat → Nat → Sa → Sa
  | 0, _, a => a
  | n + 1, q, a => swTL rc d c n (q + 1) (rc (updN c d q) a)
noncomputable def swT (N : Nat) (f : Nat → Int32) : Nat → Nat → Fo → Sa → Sa
  | 0, d, c, a => lfP d c a (chn N c f d)
  | n + 1, d, c, a => swTL (swT N f n (d + 1)) d c 49 0 a
theorem swT_no {N : Nat} {f : Nat → Int32} : ∀ n d c a, chn N c f d = none → swT N f n d c a = a := by
  intro n
  induction n with
  | zero => intro d c a h; rw [swT, h]; rfl
  | succ n ih =>
    intro d c a h
    rw [swT]
    have main : ∀ k q a, swTL (swT N f n (d + 1)) d c k q a = a := by
      intro k
      induction k with
      | zero => intro q a; rfl
      | succ k ihk =>
        intro q a
        rw [swTL, ih (d + 1) (updN c d q) a (by rw [chn, chn_ag (c' := c) d (fun i hi => updN_n (by omega)), h]; rfl)]
        exact ihk (q + 1) a
    exact main 49 0 a
theorem swT_U {N : Nat} {f : Nat → Int32} : ∀ n d c a tr, chn N c f d = some tr → swT N f n d c a = swU N n d tr c a := by
  intro n
  induction n with
  | zero => intro d c a tr h; rw [swT, h, swU]; rfl
  | succ n ih =>
    intro d c a tr h
    rw [swT, swU]
    have main : ∀ k q a, swTL (swT N f n (d + 1)) d c k q a = swL (swU N n (d + 1)) N tr d c k q a := by
      intro k
      induction k with
      | zero => intro q a; rfl
      | succ k ihk =>
        intro q a
        have e : chn N (updN c d q) f (d + 1) = (if gdS N tr q then some (swpF tr (q / 7) (q % 7)) else none) := by
          rw [chn, chn_ag (c' := c) d (fun i hi => updN_n (by omega)), h, updN_s]; rfl
        rw [swTL, swL]
        by_cases w : gdS N tr q
        · rw [if_pos w] at e
          rw [if_pos w, ih (d + 1) (updN c d q) a _ e]
          exact ihk (q + 1) _
        · rw [if_neg w] at e
          rw [if_neg w, swT_no n (d + 1) (updN c d q) a e]
          exact ihk (q + 1) a
    exact main 49 0 a
abbrev Y4 : Type := (Int32 × Int32) × (Int32 × Int32) × (Int32 × Int32 × Int32)
section RSW
variable {ad : Nat → Nat} {M : Mm} {b : Nat} {σ : Sg} {C : Nat} {a : Nat} {oa : Int32 × Int32 × Int32} {rd : Value} {r : Yr} {q5 : Y4} {sd : Int32} {M0 : Mm} {A0 : Ar}
def yZ (M : Mm) (b a : Nat) (σ : Sg) (oa : Int32 × Int32 × Int32) (rd : Value) (r : Yr) (q5 : Y4) (sd : Int32) (M0 : Mm) (A0 : Ar) (bp bm : Int32) (A : Ar) : Prop := yW M b a σ oa rd (r, q5.1, q5.2.1, q5.2.2, (bp, bm), sd) A ∧ (∀ k, k ≠ 5 → k ≠ 13 → k ≠ 14 → A k = A0 k) ∧ Fr b 16 M0 M
theorem yZ.ar {A : Ar} {bp bm : Int32} {k : Nat} {g : Nat → Int32} {M2 : Mm} (h : yZ M b a σ oa rd r q5 sd M0 A0 bp bm A) (e : M2 = up M (b + k) (.inl (tyk k, szk k, .inl g))) (hk : k = 5 ∨ k = 13 ∨ k = 14) : yZ M2 b a σ oa rd r q5 sd M0 A0 bp bm (sA A k g) := by
  obtain ⟨⟨h1, h2, h3, h4⟩, h5, h6⟩ := h
  refine ⟨⟨h1.ar e (by omega), h2, h3.fr ((Fr.rf b 16 M).up e (by omega) (by omega)) (by omega), fun j hj => ?_⟩, fun j a1 a2 a3 => ?_, h6.up e (by omega) (by omega)⟩
  · rw [sA_n (by omega)]; exact h4 j hj
  · rw [sA_n (by omega)]; exact h5 j a1 a2 a3
theorem yZ.ob {A : Ar} {bp bm bp2 bm2 : Int32} {M2 : Mm} (h : yZ M b a σ oa rd r q5 sd M0 A0 bp bm A) (e : M2 = up M b (.inr (13, yF b (oa, (.ref a, rd), r, q5.1, q5.2.1, q5.2.2, (bp2, bm2), sd)))) : yZ M2 b a σ oa rd r q5 sd M0 A0 bp2 bm2 A := by
  obtain ⟨⟨h1, h2, h3, h4⟩, h5, h6⟩ := h
  exact ⟨⟨h1.ob e, h2, h3.fr ((Fr.rf b 16 M).up e (by omega) (by omega)) (by omega), h4⟩, h5, h6.up e (by omega) (by omega)⟩
theorem yZ.R {M' : Mm} {A A' : Ar} {bp bm bp' bm' : Int32} (hV : yZ M' b a σ oa rd r q5 sd M A bp' bm' A') (hR : yR M b σ (oa, (.ref a, rd), r, q5.1, q5.2.1, q5.2.2, (bp, bm), sd) A) : yR M' b σ (oa, (.ref a, rd), r, q5.1, q5.2.1, q5.2.2, (bp', bm'), sd) A' :=
  hR.sc hV.1.1 hV.2.2 rfl (hV.2.1 1 (by omega) (by omega) (by omega)) (hV.2.1 2 (by omega) (by omega) (by omega)) (hV.2.1 3 (by omega) (by omega) (by omega)) (hV.2.1 4 (by omega) (by omega) (by omega)) (hV.2.1 15 (by omega) (by omega) (by omega))
abbrev smI (o : Option (Nat → Int32)) : Int32 := match o with
  | none => 0
  | some _ => 1
theorem y_done_loop {many : Nat} {c : Fo} {f : Nat → Int32} {bp bm : Int32} {M1 : Mm} (hn7 : σ.T.hs.n ≤ 7) (hm3 : many ≤ 3) (hc : ∀ i, i < many → c i < 49) : ∀ (n k : Nat) (M : Mm) (A : Ar) (L3 L4 : Option Value), yZ M b a σ oa rd r q5 sd M0 A0 bp bm A → k + n = many → (∀ i, i < many → A 13 i = nI (c i)) → chn σ.T.hs.n c f k = some (A 5) → (∃ g, M = up M1 (b + 5) (.inl (0, 7, .inl g))) → Ev ad 1 (rX13_areDone ad) (2, [some (.ref b), some (.int (nI many)), some (.int (nI k)), L3, L4], [], M) (fun v' M' => v' = some (.int (smI (chn σ.T.hs.n c f many))) ∧ ∃ g, M' = up M1 (b + 5) (.inl (0, 7, .inl g)) ∧ ∀ tr, chn σ.T.hs.n c f many = some tr → g = tr) := by
  intro n
  induction n with
  | zero =>
    intro k M A L3 L4 hV hk hp hch hM
    have h0 := hV.1.1.1
    obtain ⟨g, eM⟩ := hM
    have e5 : A 5 = g := by
      have h5 : M.1 (b + 5) = ints 7 (A 5) := hV.1.1.c.2.2.2.2.1
      rw [eM, up_s] at h5
      injection h5 with h5
      injection h5 with h5
      injection h5 with _ h5
      injection h5 with _ h5
      injection h5 with h5
      exact h5.symm
    have ek : k = many := by omega
    subst ek
    repeat (first | refine es rfl rfl rfl ?_ | refine eg rfl (by assumption) rfl ?_ | refine eanE rfl (by assumption) (by with_reducible first | exact rfl | exact Int32.zero_add _ | exact ix8 _ | exact ix12 _ | exact ix7r _ _ | exact n7 | exact n0 | exact n1) (by assumption) rfl ?_ | refine eal rfl (by assumption) (by assumption) rfl ?_ | refine eri rfl ?_ | refine erv rfl ?_ | refine erl rfl ?_ | refine era rfl ?_ | refine erz0 rfl ?_ | refine erz1 rfl ?_)
    try dsimp only [set1, set2, kilP, List.set_cons_zero, List.set_cons_succ, List.getElem?_cons_zero, List.getElem?_cons_succ, List.nil_append, List.cons_append, Option.toList_some, Option.toList_none]
    refine ei _ rfl rfl (fun q => ?_) (fun q => ?_)
    · repeat (first | refine es rfl rfl rfl ?_ | refine eg rfl (by assumption) rfl ?_ | refine eanE rfl (by assumption) (by with_reducible first | exact rfl | exact Int32.zero_add _ | exact ix8 _ | exact ix12 _ | exact ix7r _ _ | exact n7 | exact n0 | exact n1) (by assumption) rfl ?_ | refine eal rfl (by assumption) (by assumption) rfl ?_ | refine eri rfl ?_ | refine erv rfl ?_ | refine erl rfl ?_ | refine era rfl ?_ | refine erz0 rfl ?_ | refine erz1 rfl ?_)
      try dsimp only [set1, set2, kilP, List.set_cons_zero, List.set_cons_succ, List.getElem?_cons_zero, List.getElem?_cons_succ, List.nil_append, List.cons_append, Option.toList_some, Option.toList_none]
      rw [hch]
      exact ⟨rfl, g, eM, fun tr e => by injection e with e; rw [← e, e5]⟩
    · exact absurd (nI_le (by omega) (by omega)) q
  | succ n ih =>
    intro k M A L3 L4 hV hk hp hch hM
    obtain ⟨_, _, ⟨kn, Am, Bm, m0, -⟩, _⟩ := hV.1
    have h0 := hV.1.1.1
    obtain ⟨c1', c2', c3', c4', c5', c6', c7', c8', c9', c10', c11', c12', c13', c14', -⟩ := hV.1.1.c
    obtain ⟨g, eM⟩ := hM
    have hk3 : k < 3 := by omega
    have hck := hc k (by omega)
    have hx : c k / 7 < 7 := by omega
    have hy : c k % 7 < 7 := by omega
    have e13 := hp k (by omega)
    have hnx : chn σ.T.hs.n c f (k + 1) = (if gdS σ.T.hs.n (A 5) (c k) then some (swpF (A 5) (c k / 7) (c k % 7)) else none) := by rw [chn, hch]; rfl
    have hbad : ¬ gdS σ.T.hs.n (A 5) (c k) → Ev ad 1 (rX13_areDone ad) (59, [some (.ref b), some (.int (nI many)), some (.int (nI k)), some (.int (nI (c k / 7))), some (.int (nI (c k % 7)))], [], M) (fun v' M' => v' = some (.int (smI (chn σ.T.hs.n c f many))) ∧ ∃ g, M' = up M1 (b + 5) (.inl (0, 7, .inl g)) ∧ ∀ tr, chn σ.T.hs.n c f many = some tr → g = tr) := by
      intro w
      rw [if_neg w] at hnx
      have hz := chn_none hnx (many - (k + 1))
      rw [show k + 1 + (many - (k + 1)) = many by omega] at hz
      repeat (first | refine es rfl rfl rfl ?_ | refine eg rfl (by assumption) rfl ?_ | refine eanE rfl (by assumption) (by with_reducible first | exact rfl | exact Int32.zero_add _ | exact ix8 _ | exact ix12 _ | exact ix7r _ _ | exact n7 | exact n0 | exact n1) (by assumption) rfl ?_ | refine eal rfl (by assumption) (by assumption) rfl ?_ | refine eri rfl ?_ | refine erv rfl ?_ | refine erl rfl ?_ | refine era rfl ?_ | refine erz0 rfl ?_ | refine erz1 rfl ?_)
      try dsimp only [set1, set2, kilP, List.set_cons_zero, List.set_cons_succ, List.getElem?_cons_zero, List.getElem?_cons_succ, List.nil_append, List.cons_append, Option.toList_some, Option.toList_none]
      rw [hz]
      exact ⟨rfl, g, eM, fun tr e => by cases e⟩
    repeat (first | refine es rfl rfl rfl ?_ | refine eg rfl (by assumption) rfl ?_ | refine eanE rfl (by assumption) (by with_reducible first | exact rfl | exact Int32.zero_add _ | exact ix8 _ | exact ix12 _ | exact ix7r _ _ | exact n7 | exact n0 | exact n1) (by assumption) rfl ?_ | refine eal rfl (by assumption) (by assumption) rfl ?_ | refine eri rfl ?_ | refine erv rfl ?_ | refine erl rfl ?_ | refine era rfl ?_ | refine erz0 rfl ?_ | refine erz1 rfl ?_)
    try dsimp only [set1, set2, kilP, List.set_cons_zero, List.set_cons_succ, List.getElem?_cons_zero, List.getElem?_cons_succ, List.nil_append, List.cons_append, Option.toList_some, Option.toList_none]
    refine ei _ rfl rfl (fun q => ?_) (fun q => ?_)
    · exact absurd q (nI_ge (by omega) (by omega))
    repeat (first | refine es rfl rfl rfl ?_ | refine eg rfl (by assumption) rfl ?_ | refine eanE rfl (by assumption) (by with_reducible first | exact rfl | exact Int32.zero_add _ | exact ix8 _ | exact ix12 _ | exact ix7r _ _ | exact n7 | exact n0 | exact n1) (by assumption) rfl ?_ | refine eal rfl (by assumption) (by assumption) rfl ?_ | refine eri rfl ?_ | refine erv rfl ?_ | refine erl rfl ?_ | refine era rfl ?_ | refine erz0 rfl ?_ | refine erz1 rfl ?_)
    try dsimp only [set1, set2, kilP, List.set_cons_zero, List.set_cons_succ, List.getElem?_cons_zero, List.getElem?_cons_succ, List.nil_append, List.cons_append, Option.toList_some, Option.toList_none]
    rw [e13, show nI (c k) / 7 = nI (c k / 7) from pk_div (d := 7) (by omega) (by omega) (by omega), show nI (c k) - nI (c k / 7) * 7 = nI (c k % 7) by rw [show nI (c k / 7) = nI (c k) / nI 7 from (pk_div (d := 7) (by omega) (by omega) (by omega)).symm]; exact pk_rem (d := 7) (by omega) (by omega) (by omega)]
    refine ei _ rfl rfl (fun q1 => ?_) (fun q1 => ?_)
    · exact hbad (fun w => absurd q1 (nI_ge w.1 (by omega)))
    have q1' : c k / 7 < c k % 7 := Decidable.byContradiction (fun w => q1 (nI_le (by omega) (by omega)))
    repeat (first | refine es rfl rfl rfl ?_ | refine eg rfl (by assumption) rfl ?_ | refine eanE rfl (by assumption) (by with_reducible first | exact rfl | exact Int32.zero_add _ | exact ix8 _ | exact ix12 _ | exact ix7r _ _ | exact n7 | exact n0 | exact n1) (by assumption) rfl ?_ | refine eal rfl (by assumption) (by assumption) rfl ?_ | refine eri rfl ?_ | refine erv rfl ?_ | refine erl rfl ?_ | refine era rfl ?_ | refine erz0 rfl ?_ | refine erz1 rfl ?_)
    try dsimp only [set1, set2, kilP, List.set_cons_zero, List.set_cons_succ, List.getElem?_cons_zero, List.getElem?_cons_succ, List.nil_append, List.cons_append, Option.toList_some, Option.toList_none]
    refine ei _ rfl rfl (fun q2 => ?_) (fun q2 => ?_)
    · exact hbad (fun w => absurd q2 (nI_ge w.2.1 (by omega)))
    have q2' : c k % 7 < σ.T.hs.n := Decidable.byContradiction (fun w => q2 (nI_le (by omega) (by omega)))
    repeat (first | refine es rfl rfl rfl ?_ | refine eg rfl (by assumption) rfl ?_ | refine eanE rfl (by assumption) (by with_reducible first | exact rfl | exact Int32.zero_add _ | exact ix8 _ | exact ix12 _ | exact ix7r _ _ | exact n7 | exact n0 | exact n1) (by assumption) rfl ?_ | refine eal rfl (by assumption) (by assumption) rfl ?_ | refine eri rfl ?_ | refine erv rfl ?_ | refine erl rfl ?_ | refine era rfl ?_ | refine erz0 rfl ?_ | refine erz1 rfl ?_)
    try dsimp only [set1, set2, kilP, List.set_cons_zero, List.set_cons_succ, List.getElem?_cons_zero, List.getElem?_cons_succ, List.nil_append, List.cons_append, Option.toList_some, Option.toList_none]
    refine ecsr rfl rfl rfl rfl rfl rfl (y_canEx c5' rfl hx hy) (by first | rfl | exact Nat.blt_eq.mpr (by omega)) rfl ?_
    by_cases q3 : canS (A 5) (c k / 7) (c k % 7)
    rotate_left
    · rw [show bI (canS (A 5) (c k / 7) (c k % 7)) = 0 from if_neg q3]
      repeat (refine ng 59 rfl ?_; first | refine es rfl rfl rfl ?_ | refine eg rfl (by assumption) rfl ?_ | refine eanE rfl (by assumption) (by with_reducible first | exact rfl | exact Int32.zero_add _ | exact ix8 _ | exact ix12 _ | exact ix7r _ _ | exact n7 | exact n0 | exact n1) (by assumption) rfl ?_ | refine eal rfl (by assumption) (by assumption) rfl ?_ | refine eri rfl ?_ | refine erv rfl ?_ | refine erl rfl ?_ | refine era rfl ?_ | refine erz0 rfl ?_ | refine erz1 rfl ?_)
      try dsimp only [set1, set2, kilP, List.set_cons_zero, List.set_cons_succ, List.getElem?_cons_zero, List.getElem?_cons_succ, List.nil_append, List.cons_append, Option.toList_some, Option.toList_none]
      exact hbad (fun w => q3 w.2.2)
    rw [show bI (canS (A 5) (c k / 7) (c k % 7)) = 1 from if_pos q3]
    rw [if_pos ⟨q1', q2', q3⟩] at hnx
    repeat (first | refine es rfl rfl rfl ?_ | refine eg rfl (by assumption) rfl ?_ | refine eanE rfl (by assumption) (by with_reducible first | exact rfl | exact Int32.zero_add _ | exact ix8 _ | exact ix12 _ | exact ix7r _ _ | exact n7 | exact n0 | exact n1) (by assumption) rfl ?_ | refine eal rfl (by assumption) (by assumption) rfl ?_ | refine eri rfl ?_ | refine erv rfl ?_ | refine erl rfl ?_ | refine era rfl ?_ | refine erz0 rfl ?_ | refine erz1 rfl ?_)
    try dsimp only [set1, set2, kilP, List.set_cons_zero, List.set_cons_succ, List.getElem?_cons_zero, List.getElem?_cons_succ, List.nil_append, List.cons_append, Option.toList_some, Option.toList_none]
    refine ecs rfl rfl rfl rfl rfl rfl (y_exch c5' rfl hx hy) (by first | rfl | exact Nat.blt_eq.mpr (by omega)) ?_
    rintro v M2 ⟨rfl, eM2⟩
    try dsimp only [set1, set2, kilP, List.set_cons_zero, List.set_cons_succ, List.getElem?_cons_zero, List.getElem?_cons_succ, List.nil_append, List.cons_append, Option.toList_some, Option.toList_none]
    repeat (refine ng 2 rfl ?_; first | refine es rfl rfl rfl ?_ | refine eg rfl (by assumption) rfl ?_ | refine eanE rfl (by assumption) (by with_reducible first | exact rfl | exact Int32.zero_add _ | exact ix8 _ | exact ix12 _ | exact ix7r _ _ | exact n7 | exact n0 | exact n1) (by assumption) rfl ?_ | refine eal rfl (by assumption) (by assumption) rfl ?_ | refine eri rfl ?_ | refine erv rfl ?_ | refine erl rfl ?_ | refine era rfl ?_ | refine erz0 rfl ?_ | refine erz1 rfl ?_)
    try dsimp only [set1, set2, kilP, List.set_cons_zero, List.set_cons_succ, List.getElem?_cons_zero, List.getElem?_cons_succ, List.nil_append, List.cons_append, Option.toList_some, Option.toList_none]
    rw [nI_1]
    exact ih (k + 1) M2 _ _ _ (hV.ar (k := 5) eM2 (by omega)) (by omega) hp hnx ⟨_, by rw [eM2, eM, up_up]⟩
theorem y_done {A : Ar} {many : Nat} {c : Fo} {bp bm : Int32} (hn7 : σ.T.hs.n ≤ 7) (hm3 : many ≤ 3) (hc : ∀ i, i < many → c i < 49) (hV : yZ M b a σ oa rd r q5 sd M0 A0 bp bm A) (hp : ∀ i, i < many → A 13 i = nI (c i)) : EvM ad 1 (iX13_areDone ad) [.ref b, .int (nI many)] M (fun v' M' => v' = some (.int (smI (chn σ.T.hs.n c (A 5) many))) ∧ ∃ g, M' = up M (b + 5) (.inl (0, 7, .inl g)) ∧ ∀ tr, chn σ.T.hs.n c (A 5) many = some tr → g = tr) := by
  refine ⟨Nat.le_of_ble_eq_true rfl, ?_⟩
  show Ev ad _ (rX13_areDone ad) (0, [some (.ref b), some (.int (nI many)), none, none, none], [], M) _
  repeat (refine ng 2 rfl ?_; first | refine es rfl rfl rfl ?_ | refine eg rfl (by assumption) rfl ?_ | refine eanE rfl (by assumption) (by with_reducible first | exact rfl | exact Int32.zero_add _ | exact ix8 _ | exact ix12 _ | exact ix7r _ _ | exact n7 | exact n0 | exact n1) (by assumption) rfl ?_ | refine eal rfl (by assumption) (by assumption) rfl ?_ | refine eri rfl ?_ | refine erv rfl ?_ | refine erl rfl ?_ | refine era rfl ?_ | refine erz0 rfl ?_ | refine erz1 rfl ?_)
  try dsimp only [set1, set2, kilP, List.set_cons_zero, List.set_cons_succ, List.getElem?_cons_zero, List.getElem?_cons_succ, List.nil_append, List.cons_append, Option.toList_some, Option.toList_none]
  exact y_done_loop (M1 := M) hn7 hm3 hc many 0 M A _ _ hV (by omega) hp rfl ⟨A 5, (up_id hV.1.1.c.2.2.2.2.1).symm⟩
/-- the next row of pairs: those from d on are the last -/
theorem y_next_loop {many d : Nat} {bp bm : Int32} {c : Fo} (hm3 : many ≤ 3) (hd : d ≤ many) (hcd : 0 < d → c (d - 1) < 48) : ∀ (n : Nat) (M : Mm) (A : Ar), yZ M b a σ oa rd r q5 sd M0 A0 bp bm A → d + n ≤ many → (∀ i, i < d → A 13 i = nI (c i)) → (∀ i, d ≤ i → i < d + n → A 13 i = nI 48) → (∀ i, d + n ≤ i → i < many → A 13 i = 0) → Ev ad 0 (rX13_nextPairs ad) (4, [some (.ref b), some (.int (nI many)), some (.int (nI (d + n) - 1))], [], M) (fun v' M' => v' = some (.int (if 0 < d then 1 else 0)) ∧ ∃ A', yZ M' b a σ oa rd r q5 sd M0 A0 bp bm A' ∧ A' 14 = A 14 ∧ (∀ i, i < d - 1 → A' 13 i = nI (c i)) ∧ (0 < d → A' 13 (d - 1) = nI (c (d - 1) + 1)) ∧ ∀ i, d ≤ i → i < many → A' 13 i = 0) := by
  intro n
  induction n with
  | zero =>
    intro M A hV hn h1 h2 h3
    have h0 := hV.1.1.1
    obtain ⟨c1', c2', c3', c4', c5', c6', c7', c8', c9', c10', c11', c12', c13', c14', -⟩ := hV.1.1.c
    cases d with
    | zero =>
      rw [show nI (0 + 0) - 1 = (-1 : Int32) by decide]
      repeat (first | refine es rfl rfl rfl ?_ | refine eg rfl (by assumption) rfl ?_ | refine eanE rfl (by assumption) (by with_reducible first | exact rfl | exact Int32.zero_add _ | exact ix8 _ | exact ix12 _ | exact ix7r _ _ | exact n7 | exact n0 | exact n1) (by assumption) rfl ?_ | refine eal rfl (by assumption) (by assumption) rfl ?_ | refine eri rfl ?_ | refine erv rfl ?_ | refine erl rfl ?_ | refine era rfl ?_ | refine erz0 rfl ?_ | refine erz1 rfl ?_)
      try dsimp only [set1, set2, kilP, List.set_cons_zero, List.set_cons_succ, List.getElem?_cons_zero, List.getElem?_cons_succ, List.nil_append, List.cons_append, Option.toList_some, Option.toList_none]
      exact ⟨rfl, A, hV, rfl, fun i hi => absurd hi (by omega), fun q => absurd q (by omega), h3⟩
    | succ d =>
      have hd3 : d < 3 := by omega
      have hcd' := hcd (by omega)
      rw [show d + 1 - 1 = d by omega] at hcd' ⊢
      rw [show nI (d + 1 + 0) - 1 = nI d from nI_pred d]
      repeat (first | refine es rfl rfl rfl ?_ | refine eg rfl (by assumption) rfl ?_ | refine eanE rfl (by assumption) (by with_reducible first | exact rfl | exact Int32.zero_add _ | exact ix8 _ | exact ix12 _ | exact ix7r _ _ | exact n7 | exact n0 | exact n1) (by assumption) rfl ?_ | refine eal rfl (by assumption) (by assumption) rfl ?_ | refine eri rfl ?_ | refine erv rfl ?_ | refine erl rfl ?_ | refine era rfl ?_ | refine erz0 rfl ?_ | refine erz1 rfl ?_)
      try dsimp only [set1, set2, kilP, List.set_cons_zero, List.set_cons_succ, List.getElem?_cons_zero, List.getElem?_cons_succ, List.nil_append, List.cons_append, Option.toList_some, Option.toList_none]
      refine ei _ rfl rfl (fun q => ?_) (fun q => ?_)
      · exact absurd q (nI_pos (by omega))
      repeat (first | refine es rfl rfl rfl ?_ | refine eg rfl (by assumption) rfl ?_ | refine eanE rfl (by assumption) (by with_reducible first | exact rfl | exact Int32.zero_add _ | exact ix8 _ | exact ix12 _ | exact ix7r _ _ | exact n7 | exact n0 | exact n1) (by assumption) rfl ?_ | refine eal rfl (by assumption) (by assumption) rfl ?_ | refine eri rfl ?_ | refine erv rfl ?_ | refine erl rfl ?_ | refine era rfl ?_ | refine erz0 rfl ?_ | refine erz1 rfl ?_)
      try dsimp only [set1, set2, kilP, List.set_cons_zero, List.set_cons_succ, List.getElem?_cons_zero, List.getElem?_cons_succ, List.nil_append, List.cons_append, Option.toList_some, Option.toList_none]
      rw [h1 d (by omega)]
      refine etM rfl c13' hd3 rfl (fun M2 eM => ?_)
      rw [nI_1] at eM
      have hV2 := hV.ar (k := 13) eM (by omega)
      have k0 := hV2.1.1.1
      have k13 : M2.1 (b + 13) = ints 3 (upd (A 13) d (nI (c d + 1))) := hV2.1.1.c.2.2.2.2.2.2.2.2.2.2.2.2.1
      repeat (first | refine es rfl rfl rfl ?_ | refine eg rfl (by assumption) rfl ?_ | refine eanE rfl (by assumption) (by with_reducible first | exact rfl | exact Int32.zero_add _ | exact ix8 _ | exact ix12 _ | exact ix7r _ _ | exact n7 | exact n0 | exact n1) (by assumption) rfl ?_ | refine eal rfl (by assumption) (by assumption) rfl ?_ | refine eri rfl ?_ | refine erv rfl ?_ | refine erl rfl ?_ | refine era rfl ?_ | refine erz0 rfl ?_ | refine erz1 rfl ?_)
      try dsimp only [set1, set2, kilP, List.set_cons_zero, List.set_cons_succ, List.getElem?_cons_zero, List.getElem?_cons_succ, List.nil_append, List.cons_append, Option.toList_some, Option.toList_none]
      rw [pk_us]
      refine ei _ rfl rfl (fun q2 => ?_) (fun q2 => ?_)
      · exact absurd q2 (nI_ge (b := 49) (by omega) (by omega))
      repeat (first | refine es rfl rfl rfl ?_ | refine eg rfl (by assumption) rfl ?_ | refine eanE rfl (by assumption) (by with_reducible first | exact rfl | exact Int32.zero_add _ | exact ix8 _ | exact ix12 _ | exact ix7r _ _ | exact n7 | exact n0 | exact n1) (by assumption) rfl ?_ | refine eal rfl (by assumption) (by assumption) rfl ?_ | refine eri rfl ?_ | refine erv rfl ?_ | refine erl rfl ?_ | refine era rfl ?_ | refine erz0 rfl ?_ | refine erz1 rfl ?_)
      try dsimp only [set1, set2, kilP, List.set_cons_zero, List.set_cons_succ, List.getElem?_cons_zero, List.getElem?_cons_succ, List.nil_append, List.cons_append, Option.toList_some, Option.toList_none]
      refine ⟨by rw [if_pos (by omega)], _, hV2, rfl, fun i hi => ?_, fun _ => pk_us, fun i hi1 hi2 => ?_⟩
      · show upd (A 13) d (nI (c d + 1)) i = nI (c i)
        rw [pk_un (by omega)]
        exact h1 i (by omega)
      · show upd (A 13) d (nI (c d + 1)) i = 0
        rw [pk_un (by omega)]
        exact h3 i (by omega) hi2
  | succ n ih =>
    intro M A hV hn h1 h2 h3
    have h0 := hV.1.1.1
    obtain ⟨c1', c2', c3', c4', c5', c6', c7', c8', c9', c10', c11', c12', c13', c14', -⟩ := hV.1.1.c
    have hk3 : d + n < 3 := by omega
    rw [show nI (d + (n + 1)) - 1 = nI (d + n) from nI_pred (d + n)]
    repeat (first | refine es rfl rfl rfl ?_ | refine eg rfl (by assumption) rfl ?_ | refine eanE rfl (by assumption) (by with_reducible first | exact rfl | exact Int32.zero_add _ | exact ix8 _ | exact ix12 _ | exact ix7r _ _ | exact n7 | exact n0 | exact n1) (by assumption) rfl ?_ | refine eal rfl (by assumption) (by assumption) rfl ?_ | refine eri rfl ?_ | refine erv rfl ?_ | refine erl rfl ?_ | refine era rfl ?_ | refine erz0 rfl ?_ | refine erz1 rfl ?_)
    try dsimp only [set1, set2, kilP, List.set_cons_zero, List.set_cons_succ, List.getElem?_cons_zero, List.getElem?_cons_succ, List.nil_append, List.cons_append, Option.toList_some, Option.toList_none]
    refine ei _ rfl rfl (fun q => ?_) (fun q => ?_)
    · exact absurd q (nI_pos (by omega))
    repeat (first | refine es rfl rfl rfl ?_ | refine eg rfl (by assumption) rfl ?_ | refine eanE rfl (by assumption) (by with_reducible first | exact rfl | exact Int32.zero_add _ | exact ix8 _ | exact ix12 _ | exact ix7r _ _ | exact n7 | exact n0 | exact n1) (by assumption) rfl ?_ | refine eal rfl (by assumption) (by assumption) rfl ?_ | refine eri rfl ?_ | refine erv rfl ?_ | refine erl rfl ?_ | refine era rfl ?_ | refine erz0 rfl ?_ | refine erz1 rfl ?_)
    try dsimp only [set1, set2, kilP, List.set_cons_zero, List.set_cons_succ, List.getElem?_cons_zero, List.getElem?_cons_succ, List.nil_append, List.cons_append, Option.toList_some, Option.toList_none]
    rw [h2 (d + n) (by omega) (by omega)]
    refine etM rfl c13' hk3 rfl (fun M2 eM => ?_)
    have hV2 := hV.ar (k := 13) eM (by omega)
    have k0 := hV2.1.1.1
    have k13 : M2.1 (b + 13) = ints 3 (upd (A 13) (d + n) (nI 48 + 1)) := hV2.1.1.c.2.2.2.2.2.2.2.2.2.2.2.2.1
    repeat (first | refine es rfl rfl rfl ?_ | refine eg rfl (by assumption) rfl ?_ | refine eanE rfl (by assumption) (by with_reducible first | exact rfl | exact Int32.zero_add _ | exact ix8 _ | exact ix12 _ | exact ix7r _ _ | exact n7 | exact n0 | exact n1) (by assumption) rfl ?_ | refine eal rfl (by assumption) (by assumption) rfl ?_ | refine eri rfl ?_ | refine erv rfl ?_ | refine erl rfl ?_ | refine era rfl ?_ | refine erz0 rfl ?_ | refine erz1 rfl ?_)
    try dsimp only [set1, set2, kilP, List.set_cons_zero, List.set_cons_succ, List.getElem?_cons_zero, List.getElem?_cons_succ, List.nil_append, List.cons_append, Option.toList_some, Option.toList_none]
    rw [pk_us]
    refine ei _ rfl rfl (fun q2 => ?_) (fun q2 => ?_)
    rotate_left
    · exact absurd (show (49 : Int32) ≤ nI 48 + 1 by decide) q2
    repeat (first | refine es rfl rfl rfl ?_ | refine eg rfl (by assumption) rfl ?_ | refine eanE rfl (by assumption) (by with_reducible first | exact rfl | exact Int32.zero_add _ | exact ix8 _ | exact ix12 _ | exact ix7r _ _ | exact n7 | exact n0 | exact n1) (by assumption) rfl ?_ | refine eal rfl (by assumption) (by assumption) rfl ?_ | refine eri rfl ?_ | refine erv rfl ?_ | refine erl rfl ?_ | refine era rfl ?_ | refine erz0 rfl ?_ | refine erz1 rfl ?_)
    try dsimp only [set1, set2, kilP, List.set_cons_zero, List.set_cons_succ, List.getElem?_cons_zero, List.getElem?_cons_succ, List.nil_append, List.cons_append, Option.toList_some, Option.toList_none]
    refine etM rfl k13 hk3 rfl (fun M3 eM3 => ?_)
    have hV3 := hV2.ar (k := 13) eM3 (by omega)
    repeat (refine ng 4 rfl ?_; first | refine es rfl rfl rfl ?_ | refine eg rfl (by assumption) rfl ?_ | refine eanE rfl (by assumption) (by with_reducible first | exact rfl | exact Int32.zero_add _ | exact ix8 _ | exact ix12 _ | exact ix7r _ _ | exact n7 | exact n0 | exact n1) (by assumption) rfl ?_ | refine eal rfl (by assumption) (by assumption) rfl ?_ | refine eri rfl ?_ | refine erv rfl ?_ | refine erl rfl ?_ | refine era rfl ?_ | refine erz0 rfl ?_ | refine erz1 rfl ?_)
    try dsimp only [set1, set2, kilP, List.set_cons_zero, List.set_cons_succ, List.getElem?_cons_zero, List.getElem?_cons_succ, List.nil_append, List.cons_append, Option.toList_some, Option.toList_none]
    rw [show nI (d + n) + (-1) = nI (d + n) - 1 from (Int32.sub_eq_add_neg _ _).symm]
    refine (ih M3 (sA (sA A 13 (upd (A 13) (d + n) (nI 48 + 1))) 13 (upd (upd (A 13) (d + n) (nI 48 + 1)) (d + n) 0)) hV3 (by omega) (fun i hi => ?_) (fun i hi1 hi2 => ?_) (fun i hi1 hi2 => ?_)).im (fun v M' q => q)
    · show upd (upd (A 13) (d + n) (nI 48 + 1)) (d + n) 0 i = _
      rw [pk_un (by omega), pk_un (by omega)]
      exact h1 i hi
    · show upd (upd (A 13) (d + n) (nI 48 + 1)) (d + n) 0 i = _
      rw [pk_un (by omega), pk_un (by omega)]
      exact h2 i hi1 (by omega)
    · show upd (upd (A 13) (d + n) (nI 48 + 1)) (d + n) 0 i = _
      by_cases e : i = d + n
      · rw [e, pk_us]
      · rw [pk_un e, pk_un e]
        exact h3 i (by omega) hi2
theorem y_next {A : Ar} {many d n : Nat} {bp bm : Int32} {c : Fo} (hm3 : many ≤ 3) (hd : d + n = many) (hcd : 0 < d → c (d - 1) < 48) (hV : yZ M b a σ oa rd r q5 sd M0 A0 bp bm A) (h1 : ∀ i, i < d → A 13 i = nI (c i)) (h2 : ∀ i, d ≤ i → i < many → A 13 i = nI 48) : EvM ad 0 (iX13_nextPairs ad) [.ref b, .int (nI many)] M (fun v' M' => v' = some (.int (if 0 < d then 1 else 0)) ∧ ∃ A', yZ M' b a σ oa rd r q5 sd M0 A0 bp bm A' ∧ A' 14 = A 14 ∧ (∀ i, i < d - 1 → A' 13 i = nI (c i)) ∧ (0 < d → A' 13 (d - 1) = nI (c (d - 1) + 1)) ∧ ∀ i, d ≤ i → i < many → A' 13 i = 0) := by
  refine ⟨Nat.le_of_ble_eq_true rfl, ?_⟩
  show Ev ad _ (rX13_nextPairs ad) (0, [some (.ref b), some (.int (nI many)), none], [], M) _
  repeat (refine ng 4 rfl ?_; first | refine es rfl rfl rfl ?_ | refine eg rfl (by assumption) rfl ?_ | refine eanE rfl (by assumption) (by with_reducible first | exact rfl | exact Int32.zero_add _ | exact ix8 _ | exact ix12 _ | exact ix7r _ _ | exact n7 | exact n0 | exact n1) (by assumption) rfl ?_ | refine eal rfl (by assumption) (by assumption) rfl ?_ | refine eri rfl ?_ | refine erv rfl ?_ | refine erl rfl ?_ | refine era rfl ?_ | refine erz0 rfl ?_ | refine erz1 rfl ?_)
  try dsimp only [set1, set2, kilP, List.set_cons_zero, List.set_cons_succ, List.getElem?_cons_zero, List.getElem?_cons_succ, List.nil_append, List.cons_append, Option.toList_some, Option.toList_none]
  rw [show nI many - 1 = nI (d + n) - 1 by rw [hd]]
  exact y_next_loop hm3 (by omega) hcd n M A hV (by omega) h1 (fun i a1 a2 => h2 i a1 (by omega)) (fun i a1 a2 => absurd a2 (by omega))
end RSW
