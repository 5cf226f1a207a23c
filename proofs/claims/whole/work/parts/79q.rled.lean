/-! The reference's led -/
section RLED
variable {ad : Nat → Nat} {b : Nat} {M : Mm} {σ : Sg} {C : Nat}
def ledF (T : Tw) (f : Nat → Int32) (x : Int32) : Nat → Nat → Int32 → Option Nat
  | 0, _, _ => none
  | n + 1, i, c => if f (8 + i) = T.hm i then (if c = x then some i else ledF T f x n (i + 1) (c + 1)) else ledF T f x n (i + 1) c
/-- it stands for σ, and this is what it says of a throw -/
def YT (M : Mm) (b : Nat) (σ : Sg) (t : Int32) : Prop := ∃ o A, yR M b σ o A ∧ o.th = t
def ledP (b : Nat) (M : Mm) (σ : Sg) (r : Option Nat) (v' : Option Value) (M' : Mm) : Prop := Fr b 16 M M' ∧ match r with
  | some k => v' = some (.int (nI k)) ∧ YT M' b σ 0
  | none => v' = some (.int 0) ∧ YT M' b σ 1
theorem y_led_none {M0 : Mm} {x : Int32} {c i : Option Value} (hT : YT M b σ 0) (hF : Fr b 16 M0 M) : Ev ad 0 (rX13_led ad) (67, [some (.ref b), some (.int x), c, i], [], M) (ledP b M0 σ none) := by
  obtain ⟨⟨⟨th, tr, wh⟩, tw, r, q⟩, A, hR, _⟩ := hT
  have h0 := hR.1.1
  repeat (first | refine es rfl rfl rfl ?_ | refine eg rfl (by assumption) rfl ?_ | refine eanE rfl (by assumption) (by with_reducible first | exact rfl | exact Int32.zero_add _ | exact ix8 _ | exact ix12 _ | exact ix7r _ _ | exact n7 | exact n0 | exact n1) (by assumption) rfl ?_ | refine eal rfl (by assumption) (by assumption) rfl ?_ | refine eri rfl ?_ | refine erv rfl ?_ | refine erl rfl ?_ | refine era rfl ?_ | refine erz0 rfl ?_ | refine erz1 rfl ?_)
  try dsimp only [set1, set2, kilP, List.set_cons_zero, List.set_cons_succ, List.getElem?_cons_zero, List.getElem?_cons_succ, List.nil_append, List.cons_append, Option.toList_some, Option.toList_none]
  refine epM (fs' := yF b ((1, tr, wh), tw, r, q)) rfl h0 rfl rfl rfl (fun M2 e2 => ?_)
  repeat (first | refine es rfl rfl rfl ?_ | refine eg rfl (by assumption) rfl ?_ | refine eanE rfl (by assumption) (by with_reducible first | exact rfl | exact Int32.zero_add _ | exact ix8 _ | exact ix12 _ | exact ix7r _ _ | exact n7 | exact n0 | exact n1) (by assumption) rfl ?_ | refine eal rfl (by assumption) (by assumption) rfl ?_ | refine eri rfl ?_ | refine erv rfl ?_ | refine erl rfl ?_ | refine era rfl ?_ | refine erz0 rfl ?_ | refine erz1 rfl ?_)
  try dsimp only [set1, set2, kilP, List.set_cons_zero, List.set_cons_succ, List.getElem?_cons_zero, List.getElem?_cons_succ, List.nil_append, List.cons_append, Option.toList_some, Option.toList_none]
  have hF2 := hF.up e2 (by omega) (by omega)
  have hF3 := (Fr.rf b 16 M).up e2 (by omega) (by omega)
  exact ⟨hF2, rfl, _, A, hR.sc (hR.1.ob e2) hF3 rfl rfl rfl rfl rfl rfl, rfl⟩
theorem y_led_loop {M0 : Mm} {a : Nat} {x : Int32} {oa : Int32 × Int32 × Int32} {rd : Value} {oq : Yr × Yq} {A : Ar} (hR : yR M b σ (oa, (.ref a, rd), oq) A) (h0t : oa.1 = 0) (hF : Fr b 16 M0 M) (ha : b + 16 ≤ a) (hM : aMt M a σ.T) (hv : ∀ j, j < 16 → A 2 j = σ.f j) (hp4 : σ.T.np ≤ 4) : ∀ (n i : Nat) (c : Int32), i + n = σ.T.np → Ev ad 0 (rX13_led ad) (9, [some (.ref b), some (.int x), some (.int c), some (.int (nI i))], [], M) (ledP b M0 σ (ledF σ.T σ.f x n i c)) := by
  have h0 := hR.1.1
  have h2 : M.1 (b + 2) = ints 16 (A 2) := hR.1.c.2.1
  obtain ⟨kn, Am, Bm, m0, mc, mH, mS, mP, mC, mN⟩ := id hM
  have m9 : M.1 (a + 9) = ints 4 (Am 9) := mc.2.2.2.2.2.2.2.2.1
  have hT : YT M b σ 0 := ⟨_, A, hR, h0t⟩
  intro n
  induction n with
  | zero =>
    intro i c hi
    repeat (first | refine es rfl rfl rfl ?_ | refine eg rfl (by assumption) rfl ?_ | refine eanE rfl (by assumption) (by with_reducible first | exact rfl | exact Int32.zero_add _ | exact ix8 _ | exact ix12 _ | exact ix7r _ _ | exact n7 | exact n0 | exact n1) (by assumption) rfl ?_ | refine eal rfl (by assumption) (by assumption) rfl ?_ | refine eri rfl ?_ | refine erv rfl ?_ | refine erl rfl ?_ | refine era rfl ?_ | refine erz0 rfl ?_ | refine erz1 rfl ?_)
    try dsimp only [set1, set2, kilP, List.set_cons_zero, List.set_cons_succ, List.getElem?_cons_zero, List.getElem?_cons_succ, List.nil_append, List.cons_append, Option.toList_some, Option.toList_none]
    refine ei _ rfl rfl (fun c1 => ?_) (fun c1 => ?_)
    · exact y_led_none hT hF
    · exact absurd (nI_le (by omega) (by omega)) c1
  | succ n ih =>
    intro i c hi
    have hi4 : i < 4 := by omega
    have hi8 : 8 + i < 16 := by omega
    repeat (first | refine es rfl rfl rfl ?_ | refine eg rfl (by assumption) rfl ?_ | refine eanE rfl (by assumption) (by with_reducible first | exact rfl | exact Int32.zero_add _ | exact ix8 _ | exact ix12 _ | exact ix7r _ _ | exact n7 | exact n0 | exact n1) (by assumption) rfl ?_ | refine eal rfl (by assumption) (by assumption) rfl ?_ | refine eri rfl ?_ | refine erv rfl ?_ | refine erl rfl ?_ | refine era rfl ?_ | refine erz0 rfl ?_ | refine erz1 rfl ?_)
    try dsimp only [set1, set2, kilP, List.set_cons_zero, List.set_cons_succ, List.getElem?_cons_zero, List.getElem?_cons_succ, List.nil_append, List.cons_append, Option.toList_some, Option.toList_none]
    refine ei _ rfl rfl (fun c1 => ?_) (fun c1 => ?_)
    · exact absurd c1 (nI_ge (by omega) (by omega))
    repeat (first | refine es rfl rfl rfl ?_ | refine eg rfl (by assumption) rfl ?_ | refine eanE rfl (by assumption) (by with_reducible first | exact rfl | exact Int32.zero_add _ | exact ix8 _ | exact ix12 _ | exact ix7r _ _ | exact n7 | exact n0 | exact n1) (by assumption) rfl ?_ | refine eal rfl (by assumption) (by assumption) rfl ?_ | refine eri rfl ?_ | refine erv rfl ?_ | refine erl rfl ?_ | refine era rfl ?_ | refine erz0 rfl ?_ | refine erz1 rfl ?_)
    try dsimp only [set1, set2, kilP, List.set_cons_zero, List.set_cons_succ, List.getElem?_cons_zero, List.getElem?_cons_succ, List.nil_append, List.cons_append, Option.toList_some, Option.toList_none]
    rw [hv _ hi8, (mP i (by omega)).1]
    rw [ledF]
    by_cases e : σ.f (8 + i) = σ.T.hm i
    · rw [if_pos e]
      refine ei _ rfl rfl (fun c2 => ?_) (fun c2 => ?_)
      rotate_left
      · exact absurd e c2
      repeat (first | refine es rfl rfl rfl ?_ | refine eg rfl (by assumption) rfl ?_ | refine eanE rfl (by assumption) (by with_reducible first | exact rfl | exact Int32.zero_add _ | exact ix8 _ | exact ix12 _ | exact ix7r _ _ | exact n7 | exact n0 | exact n1) (by assumption) rfl ?_ | refine eal rfl (by assumption) (by assumption) rfl ?_ | refine eri rfl ?_ | refine erv rfl ?_ | refine erl rfl ?_ | refine era rfl ?_ | refine erz0 rfl ?_ | refine erz1 rfl ?_)
      try dsimp only [set1, set2, kilP, List.set_cons_zero, List.set_cons_succ, List.getElem?_cons_zero, List.getElem?_cons_succ, List.nil_append, List.cons_append, Option.toList_some, Option.toList_none]
      by_cases e2 : c = x
      · rw [if_pos e2]
        refine ei _ rfl rfl (fun c3 => ?_) (fun c3 => ?_)
        · exact absurd e2 c3
        repeat (first | refine es rfl rfl rfl ?_ | refine eg rfl (by assumption) rfl ?_ | refine eanE rfl (by assumption) (by with_reducible first | exact rfl | exact Int32.zero_add _ | exact ix8 _ | exact ix12 _ | exact ix7r _ _ | exact n7 | exact n0 | exact n1) (by assumption) rfl ?_ | refine eal rfl (by assumption) (by assumption) rfl ?_ | refine eri rfl ?_ | refine erv rfl ?_ | refine erl rfl ?_ | refine era rfl ?_ | refine erz0 rfl ?_ | refine erz1 rfl ?_)
        try dsimp only [set1, set2, kilP, List.set_cons_zero, List.set_cons_succ, List.getElem?_cons_zero, List.getElem?_cons_succ, List.nil_append, List.cons_append, Option.toList_some, Option.toList_none]
        exact ⟨hF, rfl, hT⟩
      · rw [if_neg e2]
        refine ei _ rfl rfl (fun c3 => ?_) (fun c3 => ?_)
        rotate_left
        · exact absurd (Decidable.not_not.mp c3) e2
        repeat (refine ng 9 rfl ?_; first | refine es rfl rfl rfl ?_ | refine eg rfl (by assumption) rfl ?_ | refine eanE rfl (by assumption) (by with_reducible first | exact rfl | exact Int32.zero_add _ | exact ix8 _ | exact ix12 _ | exact ix7r _ _ | exact n7 | exact n0 | exact n1) (by assumption) rfl ?_ | refine eal rfl (by assumption) (by assumption) rfl ?_ | refine eri rfl ?_ | refine erv rfl ?_ | refine erl rfl ?_ | refine era rfl ?_ | refine erz0 rfl ?_ | refine erz1 rfl ?_)
        try dsimp only [set1, set2, kilP, List.set_cons_zero, List.set_cons_succ, List.getElem?_cons_zero, List.getElem?_cons_succ, List.nil_append, List.cons_append, Option.toList_some, Option.toList_none]
        rw [nI_1]
        exact ih (i + 1) (c + 1) (by omega)
    · rw [if_neg e]
      refine ei _ rfl rfl (fun c2 => ?_) (fun c2 => ?_)
      · exact absurd c2 e
      repeat (refine ng 9 rfl ?_; first | refine es rfl rfl rfl ?_ | refine eg rfl (by assumption) rfl ?_ | refine eanE rfl (by assumption) (by with_reducible first | exact rfl | exact Int32.zero_add _ | exact ix8 _ | exact ix12 _ | exact ix7r _ _ | exact n7 | exact n0 | exact n1) (by assumption) rfl ?_ | refine eal rfl (by assumption) (by assumption) rfl ?_ | refine eri rfl ?_ | refine erv rfl ?_ | refine erl rfl ?_ | refine era rfl ?_ | refine erz0 rfl ?_ | refine erz1 rfl ?_)
      try dsimp only [set1, set2, kilP, List.set_cons_zero, List.set_cons_succ, List.getElem?_cons_zero, List.getElem?_cons_succ, List.nil_append, List.cons_append, Option.toList_some, Option.toList_none]
      rw [nI_1]
      exact ih (i + 1) c (by omega)
theorem y_led {x : Int32} (hY : YR M b σ) (hI : Inv σ C) : EvM ad 0 (iX13_led ad) [.ref b, .int x] M (ledP b M σ (ledF σ.T σ.f x σ.T.np 0 0)) := by
  refine ⟨Nat.le_of_ble_eq_true rfl, ?_⟩
  show Ev ad _ (rX13_led ad) (0, [some (.ref b), some (.int x), none, none], [], M) _
  refine yEn rfl rfl rfl hY (fun M1 hY1 hF1 hth => ?_)
  obtain ⟨⟨oa, ⟨tw, rd⟩, oq⟩, A, hR, h0t⟩ := hth
  have h0 := hR.1.1
  by_cases hno : σ.T.hs.n = 0
  · obtain ⟨_, t0⟩ := hR.2.2.2.2.2.2.2.2.2.resolve_right (fun q => by have := q.1; omega)
    replace t0 : tw = .null := t0
    subst t0
    rw [(hI.2.1 hno).1.2.2.1]
    repeat (refine ng 67 rfl ?_; first | refine es rfl rfl rfl ?_ | refine eg rfl (by assumption) rfl ?_ | refine eanE rfl (by assumption) (by with_reducible first | exact rfl | exact Int32.zero_add _ | exact ix8 _ | exact ix12 _ | exact ix7r _ _ | exact n7 | exact n0 | exact n1) (by assumption) rfl ?_ | refine eal rfl (by assumption) (by assumption) rfl ?_ | refine eri rfl ?_ | refine erv rfl ?_ | refine erl rfl ?_ | refine era rfl ?_ | refine erz0 rfl ?_ | refine erz1 rfl ?_)
    try dsimp only [set1, set2, kilP, List.set_cons_zero, List.set_cons_succ, List.getElem?_cons_zero, List.getElem?_cons_succ, List.nil_append, List.cons_append, Option.toList_some, Option.toList_none]
    exact y_led_none ⟨_, A, hR, h0t⟩ hF1
  · obtain ⟨n1, a, t0, a1, a2, hM, hv, _⟩ := hR.2.2.2.2.2.2.2.2.2.resolve_left (fun q => hno q.1)
    replace t0 : tw = .ref a := t0
    subst t0
    repeat (refine ng 9 rfl ?_; first | refine es rfl rfl rfl ?_ | refine eg rfl (by assumption) rfl ?_ | refine eanE rfl (by assumption) (by with_reducible first | exact rfl | exact Int32.zero_add _ | exact ix8 _ | exact ix12 _ | exact ix7r _ _ | exact n7 | exact n0 | exact n1) (by assumption) rfl ?_ | refine eal rfl (by assumption) (by assumption) rfl ?_ | refine eri rfl ?_ | refine erv rfl ?_ | refine erl rfl ?_ | refine era rfl ?_ | refine erz0 rfl ?_ | refine erz1 rfl ?_)
    try dsimp only [set1, set2, kilP, List.set_cons_zero, List.set_cons_succ, List.getElem?_cons_zero, List.getElem?_cons_succ, List.nil_append, List.cons_append, Option.toList_some, Option.toList_none]
    exact y_led_loop hR h0t hF1 a1 hM hv hI.p4 σ.T.np 0 0 (by omega)
end RLED
