/-! The reference: rows that fit, its calls -/
theorem ukL_snoc {uk : Nat → Bool} : ∀ k h, ukL uk (k + 1) h = ukL uk k h ++ (if uk (h + k) = true then [h + k] else [])
  | 0, h => by rw [ukL, ukL, ukL, List.nil_append]; rfl
  | k + 1, h => by
    rw [ukL, ukL_snoc k (h + 1), ukL, show h + 1 + k = h + (k + 1) by omega]
    by_cases c : uk h = true
    · rw [if_pos c, if_pos c, List.cons_append]
    · rw [if_neg c, if_neg c]
section RFC
variable {ad : Nat → Nat} {M : Mm} {b : Nat} {σ : Sg} {C : Nat} {a : Nat} {oa : Int32 × Int32 × Int32} {rd : Value} {r : Yr} {p1 p2 : Int32 × Int32} {q4 : Y2} {M0 : Mm} {A0 : Ar}
theorem y_ft_z {un ro al : Int32} {P : Option Value → Mm → Prop} (K : ∀ M A L1, yU M b a σ oa rd r p1 p2 q4 M0 A0 un ro al A → (∀ j, j < 49 → A 12 j = 0) → Ev ad 3 (rX13_fitting ad) (31, [some (.ref b), L1, none], [], M) P) : ∀ (n i : Nat) (M : Mm) (A : Ar), yU M b a σ oa rd r p1 p2 q4 M0 A0 un ro al A → i + n = 49 → (∀ j, j < i → A 12 j = 0) → Ev ad 3 (rX13_fitting ad) (12, [some (.ref b), some (.int (nI i)), none], [], M) P := by
  intro n
  induction n with
  | zero =>
    intro i M A hV hi hq
    have h0 := hV.1.1.1
    repeat (first | refine es rfl rfl rfl ?_ | refine eg rfl (by assumption) rfl ?_ | refine eanE rfl (by assumption) (by with_reducible first | exact rfl | exact Int32.zero_add _ | exact ix8 _ | exact ix12 _ | exact ix7r _ _ | exact n7 | exact n0 | exact n1) (by assumption) rfl ?_ | refine eal rfl (by assumption) (by assumption) rfl ?_ | refine eri rfl ?_ | refine erv rfl ?_ | refine erl rfl ?_ | refine era rfl ?_ | refine erz0 rfl ?_ | refine erz1 rfl ?_)
    try dsimp only [set1, set2, kilP, List.set_cons_zero, List.set_cons_succ, List.getElem?_cons_zero, List.getElem?_cons_succ, List.nil_append, List.cons_append, Option.toList_some, Option.toList_none]
    refine ei _ rfl rfl (fun c => ?_) (fun c => ?_)
    · exact K M A _ hV (fun j hj => hq j (by omega))
    · exact absurd (show (49 : Int32) ≤ nI i from nI_le (a := 49) (by omega) (by omega)) c
  | succ n ih =>
    intro i M A hV hi hq
    have h0 := hV.1.1.1
    have c12 : M.1 (b + 12) = ints 49 (A 12) := hV.1.1.c.2.2.2.2.2.2.2.2.2.2.2.1
    have hi49 : i < 49 := by omega
    repeat (first | refine es rfl rfl rfl ?_ | refine eg rfl (by assumption) rfl ?_ | refine eanE rfl (by assumption) (by with_reducible first | exact rfl | exact Int32.zero_add _ | exact ix8 _ | exact ix12 _ | exact ix7r _ _ | exact n7 | exact n0 | exact n1) (by assumption) rfl ?_ | refine eal rfl (by assumption) (by assumption) rfl ?_ | refine eri rfl ?_ | refine erv rfl ?_ | refine erl rfl ?_ | refine era rfl ?_ | refine erz0 rfl ?_ | refine erz1 rfl ?_)
    try dsimp only [set1, set2, kilP, List.set_cons_zero, List.set_cons_succ, List.getElem?_cons_zero, List.getElem?_cons_succ, List.nil_append, List.cons_append, Option.toList_some, Option.toList_none]
    refine ei _ rfl rfl (fun c => ?_) (fun c => ?_)
    · exact absurd c (nI_ge (b := 49) (by omega) (by omega))
    repeat (first | refine es rfl rfl rfl ?_ | refine eg rfl (by assumption) rfl ?_ | refine eanE rfl (by assumption) (by with_reducible first | exact rfl | exact Int32.zero_add _ | exact ix8 _ | exact ix12 _ | exact ix7r _ _ | exact n7 | exact n0 | exact n1) (by assumption) rfl ?_ | refine eal rfl (by assumption) (by assumption) rfl ?_ | refine eri rfl ?_ | refine erv rfl ?_ | refine erl rfl ?_ | refine era rfl ?_ | refine erz0 rfl ?_ | refine erz1 rfl ?_)
    try dsimp only [set1, set2, kilP, List.set_cons_zero, List.set_cons_succ, List.getElem?_cons_zero, List.getElem?_cons_succ, List.nil_append, List.cons_append, Option.toList_some, Option.toList_none]
    refine etM rfl c12 hi49 rfl (fun M2 eM => ?_)
    repeat (refine ng 12 rfl ?_; first | refine es rfl rfl rfl ?_ | refine eg rfl (by assumption) rfl ?_ | refine eanE rfl (by assumption) (by with_reducible first | exact rfl | exact Int32.zero_add _ | exact ix8 _ | exact ix12 _ | exact ix7r _ _ | exact n7 | exact n0 | exact n1) (by assumption) rfl ?_ | refine eal rfl (by assumption) (by assumption) rfl ?_ | refine eri rfl ?_ | refine erv rfl ?_ | refine erl rfl ?_ | refine era rfl ?_ | refine erz0 rfl ?_ | refine erz1 rfl ?_)
    try dsimp only [set1, set2, kilP, List.set_cons_zero, List.set_cons_succ, List.getElem?_cons_zero, List.getElem?_cons_succ, List.nil_append, List.cons_append, Option.toList_some, Option.toList_none]
    rw [nI_1]
    refine ih (i + 1) M2 _ (hV.ar (k := 12) eM (by omega)) (by omega) (fun j hj => ?_)
    show upd (A 12) i 0 j = 0
    by_cases e : j = i
    · rw [e, pk_us]
    · rw [pk_un e]; exact hq j (by omega)
theorem Inv.uk {σ : Sg} {C : Nat} (h : Inv σ C) (hn : 0 < σ.T.hs.n) {j : Nat} (hj : j < 7) : ukF σ.T.hs j = true ↔ σ.f j = -2 := by
  rw [decide_eq_true_eq]
  exact ((h.rowI hn).2.2.2.2.2.1 j hj).symm
theorem y_ft_u {ro al : Int32} {P : Option Value → Mm → Prop} (hI : Inv σ C) (hn : 0 < σ.T.hs.n) (K : ∀ M A L1, yU M b a σ oa rd r p1 p2 q4 M0 A0 (nI (ukL (ukF σ.T.hs) σ.T.hs.n 0).length) ro al A → (∀ j, j < 49 → A 12 j = 0) → askR (A 9) (ukL (ukF σ.T.hs) σ.T.hs.n 0) → (∀ j, j < σ.T.hs.n → A 10 j = σ.f j) → Ev ad 3 (rX13_fitting ad) (98, [some (.ref b), L1, none], [], M) P) : ∀ (n i : Nat) (M : Mm) (A : Ar), yU M b a σ oa rd r p1 p2 q4 M0 A0 (nI (ukL (ukF σ.T.hs) i 0).length) ro al A → i + n = σ.T.hs.n → (∀ j, j < 49 → A 12 j = 0) → askR (A 9) (ukL (ukF σ.T.hs) i 0) → (∀ j, j < i → A 10 j = σ.f j) → Ev ad 3 (rX13_fitting ad) (33, [some (.ref b), some (.int (nI i)), none], [], M) P := by
  have hn7 := hI.n7
  intro n
  induction n with
  | zero =>
    intro i M A hV hi hz ha hq
    obtain ⟨_, _, ⟨kn, Am, Bm, m0, -⟩, _⟩ := hV.1
    have h0 := hV.1.1.1
    have e : i = σ.T.hs.n := by omega
    subst e
    repeat (first | refine es rfl rfl rfl ?_ | refine eg rfl (by assumption) rfl ?_ | refine eanE rfl (by assumption) (by with_reducible first | exact rfl | exact Int32.zero_add _ | exact ix8 _ | exact ix12 _ | exact ix7r _ _ | exact n7 | exact n0 | exact n1) (by assumption) rfl ?_ | refine eal rfl (by assumption) (by assumption) rfl ?_ | refine eri rfl ?_ | refine erv rfl ?_ | refine erl rfl ?_ | refine era rfl ?_ | refine erz0 rfl ?_ | refine erz1 rfl ?_)
    try dsimp only [set1, set2, kilP, List.set_cons_zero, List.set_cons_succ, List.getElem?_cons_zero, List.getElem?_cons_succ, List.nil_append, List.cons_append, Option.toList_some, Option.toList_none]
    refine ei _ rfl rfl (fun c => ?_) (fun c => ?_)
    · exact K M A _ hV hz ha hq
    · exact absurd (nI_le (by omega) (by omega)) c
  | succ n ih =>
    intro i M A hV hi hz ha hq
    obtain ⟨_, _, ⟨kn, Am, Bm, m0, -⟩, hv⟩ := hV.1
    have h0 := hV.1.1.1
    obtain ⟨c1', c2', c3', c4', c5', c6', c7', c8', c9', c10', c11', c12', -⟩ := hV.1.1.c
    have hi16 : i < 16 := by omega
    have hi7 : i < 7 := by omega
    have hul := ukL_len (uk := ukF σ.T.hs) i 0
    have hul7 : (ukL (ukF σ.T.hs) i 0).length < 7 := by omega
    have hs := ukL_snoc (uk := ukF σ.T.hs) i 0
    rw [Nat.zero_add] at hs
    repeat (first | refine es rfl rfl rfl ?_ | refine eg rfl (by assumption) rfl ?_ | refine eanE rfl (by assumption) (by with_reducible first | exact rfl | exact Int32.zero_add _ | exact ix8 _ | exact ix12 _ | exact ix7r _ _ | exact n7 | exact n0 | exact n1) (by assumption) rfl ?_ | refine eal rfl (by assumption) (by assumption) rfl ?_ | refine eri rfl ?_ | refine erv rfl ?_ | refine erl rfl ?_ | refine era rfl ?_ | refine erz0 rfl ?_ | refine erz1 rfl ?_)
    try dsimp only [set1, set2, kilP, List.set_cons_zero, List.set_cons_succ, List.getElem?_cons_zero, List.getElem?_cons_succ, List.nil_append, List.cons_append, Option.toList_some, Option.toList_none]
    refine ei _ rfl rfl (fun c => ?_) (fun c => ?_)
    · exact absurd c (nI_ge (by omega) (by omega))
    repeat (first | refine es rfl rfl rfl ?_ | refine eg rfl (by assumption) rfl ?_ | refine eanE rfl (by assumption) (by with_reducible first | exact rfl | exact Int32.zero_add _ | exact ix8 _ | exact ix12 _ | exact ix7r _ _ | exact n7 | exact n0 | exact n1) (by assumption) rfl ?_ | refine eal rfl (by assumption) (by assumption) rfl ?_ | refine eri rfl ?_ | refine erv rfl ?_ | refine erl rfl ?_ | refine era rfl ?_ | refine erz0 rfl ?_ | refine erz1 rfl ?_)
    try dsimp only [set1, set2, kilP, List.set_cons_zero, List.set_cons_succ, List.getElem?_cons_zero, List.getElem?_cons_succ, List.nil_append, List.cons_append, Option.toList_some, Option.toList_none]
    refine etM rfl c10' hi7 rfl (fun M2 eM => ?_)
    have hV2 := hV.ar (k := 10) eM (by omega)
    have k0 := hV2.1.1.1
    have k9 : M2.1 (b + 9) = ints 7 (A 9) := hV2.1.1.c.2.2.2.2.2.2.2.2.1
    have k10 : M2.1 (b + 10) = ints 7 (upd (A 10) i (A 2 i)) := hV2.1.1.c.2.2.2.2.2.2.2.2.2.1
    have hq2 : ∀ j, j < i + 1 → upd (A 10) i (A 2 i) j = σ.f j := by
      intro j hj
      by_cases e : j = i
      · rw [e, pk_us]; exact hv i hi16
      · rw [pk_un e]; exact hq j (by omega)
    repeat (first | refine es rfl rfl rfl ?_ | refine eg rfl (by assumption) rfl ?_ | refine eanE rfl (by assumption) (by with_reducible first | exact rfl | exact Int32.zero_add _ | exact ix8 _ | exact ix12 _ | exact ix7r _ _ | exact n7 | exact n0 | exact n1) (by assumption) rfl ?_ | refine eal rfl (by assumption) (by assumption) rfl ?_ | refine eri rfl ?_ | refine erv rfl ?_ | refine erl rfl ?_ | refine era rfl ?_ | refine erz0 rfl ?_ | refine erz1 rfl ?_)
    try dsimp only [set1, set2, kilP, List.set_cons_zero, List.set_cons_succ, List.getElem?_cons_zero, List.getElem?_cons_succ, List.nil_append, List.cons_append, Option.toList_some, Option.toList_none]
    rw [pk_us, hv i hi16]
    refine ei _ rfl rfl (fun c2 => ?_) (fun c2 => ?_)
    · have hu : ukF σ.T.hs i = true := (hI.uk hn hi7).mpr c2
      rw [if_pos hu] at hs
      repeat (first | refine es rfl rfl rfl ?_ | refine eg rfl (by assumption) rfl ?_ | refine eanE rfl (by assumption) (by with_reducible first | exact rfl | exact Int32.zero_add _ | exact ix8 _ | exact ix12 _ | exact ix7r _ _ | exact n7 | exact n0 | exact n1) (by assumption) rfl ?_ | refine eal rfl (by assumption) (by assumption) rfl ?_ | refine eri rfl ?_ | refine erv rfl ?_ | refine erl rfl ?_ | refine era rfl ?_ | refine erz0 rfl ?_ | refine erz1 rfl ?_)
      try dsimp only [set1, set2, kilP, List.set_cons_zero, List.set_cons_succ, List.getElem?_cons_zero, List.getElem?_cons_succ, List.nil_append, List.cons_append, Option.toList_some, Option.toList_none]
      refine etM rfl k9 hul7 rfl (fun M3 eM3 => ?_)
      have hV3 := hV2.ar (k := 9) eM3 (by omega)
      have w0 := hV3.1.1.1
      repeat (first | refine es rfl rfl rfl ?_ | refine eg rfl (by assumption) rfl ?_ | refine eanE rfl (by assumption) (by with_reducible first | exact rfl | exact Int32.zero_add _ | exact ix8 _ | exact ix12 _ | exact ix7r _ _ | exact n7 | exact n0 | exact n1) (by assumption) rfl ?_ | refine eal rfl (by assumption) (by assumption) rfl ?_ | refine eri rfl ?_ | refine erv rfl ?_ | refine erl rfl ?_ | refine era rfl ?_ | refine erz0 rfl ?_ | refine erz1 rfl ?_)
      try dsimp only [set1, set2, kilP, List.set_cons_zero, List.set_cons_succ, List.getElem?_cons_zero, List.getElem?_cons_succ, List.nil_append, List.cons_append, Option.toList_some, Option.toList_none]
      refine epM (fs' := yF b (oa, (.ref a, rd), r, p1, p2, (nI (ukL (ukF σ.T.hs) (i + 1) 0).length, ro, al), q4)) rfl w0 rfl rfl (by rw [hs, List.length_append, show [i].length = 1 from rfl, ← nI_1]; rfl) (fun M4 eM4 => ?_)
      repeat (refine ng 33 rfl ?_; first | refine es rfl rfl rfl ?_ | refine eg rfl (by assumption) rfl ?_ | refine eanE rfl (by assumption) (by with_reducible first | exact rfl | exact Int32.zero_add _ | exact ix8 _ | exact ix12 _ | exact ix7r _ _ | exact n7 | exact n0 | exact n1) (by assumption) rfl ?_ | refine eal rfl (by assumption) (by assumption) rfl ?_ | refine eri rfl ?_ | refine erv rfl ?_ | refine erl rfl ?_ | refine era rfl ?_ | refine erz0 rfl ?_ | refine erz1 rfl ?_)
      try dsimp only [set1, set2, kilP, List.set_cons_zero, List.set_cons_succ, List.getElem?_cons_zero, List.getElem?_cons_succ, List.nil_append, List.cons_append, Option.toList_some, Option.toList_none]
      rw [nI_1]
      refine ih (i + 1) M4 _ (hV3.ob eM4) (by omega) hz ?_ hq2
      rw [hs]
      intro q x e
      show upd (A 9) (ukL (ukF σ.T.hs) i 0).length (nI i) q = nI x
      rcases Nat.lt_or_ge q (ukL (ukF σ.T.hs) i 0).length with w | w
      · rw [List.getElem?_append_left w] at e
        rw [pk_un (by omega)]
        exact ha q x e
      · rw [List.getElem?_append_right w] at e
        have h00 : q - (ukL (ukF σ.T.hs) i 0).length = 0 := by have := (List.getElem?_eq_some_iff.mp e).1; rw [List.length_singleton] at this; omega
        rw [h00] at e
        injection e with e
        rw [show q = (ukL (ukF σ.T.hs) i 0).length by omega, pk_us, e]
    · have hu : ¬ ukF σ.T.hs i = true := fun q => c2 ((hI.uk hn hi7).mp q)
      rw [if_neg hu, List.append_nil] at hs
      repeat (refine ng 33 rfl ?_; first | refine es rfl rfl rfl ?_ | refine eg rfl (by assumption) rfl ?_ | refine eanE rfl (by assumption) (by with_reducible first | exact rfl | exact Int32.zero_add _ | exact ix8 _ | exact ix12 _ | exact ix7r _ _ | exact n7 | exact n0 | exact n1) (by assumption) rfl ?_ | refine eal rfl (by assumption) (by assumption) rfl ?_ | refine eri rfl ?_ | refine erv rfl ?_ | refine erl rfl ?_ | refine era rfl ?_ | refine erz0 rfl ?_ | refine erz1 rfl ?_)
      try dsimp only [set1, set2, kilP, List.set_cons_zero, List.set_cons_succ, List.getElem?_cons_zero, List.getElem?_cons_succ, List.nil_append, List.cons_append, Option.toList_some, Option.toList_none]
      rw [nI_1]
      refine ih (i + 1) M2 (sA A 10 (upd (A 10) i (A 2 i))) (by rw [hs]; exact hV2) (by omega) hz (by rw [hs]; exact ha) hq2
/-- the rooms as they are known -/
def r0F (σ : Sg) : Fo := fun j => (σ.f j).toNatClampNeg
theorem fitR_U (T : Tw) (w : Fo) : fitR T w = fitU (fitB T) T.hs.n (ukL (ukF T.hs) T.hs.n 0) [] w := fitL_U _ _ _ _
theorem y_fitting {A : Ar} {un ro al : Int32} (hI : Inv σ C) (hn : 0 < σ.T.hs.n) (hV : yU M b a σ oa rd r p1 p2 q4 M0 A0 un ro al A) : EvM ad 3 (iX13_fitting ad) [.ref b] M (fun v' M' => v' = none ∧ ∃ A' ro', yU M' b a σ oa rd r p1 p2 q4 M0 A0 (nI (ukL (ukF σ.T.hs) σ.T.hs.n 0).length) ro' al A' ∧ askR (A' 9) (ukL (ukF σ.T.hs) σ.T.hs.n 0) ∧ faR σ.T.hs.n ro' (A' 12) (A' 11) (fitR σ.T (r0F σ))) := by
  have hn7 := hI.n7
  have hro := hI.rowI hn
  have h0 := hV.1.1.1
  have hul := ukL_len (uk := ukF σ.T.hs) σ.T.hs.n 0
  have hkn : ∀ j, j < σ.T.hs.n → ¬ σ.f j = -2 → σ.f j = nI (r0F σ j) ∧ r0F σ j < σ.T.hs.n := by
    intro j hj hne
    obtain ⟨_, k, hk, e⟩ := (hro.1 j (by omega)).resolve_left hne
    unfold r0F
    rw [e, nI_clamp (by omega)]
    exact ⟨rfl, hk⟩
  refine ⟨Nat.le_of_ble_eq_true rfl, ?_⟩
  show Ev ad _ (rX13_fitting ad) (0, [some (.ref b), none, none], [], M) _
  repeat (first | refine es rfl rfl rfl ?_ | refine eg rfl (by assumption) rfl ?_ | refine eanE rfl (by assumption) (by with_reducible first | exact rfl | exact Int32.zero_add _ | exact ix8 _ | exact ix12 _ | exact ix7r _ _ | exact n7 | exact n0 | exact n1) (by assumption) rfl ?_ | refine eal rfl (by assumption) (by assumption) rfl ?_ | refine eri rfl ?_ | refine erv rfl ?_ | refine erl rfl ?_ | refine era rfl ?_ | refine erz0 rfl ?_ | refine erz1 rfl ?_)
  try dsimp only [set1, set2, kilP, List.set_cons_zero, List.set_cons_succ, List.getElem?_cons_zero, List.getElem?_cons_succ, List.nil_append, List.cons_append, Option.toList_some, Option.toList_none]
  refine epM (fs' := yF b (oa, (.ref a, rd), r, p1, p2, (0, ro, al), q4)) rfl h0 rfl rfl rfl (fun M2 eM => ?_)
  have hV2 := hV.ob eM
  have k0 := hV2.1.1.1
  repeat (first | refine es rfl rfl rfl ?_ | refine eg rfl (by assumption) rfl ?_ | refine eanE rfl (by assumption) (by with_reducible first | exact rfl | exact Int32.zero_add _ | exact ix8 _ | exact ix12 _ | exact ix7r _ _ | exact n7 | exact n0 | exact n1) (by assumption) rfl ?_ | refine eal rfl (by assumption) (by assumption) rfl ?_ | refine eri rfl ?_ | refine erv rfl ?_ | refine erl rfl ?_ | refine era rfl ?_ | refine erz0 rfl ?_ | refine erz1 rfl ?_)
  try dsimp only [set1, set2, kilP, List.set_cons_zero, List.set_cons_succ, List.getElem?_cons_zero, List.getElem?_cons_succ, List.nil_append, List.cons_append, Option.toList_some, Option.toList_none]
  refine epM (fs' := yF b (oa, (.ref a, rd), r, p1, p2, (0, 0, al), q4)) rfl k0 rfl rfl rfl (fun M3 eM3 => ?_)
  have hV3 := hV2.ob eM3
  repeat (refine ng 12 rfl ?_; first | refine es rfl rfl rfl ?_ | refine eg rfl (by assumption) rfl ?_ | refine eanE rfl (by assumption) (by with_reducible first | exact rfl | exact Int32.zero_add _ | exact ix8 _ | exact ix12 _ | exact ix7r _ _ | exact n7 | exact n0 | exact n1) (by assumption) rfl ?_ | refine eal rfl (by assumption) (by assumption) rfl ?_ | refine eri rfl ?_ | refine erv rfl ?_ | refine erl rfl ?_ | refine era rfl ?_ | refine erz0 rfl ?_ | refine erz1 rfl ?_)
  try dsimp only [set1, set2, kilP, List.set_cons_zero, List.set_cons_succ, List.getElem?_cons_zero, List.getElem?_cons_succ, List.nil_append, List.cons_append, Option.toList_some, Option.toList_none]
  refine y_ft_z (fun M4 A4 L1 hV4 hz4 => ?_) 49 0 M3 A hV3 rfl (fun j hj => absurd hj (by omega))
  repeat (refine ng 33 rfl ?_; first | refine es rfl rfl rfl ?_ | refine eg rfl (by assumption) rfl ?_ | refine eanE rfl (by assumption) (by with_reducible first | exact rfl | exact Int32.zero_add _ | exact ix8 _ | exact ix12 _ | exact ix7r _ _ | exact n7 | exact n0 | exact n1) (by assumption) rfl ?_ | refine eal rfl (by assumption) (by assumption) rfl ?_ | refine eri rfl ?_ | refine erv rfl ?_ | refine erl rfl ?_ | refine era rfl ?_ | refine erz0 rfl ?_ | refine erz1 rfl ?_)
  try dsimp only [set1, set2, kilP, List.set_cons_zero, List.set_cons_succ, List.getElem?_cons_zero, List.getElem?_cons_succ, List.nil_append, List.cons_append, Option.toList_some, Option.toList_none]
  refine y_ft_u hI hn (fun M5 A5 L1 hV5 hz5 ha5 ho5 => ?_) σ.T.hs.n 0 M4 A4 hV4 (by omega) hz4 (fun i x e => by rw [ukL] at e; simp at e) (fun j hj => absurd hj (by omega))
  have k5 := hV5.1.1.1
  have hf5 : faR σ.T.hs.n 0 (A5 12) (A5 11) [] := ⟨rfl, fun h g x1 x2 => hz5 _ (by omega), fun r0 L' e => by cases e⟩
  rw [fitR_U]
  cases hU : ukL (ukF σ.T.hs) σ.T.hs.n 0 with
  | nil =>
    rw [hU] at hV5 ha5 k5
    have hall : ∀ j, j < σ.T.hs.n → ¬ σ.f j = -2 := by
      intro j hj q
      have : j ∈ ukL (ukF σ.T.hs) σ.T.hs.n 0 := (ukL_mem _ _).mpr ⟨by omega, by omega, (hI.uk hn (by omega)).mpr q⟩
      rw [hU] at this
      cases this
    repeat (first | refine es rfl rfl rfl ?_ | refine eg rfl (by assumption) rfl ?_ | refine eanE rfl (by assumption) (by with_reducible first | exact rfl | exact Int32.zero_add _ | exact ix8 _ | exact ix12 _ | exact ix7r _ _ | exact n7 | exact n0 | exact n1) (by assumption) rfl ?_ | refine eal rfl (by assumption) (by assumption) rfl ?_ | refine eri rfl ?_ | refine erv rfl ?_ | refine erl rfl ?_ | refine era rfl ?_ | refine erz0 rfl ?_ | refine erz1 rfl ?_)
    try dsimp only [set1, set2, kilP, List.set_cons_zero, List.set_cons_succ, List.getElem?_cons_zero, List.getElem?_cons_succ, List.nil_append, List.cons_append, Option.toList_some, Option.toList_none]
    refine ecv rfl rfl (by assumption) rfl rfl rfl (y_cr (w := r0F σ) (acc := []) hn7 (fun j hj => by have := (hkn j hj (hall j hj)).2; omega) (by decide) hV5 (fun j hj => by rw [ho5 j hj]; exact (hkn j hj (hall j hj)).1) hf5) (by first | rfl | exact Nat.blt_eq.mpr (by omega)) ?_
    rintro v M6 ⟨rfl, A6, hV6, e9, e10, hf6⟩
    try dsimp only [set1, set2, kilP, List.set_cons_zero, List.set_cons_succ, List.getElem?_cons_zero, List.getElem?_cons_succ, List.nil_append, List.cons_append, Option.toList_some, Option.toList_none]
    repeat (first | refine es rfl rfl rfl ?_ | refine eg rfl (by assumption) rfl ?_ | refine eanE rfl (by assumption) (by with_reducible first | exact rfl | exact Int32.zero_add _ | exact ix8 _ | exact ix12 _ | exact ix7r _ _ | exact n7 | exact n0 | exact n1) (by assumption) rfl ?_ | refine eal rfl (by assumption) (by assumption) rfl ?_ | refine eri rfl ?_ | refine erv rfl ?_ | refine erl rfl ?_ | refine era rfl ?_ | refine erz0 rfl ?_ | refine erz1 rfl ?_)
    try dsimp only [set1, set2, kilP, List.set_cons_zero, List.set_cons_succ, List.getElem?_cons_zero, List.getElem?_cons_succ, List.nil_append, List.cons_append, Option.toList_some, Option.toList_none]
    exact ⟨rfl, A6, _, hV6, by rw [e9]; exact ha5, hf6⟩
  | cons h us =>
    rw [hU] at hV5 ha5 k5 hul
    obtain ⟨c1', c2', c3', c4', c5', c6', c7', c8', c9', c10', c11', c12', -⟩ := hV5.1.1.c
    have hnd := ukL_nd (uk := ukF σ.T.hs) σ.T.hs.n 0
    rw [hU] at hnd
    have hm : ∀ x, x ∈ h :: us ↔ x < σ.T.hs.n ∧ σ.f x = -2 := by
      intro x
      rw [← hU, ukL_mem]
      constructor
      · rintro ⟨_, x2, x3⟩; exact ⟨by omega, (hI.uk hn (by omega)).mp x3⟩
      · rintro ⟨x1, x2⟩; exact ⟨by omega, by omega, (hI.uk hn (by omega)).mpr x2⟩
    have hhn := (hm h).mp List.mem_cons_self
    have hh7 : h < 7 := by omega
    have ea : A5 9 0 = nI h := ha5 0 h rfl
    have z7 : 0 < 7 := by omega
    repeat (first | refine es rfl rfl rfl ?_ | refine eg rfl (by assumption) rfl ?_ | refine eanE rfl (by assumption) (by with_reducible first | exact rfl | exact Int32.zero_add _ | exact ix8 _ | exact ix12 _ | exact ix7r _ _ | exact n7 | exact n0 | exact n1) (by assumption) rfl ?_ | refine eal rfl (by assumption) (by assumption) rfl ?_ | refine eri rfl ?_ | refine erv rfl ?_ | refine erl rfl ?_ | refine era rfl ?_ | refine erz0 rfl ?_ | refine erz1 rfl ?_)
    try dsimp only [set1, set2, kilP, List.set_cons_zero, List.set_cons_succ, List.getElem?_cons_zero, List.getElem?_cons_succ, List.nil_append, List.cons_append, Option.toList_some, Option.toList_none]
    refine ei _ rfl rfl (fun c => ?_) (fun c => ?_)
    rotate_left
    · exact absurd (Decidable.not_not.mp c) (nI_ne0 (by rw [List.length_cons]; omega) (by omega))
    repeat (first | refine es rfl rfl rfl ?_ | refine eg rfl (by assumption) rfl ?_ | refine eanE rfl (by assumption) (by with_reducible first | exact rfl | exact Int32.zero_add _ | exact ix8 _ | exact ix12 _ | exact ix7r _ _ | exact n7 | exact n0 | exact n1) (by assumption) rfl ?_ | refine eal rfl (by assumption) (by assumption) rfl ?_ | refine eri rfl ?_ | refine erv rfl ?_ | refine erl rfl ?_ | refine era rfl ?_ | refine erz0 rfl ?_ | refine erz1 rfl ?_)
    try dsimp only [set1, set2, kilP, List.set_cons_zero, List.set_cons_succ, List.getElem?_cons_zero, List.getElem?_cons_succ, List.nil_append, List.cons_append, Option.toList_some, Option.toList_none]
    rw [ea]
    refine etM rfl c10' hh7 rfl (fun M6 eM6 => ?_)
    have hV6 := hV5.ar (k := 10) eM6 (by omega)
    repeat (refine ng 124 rfl ?_; first | refine es rfl rfl rfl ?_ | refine eg rfl (by assumption) rfl ?_ | refine eanE rfl (by assumption) (by with_reducible first | exact rfl | exact Int32.zero_add _ | exact ix8 _ | exact ix12 _ | exact ix7r _ _ | exact n7 | exact n0 | exact n1) (by assumption) rfl ?_ | refine eal rfl (by assumption) (by assumption) rfl ?_ | refine eri rfl ?_ | refine erv rfl ?_ | refine erl rfl ?_ | refine era rfl ?_ | refine erz0 rfl ?_ | refine erz1 rfl ?_)
    try dsimp only [set1, set2, kilP, List.set_cons_zero, List.set_cons_succ, List.getElem?_cons_zero, List.getElem?_cons_succ, List.nil_append, List.cons_append, Option.toList_some, Option.toList_none]
    have hhd := y_fhd (ad := ad) (k := 0) (h := h) (x := -1) (L2 := none) hV6 z7 hh7 ea pk_us (Or.inl rfl) (P := fun v' M' => v' = none ∧ ∃ A' ro', yU M' b a σ oa rd r p1 p2 q4 M0 A0 (nI (h :: us).length) ro' al A' ∧ askR (A' 9) (h :: us) ∧ faR σ.T.hs.n ro' (A' 12) (A' 11) (fitU (fitB σ.T) σ.T.hs.n (h :: us) [] (r0F σ))) (fun M7 hV7 => by
      refine y_fit_lv (U := h :: us) (al := al) hI hn (by omega) hnd (fun x hx => ((hm x).mp hx).1) us [] [] h (r0F σ) rfl ?_ σ.T.hs.n 0 M7 _ 0 [] (by omega) hV7 ha5 (by show upd (upd (A5 10) h (-1)) h (-1 + 1) h = nI 0; rw [pk_us]; rfl) ?_ hf5 ?_ ?_
      · intro x hx
        constructor
        · rintro ⟨j, j1, j2, j3, j4⟩
          right
          have hne : ¬ σ.f j = -2 := fun q => by rcases List.mem_cons.mp ((hm j).mpr ⟨j1, q⟩) with y | y; exact j2 y; exact j3 y
          have e1 := (hkn j j1 hne).1
          rw [j4] at e1
          obtain ⟨k, k1, k2⟩ := (hro.2.2.2.2.2.2 x (by omega)).mp ⟨j, by omega, e1⟩
          refine ⟨k, ?_, k2⟩
          rcases (hI.tI hn).2.2.1 k k1 with q | q
          · rw [q] at k2; exact absurd k2.symm (nI_n2 (by omega))
          · exact q.1
        · rintro (q | ⟨k, k1, k2⟩)
          · cases q
          · obtain ⟨j, j1, j2⟩ := (hro.2.2.2.2.2.2 x (by omega)).mpr ⟨k, by omega, k2⟩
            have hne : ¬ σ.f j = -2 := by rw [j2]; exact nI_n2 (by omega)
            obtain ⟨jn, _⟩ := (hro.1 j j1).resolve_left hne
            refine ⟨j, jn, fun y => ?_, fun y => ?_, ?_⟩
            · rw [y] at hne; exact hne hhn.2
            · exact hne ((hm j).mp (List.mem_cons_of_mem _ y)).2
            · have e1 := (hkn j jn hne).1
              rw [j2] at e1
              exact ((nI_eq (by omega) (by have := (hkn j jn hne).2; omega)).mp e1).symm
      · intro j hj hne
        show (j ∈ us → upd (upd (A5 10) h (-1)) h (-1 + 1) j = -2) ∧ (j ∉ us → upd (upd (A5 10) h (-1)) h (-1 + 1) j = nI (r0F σ j) ∧ r0F σ j < σ.T.hs.n)
        rw [pk_un hne, pk_un hne, ho5 j hj]
        refine ⟨fun y => ((hm j).mp (List.mem_cons_of_mem _ y)).2, fun y => hkn j hj (fun z => ?_)⟩
        rcases List.mem_cons.mp ((hm j).mpr ⟨hj, z⟩) with q | q
        · exact hne q
        · exact y q
      · have hus : us.length ≤ 6 := by rw [List.length_cons] at hul; omega
        have h1 : 7 ^ us.length ≤ 7 ^ 6 := Nat.pow_le_pow_right (by omega) hus
        have h2 : σ.T.hs.n * 7 ^ us.length ≤ 7 * 7 ^ 6 := Nat.mul_le_mul hn7 h1
        rw [List.length_nil, Nat.zero_add]
        exact Nat.le_trans h2 (by decide)
      · intro M8 A8 ro8 hV8 ha8 e8 ho8 hf8 z
        have w0 := hV8.1.1.1
        repeat (first | refine es rfl rfl rfl ?_ | refine eg rfl (by assumption) rfl ?_ | refine eanE rfl (by assumption) (by with_reducible first | exact rfl | exact Int32.zero_add _ | exact ix8 _ | exact ix12 _ | exact ix7r _ _ | exact n7 | exact n0 | exact n1) (by assumption) rfl ?_ | refine eal rfl (by assumption) (by assumption) rfl ?_ | refine eri rfl ?_ | refine erv rfl ?_ | refine erl rfl ?_ | refine era rfl ?_ | refine erz0 rfl ?_ | refine erz1 rfl ?_)
        try dsimp only [set1, set2, kilP, List.set_cons_zero, List.set_cons_succ, List.getElem?_cons_zero, List.getElem?_cons_succ, List.nil_append, List.cons_append, Option.toList_some, Option.toList_none]
        refine ⟨rfl, A8, ro8, hV8, ha8, ?_⟩
        rw [fitU]
        exact hf8)
    exact hhd.up (Nat.le_succ _)
end RFC
