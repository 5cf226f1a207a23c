/-! The reference: what is now -/
/-- minutes to wait, as a number -/
def unN (a c r : Nat) : Nat := if r < 60 * a then 60 * a - r else if r ≤ 60 * c + 59 then 0 else 1440 - r + 60 * a
theorem untF_a {fr tt : Nat → Int32} {k m a c : Nat} (h1 : a ≤ c) (h2 : c ≤ 23) (e1 : fr k = nI a) (e2 : tt k = nI c) : untF fr tt k m = nI (unN a c (m % 1440)) := by
  have hr : m % 1440 < 1440 := Nat.mod_lt _ (by omega)
  unfold untF unN
  rw [if_neg (by rw [e1]; exact nI_n2 (by omega)), e1, e2, show (60 : Int32) * nI a = nI (60 * a) from pk_mul 60 a, show (60 : Int32) * nI c = nI (60 * c) from pk_mul 60 c]
  rw [show nI (60 * c) + 60 = nI (60 * c + 59 + 1) from nI_add _ 60, nI_pred]
  by_cases q1 : m % 1440 < 60 * a
  · rw [if_pos (nI_lt q1 (by omega)), if_pos q1, pk_sub (by omega)]
  · rw [if_neg (nI_nlt (by omega) (by omega)), if_neg q1]
    by_cases q2 : m % 1440 ≤ 60 * c + 59
    · rw [if_pos (nI_le q2 (by omega)), if_pos q2]; rfl
    · rw [if_neg (nI_ge (by omega) (by omega)), if_neg q2, show (1440 : Int32) = nI 1440 from rfl, pk_sub (by omega), nI_add]
theorem unN_0 {a c r : Nat} (hc : a ≤ c) (hr : r < 1440) : unN a c r = 0 ↔ a ≤ r / 60 ∧ r / 60 ≤ c := by
  unfold unN
  split
  · omega
  · split <;> omega
section RTOWN
variable {ad : Nat → Nat} {M : Mm} {a : Nat} {T : Tw}
theorem t_timed {k : Nat} (hM : aMt M a T) (hE : tE T) (hn : T.hs.n ≤ 7) (hk : k < T.hs.n) : Rd ad 0 (iX12_isTimed ad) [.ref a, .int (nI k)] M (some (.int (bI (¬ T.hs.fr k = -2)))) := by
  obtain ⟨kn, Am, Bm, m0, mc, mH, -⟩ := hM
  have m5 := mc.2.2.2.2.1
  have hk7 : k < 7 := by omega
  refine ⟨Nat.le_of_ble_eq_true rfl, ?_⟩
  show Ev ad _ (rX12_isTimed ad) (0, [some (.ref a), some (.int (nI k))], [], M) _
  repeat (first | refine es rfl rfl rfl ?_ | refine eg rfl (by assumption) rfl ?_ | refine ean rfl (by assumption) (by assumption) rfl ?_ | refine eal rfl (by assumption) (by assumption) rfl ?_ | refine eri rfl ?_ | refine erv rfl ?_ | refine erl rfl ?_ | refine era rfl ?_ | refine erz0 rfl ?_ | refine erz1 rfl ?_ | refine ean0 rfl (by assumption) (by assumption) rfl ?_ | refine ean8 rfl (by assumption) (by assumption) rfl ?_ | refine ean12 rfl (by assumption) (by assumption) rfl ?_ | refine ean7 rfl (by assumption) (by assumption) rfl ?_)
  try dsimp only [set1, set2, kilP, List.set_cons_zero, List.set_cons_succ, List.getElem?_cons_zero, List.getElem?_cons_succ, List.nil_append, List.cons_append, Option.toList_some, Option.toList_none]
  rw [(mH k hk).2.2.2.2.1]
  rcases hE k hk7 with e | ⟨_, f, c, _, _, e, _⟩
  · rw [if_pos e, show bI (¬ T.hs.fr k = -2) = 0 from if_neg (fun q => q e)]
    repeat (first | refine es rfl rfl rfl ?_ | refine eg rfl (by assumption) rfl ?_ | refine ean rfl (by assumption) (by assumption) rfl ?_ | refine eal rfl (by assumption) (by assumption) rfl ?_ | refine eri rfl ?_ | refine erv rfl ?_ | refine erl rfl ?_ | refine era rfl ?_ | refine erz0 rfl ?_ | refine erz1 rfl ?_ | refine ean0 rfl (by assumption) (by assumption) rfl ?_ | refine ean8 rfl (by assumption) (by assumption) rfl ?_ | refine ean12 rfl (by assumption) (by assumption) rfl ?_ | refine ean7 rfl (by assumption) (by assumption) rfl ?_)
    try dsimp only [set1, set2, kilP, List.set_cons_zero, List.set_cons_succ, List.getElem?_cons_zero, List.getElem?_cons_succ, List.nil_append, List.cons_append, Option.toList_some, Option.toList_none]
    exact ⟨rfl, rfl⟩
  · have e2 : ¬ T.hs.fr k = -2 := by rw [e]; exact nI_n2 (by omega)
    rw [if_neg e2, show bI (¬ T.hs.fr k = -2) = 1 from if_pos e2]
    refine ei _ rfl rfl (fun c => ?_) (fun c => ?_)
    · exact absurd c (by rw [e]; exact nI_n1 (by omega))
    · repeat (first | refine es rfl rfl rfl ?_ | refine eg rfl (by assumption) rfl ?_ | refine ean rfl (by assumption) (by assumption) rfl ?_ | refine eal rfl (by assumption) (by assumption) rfl ?_ | refine eri rfl ?_ | refine erv rfl ?_ | refine erl rfl ?_ | refine era rfl ?_ | refine erz0 rfl ?_ | refine erz1 rfl ?_ | refine ean0 rfl (by assumption) (by assumption) rfl ?_ | refine ean8 rfl (by assumption) (by assumption) rfl ?_ | refine ean12 rfl (by assumption) (by assumption) rfl ?_ | refine ean7 rfl (by assumption) (by assumption) rfl ?_)
      try dsimp only [set1, set2, kilP, List.set_cons_zero, List.set_cons_succ, List.getElem?_cons_zero, List.getElem?_cons_succ, List.nil_append, List.cons_append, Option.toList_some, Option.toList_none]
      exact ⟨rfl, rfl⟩
theorem t_hour {k m : Nat} (hM : aMt M a T) (hE : tE T) (hn : T.hs.n ≤ 7) (hk : k < T.hs.n) (hm : m < 1440) : Rd ad 1 (iX12_isHour ad) [.ref a, .int (nI k), .int (nI m)] M (some (.int (bI (untF T.hs.fr T.hs.tt k m = 0)))) := by
  obtain ⟨kn, Am, Bm, m0, mc, mH, -⟩ := id hM
  have m5 := mc.2.2.2.2.1
  have m6 := mc.2.2.2.2.2.1
  have hk7 : k < 7 := by omega
  refine ⟨Nat.le_of_ble_eq_true rfl, ?_⟩
  show Ev ad _ (rX12_isHour ad) (0, [some (.ref a), some (.int (nI k)), some (.int (nI m))], [], M) _
  repeat (first | refine es rfl rfl rfl ?_ | refine eg rfl (by assumption) rfl ?_ | refine ean rfl (by assumption) (by assumption) rfl ?_ | refine eal rfl (by assumption) (by assumption) rfl ?_ | refine eri rfl ?_ | refine erv rfl ?_ | refine erl rfl ?_ | refine era rfl ?_ | refine erz0 rfl ?_ | refine erz1 rfl ?_ | refine ean0 rfl (by assumption) (by assumption) rfl ?_ | refine ean8 rfl (by assumption) (by assumption) rfl ?_ | refine ean12 rfl (by assumption) (by assumption) rfl ?_ | refine ean7 rfl (by assumption) (by assumption) rfl ?_)
  try dsimp only [set1, set2, kilP, List.set_cons_zero, List.set_cons_succ, List.getElem?_cons_zero, List.getElem?_cons_succ, List.nil_append, List.cons_append, Option.toList_some, Option.toList_none]
  refine ecr rfl rfl (by assumption) rfl rfl rfl (t_timed hM hE hn hk) (by first | rfl | exact Nat.blt_eq.mpr (by omega)) rfl ?_
  rcases hE k hk7 with e | ⟨_, f, c, h1, h2, e, e'⟩
  · rw [show bI (¬ T.hs.fr k = -2) = 0 from if_neg (fun q => q e), show bI (untF T.hs.fr T.hs.tt k m = 0) = 1 from if_pos (by unfold untF; rw [if_pos e])]
    repeat (first | refine es rfl rfl rfl ?_ | refine eg rfl (by assumption) rfl ?_ | refine ean rfl (by assumption) (by assumption) rfl ?_ | refine eal rfl (by assumption) (by assumption) rfl ?_ | refine eri rfl ?_ | refine erv rfl ?_ | refine erl rfl ?_ | refine era rfl ?_ | refine erz0 rfl ?_ | refine erz1 rfl ?_ | refine ean0 rfl (by assumption) (by assumption) rfl ?_ | refine ean8 rfl (by assumption) (by assumption) rfl ?_ | refine ean12 rfl (by assumption) (by assumption) rfl ?_ | refine ean7 rfl (by assumption) (by assumption) rfl ?_)
    try dsimp only [set1, set2, kilP, List.set_cons_zero, List.set_cons_succ, List.getElem?_cons_zero, List.getElem?_cons_succ, List.nil_append, List.cons_append, Option.toList_some, Option.toList_none]
    exact ⟨rfl, rfl⟩
  · have e2 : ¬ T.hs.fr k = -2 := by rw [e]; exact nI_n2 (by omega)
    rw [show bI (¬ T.hs.fr k = -2) = 1 from if_pos e2]
    repeat (first | refine es rfl rfl rfl ?_ | refine eg rfl (by assumption) rfl ?_ | refine ean rfl (by assumption) (by assumption) rfl ?_ | refine eal rfl (by assumption) (by assumption) rfl ?_ | refine eri rfl ?_ | refine erv rfl ?_ | refine erl rfl ?_ | refine era rfl ?_ | refine erz0 rfl ?_ | refine erz1 rfl ?_ | refine ean0 rfl (by assumption) (by assumption) rfl ?_ | refine ean8 rfl (by assumption) (by assumption) rfl ?_ | refine ean12 rfl (by assumption) (by assumption) rfl ?_ | refine ean7 rfl (by assumption) (by assumption) rfl ?_)
    try dsimp only [set1, set2, kilP, List.set_cons_zero, List.set_cons_succ, List.getElem?_cons_zero, List.getElem?_cons_succ, List.nil_append, List.cons_append, Option.toList_some, Option.toList_none]
    rw [show nI m / 60 = nI (m / 60) from pk_div (d := 60) (by omega) (by omega) (by omega)]
    repeat (first | refine es rfl rfl rfl ?_ | refine eg rfl (by assumption) rfl ?_ | refine ean rfl (by assumption) (by assumption) rfl ?_ | refine eal rfl (by assumption) (by assumption) rfl ?_ | refine eri rfl ?_ | refine erv rfl ?_ | refine erl rfl ?_ | refine era rfl ?_ | refine erz0 rfl ?_ | refine erz1 rfl ?_ | refine ean0 rfl (by assumption) (by assumption) rfl ?_ | refine ean8 rfl (by assumption) (by assumption) rfl ?_ | refine ean12 rfl (by assumption) (by assumption) rfl ?_ | refine ean7 rfl (by assumption) (by assumption) rfl ?_)
    try dsimp only [set1, set2, kilP, List.set_cons_zero, List.set_cons_succ, List.getElem?_cons_zero, List.getElem?_cons_succ, List.nil_append, List.cons_append, Option.toList_some, Option.toList_none]
    rw [(mH k hk).2.2.2.2.1, if_neg e2, (mH k hk).2.2.2.2.2.1 e2, e, e']
    refine ecsr rfl rfl rfl rfl rfl rfl (y_in) (by first | rfl | exact Nat.blt_eq.mpr (by omega)) rfl ?_
    have hq : bI (untF T.hs.fr T.hs.tt k m = 0) = bI (nI f ≤ nI (m / 60) ∧ nI (m / 60) ≤ nI c) := by
      rw [untF_a h1 h2 e e', Nat.mod_eq_of_lt hm]
      have h3 : nI (unN f c m) = 0 ↔ unN f c m = 0 := by
        refine nI_eq (b := 0) ?_ (by omega)
        unfold unN; split; omega; split <;> omega
      have h4 : (nI f ≤ nI (m / 60) ∧ nI (m / 60) ≤ nI c) ↔ (f ≤ m / 60 ∧ m / 60 ≤ c) := by rw [nI_leI (by omega) (by omega), nI_leI (by omega) (by omega)]
      unfold bI
      by_cases q : f ≤ m / 60 ∧ m / 60 ≤ c
      · rw [if_pos (h3.mpr ((unN_0 h1 hm).mpr q)), if_pos (h4.mpr q)]
      · rw [if_neg (fun z => q ((unN_0 h1 hm).mp (h3.mp z))), if_neg (fun z => q (h4.mp z))]
    rw [hq]
    by_cases q : nI f ≤ nI (m / 60) ∧ nI (m / 60) ≤ nI c
    · rw [show bI (nI f ≤ nI (m / 60) ∧ nI (m / 60) ≤ nI c) = 1 from if_pos q]
      repeat (first | refine es rfl rfl rfl ?_ | refine eg rfl (by assumption) rfl ?_ | refine ean rfl (by assumption) (by assumption) rfl ?_ | refine eal rfl (by assumption) (by assumption) rfl ?_ | refine eri rfl ?_ | refine erv rfl ?_ | refine erl rfl ?_ | refine era rfl ?_ | refine erz0 rfl ?_ | refine erz1 rfl ?_ | refine ean0 rfl (by assumption) (by assumption) rfl ?_ | refine ean8 rfl (by assumption) (by assumption) rfl ?_ | refine ean12 rfl (by assumption) (by assumption) rfl ?_ | refine ean7 rfl (by assumption) (by assumption) rfl ?_)
      try dsimp only [set1, set2, kilP, List.set_cons_zero, List.set_cons_succ, List.getElem?_cons_zero, List.getElem?_cons_succ, List.nil_append, List.cons_append, Option.toList_some, Option.toList_none]
      exact ⟨rfl, rfl⟩
    · rw [show bI (nI f ≤ nI (m / 60) ∧ nI (m / 60) ≤ nI c) = 0 from if_neg q]
      repeat (first | refine es rfl rfl rfl ?_ | refine eg rfl (by assumption) rfl ?_ | refine ean rfl (by assumption) (by assumption) rfl ?_ | refine eal rfl (by assumption) (by assumption) rfl ?_ | refine eri rfl ?_ | refine erv rfl ?_ | refine erl rfl ?_ | refine era rfl ?_ | refine erz0 rfl ?_ | refine erz1 rfl ?_ | refine ean0 rfl (by assumption) (by assumption) rfl ?_ | refine ean8 rfl (by assumption) (by assumption) rfl ?_ | refine ean12 rfl (by assumption) (by assumption) rfl ?_ | refine ean7 rfl (by assumption) (by assumption) rfl ?_)
      try dsimp only [set1, set2, kilP, List.set_cons_zero, List.set_cons_succ, List.getElem?_cons_zero, List.getElem?_cons_succ, List.nil_append, List.cons_append, Option.toList_some, Option.toList_none]
      exact ⟨rfl, rfl⟩
end RTOWN
theorem whoF_le {f : Nat → Int32} {x : Int32} {N : Nat} : ∀ n h, h + n ≤ N → (∀ j, h + n ≤ j → j < N → ¬ f j = x) → whoF f x (N - h) h = whoF f x n h
  | 0, h, _, hq => by
    rw [whoF]
    have : ∀ k h, h + k = N → (∀ j, h ≤ j → j < N → ¬ f j = x) → whoF f x k h = -2 := by
      intro k
      induction k with
      | zero => intro h _ _; rfl
      | succ k ih => intro h e q; rw [whoF, if_neg (q h (by omega) (by omega))]; exact ih (h + 1) (by omega) (fun j a b => q j (by omega) b)
    exact this (N - h) h (by omega) (fun j a b => hq j (by omega) b)
  | n + 1, h, hn, hq => by
    rw [show N - h = (N - (h + 1)) + 1 by omega, whoF, whoF]
    split
    · rfl
    · exact whoF_le n (h + 1) (by omega) (fun j a b => hq j (by omega) b)
theorem Inv.rowI {σ : Sg} {C : Nat} (h : Inv σ C) (hn : 0 < σ.T.hs.n) : rowI σ.T C σ.f := (h.1 hn).2.2.2.2.1
theorem Inv.tI {σ : Sg} {C : Nat} (h : Inv σ C) (hn : 0 < σ.T.hs.n) : tI σ.T := (h.1 hn).1
theorem whoF_n {σ : Sg} {C : Nat} (h : Inv σ C) (hn : 0 < σ.T.hs.n) (k : Nat) (hk : k < 2 ^ 31) : whoF σ.f (nI k) σ.T.hs.n 0 = whoF σ.f (nI k) 7 0 := by
  have h7 := h.n7
  refine (whoF_le (N := 7) σ.T.hs.n 0 (by omega) (fun j a b q => ?_)).symm
  rcases (h.rowI hn).1 j b with e | ⟨e, _⟩
  · rw [e] at q; exact nI_n2 hk q.symm
  · omega
section RFACE
variable {ad : Nat → Nat} {M : Mm} {b : Nat} {σ : Sg} {C : Nat}
theorem y_isP {x : Int32} (hY : YR M b σ) (hI : Inv σ C) : Rd ad 0 (iX13_isPerson ad) [.ref b, .int x] M (some (.int (bI (isP σ x)))) := by
  obtain ⟨⟨oa, ⟨tw, rd⟩, oq⟩, A, hR⟩ := hY
  have h0 := hR.1.1
  rcases hR.2.2.2.2.2.2.2.2.2 with ⟨n0, t0⟩ | ⟨n1, a, t0, a1, a2, ⟨kn, A2, B2, m0, _⟩, _⟩
  · replace t0 : tw = .null := t0
    subst t0
    refine ⟨Nat.le_of_ble_eq_true rfl, ?_⟩
    show Ev ad _ (rX13_isPerson ad) (0, [some (.ref b), some (.int x)], [], M) _
    repeat (first | refine es rfl rfl rfl ?_ | refine eg rfl (by assumption) rfl ?_ | refine ean rfl (by assumption) (by assumption) rfl ?_ | refine eal rfl (by assumption) (by assumption) rfl ?_ | refine eri rfl ?_ | refine erv rfl ?_ | refine erl rfl ?_ | refine era rfl ?_ | refine erz0 rfl ?_ | refine erz1 rfl ?_ | refine ean0 rfl (by assumption) (by assumption) rfl ?_ | refine ean8 rfl (by assumption) (by assumption) rfl ?_ | refine ean12 rfl (by assumption) (by assumption) rfl ?_ | refine ean7 rfl (by assumption) (by assumption) rfl ?_)
    try dsimp only [set1, set2, kilP, List.set_cons_zero, List.set_cons_succ, List.getElem?_cons_zero, List.getElem?_cons_succ, List.nil_append, List.cons_append, Option.toList_some, Option.toList_none]
    rw [show bI (isP σ x) = 0 from if_neg (fun q => Int32.not_le.mpr (show x < 0 by have := q.2; rw [(hI.2.1 n0).1.2.2.1] at this; exact this) q.1)]
    exact ⟨rfl, rfl⟩
  · replace t0 : tw = .ref a := t0
    subst t0
    refine ⟨Nat.le_of_ble_eq_true rfl, ?_⟩
    show Ev ad _ (rX13_isPerson ad) (0, [some (.ref b), some (.int x)], [], M) _
    repeat (first | refine es rfl rfl rfl ?_ | refine eg rfl (by assumption) rfl ?_ | refine ean rfl (by assumption) (by assumption) rfl ?_ | refine eal rfl (by assumption) (by assumption) rfl ?_ | refine eri rfl ?_ | refine erv rfl ?_ | refine erl rfl ?_ | refine era rfl ?_ | refine erz0 rfl ?_ | refine erz1 rfl ?_ | refine ean0 rfl (by assumption) (by assumption) rfl ?_ | refine ean8 rfl (by assumption) (by assumption) rfl ?_ | refine ean12 rfl (by assumption) (by assumption) rfl ?_ | refine ean7 rfl (by assumption) (by assumption) rfl ?_)
    try dsimp only [set1, set2, kilP, List.set_cons_zero, List.set_cons_succ, List.getElem?_cons_zero, List.getElem?_cons_succ, List.nil_append, List.cons_append, Option.toList_some, Option.toList_none]
    refine ei _ rfl rfl (fun c => ?_) (fun c => ?_)
    · repeat (first | refine es rfl rfl rfl ?_ | refine eg rfl (by assumption) rfl ?_ | refine ean rfl (by assumption) (by assumption) rfl ?_ | refine eal rfl (by assumption) (by assumption) rfl ?_ | refine eri rfl ?_ | refine erv rfl ?_ | refine erl rfl ?_ | refine era rfl ?_ | refine erz0 rfl ?_ | refine erz1 rfl ?_ | refine ean0 rfl (by assumption) (by assumption) rfl ?_ | refine ean8 rfl (by assumption) (by assumption) rfl ?_ | refine ean12 rfl (by assumption) (by assumption) rfl ?_ | refine ean7 rfl (by assumption) (by assumption) rfl ?_)
      try dsimp only [set1, set2, kilP, List.set_cons_zero, List.set_cons_succ, List.getElem?_cons_zero, List.getElem?_cons_succ, List.nil_append, List.cons_append, Option.toList_some, Option.toList_none]
      rw [show bI (isP σ x) = 0 from if_neg (fun q => Int32.not_le.mpr c q.1)]
      exact ⟨rfl, rfl⟩
    · repeat (first | refine es rfl rfl rfl ?_ | refine eg rfl (by assumption) rfl ?_ | refine ean rfl (by assumption) (by assumption) rfl ?_ | refine eal rfl (by assumption) (by assumption) rfl ?_ | refine eri rfl ?_ | refine erv rfl ?_ | refine erl rfl ?_ | refine era rfl ?_ | refine erz0 rfl ?_ | refine erz1 rfl ?_ | refine ean0 rfl (by assumption) (by assumption) rfl ?_ | refine ean8 rfl (by assumption) (by assumption) rfl ?_ | refine ean12 rfl (by assumption) (by assumption) rfl ?_ | refine ean7 rfl (by assumption) (by assumption) rfl ?_)
      try dsimp only [set1, set2, kilP, List.set_cons_zero, List.set_cons_succ, List.getElem?_cons_zero, List.getElem?_cons_succ, List.nil_append, List.cons_append, Option.toList_some, Option.toList_none]
      refine ei _ rfl rfl (fun c2 => ?_) (fun c2 => ?_)
      · repeat (first | refine es rfl rfl rfl ?_ | refine eg rfl (by assumption) rfl ?_ | refine ean rfl (by assumption) (by assumption) rfl ?_ | refine eal rfl (by assumption) (by assumption) rfl ?_ | refine eri rfl ?_ | refine erv rfl ?_ | refine erl rfl ?_ | refine era rfl ?_ | refine erz0 rfl ?_ | refine erz1 rfl ?_ | refine ean0 rfl (by assumption) (by assumption) rfl ?_ | refine ean8 rfl (by assumption) (by assumption) rfl ?_ | refine ean12 rfl (by assumption) (by assumption) rfl ?_ | refine ean7 rfl (by assumption) (by assumption) rfl ?_)
        try dsimp only [set1, set2, kilP, List.set_cons_zero, List.set_cons_succ, List.getElem?_cons_zero, List.getElem?_cons_succ, List.nil_append, List.cons_append, Option.toList_some, Option.toList_none]
        rw [show bI (isP σ x) = 0 from if_neg (fun q => Int32.not_le.mpr q.2 c2)]
        exact ⟨rfl, rfl⟩
      · repeat (first | refine es rfl rfl rfl ?_ | refine eg rfl (by assumption) rfl ?_ | refine ean rfl (by assumption) (by assumption) rfl ?_ | refine eal rfl (by assumption) (by assumption) rfl ?_ | refine eri rfl ?_ | refine erv rfl ?_ | refine erl rfl ?_ | refine era rfl ?_ | refine erz0 rfl ?_ | refine erz1 rfl ?_ | refine ean0 rfl (by assumption) (by assumption) rfl ?_ | refine ean8 rfl (by assumption) (by assumption) rfl ?_ | refine ean12 rfl (by assumption) (by assumption) rfl ?_ | refine ean7 rfl (by assumption) (by assumption) rfl ?_)
        try dsimp only [set1, set2, kilP, List.set_cons_zero, List.set_cons_succ, List.getElem?_cons_zero, List.getElem?_cons_succ, List.nil_append, List.cons_append, Option.toList_some, Option.toList_none]
        rw [show bI (isP σ x) = 1 from if_pos ⟨Int32.not_lt.mp c, Int32.not_le.mp c2⟩]
        exact ⟨rfl, rfl⟩
/-- a town is there -/
def yW (M : Mm) (b a : Nat) (σ : Sg) (oa : Int32 × Int32 × Int32) (rd : Value) (oq : Yr × Yq) (A : Ar) : Prop := aY M b (oa, (.ref a, rd), oq) A ∧ b + 16 ≤ a ∧ aMt M a σ.T ∧ ∀ j, j < 16 → A 2 j = σ.f j
theorem y_who_loop {a : Nat} {oa : Int32 × Int32 × Int32} {rd : Value} {oq : Yr × Yq} {A : Ar} {x : Int32} (hW : yW M b a σ oa rd oq A) (hn : σ.T.hs.n ≤ 7) : ∀ (n h : Nat), h + n = σ.T.hs.n → Ev ad 0 (rX13_whose ad) (2, [some (.ref b), some (.int x), some (.int (nI h))], [], M) (fun v' M' => v' = some (.int (whoF σ.f x n h)) ∧ M' = M) := by
  obtain ⟨hy, ha, ⟨kn, Am, Bm, m0, -⟩, hv⟩ := hW
  have h0 := hy.1
  have h2 := hy.c.2.1
  intro n
  induction n with
  | zero =>
    intro h hn
    repeat (first | refine es rfl rfl rfl ?_ | refine eg rfl (by assumption) rfl ?_ | refine ean rfl (by assumption) (by assumption) rfl ?_ | refine eal rfl (by assumption) (by assumption) rfl ?_ | refine eri rfl ?_ | refine erv rfl ?_ | refine erl rfl ?_ | refine era rfl ?_ | refine erz0 rfl ?_ | refine erz1 rfl ?_ | refine ean0 rfl (by assumption) (by assumption) rfl ?_ | refine ean8 rfl (by assumption) (by assumption) rfl ?_ | refine ean12 rfl (by assumption) (by assumption) rfl ?_ | refine ean7 rfl (by assumption) (by assumption) rfl ?_)
    try dsimp only [set1, set2, kilP, List.set_cons_zero, List.set_cons_succ, List.getElem?_cons_zero, List.getElem?_cons_succ, List.nil_append, List.cons_append, Option.toList_some, Option.toList_none]
    refine ei _ rfl rfl (fun c => ?_) (fun c => ?_)
    · repeat (first | refine es rfl rfl rfl ?_ | refine eg rfl (by assumption) rfl ?_ | refine ean rfl (by assumption) (by assumption) rfl ?_ | refine eal rfl (by assumption) (by assumption) rfl ?_ | refine eri rfl ?_ | refine erv rfl ?_ | refine erl rfl ?_ | refine era rfl ?_ | refine erz0 rfl ?_ | refine erz1 rfl ?_ | refine ean0 rfl (by assumption) (by assumption) rfl ?_ | refine ean8 rfl (by assumption) (by assumption) rfl ?_ | refine ean12 rfl (by assumption) (by assumption) rfl ?_ | refine ean7 rfl (by assumption) (by assumption) rfl ?_)
      try dsimp only [set1, set2, kilP, List.set_cons_zero, List.set_cons_succ, List.getElem?_cons_zero, List.getElem?_cons_succ, List.nil_append, List.cons_append, Option.toList_some, Option.toList_none]
      exact ⟨rfl, rfl⟩
    · exact absurd (nI_le (by omega) (by omega)) c
  | succ n ih =>
    intro h hn
    have hk : h < 16 := by omega
    repeat (first | refine es rfl rfl rfl ?_ | refine eg rfl (by assumption) rfl ?_ | refine ean rfl (by assumption) (by assumption) rfl ?_ | refine eal rfl (by assumption) (by assumption) rfl ?_ | refine eri rfl ?_ | refine erv rfl ?_ | refine erl rfl ?_ | refine era rfl ?_ | refine erz0 rfl ?_ | refine erz1 rfl ?_ | refine ean0 rfl (by assumption) (by assumption) rfl ?_ | refine ean8 rfl (by assumption) (by assumption) rfl ?_ | refine ean12 rfl (by assumption) (by assumption) rfl ?_ | refine ean7 rfl (by assumption) (by assumption) rfl ?_)
    try dsimp only [set1, set2, kilP, List.set_cons_zero, List.set_cons_succ, List.getElem?_cons_zero, List.getElem?_cons_succ, List.nil_append, List.cons_append, Option.toList_some, Option.toList_none]
    refine ei _ rfl rfl (fun c => ?_) (fun c => ?_)
    · exact absurd c (nI_ge (by omega) (by omega))
    · repeat (first | refine es rfl rfl rfl ?_ | refine eg rfl (by assumption) rfl ?_ | refine ean rfl (by assumption) (by assumption) rfl ?_ | refine eal rfl (by assumption) (by assumption) rfl ?_ | refine eri rfl ?_ | refine erv rfl ?_ | refine erl rfl ?_ | refine era rfl ?_ | refine erz0 rfl ?_ | refine erz1 rfl ?_ | refine ean0 rfl (by assumption) (by assumption) rfl ?_ | refine ean8 rfl (by assumption) (by assumption) rfl ?_ | refine ean12 rfl (by assumption) (by assumption) rfl ?_ | refine ean7 rfl (by assumption) (by assumption) rfl ?_)
      try dsimp only [set1, set2, kilP, List.set_cons_zero, List.set_cons_succ, List.getElem?_cons_zero, List.getElem?_cons_succ, List.nil_append, List.cons_append, Option.toList_some, Option.toList_none]
      rw [hv h hk]
      refine ei _ rfl rfl (fun e => ?_) (fun e => ?_)
      · repeat (refine ng 2 rfl ?_; first | refine es rfl rfl rfl ?_ | refine eg rfl (by assumption) rfl ?_ | refine ean rfl (by assumption) (by assumption) rfl ?_ | refine eal rfl (by assumption) (by assumption) rfl ?_ | refine eri rfl ?_ | refine erv rfl ?_ | refine erl rfl ?_ | refine era rfl ?_ | refine erz0 rfl ?_ | refine erz1 rfl ?_ | refine ean0 rfl (by assumption) (by assumption) rfl ?_ | refine ean8 rfl (by assumption) (by assumption) rfl ?_ | refine ean12 rfl (by assumption) (by assumption) rfl ?_ | refine ean7 rfl (by assumption) (by assumption) rfl ?_)
        try dsimp only [set1, set2, kilP, List.set_cons_zero, List.set_cons_succ, List.getElem?_cons_zero, List.getElem?_cons_succ, List.nil_append, List.cons_append, Option.toList_some, Option.toList_none]
        rw [nI_1, whoF, if_neg e]
        exact ih (h + 1) (by omega)
      · repeat (first | refine es rfl rfl rfl ?_ | refine eg rfl (by assumption) rfl ?_ | refine ean rfl (by assumption) (by assumption) rfl ?_ | refine eal rfl (by assumption) (by assumption) rfl ?_ | refine eri rfl ?_ | refine erv rfl ?_ | refine erl rfl ?_ | refine era rfl ?_ | refine erz0 rfl ?_ | refine erz1 rfl ?_ | refine ean0 rfl (by assumption) (by assumption) rfl ?_ | refine ean8 rfl (by assumption) (by assumption) rfl ?_ | refine ean12 rfl (by assumption) (by assumption) rfl ?_ | refine ean7 rfl (by assumption) (by assumption) rfl ?_)
        try dsimp only [set1, set2, kilP, List.set_cons_zero, List.set_cons_succ, List.getElem?_cons_zero, List.getElem?_cons_succ, List.nil_append, List.cons_append, Option.toList_some, Option.toList_none]
        rw [whoF, if_pos (Decidable.not_not.mp e)]
        exact ⟨rfl, rfl⟩
theorem y_who {a k : Nat} {oa : Int32 × Int32 × Int32} {rd : Value} {oq : Yr × Yq} {A : Ar} (hW : yW M b a σ oa rd oq A) (hI : Inv σ C) (h0 : 0 < σ.T.hs.n) (hk : k < 7) : Rd ad 0 (iX13_whose ad) [.ref b, .int (nI k)] M (some (.int (whoF σ.f (nI k) 7 0))) := by
  rw [← whoF_n hI h0 k (by omega)]
  refine ⟨Nat.le_of_ble_eq_true rfl, ?_⟩
  show Ev ad _ (rX13_whose ad) (0, [some (.ref b), some (.int (nI k)), none], [], M) _
  repeat (refine ng 2 rfl ?_; first | refine es rfl rfl rfl ?_ | refine eg rfl (by assumption) rfl ?_ | refine ean rfl (by assumption) (by assumption) rfl ?_ | refine eal rfl (by assumption) (by assumption) rfl ?_ | refine eri rfl ?_ | refine erv rfl ?_ | refine erl rfl ?_ | refine era rfl ?_ | refine erz0 rfl ?_ | refine erz1 rfl ?_ | refine ean0 rfl (by assumption) (by assumption) rfl ?_ | refine ean8 rfl (by assumption) (by assumption) rfl ?_ | refine ean12 rfl (by assumption) (by assumption) rfl ?_ | refine ean7 rfl (by assumption) (by assumption) rfl ?_)
  try dsimp only [set1, set2, kilP, List.set_cons_zero, List.set_cons_succ, List.getElem?_cons_zero, List.getElem?_cons_succ, List.nil_append, List.cons_append, Option.toList_some, Option.toList_none]
  exact y_who_loop hW hI.n7 σ.T.hs.n 0 (by omega)
theorem y_openAt {a k m : Nat} {oa : Int32 × Int32 × Int32} {rd : Value} {oq : Yr × Yq} {A : Ar} (hW : yW M b a σ oa rd oq A) (hI : Inv σ C) (hn : 0 < σ.T.hs.n) (hk : k < σ.T.hs.n) (hm : m < 2 ^ 31) : Rd ad 2 (iX13_isOpenAt ad) [.ref b, .int (nI k), .int (nI m)] M (some (.int (bI (dopP σ k m)))) := by
  obtain ⟨hy, ha, hM, hv⟩ := hW
  obtain ⟨kn, Am, Bm, m0, -⟩ := id hM
  have h0 := hy.1
  have h2 := hy.c.2.1
  have hk7 := hI.n7
  have hk16 : k < 16 := by omega
  have h7 : 7 < 16 := by omega
  refine ⟨Nat.le_of_ble_eq_true rfl, ?_⟩
  show Ev ad _ (rX13_isOpenAt ad) (0, [some (.ref b), some (.int (nI k)), some (.int (nI m))], [], M) _
  repeat (first | refine es rfl rfl rfl ?_ | refine eg rfl (by assumption) rfl ?_ | refine ean rfl (by assumption) (by assumption) rfl ?_ | refine eal rfl (by assumption) (by assumption) rfl ?_ | refine eri rfl ?_ | refine erv rfl ?_ | refine erl rfl ?_ | refine era rfl ?_ | refine erz0 rfl ?_ | refine erz1 rfl ?_ | refine ean0 rfl (by assumption) (by assumption) rfl ?_ | refine ean8 rfl (by assumption) (by assumption) rfl ?_ | refine ean12 rfl (by assumption) (by assumption) rfl ?_ | refine ean7 rfl (by assumption) (by assumption) rfl ?_)
  try dsimp only [set1, set2, kilP, List.set_cons_zero, List.set_cons_succ, List.getElem?_cons_zero, List.getElem?_cons_succ, List.nil_append, List.cons_append, Option.toList_some, Option.toList_none]
  rw [hv k hk16]
  refine ei _ rfl rfl (fun c => ?_) (fun c => ?_)
  · repeat (first | refine es rfl rfl rfl ?_ | refine eg rfl (by assumption) rfl ?_ | refine ean rfl (by assumption) (by assumption) rfl ?_ | refine eal rfl (by assumption) (by assumption) rfl ?_ | refine eri rfl ?_ | refine erv rfl ?_ | refine erl rfl ?_ | refine era rfl ?_ | refine erz0 rfl ?_ | refine erz1 rfl ?_ | refine ean0 rfl (by assumption) (by assumption) rfl ?_ | refine ean8 rfl (by assumption) (by assumption) rfl ?_ | refine ean12 rfl (by assumption) (by assumption) rfl ?_ | refine ean7 rfl (by assumption) (by assumption) rfl ?_)
    try dsimp only [set1, set2, kilP, List.set_cons_zero, List.set_cons_succ, List.getElem?_cons_zero, List.getElem?_cons_succ, List.nil_append, List.cons_append, Option.toList_some, Option.toList_none]
    rw [show bI (dopP σ k m) = 0 from if_neg (fun q => q.1.1 c)]
    exact ⟨rfl, rfl⟩
  repeat (first | refine es rfl rfl rfl ?_ | refine eg rfl (by assumption) rfl ?_ | refine ean rfl (by assumption) (by assumption) rfl ?_ | refine eal rfl (by assumption) (by assumption) rfl ?_ | refine eri rfl ?_ | refine erv rfl ?_ | refine erl rfl ?_ | refine era rfl ?_ | refine erz0 rfl ?_ | refine erz1 rfl ?_ | refine ean0 rfl (by assumption) (by assumption) rfl ?_ | refine ean8 rfl (by assumption) (by assumption) rfl ?_ | refine ean12 rfl (by assumption) (by assumption) rfl ?_ | refine ean7 rfl (by assumption) (by assumption) rfl ?_)
  try dsimp only [set1, set2, kilP, List.set_cons_zero, List.set_cons_succ, List.getElem?_cons_zero, List.getElem?_cons_succ, List.nil_append, List.cons_append, Option.toList_some, Option.toList_none]
  rw [hv 7 h7]
  refine ecsr rfl rfl rfl rfl rfl rfl (y_bit) (by first | rfl | exact Nat.blt_eq.mpr (by omega)) rfl ?_
  by_cases c1 : shutI (σ.f 7) k = 1
  · rw [show bI (shutI (σ.f 7) k = 1) = 1 from if_pos c1, show bI (dopP σ k m) = 0 from if_neg (fun q => q.1.2 c1)]
    repeat (first | refine es rfl rfl rfl ?_ | refine eg rfl (by assumption) rfl ?_ | refine ean rfl (by assumption) (by assumption) rfl ?_ | refine eal rfl (by assumption) (by assumption) rfl ?_ | refine eri rfl ?_ | refine erv rfl ?_ | refine erl rfl ?_ | refine era rfl ?_ | refine erz0 rfl ?_ | refine erz1 rfl ?_ | refine ean0 rfl (by assumption) (by assumption) rfl ?_ | refine ean8 rfl (by assumption) (by assumption) rfl ?_ | refine ean12 rfl (by assumption) (by assumption) rfl ?_ | refine ean7 rfl (by assumption) (by assumption) rfl ?_)
    try dsimp only [set1, set2, kilP, List.set_cons_zero, List.set_cons_succ, List.getElem?_cons_zero, List.getElem?_cons_succ, List.nil_append, List.cons_append, Option.toList_some, Option.toList_none]
    exact ⟨rfl, rfl⟩
  rw [show bI (shutI (σ.f 7) k = 1) = 0 from if_neg c1]
  repeat (first | refine es rfl rfl rfl ?_ | refine eg rfl (by assumption) rfl ?_ | refine ean rfl (by assumption) (by assumption) rfl ?_ | refine eal rfl (by assumption) (by assumption) rfl ?_ | refine eri rfl ?_ | refine erv rfl ?_ | refine erl rfl ?_ | refine era rfl ?_ | refine erz0 rfl ?_ | refine erz1 rfl ?_ | refine ean0 rfl (by assumption) (by assumption) rfl ?_ | refine ean8 rfl (by assumption) (by assumption) rfl ?_ | refine ean12 rfl (by assumption) (by assumption) rfl ?_ | refine ean7 rfl (by assumption) (by assumption) rfl ?_)
  try dsimp only [set1, set2, kilP, List.set_cons_zero, List.set_cons_succ, List.getElem?_cons_zero, List.getElem?_cons_succ, List.nil_append, List.cons_append, Option.toList_some, Option.toList_none]
  rw [show nI m - nI m / 1440 * 1440 = nI (m % 1440) from pk_rem (d := 1440) hm (by omega) (by omega)]
  refine ecr rfl rfl (by assumption) rfl rfl rfl (t_hour hM (hI.tI hn).2.2.2.2.1 hI.n7 hk (Nat.mod_lt _ (by omega))) (by first | rfl | exact Nat.blt_eq.mpr (by omega)) rfl ?_
  have e : untF σ.T.hs.fr σ.T.hs.tt k (m % 1440) = untF σ.T.hs.fr σ.T.hs.tt k m := by unfold untF; rw [Nat.mod_mod]
  rw [e]
  by_cases c2 : untF σ.T.hs.fr σ.T.hs.tt k m = 0
  · rw [show bI (untF σ.T.hs.fr σ.T.hs.tt k m = 0) = 1 from if_pos c2, show bI (dopP σ k m) = 1 from if_pos ⟨⟨c, c1⟩, c2⟩]
    repeat (first | refine es rfl rfl rfl ?_ | refine eg rfl (by assumption) rfl ?_ | refine ean rfl (by assumption) (by assumption) rfl ?_ | refine eal rfl (by assumption) (by assumption) rfl ?_ | refine eri rfl ?_ | refine erv rfl ?_ | refine erl rfl ?_ | refine era rfl ?_ | refine erz0 rfl ?_ | refine erz1 rfl ?_ | refine ean0 rfl (by assumption) (by assumption) rfl ?_ | refine ean8 rfl (by assumption) (by assumption) rfl ?_ | refine ean12 rfl (by assumption) (by assumption) rfl ?_ | refine ean7 rfl (by assumption) (by assumption) rfl ?_)
    try dsimp only [set1, set2, kilP, List.set_cons_zero, List.set_cons_succ, List.getElem?_cons_zero, List.getElem?_cons_succ, List.nil_append, List.cons_append, Option.toList_some, Option.toList_none]
    exact ⟨rfl, rfl⟩
  · rw [show bI (untF σ.T.hs.fr σ.T.hs.tt k m = 0) = 0 from if_neg c2, show bI (dopP σ k m) = 0 from if_neg (fun q => c2 q.2)]
    repeat (first | refine es rfl rfl rfl ?_ | refine eg rfl (by assumption) rfl ?_ | refine ean rfl (by assumption) (by assumption) rfl ?_ | refine eal rfl (by assumption) (by assumption) rfl ?_ | refine eri rfl ?_ | refine erv rfl ?_ | refine erl rfl ?_ | refine era rfl ?_ | refine erz0 rfl ?_ | refine erz1 rfl ?_ | refine ean0 rfl (by assumption) (by assumption) rfl ?_ | refine ean8 rfl (by assumption) (by assumption) rfl ?_ | refine ean12 rfl (by assumption) (by assumption) rfl ?_ | refine ean7 rfl (by assumption) (by assumption) rfl ?_)
    try dsimp only [set1, set2, kilP, List.set_cons_zero, List.set_cons_succ, List.getElem?_cons_zero, List.getElem?_cons_succ, List.nil_append, List.cons_append, Option.toList_some, Option.toList_none]
    exact ⟨rfl, rfl⟩
theorem in5 {w : Int32} {N : Nat} (hN : N < 2 ^ 31 - 1) : ((0 : Int32) ≤ w ∧ w ≤ nI N) ↔ (0 ≤ w ∧ w < nI (N + 1)) := by
  constructor
  · rintro ⟨h1, h2⟩
    refine ⟨h1, ?_⟩
    have e := nI_cl h1
    rw [← e] at h2 ⊢
    have hx : w.toNatClampNeg < 2 ^ 31 := by have := w.toInt_lt; show w.toInt.toNat < 2 ^ 31; omega
    exact (nI_ltI hx (by omega)).mpr (by have := (nI_leI hx (by omega)).mp h2; omega)
  · rintro ⟨h1, h2⟩
    refine ⟨h1, ?_⟩
    have e := nI_cl h1
    rw [← e] at h2 ⊢
    have hx : w.toNatClampNeg < 2 ^ 31 := by have := w.toInt_lt; show w.toInt.toNat < 2 ^ 31; omega
    exact (nI_leI hx (by omega)).mpr (by have := (nI_ltI hx (by omega)).mp h2; omega)
theorem y_house {x w : Int32} (hY : YR M b σ) (hI : Inv σ C) : EvM ad 2 (iX13_house ad) [.ref b, .int x, .int w] M (Pq b M (spHouse σ x w)) := by
  have hn7 := hI.n7
  have h7 : 7 < 16 := by omega
  unfold spHouse
  refine ⟨Nat.le_of_ble_eq_true rfl, ?_⟩
  show Ev ad _ (rX13_house ad) (0, [some (.ref b), some (.int x), some (.int w)], [], M) _
  refine yEn rfl rfl rfl hY (fun M1 hY hF _ => ?_)
  obtain ⟨⟨oa, ⟨tw, rd⟩, oq⟩, A, hR⟩ := id hY
  have h0 := hR.1.1
  have h2 := hR.1.c.2.1
  repeat (first | refine es rfl rfl rfl ?_ | refine eg rfl (by assumption) rfl ?_ | refine ean rfl (by assumption) (by assumption) rfl ?_ | refine eal rfl (by assumption) (by assumption) rfl ?_ | refine eri rfl ?_ | refine erv rfl ?_ | refine erl rfl ?_ | refine era rfl ?_ | refine erz0 rfl ?_ | refine erz1 rfl ?_ | refine ean0 rfl (by assumption) (by assumption) rfl ?_ | refine ean8 rfl (by assumption) (by assumption) rfl ?_ | refine ean12 rfl (by assumption) (by assumption) rfl ?_ | refine ean7 rfl (by assumption) (by assumption) rfl ?_)
  try dsimp only [set1, set2, kilP, List.set_cons_zero, List.set_cons_succ, List.getElem?_cons_zero, List.getElem?_cons_succ, List.nil_append, List.cons_append, Option.toList_some, Option.toList_none]
  refine ecr rfl rfl (by assumption) rfl rfl rfl (y_isH hY) (by first | rfl | exact Nat.blt_eq.mpr (by omega)) rfl ?_
  by_cases c : isH σ x
  rotate_left
  · rw [if_neg c, show bI (isH σ x) = 0 from if_neg c]
    repeat (first | refine es rfl rfl rfl ?_ | refine eg rfl (by assumption) rfl ?_ | refine ean rfl (by assumption) (by assumption) rfl ?_ | refine eal rfl (by assumption) (by assumption) rfl ?_ | refine eri rfl ?_ | refine erv rfl ?_ | refine erl rfl ?_ | refine era rfl ?_ | refine erz0 rfl ?_ | refine erz1 rfl ?_ | refine ean0 rfl (by assumption) (by assumption) rfl ?_ | refine ean8 rfl (by assumption) (by assumption) rfl ?_ | refine ean12 rfl (by assumption) (by assumption) rfl ?_ | refine ean7 rfl (by assumption) (by assumption) rfl ?_)
    try dsimp only [set1, set2, kilP, List.set_cons_zero, List.set_cons_succ, List.getElem?_cons_zero, List.getElem?_cons_succ, List.nil_append, List.cons_append, Option.toList_some, Option.toList_none]
    refine ecv rfl rfl (by assumption) rfl rfl rfl (y_ref hY (by decide)) (by first | rfl | exact Nat.blt_eq.mpr (by omega)) ?_
    rintro v M9 ⟨rfl, hY9, hF9⟩
    try dsimp only [set1, set2, kilP, List.set_cons_zero, List.set_cons_succ, List.getElem?_cons_zero, List.getElem?_cons_succ, List.nil_append, List.cons_append, Option.toList_some, Option.toList_none]
    repeat (first | refine es rfl rfl rfl ?_ | refine eg rfl (by assumption) rfl ?_ | refine ean rfl (by assumption) (by assumption) rfl ?_ | refine eal rfl (by assumption) (by assumption) rfl ?_ | refine eri rfl ?_ | refine erv rfl ?_ | refine erl rfl ?_ | refine era rfl ?_ | refine erz0 rfl ?_ | refine erz1 rfl ?_ | refine ean0 rfl (by assumption) (by assumption) rfl ?_ | refine ean8 rfl (by assumption) (by assumption) rfl ?_ | refine ean12 rfl (by assumption) (by assumption) rfl ?_ | refine ean7 rfl (by assumption) (by assumption) rfl ?_)
    try dsimp only [set1, set2, kilP, List.set_cons_zero, List.set_cons_succ, List.getElem?_cons_zero, List.getElem?_cons_succ, List.nil_append, List.cons_append, Option.toList_some, Option.toList_none]
    exact Pq.rf hY9 (hF.tr (hF9.wide (lo2 := b) (n2 := 16) (by omega) (by omega)) (by omega) (by omega))
  rw [if_pos c, show bI (isH σ x) = 1 from if_pos c]
  obtain ⟨k, hk, rfl⟩ := isH_k hn7 c
  have hk7 : k < 7 := by omega
  have hk16 : k < 16 := by omega
  repeat (first | refine es rfl rfl rfl ?_ | refine eg rfl (by assumption) rfl ?_ | refine ean rfl (by assumption) (by assumption) rfl ?_ | refine eal rfl (by assumption) (by assumption) rfl ?_ | refine eri rfl ?_ | refine erv rfl ?_ | refine erl rfl ?_ | refine era rfl ?_ | refine erz0 rfl ?_ | refine erz1 rfl ?_ | refine ean0 rfl (by assumption) (by assumption) rfl ?_ | refine ean8 rfl (by assumption) (by assumption) rfl ?_ | refine ean12 rfl (by assumption) (by assumption) rfl ?_ | refine ean7 rfl (by assumption) (by assumption) rfl ?_)
  try dsimp only [set1, set2, kilP, List.set_cons_zero, List.set_cons_succ, List.getElem?_cons_zero, List.getElem?_cons_succ, List.nil_append, List.cons_append, Option.toList_some, Option.toList_none]
  refine ecsr rfl rfl rfl rfl rfl rfl (y_in) (by first | rfl | exact Nat.blt_eq.mpr (by omega)) rfl ?_
  have e5 : ((0 : Int32) ≤ w ∧ w ≤ 5) ↔ (0 ≤ w ∧ w < 6) := in5 (N := 5) (by omega)
  by_cases c2 : (0 : Int32) ≤ w ∧ w ≤ 5
  rotate_left
  · rw [if_neg (fun q => c2 (e5.mpr q)), show bI ((0 : Int32) ≤ w ∧ w ≤ 5) = 0 from if_neg c2]
    repeat (first | refine es rfl rfl rfl ?_ | refine eg rfl (by assumption) rfl ?_ | refine ean rfl (by assumption) (by assumption) rfl ?_ | refine eal rfl (by assumption) (by assumption) rfl ?_ | refine eri rfl ?_ | refine erv rfl ?_ | refine erl rfl ?_ | refine era rfl ?_ | refine erz0 rfl ?_ | refine erz1 rfl ?_ | refine ean0 rfl (by assumption) (by assumption) rfl ?_ | refine ean8 rfl (by assumption) (by assumption) rfl ?_ | refine ean12 rfl (by assumption) (by assumption) rfl ?_ | refine ean7 rfl (by assumption) (by assumption) rfl ?_)
    try dsimp only [set1, set2, kilP, List.set_cons_zero, List.set_cons_succ, List.getElem?_cons_zero, List.getElem?_cons_succ, List.nil_append, List.cons_append, Option.toList_some, Option.toList_none]
    refine ecv rfl rfl (by assumption) rfl rfl rfl (y_ref hY (by decide)) (by first | rfl | exact Nat.blt_eq.mpr (by omega)) ?_
    rintro v M9 ⟨rfl, hY9, hF9⟩
    try dsimp only [set1, set2, kilP, List.set_cons_zero, List.set_cons_succ, List.getElem?_cons_zero, List.getElem?_cons_succ, List.nil_append, List.cons_append, Option.toList_some, Option.toList_none]
    repeat (first | refine es rfl rfl rfl ?_ | refine eg rfl (by assumption) rfl ?_ | refine ean rfl (by assumption) (by assumption) rfl ?_ | refine eal rfl (by assumption) (by assumption) rfl ?_ | refine eri rfl ?_ | refine erv rfl ?_ | refine erl rfl ?_ | refine era rfl ?_ | refine erz0 rfl ?_ | refine erz1 rfl ?_ | refine ean0 rfl (by assumption) (by assumption) rfl ?_ | refine ean8 rfl (by assumption) (by assumption) rfl ?_ | refine ean12 rfl (by assumption) (by assumption) rfl ?_ | refine ean7 rfl (by assumption) (by assumption) rfl ?_)
    try dsimp only [set1, set2, kilP, List.set_cons_zero, List.set_cons_succ, List.getElem?_cons_zero, List.getElem?_cons_succ, List.nil_append, List.cons_append, Option.toList_some, Option.toList_none]
    exact Pq.rf hY9 (hF.tr (hF9.wide (lo2 := b) (n2 := 16) (by omega) (by omega)) (by omega) (by omega))
  rw [if_pos (e5.mp c2), show bI ((0 : Int32) ≤ w ∧ w ≤ 5) = 1 from if_pos c2]
  obtain ⟨n1, a, t0, a1, a2, hM, hv, hpa, hmk, hfa⟩ := hR.2.2.2.2.2.2.2.2.2.resolve_left (fun q => by have := q.1; omega)
  replace t0 : tw = .ref a := t0
  subst t0
  obtain ⟨kn, Am, Bm, m0, mc, mH, mS, mP, mC, mN⟩ := id hM
  obtain ⟨m1, m2, m3, m4, m5, m6, m7, m8, m9, m10, m11, m12, m13, m14, m15, m16, m17⟩ := id mc
  obtain ⟨j, hj, rfl⟩ := nI_0k (n := 6) (by omega) (e5.mp c2)
  rw [nI_clamp (by omega), nI_clamp (by omega)]
  have hW : yW M1 b a σ oa rd oq A := ⟨hR.1, a1, hM, hv⟩
  match j, hj with
  | 0, _ =>
    repeat (first | refine es rfl rfl rfl ?_ | refine eg rfl (by assumption) rfl ?_ | refine ean rfl (by assumption) (by assumption) rfl ?_ | refine eal rfl (by assumption) (by assumption) rfl ?_ | refine eri rfl ?_ | refine erv rfl ?_ | refine erl rfl ?_ | refine era rfl ?_ | refine erz0 rfl ?_ | refine erz1 rfl ?_ | refine ean0 rfl (by assumption) (by assumption) rfl ?_ | refine ean8 rfl (by assumption) (by assumption) rfl ?_ | refine ean12 rfl (by assumption) (by assumption) rfl ?_ | refine ean7 rfl (by assumption) (by assumption) rfl ?_)
    try dsimp only [set1, set2, kilP, List.set_cons_zero, List.set_cons_succ, List.getElem?_cons_zero, List.getElem?_cons_succ, List.nil_append, List.cons_append, Option.toList_some, Option.toList_none]
    rw [(mH k hk).1]
    repeat (first | refine es rfl rfl rfl ?_ | refine eg rfl (by assumption) rfl ?_ | refine ean rfl (by assumption) (by assumption) rfl ?_ | refine eal rfl (by assumption) (by assumption) rfl ?_ | refine eri rfl ?_ | refine erv rfl ?_ | refine erl rfl ?_ | refine era rfl ?_ | refine erz0 rfl ?_ | refine erz1 rfl ?_ | refine ean0 rfl (by assumption) (by assumption) rfl ?_ | refine ean8 rfl (by assumption) (by assumption) rfl ?_ | refine ean12 rfl (by assumption) (by assumption) rfl ?_ | refine ean7 rfl (by assumption) (by assumption) rfl ?_)
    try dsimp only [set1, set2, kilP, List.set_cons_zero, List.set_cons_succ, List.getElem?_cons_zero, List.getElem?_cons_succ, List.nil_append, List.cons_append, Option.toList_some, Option.toList_none]
    refine ecv rfl rfl (by assumption) rfl rfl rfl (y_good hY) (by first | rfl | exact Nat.blt_eq.mpr (by omega)) ?_
    rintro v M9 ⟨rfl, hY9, hF9⟩
    try dsimp only [set1, set2, kilP, List.set_cons_zero, List.set_cons_succ, List.getElem?_cons_zero, List.getElem?_cons_succ, List.nil_append, List.cons_append, Option.toList_some, Option.toList_none]
    repeat (first | refine es rfl rfl rfl ?_ | refine eg rfl (by assumption) rfl ?_ | refine ean rfl (by assumption) (by assumption) rfl ?_ | refine eal rfl (by assumption) (by assumption) rfl ?_ | refine eri rfl ?_ | refine erv rfl ?_ | refine erl rfl ?_ | refine era rfl ?_ | refine erz0 rfl ?_ | refine erz1 rfl ?_ | refine ean0 rfl (by assumption) (by assumption) rfl ?_ | refine ean8 rfl (by assumption) (by assumption) rfl ?_ | refine ean12 rfl (by assumption) (by assumption) rfl ?_ | refine ean7 rfl (by assumption) (by assumption) rfl ?_)
    try dsimp only [set1, set2, kilP, List.set_cons_zero, List.set_cons_succ, List.getElem?_cons_zero, List.getElem?_cons_succ, List.nil_append, List.cons_append, Option.toList_some, Option.toList_none]
    exact Pq.an hY9 (hF.tr (hF9.wide (lo2 := b) (n2 := 16) (by omega) (by omega)) (by omega) (by omega))
  | 1, _ =>
    repeat (first | refine es rfl rfl rfl ?_ | refine eg rfl (by assumption) rfl ?_ | refine ean rfl (by assumption) (by assumption) rfl ?_ | refine eal rfl (by assumption) (by assumption) rfl ?_ | refine eri rfl ?_ | refine erv rfl ?_ | refine erl rfl ?_ | refine era rfl ?_ | refine erz0 rfl ?_ | refine erz1 rfl ?_ | refine ean0 rfl (by assumption) (by assumption) rfl ?_ | refine ean8 rfl (by assumption) (by assumption) rfl ?_ | refine ean12 rfl (by assumption) (by assumption) rfl ?_ | refine ean7 rfl (by assumption) (by assumption) rfl ?_)
    try dsimp only [set1, set2, kilP, List.set_cons_zero, List.set_cons_succ, List.getElem?_cons_zero, List.getElem?_cons_succ, List.nil_append, List.cons_append, Option.toList_some, Option.toList_none]
    rw [(mH k hk).2.1]
    repeat (first | refine es rfl rfl rfl ?_ | refine eg rfl (by assumption) rfl ?_ | refine ean rfl (by assumption) (by assumption) rfl ?_ | refine eal rfl (by assumption) (by assumption) rfl ?_ | refine eri rfl ?_ | refine erv rfl ?_ | refine erl rfl ?_ | refine era rfl ?_ | refine erz0 rfl ?_ | refine erz1 rfl ?_ | refine ean0 rfl (by assumption) (by assumption) rfl ?_ | refine ean8 rfl (by assumption) (by assumption) rfl ?_ | refine ean12 rfl (by assumption) (by assumption) rfl ?_ | refine ean7 rfl (by assumption) (by assumption) rfl ?_)
    try dsimp only [set1, set2, kilP, List.set_cons_zero, List.set_cons_succ, List.getElem?_cons_zero, List.getElem?_cons_succ, List.nil_append, List.cons_append, Option.toList_some, Option.toList_none]
    refine ecv rfl rfl (by assumption) rfl rfl rfl (y_good hY) (by first | rfl | exact Nat.blt_eq.mpr (by omega)) ?_
    rintro v M9 ⟨rfl, hY9, hF9⟩
    try dsimp only [set1, set2, kilP, List.set_cons_zero, List.set_cons_succ, List.getElem?_cons_zero, List.getElem?_cons_succ, List.nil_append, List.cons_append, Option.toList_some, Option.toList_none]
    repeat (first | refine es rfl rfl rfl ?_ | refine eg rfl (by assumption) rfl ?_ | refine ean rfl (by assumption) (by assumption) rfl ?_ | refine eal rfl (by assumption) (by assumption) rfl ?_ | refine eri rfl ?_ | refine erv rfl ?_ | refine erl rfl ?_ | refine era rfl ?_ | refine erz0 rfl ?_ | refine erz1 rfl ?_ | refine ean0 rfl (by assumption) (by assumption) rfl ?_ | refine ean8 rfl (by assumption) (by assumption) rfl ?_ | refine ean12 rfl (by assumption) (by assumption) rfl ?_ | refine ean7 rfl (by assumption) (by assumption) rfl ?_)
    try dsimp only [set1, set2, kilP, List.set_cons_zero, List.set_cons_succ, List.getElem?_cons_zero, List.getElem?_cons_succ, List.nil_append, List.cons_append, Option.toList_some, Option.toList_none]
    exact Pq.an hY9 (hF.tr (hF9.wide (lo2 := b) (n2 := 16) (by omega) (by omega)) (by omega) (by omega))
  | 2, _ =>
    repeat (first | refine es rfl rfl rfl ?_ | refine eg rfl (by assumption) rfl ?_ | refine ean rfl (by assumption) (by assumption) rfl ?_ | refine eal rfl (by assumption) (by assumption) rfl ?_ | refine eri rfl ?_ | refine erv rfl ?_ | refine erl rfl ?_ | refine era rfl ?_ | refine erz0 rfl ?_ | refine erz1 rfl ?_ | refine ean0 rfl (by assumption) (by assumption) rfl ?_ | refine ean8 rfl (by assumption) (by assumption) rfl ?_ | refine ean12 rfl (by assumption) (by assumption) rfl ?_ | refine ean7 rfl (by assumption) (by assumption) rfl ?_)
    try dsimp only [set1, set2, kilP, List.set_cons_zero, List.set_cons_succ, List.getElem?_cons_zero, List.getElem?_cons_succ, List.nil_append, List.cons_append, Option.toList_some, Option.toList_none]
    rw [(mH k hk).2.2.1]
    repeat (first | refine es rfl rfl rfl ?_ | refine eg rfl (by assumption) rfl ?_ | refine ean rfl (by assumption) (by assumption) rfl ?_ | refine eal rfl (by assumption) (by assumption) rfl ?_ | refine eri rfl ?_ | refine erv rfl ?_ | refine erl rfl ?_ | refine era rfl ?_ | refine erz0 rfl ?_ | refine erz1 rfl ?_ | refine ean0 rfl (by assumption) (by assumption) rfl ?_ | refine ean8 rfl (by assumption) (by assumption) rfl ?_ | refine ean12 rfl (by assumption) (by assumption) rfl ?_ | refine ean7 rfl (by assumption) (by assumption) rfl ?_)
    try dsimp only [set1, set2, kilP, List.set_cons_zero, List.set_cons_succ, List.getElem?_cons_zero, List.getElem?_cons_succ, List.nil_append, List.cons_append, Option.toList_some, Option.toList_none]
    refine ecv rfl rfl (by assumption) rfl rfl rfl (y_good hY) (by first | rfl | exact Nat.blt_eq.mpr (by omega)) ?_
    rintro v M9 ⟨rfl, hY9, hF9⟩
    try dsimp only [set1, set2, kilP, List.set_cons_zero, List.set_cons_succ, List.getElem?_cons_zero, List.getElem?_cons_succ, List.nil_append, List.cons_append, Option.toList_some, Option.toList_none]
    repeat (first | refine es rfl rfl rfl ?_ | refine eg rfl (by assumption) rfl ?_ | refine ean rfl (by assumption) (by assumption) rfl ?_ | refine eal rfl (by assumption) (by assumption) rfl ?_ | refine eri rfl ?_ | refine erv rfl ?_ | refine erl rfl ?_ | refine era rfl ?_ | refine erz0 rfl ?_ | refine erz1 rfl ?_ | refine ean0 rfl (by assumption) (by assumption) rfl ?_ | refine ean8 rfl (by assumption) (by assumption) rfl ?_ | refine ean12 rfl (by assumption) (by assumption) rfl ?_ | refine ean7 rfl (by assumption) (by assumption) rfl ?_)
    try dsimp only [set1, set2, kilP, List.set_cons_zero, List.set_cons_succ, List.getElem?_cons_zero, List.getElem?_cons_succ, List.nil_append, List.cons_append, Option.toList_some, Option.toList_none]
    exact Pq.an hY9 (hF.tr (hF9.wide (lo2 := b) (n2 := 16) (by omega) (by omega)) (by omega) (by omega))
  | 3, _ =>
    repeat (first | refine es rfl rfl rfl ?_ | refine eg rfl (by assumption) rfl ?_ | refine ean rfl (by assumption) (by assumption) rfl ?_ | refine eal rfl (by assumption) (by assumption) rfl ?_ | refine eri rfl ?_ | refine erv rfl ?_ | refine erl rfl ?_ | refine era rfl ?_ | refine erz0 rfl ?_ | refine erz1 rfl ?_ | refine ean0 rfl (by assumption) (by assumption) rfl ?_ | refine ean8 rfl (by assumption) (by assumption) rfl ?_ | refine ean12 rfl (by assumption) (by assumption) rfl ?_ | refine ean7 rfl (by assumption) (by assumption) rfl ?_)
    try dsimp only [set1, set2, kilP, List.set_cons_zero, List.set_cons_succ, List.getElem?_cons_zero, List.getElem?_cons_succ, List.nil_append, List.cons_append, Option.toList_some, Option.toList_none]
    rw [hv k hk16]
    repeat (first | refine es rfl rfl rfl ?_ | refine eg rfl (by assumption) rfl ?_ | refine ean rfl (by assumption) (by assumption) rfl ?_ | refine eal rfl (by assumption) (by assumption) rfl ?_ | refine eri rfl ?_ | refine erv rfl ?_ | refine erl rfl ?_ | refine era rfl ?_ | refine erz0 rfl ?_ | refine erz1 rfl ?_ | refine ean0 rfl (by assumption) (by assumption) rfl ?_ | refine ean8 rfl (by assumption) (by assumption) rfl ?_ | refine ean12 rfl (by assumption) (by assumption) rfl ?_ | refine ean7 rfl (by assumption) (by assumption) rfl ?_)
    try dsimp only [set1, set2, kilP, List.set_cons_zero, List.set_cons_succ, List.getElem?_cons_zero, List.getElem?_cons_succ, List.nil_append, List.cons_append, Option.toList_some, Option.toList_none]
    refine ecv rfl rfl (by assumption) rfl rfl rfl (y_good hY) (by first | rfl | exact Nat.blt_eq.mpr (by omega)) ?_
    rintro v M9 ⟨rfl, hY9, hF9⟩
    try dsimp only [set1, set2, kilP, List.set_cons_zero, List.set_cons_succ, List.getElem?_cons_zero, List.getElem?_cons_succ, List.nil_append, List.cons_append, Option.toList_some, Option.toList_none]
    repeat (first | refine es rfl rfl rfl ?_ | refine eg rfl (by assumption) rfl ?_ | refine ean rfl (by assumption) (by assumption) rfl ?_ | refine eal rfl (by assumption) (by assumption) rfl ?_ | refine eri rfl ?_ | refine erv rfl ?_ | refine erl rfl ?_ | refine era rfl ?_ | refine erz0 rfl ?_ | refine erz1 rfl ?_ | refine ean0 rfl (by assumption) (by assumption) rfl ?_ | refine ean8 rfl (by assumption) (by assumption) rfl ?_ | refine ean12 rfl (by assumption) (by assumption) rfl ?_ | refine ean7 rfl (by assumption) (by assumption) rfl ?_)
    try dsimp only [set1, set2, kilP, List.set_cons_zero, List.set_cons_succ, List.getElem?_cons_zero, List.getElem?_cons_succ, List.nil_append, List.cons_append, Option.toList_some, Option.toList_none]
    exact Pq.an hY9 (hF.tr (hF9.wide (lo2 := b) (n2 := 16) (by omega) (by omega)) (by omega) (by omega))
  | 4, _ =>
    repeat (first | refine es rfl rfl rfl ?_ | refine eg rfl (by assumption) rfl ?_ | refine ean rfl (by assumption) (by assumption) rfl ?_ | refine eal rfl (by assumption) (by assumption) rfl ?_ | refine eri rfl ?_ | refine erv rfl ?_ | refine erl rfl ?_ | refine era rfl ?_ | refine erz0 rfl ?_ | refine erz1 rfl ?_ | refine ean0 rfl (by assumption) (by assumption) rfl ?_ | refine ean8 rfl (by assumption) (by assumption) rfl ?_ | refine ean12 rfl (by assumption) (by assumption) rfl ?_ | refine ean7 rfl (by assumption) (by assumption) rfl ?_)
    try dsimp only [set1, set2, kilP, List.set_cons_zero, List.set_cons_succ, List.getElem?_cons_zero, List.getElem?_cons_succ, List.nil_append, List.cons_append, Option.toList_some, Option.toList_none]
    refine ecr rfl rfl (by assumption) rfl rfl rfl (y_who hW hI n1 hk7) (by first | rfl | exact Nat.blt_eq.mpr (by omega)) rfl ?_
    repeat (first | refine es rfl rfl rfl ?_ | refine eg rfl (by assumption) rfl ?_ | refine ean rfl (by assumption) (by assumption) rfl ?_ | refine eal rfl (by assumption) (by assumption) rfl ?_ | refine eri rfl ?_ | refine erv rfl ?_ | refine erl rfl ?_ | refine era rfl ?_ | refine erz0 rfl ?_ | refine erz1 rfl ?_ | refine ean0 rfl (by assumption) (by assumption) rfl ?_ | refine ean8 rfl (by assumption) (by assumption) rfl ?_ | refine ean12 rfl (by assumption) (by assumption) rfl ?_ | refine ean7 rfl (by assumption) (by assumption) rfl ?_)
    try dsimp only [set1, set2, kilP, List.set_cons_zero, List.set_cons_succ, List.getElem?_cons_zero, List.getElem?_cons_succ, List.nil_append, List.cons_append, Option.toList_some, Option.toList_none]
    refine ecv rfl rfl (by assumption) rfl rfl rfl (y_good hY) (by first | rfl | exact Nat.blt_eq.mpr (by omega)) ?_
    rintro v M9 ⟨rfl, hY9, hF9⟩
    try dsimp only [set1, set2, kilP, List.set_cons_zero, List.set_cons_succ, List.getElem?_cons_zero, List.getElem?_cons_succ, List.nil_append, List.cons_append, Option.toList_some, Option.toList_none]
    repeat (first | refine es rfl rfl rfl ?_ | refine eg rfl (by assumption) rfl ?_ | refine ean rfl (by assumption) (by assumption) rfl ?_ | refine eal rfl (by assumption) (by assumption) rfl ?_ | refine eri rfl ?_ | refine erv rfl ?_ | refine erl rfl ?_ | refine era rfl ?_ | refine erz0 rfl ?_ | refine erz1 rfl ?_ | refine ean0 rfl (by assumption) (by assumption) rfl ?_ | refine ean8 rfl (by assumption) (by assumption) rfl ?_ | refine ean12 rfl (by assumption) (by assumption) rfl ?_ | refine ean7 rfl (by assumption) (by assumption) rfl ?_)
    try dsimp only [set1, set2, kilP, List.set_cons_zero, List.set_cons_succ, List.getElem?_cons_zero, List.getElem?_cons_succ, List.nil_append, List.cons_append, Option.toList_some, Option.toList_none]
    exact Pq.an hY9 (hF.tr (hF9.wide (lo2 := b) (n2 := 16) (by omega) (by omega)) (by omega) (by omega))
  | 5, _ =>
    repeat (first | refine es rfl rfl rfl ?_ | refine eg rfl (by assumption) rfl ?_ | refine ean rfl (by assumption) (by assumption) rfl ?_ | refine eal rfl (by assumption) (by assumption) rfl ?_ | refine eri rfl ?_ | refine erv rfl ?_ | refine erl rfl ?_ | refine era rfl ?_ | refine erz0 rfl ?_ | refine erz1 rfl ?_ | refine ean0 rfl (by assumption) (by assumption) rfl ?_ | refine ean8 rfl (by assumption) (by assumption) rfl ?_ | refine ean12 rfl (by assumption) (by assumption) rfl ?_ | refine ean7 rfl (by assumption) (by assumption) rfl ?_)
    try dsimp only [set1, set2, kilP, List.set_cons_zero, List.set_cons_succ, List.getElem?_cons_zero, List.getElem?_cons_succ, List.nil_append, List.cons_append, Option.toList_some, Option.toList_none]
    rw [hv 7 h7]
    refine ecsr rfl rfl rfl rfl rfl rfl (y_bit) (by first | rfl | exact Nat.blt_eq.mpr (by omega)) rfl ?_
    unfold hou
    by_cases c1 : shutI (σ.f 7) k = 1
    · rw [show bI (shutI (σ.f 7) k = 1) = 1 from if_pos c1]
      repeat (first | refine es rfl rfl rfl ?_ | refine eg rfl (by assumption) rfl ?_ | refine ean rfl (by assumption) (by assumption) rfl ?_ | refine eal rfl (by assumption) (by assumption) rfl ?_ | refine eri rfl ?_ | refine erv rfl ?_ | refine erl rfl ?_ | refine era rfl ?_ | refine erz0 rfl ?_ | refine erz1 rfl ?_ | refine ean0 rfl (by assumption) (by assumption) rfl ?_ | refine ean8 rfl (by assumption) (by assumption) rfl ?_ | refine ean12 rfl (by assumption) (by assumption) rfl ?_ | refine ean7 rfl (by assumption) (by assumption) rfl ?_)
      try dsimp only [set1, set2, kilP, List.set_cons_zero, List.set_cons_succ, List.getElem?_cons_zero, List.getElem?_cons_succ, List.nil_append, List.cons_append, Option.toList_some, Option.toList_none]
      refine ecv rfl rfl (by assumption) rfl rfl rfl (y_good hY) (by first | rfl | exact Nat.blt_eq.mpr (by omega)) ?_
      rintro v M9 ⟨rfl, hY9, hF9⟩
      try dsimp only [set1, set2, kilP, List.set_cons_zero, List.set_cons_succ, List.getElem?_cons_zero, List.getElem?_cons_succ, List.nil_append, List.cons_append, Option.toList_some, Option.toList_none]
      repeat (first | refine es rfl rfl rfl ?_ | refine eg rfl (by assumption) rfl ?_ | refine ean rfl (by assumption) (by assumption) rfl ?_ | refine eal rfl (by assumption) (by assumption) rfl ?_ | refine eri rfl ?_ | refine erv rfl ?_ | refine erl rfl ?_ | refine era rfl ?_ | refine erz0 rfl ?_ | refine erz1 rfl ?_ | refine ean0 rfl (by assumption) (by assumption) rfl ?_ | refine ean8 rfl (by assumption) (by assumption) rfl ?_ | refine ean12 rfl (by assumption) (by assumption) rfl ?_ | refine ean7 rfl (by assumption) (by assumption) rfl ?_)
      try dsimp only [set1, set2, kilP, List.set_cons_zero, List.set_cons_succ, List.getElem?_cons_zero, List.getElem?_cons_succ, List.nil_append, List.cons_append, Option.toList_some, Option.toList_none]
      exact Pq.an hY9 (hF.tr (hF9.wide (lo2 := b) (n2 := 16) (by omega) (by omega)) (by omega) (by omega))
    · rw [show bI (shutI (σ.f 7) k = 1) = 0 from if_neg c1]
      repeat (first | refine es rfl rfl rfl ?_ | refine eg rfl (by assumption) rfl ?_ | refine ean rfl (by assumption) (by assumption) rfl ?_ | refine eal rfl (by assumption) (by assumption) rfl ?_ | refine eri rfl ?_ | refine erv rfl ?_ | refine erl rfl ?_ | refine era rfl ?_ | refine erz0 rfl ?_ | refine erz1 rfl ?_ | refine ean0 rfl (by assumption) (by assumption) rfl ?_ | refine ean8 rfl (by assumption) (by assumption) rfl ?_ | refine ean12 rfl (by assumption) (by assumption) rfl ?_ | refine ean7 rfl (by assumption) (by assumption) rfl ?_)
      try dsimp only [set1, set2, kilP, List.set_cons_zero, List.set_cons_succ, List.getElem?_cons_zero, List.getElem?_cons_succ, List.nil_append, List.cons_append, Option.toList_some, Option.toList_none]
      refine ecv rfl rfl (by assumption) rfl rfl rfl (y_good hY) (by first | rfl | exact Nat.blt_eq.mpr (by omega)) ?_
      rintro v M9 ⟨rfl, hY9, hF9⟩
      try dsimp only [set1, set2, kilP, List.set_cons_zero, List.set_cons_succ, List.getElem?_cons_zero, List.getElem?_cons_succ, List.nil_append, List.cons_append, Option.toList_some, Option.toList_none]
      repeat (first | refine es rfl rfl rfl ?_ | refine eg rfl (by assumption) rfl ?_ | refine ean rfl (by assumption) (by assumption) rfl ?_ | refine eal rfl (by assumption) (by assumption) rfl ?_ | refine eri rfl ?_ | refine erv rfl ?_ | refine erl rfl ?_ | refine era rfl ?_ | refine erz0 rfl ?_ | refine erz1 rfl ?_ | refine ean0 rfl (by assumption) (by assumption) rfl ?_ | refine ean8 rfl (by assumption) (by assumption) rfl ?_ | refine ean12 rfl (by assumption) (by assumption) rfl ?_ | refine ean7 rfl (by assumption) (by assumption) rfl ?_)
      try dsimp only [set1, set2, kilP, List.set_cons_zero, List.set_cons_succ, List.getElem?_cons_zero, List.getElem?_cons_succ, List.nil_append, List.cons_append, Option.toList_some, Option.toList_none]
      exact Pq.an hY9 (hF.tr (hF9.wide (lo2 := b) (n2 := 16) (by omega) (by omega)) (by omega) (by omega))
  | n + 6, h => exact absurd h (by omega)
theorem y_open {x w : Int32} (hY : YR M b σ) (hI : Inv σ C) : EvM ad 3 (iX13_open ad) [.ref b, .int x, .int w] M (Pq b M (spOpen σ x w)) := by
  have hn7 := hI.n7
  unfold spOpen
  refine ⟨Nat.le_of_ble_eq_true rfl, ?_⟩
  show Ev ad _ (rX13_open ad) (0, [some (.ref b), some (.int x), some (.int w)], [], M) _
  refine yEn rfl rfl rfl hY (fun M1 hY hF _ => ?_)
  obtain ⟨⟨oa, ⟨tw, rd⟩, oq⟩, A, hR⟩ := id hY
  have h0 := hR.1.1
  have h2 := hR.1.c.2.1
  repeat (first | refine es rfl rfl rfl ?_ | refine eg rfl (by assumption) rfl ?_ | refine ean rfl (by assumption) (by assumption) rfl ?_ | refine eal rfl (by assumption) (by assumption) rfl ?_ | refine eri rfl ?_ | refine erv rfl ?_ | refine erl rfl ?_ | refine era rfl ?_ | refine erz0 rfl ?_ | refine erz1 rfl ?_ | refine ean0 rfl (by assumption) (by assumption) rfl ?_ | refine ean8 rfl (by assumption) (by assumption) rfl ?_ | refine ean12 rfl (by assumption) (by assumption) rfl ?_ | refine ean7 rfl (by assumption) (by assumption) rfl ?_)
  try dsimp only [set1, set2, kilP, List.set_cons_zero, List.set_cons_succ, List.getElem?_cons_zero, List.getElem?_cons_succ, List.nil_append, List.cons_append, Option.toList_some, Option.toList_none]
  refine ecr rfl rfl (by assumption) rfl rfl rfl (y_isH hY) (by first | rfl | exact Nat.blt_eq.mpr (by omega)) rfl ?_
  by_cases c : isH σ x
  rotate_left
  · rw [if_neg c, show bI (isH σ x) = 0 from if_neg c]
    repeat (first | refine es rfl rfl rfl ?_ | refine eg rfl (by assumption) rfl ?_ | refine ean rfl (by assumption) (by assumption) rfl ?_ | refine eal rfl (by assumption) (by assumption) rfl ?_ | refine eri rfl ?_ | refine erv rfl ?_ | refine erl rfl ?_ | refine era rfl ?_ | refine erz0 rfl ?_ | refine erz1 rfl ?_ | refine ean0 rfl (by assumption) (by assumption) rfl ?_ | refine ean8 rfl (by assumption) (by assumption) rfl ?_ | refine ean12 rfl (by assumption) (by assumption) rfl ?_ | refine ean7 rfl (by assumption) (by assumption) rfl ?_)
    try dsimp only [set1, set2, kilP, List.set_cons_zero, List.set_cons_succ, List.getElem?_cons_zero, List.getElem?_cons_succ, List.nil_append, List.cons_append, Option.toList_some, Option.toList_none]
    refine ecv rfl rfl (by assumption) rfl rfl rfl (y_ref hY (by decide)) (by first | rfl | exact Nat.blt_eq.mpr (by omega)) ?_
    rintro v M9 ⟨rfl, hY9, hF9⟩
    try dsimp only [set1, set2, kilP, List.set_cons_zero, List.set_cons_succ, List.getElem?_cons_zero, List.getElem?_cons_succ, List.nil_append, List.cons_append, Option.toList_some, Option.toList_none]
    repeat (first | refine es rfl rfl rfl ?_ | refine eg rfl (by assumption) rfl ?_ | refine ean rfl (by assumption) (by assumption) rfl ?_ | refine eal rfl (by assumption) (by assumption) rfl ?_ | refine eri rfl ?_ | refine erv rfl ?_ | refine erl rfl ?_ | refine era rfl ?_ | refine erz0 rfl ?_ | refine erz1 rfl ?_ | refine ean0 rfl (by assumption) (by assumption) rfl ?_ | refine ean8 rfl (by assumption) (by assumption) rfl ?_ | refine ean12 rfl (by assumption) (by assumption) rfl ?_ | refine ean7 rfl (by assumption) (by assumption) rfl ?_)
    try dsimp only [set1, set2, kilP, List.set_cons_zero, List.set_cons_succ, List.getElem?_cons_zero, List.getElem?_cons_succ, List.nil_append, List.cons_append, Option.toList_some, Option.toList_none]
    exact Pq.rf hY9 (hF.tr (hF9.wide (lo2 := b) (n2 := 16) (by omega) (by omega)) (by omega) (by omega))
  rw [if_pos c, show bI (isH σ x) = 1 from if_pos c]
  obtain ⟨k, hk, rfl⟩ := isH_k hn7 c
  have hk7 : k < 7 := by omega
  have hk16 : k < 16 := by omega
  repeat (first | refine es rfl rfl rfl ?_ | refine eg rfl (by assumption) rfl ?_ | refine ean rfl (by assumption) (by assumption) rfl ?_ | refine eal rfl (by assumption) (by assumption) rfl ?_ | refine eri rfl ?_ | refine erv rfl ?_ | refine erl rfl ?_ | refine era rfl ?_ | refine erz0 rfl ?_ | refine erz1 rfl ?_ | refine ean0 rfl (by assumption) (by assumption) rfl ?_ | refine ean8 rfl (by assumption) (by assumption) rfl ?_ | refine ean12 rfl (by assumption) (by assumption) rfl ?_ | refine ean7 rfl (by assumption) (by assumption) rfl ?_)
  try dsimp only [set1, set2, kilP, List.set_cons_zero, List.set_cons_succ, List.getElem?_cons_zero, List.getElem?_cons_succ, List.nil_append, List.cons_append, Option.toList_some, Option.toList_none]
  refine ecsr rfl rfl rfl rfl rfl rfl (y_in) (by first | rfl | exact Nat.blt_eq.mpr (by omega)) rfl ?_
  have e5 : ((0 : Int32) ≤ w ∧ w ≤ 1439) ↔ isM w := in5 (N := 1439) (by omega)
  by_cases c2 : (0 : Int32) ≤ w ∧ w ≤ 1439
  rotate_left
  · rw [if_neg (fun q => c2 (e5.mpr q)), show bI ((0 : Int32) ≤ w ∧ w ≤ 1439) = 0 from if_neg c2]
    repeat (first | refine es rfl rfl rfl ?_ | refine eg rfl (by assumption) rfl ?_ | refine ean rfl (by assumption) (by assumption) rfl ?_ | refine eal rfl (by assumption) (by assumption) rfl ?_ | refine eri rfl ?_ | refine erv rfl ?_ | refine erl rfl ?_ | refine era rfl ?_ | refine erz0 rfl ?_ | refine erz1 rfl ?_ | refine ean0 rfl (by assumption) (by assumption) rfl ?_ | refine ean8 rfl (by assumption) (by assumption) rfl ?_ | refine ean12 rfl (by assumption) (by assumption) rfl ?_ | refine ean7 rfl (by assumption) (by assumption) rfl ?_)
    try dsimp only [set1, set2, kilP, List.set_cons_zero, List.set_cons_succ, List.getElem?_cons_zero, List.getElem?_cons_succ, List.nil_append, List.cons_append, Option.toList_some, Option.toList_none]
    refine ecv rfl rfl (by assumption) rfl rfl rfl (y_ref hY (by decide)) (by first | rfl | exact Nat.blt_eq.mpr (by omega)) ?_
    rintro v M9 ⟨rfl, hY9, hF9⟩
    try dsimp only [set1, set2, kilP, List.set_cons_zero, List.set_cons_succ, List.getElem?_cons_zero, List.getElem?_cons_succ, List.nil_append, List.cons_append, Option.toList_some, Option.toList_none]
    repeat (first | refine es rfl rfl rfl ?_ | refine eg rfl (by assumption) rfl ?_ | refine ean rfl (by assumption) (by assumption) rfl ?_ | refine eal rfl (by assumption) (by assumption) rfl ?_ | refine eri rfl ?_ | refine erv rfl ?_ | refine erl rfl ?_ | refine era rfl ?_ | refine erz0 rfl ?_ | refine erz1 rfl ?_ | refine ean0 rfl (by assumption) (by assumption) rfl ?_ | refine ean8 rfl (by assumption) (by assumption) rfl ?_ | refine ean12 rfl (by assumption) (by assumption) rfl ?_ | refine ean7 rfl (by assumption) (by assumption) rfl ?_)
    try dsimp only [set1, set2, kilP, List.set_cons_zero, List.set_cons_succ, List.getElem?_cons_zero, List.getElem?_cons_succ, List.nil_append, List.cons_append, Option.toList_some, Option.toList_none]
    exact Pq.rf hY9 (hF.tr (hF9.wide (lo2 := b) (n2 := 16) (by omega) (by omega)) (by omega) (by omega))
  rw [if_pos (e5.mp c2), show bI ((0 : Int32) ≤ w ∧ w ≤ 1439) = 1 from if_pos c2]
  obtain ⟨n1, a, t0, a1, a2, hM, hv, hpa, hmk, hfa⟩ := hR.2.2.2.2.2.2.2.2.2.resolve_left (fun q => by have := q.1; omega)
  replace t0 : tw = .ref a := t0
  subst t0
  obtain ⟨kn, Am, Bm, m0, mc, mH, mS, mP, mC, mN⟩ := id hM
  obtain ⟨m1, m2, m3, m4, m5, m6, m7, m8, m9, m10, m11, m12, m13, m14, m15, m16, m17⟩ := id mc
  obtain ⟨j, hj, rfl⟩ := isM_k (e5.mp c2)
  rw [nI_clamp (by omega), nI_clamp (by omega)]
  have hW : yW M1 b a σ oa rd oq A := ⟨hR.1, a1, hM, hv⟩
  repeat (first | refine es rfl rfl rfl ?_ | refine eg rfl (by assumption) rfl ?_ | refine ean rfl (by assumption) (by assumption) rfl ?_ | refine eal rfl (by assumption) (by assumption) rfl ?_ | refine eri rfl ?_ | refine erv rfl ?_ | refine erl rfl ?_ | refine era rfl ?_ | refine erz0 rfl ?_ | refine erz1 rfl ?_ | refine ean0 rfl (by assumption) (by assumption) rfl ?_ | refine ean8 rfl (by assumption) (by assumption) rfl ?_ | refine ean12 rfl (by assumption) (by assumption) rfl ?_ | refine ean7 rfl (by assumption) (by assumption) rfl ?_)
  try dsimp only [set1, set2, kilP, List.set_cons_zero, List.set_cons_succ, List.getElem?_cons_zero, List.getElem?_cons_succ, List.nil_append, List.cons_append, Option.toList_some, Option.toList_none]
  refine ecr rfl rfl (by assumption) rfl rfl rfl (y_openAt hW hI n1 hk (by omega)) (by first | rfl | exact Nat.blt_eq.mpr (by omega)) rfl ?_
  by_cases c3 : dopP σ k j
  · rw [show bI (dopP σ k j) = 1 from if_pos c3]
    repeat (first | refine es rfl rfl rfl ?_ | refine eg rfl (by assumption) rfl ?_ | refine ean rfl (by assumption) (by assumption) rfl ?_ | refine eal rfl (by assumption) (by assumption) rfl ?_ | refine eri rfl ?_ | refine erv rfl ?_ | refine erl rfl ?_ | refine era rfl ?_ | refine erz0 rfl ?_ | refine erz1 rfl ?_ | refine ean0 rfl (by assumption) (by assumption) rfl ?_ | refine ean8 rfl (by assumption) (by assumption) rfl ?_ | refine ean12 rfl (by assumption) (by assumption) rfl ?_ | refine ean7 rfl (by assumption) (by assumption) rfl ?_)
    try dsimp only [set1, set2, kilP, List.set_cons_zero, List.set_cons_succ, List.getElem?_cons_zero, List.getElem?_cons_succ, List.nil_append, List.cons_append, Option.toList_some, Option.toList_none]
    refine ecv rfl rfl (by assumption) rfl rfl rfl (y_good hY) (by first | rfl | exact Nat.blt_eq.mpr (by omega)) ?_
    rintro v M9 ⟨rfl, hY9, hF9⟩
    try dsimp only [set1, set2, kilP, List.set_cons_zero, List.set_cons_succ, List.getElem?_cons_zero, List.getElem?_cons_succ, List.nil_append, List.cons_append, Option.toList_some, Option.toList_none]
    repeat (first | refine es rfl rfl rfl ?_ | refine eg rfl (by assumption) rfl ?_ | refine ean rfl (by assumption) (by assumption) rfl ?_ | refine eal rfl (by assumption) (by assumption) rfl ?_ | refine eri rfl ?_ | refine erv rfl ?_ | refine erl rfl ?_ | refine era rfl ?_ | refine erz0 rfl ?_ | refine erz1 rfl ?_ | refine ean0 rfl (by assumption) (by assumption) rfl ?_ | refine ean8 rfl (by assumption) (by assumption) rfl ?_ | refine ean12 rfl (by assumption) (by assumption) rfl ?_ | refine ean7 rfl (by assumption) (by assumption) rfl ?_)
    try dsimp only [set1, set2, kilP, List.set_cons_zero, List.set_cons_succ, List.getElem?_cons_zero, List.getElem?_cons_succ, List.nil_append, List.cons_append, Option.toList_some, Option.toList_none]
    exact Pq.an hY9 (hF.tr (hF9.wide (lo2 := b) (n2 := 16) (by omega) (by omega)) (by omega) (by omega))
  · rw [show bI (dopP σ k j) = 0 from if_neg c3]
    repeat (first | refine es rfl rfl rfl ?_ | refine eg rfl (by assumption) rfl ?_ | refine ean rfl (by assumption) (by assumption) rfl ?_ | refine eal rfl (by assumption) (by assumption) rfl ?_ | refine eri rfl ?_ | refine erv rfl ?_ | refine erl rfl ?_ | refine era rfl ?_ | refine erz0 rfl ?_ | refine erz1 rfl ?_ | refine ean0 rfl (by assumption) (by assumption) rfl ?_ | refine ean8 rfl (by assumption) (by assumption) rfl ?_ | refine ean12 rfl (by assumption) (by assumption) rfl ?_ | refine ean7 rfl (by assumption) (by assumption) rfl ?_)
    try dsimp only [set1, set2, kilP, List.set_cons_zero, List.set_cons_succ, List.getElem?_cons_zero, List.getElem?_cons_succ, List.nil_append, List.cons_append, Option.toList_some, Option.toList_none]
    refine ecv rfl rfl (by assumption) rfl rfl rfl (y_good hY) (by first | rfl | exact Nat.blt_eq.mpr (by omega)) ?_
    rintro v M9 ⟨rfl, hY9, hF9⟩
    try dsimp only [set1, set2, kilP, List.set_cons_zero, List.set_cons_succ, List.getElem?_cons_zero, List.getElem?_cons_succ, List.nil_append, List.cons_append, Option.toList_some, Option.toList_none]
    repeat (first | refine es rfl rfl rfl ?_ | refine eg rfl (by assumption) rfl ?_ | refine ean rfl (by assumption) (by assumption) rfl ?_ | refine eal rfl (by assumption) (by assumption) rfl ?_ | refine eri rfl ?_ | refine erv rfl ?_ | refine erl rfl ?_ | refine era rfl ?_ | refine erz0 rfl ?_ | refine erz1 rfl ?_ | refine ean0 rfl (by assumption) (by assumption) rfl ?_ | refine ean8 rfl (by assumption) (by assumption) rfl ?_ | refine ean12 rfl (by assumption) (by assumption) rfl ?_ | refine ean7 rfl (by assumption) (by assumption) rfl ?_)
    try dsimp only [set1, set2, kilP, List.set_cons_zero, List.set_cons_succ, List.getElem?_cons_zero, List.getElem?_cons_succ, List.nil_append, List.cons_append, Option.toList_some, Option.toList_none]
    exact Pq.an hY9 (hF.tr (hF9.wide (lo2 := b) (n2 := 16) (by omega) (by omega)) (by omega) (by omega))
theorem y_street {x y : Int32} (hY : YR M b σ) (hI : Inv σ C) : EvM ad 3 (iX13_street ad) [.ref b, .int x, .int y] M (Pq b M (spStreet σ x y)) := by
  have hn7 := hI.n7
  unfold spStreet
  refine ⟨Nat.le_of_ble_eq_true rfl, ?_⟩
  show Ev ad _ (rX13_street ad) (0, [some (.ref b), some (.int x), some (.int y)], [], M) _
  refine yEn rfl rfl rfl hY (fun M1 hY hF _ => ?_)
  obtain ⟨⟨oa, ⟨tw, rd⟩, oq⟩, A, hR⟩ := id hY
  have h0 := hR.1.1
  have h2 := hR.1.c.2.1
  repeat (first | refine es rfl rfl rfl ?_ | refine eg rfl (by assumption) rfl ?_ | refine ean rfl (by assumption) (by assumption) rfl ?_ | refine eal rfl (by assumption) (by assumption) rfl ?_ | refine eri rfl ?_ | refine erv rfl ?_ | refine erl rfl ?_ | refine era rfl ?_ | refine erz0 rfl ?_ | refine erz1 rfl ?_ | refine ean0 rfl (by assumption) (by assumption) rfl ?_ | refine ean8 rfl (by assumption) (by assumption) rfl ?_ | refine ean12 rfl (by assumption) (by assumption) rfl ?_ | refine ean7 rfl (by assumption) (by assumption) rfl ?_)
  try dsimp only [set1, set2, kilP, List.set_cons_zero, List.set_cons_succ, List.getElem?_cons_zero, List.getElem?_cons_succ, List.nil_append, List.cons_append, Option.toList_some, Option.toList_none]
  refine ecr rfl rfl (by assumption) rfl rfl rfl (y_isH hY) (by first | rfl | exact Nat.blt_eq.mpr (by omega)) rfl ?_
  by_cases c : isU σ x y
  rotate_left
  · rw [if_neg c]
    by_cases c1 : isH σ x
    rotate_left
    · rw [show bI (isH σ x) = 0 from if_neg c1]
      repeat (first | refine es rfl rfl rfl ?_ | refine eg rfl (by assumption) rfl ?_ | refine ean rfl (by assumption) (by assumption) rfl ?_ | refine eal rfl (by assumption) (by assumption) rfl ?_ | refine eri rfl ?_ | refine erv rfl ?_ | refine erl rfl ?_ | refine era rfl ?_ | refine erz0 rfl ?_ | refine erz1 rfl ?_ | refine ean0 rfl (by assumption) (by assumption) rfl ?_ | refine ean8 rfl (by assumption) (by assumption) rfl ?_ | refine ean12 rfl (by assumption) (by assumption) rfl ?_ | refine ean7 rfl (by assumption) (by assumption) rfl ?_)
      try dsimp only [set1, set2, kilP, List.set_cons_zero, List.set_cons_succ, List.getElem?_cons_zero, List.getElem?_cons_succ, List.nil_append, List.cons_append, Option.toList_some, Option.toList_none]
      refine ecv rfl rfl (by assumption) rfl rfl rfl (y_ref hY (by decide)) (by first | rfl | exact Nat.blt_eq.mpr (by omega)) ?_
      rintro v M9 ⟨rfl, hY9, hF9⟩
      try dsimp only [set1, set2, kilP, List.set_cons_zero, List.set_cons_succ, List.getElem?_cons_zero, List.getElem?_cons_succ, List.nil_append, List.cons_append, Option.toList_some, Option.toList_none]
      repeat (first | refine es rfl rfl rfl ?_ | refine eg rfl (by assumption) rfl ?_ | refine ean rfl (by assumption) (by assumption) rfl ?_ | refine eal rfl (by assumption) (by assumption) rfl ?_ | refine eri rfl ?_ | refine erv rfl ?_ | refine erl rfl ?_ | refine era rfl ?_ | refine erz0 rfl ?_ | refine erz1 rfl ?_ | refine ean0 rfl (by assumption) (by assumption) rfl ?_ | refine ean8 rfl (by assumption) (by assumption) rfl ?_ | refine ean12 rfl (by assumption) (by assumption) rfl ?_ | refine ean7 rfl (by assumption) (by assumption) rfl ?_)
      try dsimp only [set1, set2, kilP, List.set_cons_zero, List.set_cons_succ, List.getElem?_cons_zero, List.getElem?_cons_succ, List.nil_append, List.cons_append, Option.toList_some, Option.toList_none]
      exact Pq.rf hY9 (hF.tr (hF9.wide (lo2 := b) (n2 := 16) (by omega) (by omega)) (by omega) (by omega))
    rw [show bI (isH σ x) = 1 from if_pos c1]
    repeat (first | refine es rfl rfl rfl ?_ | refine eg rfl (by assumption) rfl ?_ | refine ean rfl (by assumption) (by assumption) rfl ?_ | refine eal rfl (by assumption) (by assumption) rfl ?_ | refine eri rfl ?_ | refine erv rfl ?_ | refine erl rfl ?_ | refine era rfl ?_ | refine erz0 rfl ?_ | refine erz1 rfl ?_ | refine ean0 rfl (by assumption) (by assumption) rfl ?_ | refine ean8 rfl (by assumption) (by assumption) rfl ?_ | refine ean12 rfl (by assumption) (by assumption) rfl ?_ | refine ean7 rfl (by assumption) (by assumption) rfl ?_)
    try dsimp only [set1, set2, kilP, List.set_cons_zero, List.set_cons_succ, List.getElem?_cons_zero, List.getElem?_cons_succ, List.nil_append, List.cons_append, Option.toList_some, Option.toList_none]
    refine ecr rfl rfl (by assumption) rfl rfl rfl (y_isH hY) (by first | rfl | exact Nat.blt_eq.mpr (by omega)) rfl ?_
    by_cases c2 : isH σ y
    rotate_left
    · rw [show bI (isH σ y) = 0 from if_neg c2]
      repeat (first | refine es rfl rfl rfl ?_ | refine eg rfl (by assumption) rfl ?_ | refine ean rfl (by assumption) (by assumption) rfl ?_ | refine eal rfl (by assumption) (by assumption) rfl ?_ | refine eri rfl ?_ | refine erv rfl ?_ | refine erl rfl ?_ | refine era rfl ?_ | refine erz0 rfl ?_ | refine erz1 rfl ?_ | refine ean0 rfl (by assumption) (by assumption) rfl ?_ | refine ean8 rfl (by assumption) (by assumption) rfl ?_ | refine ean12 rfl (by assumption) (by assumption) rfl ?_ | refine ean7 rfl (by assumption) (by assumption) rfl ?_)
      try dsimp only [set1, set2, kilP, List.set_cons_zero, List.set_cons_succ, List.getElem?_cons_zero, List.getElem?_cons_succ, List.nil_append, List.cons_append, Option.toList_some, Option.toList_none]
      refine ecv rfl rfl (by assumption) rfl rfl rfl (y_ref hY (by decide)) (by first | rfl | exact Nat.blt_eq.mpr (by omega)) ?_
      rintro v M9 ⟨rfl, hY9, hF9⟩
      try dsimp only [set1, set2, kilP, List.set_cons_zero, List.set_cons_succ, List.getElem?_cons_zero, List.getElem?_cons_succ, List.nil_append, List.cons_append, Option.toList_some, Option.toList_none]
      repeat (first | refine es rfl rfl rfl ?_ | refine eg rfl (by assumption) rfl ?_ | refine ean rfl (by assumption) (by assumption) rfl ?_ | refine eal rfl (by assumption) (by assumption) rfl ?_ | refine eri rfl ?_ | refine erv rfl ?_ | refine erl rfl ?_ | refine era rfl ?_ | refine erz0 rfl ?_ | refine erz1 rfl ?_ | refine ean0 rfl (by assumption) (by assumption) rfl ?_ | refine ean8 rfl (by assumption) (by assumption) rfl ?_ | refine ean12 rfl (by assumption) (by assumption) rfl ?_ | refine ean7 rfl (by assumption) (by assumption) rfl ?_)
      try dsimp only [set1, set2, kilP, List.set_cons_zero, List.set_cons_succ, List.getElem?_cons_zero, List.getElem?_cons_succ, List.nil_append, List.cons_append, Option.toList_some, Option.toList_none]
      exact Pq.rf hY9 (hF.tr (hF9.wide (lo2 := b) (n2 := 16) (by omega) (by omega)) (by omega) (by omega))
    rw [show bI (isH σ y) = 1 from if_pos c2]
    repeat (first | refine es rfl rfl rfl ?_ | refine eg rfl (by assumption) rfl ?_ | refine ean rfl (by assumption) (by assumption) rfl ?_ | refine eal rfl (by assumption) (by assumption) rfl ?_ | refine eri rfl ?_ | refine erv rfl ?_ | refine erl rfl ?_ | refine era rfl ?_ | refine erz0 rfl ?_ | refine erz1 rfl ?_ | refine ean0 rfl (by assumption) (by assumption) rfl ?_ | refine ean8 rfl (by assumption) (by assumption) rfl ?_ | refine ean12 rfl (by assumption) (by assumption) rfl ?_ | refine ean7 rfl (by assumption) (by assumption) rfl ?_)
    try dsimp only [set1, set2, kilP, List.set_cons_zero, List.set_cons_succ, List.getElem?_cons_zero, List.getElem?_cons_succ, List.nil_append, List.cons_append, Option.toList_some, Option.toList_none]
    refine ei _ rfl rfl (fun c3 => ?_) (fun c3 => ?_)
    · exact absurd ⟨c1, c2, c3⟩ c
    ·
      repeat (first | refine es rfl rfl rfl ?_ | refine eg rfl (by assumption) rfl ?_ | refine ean rfl (by assumption) (by assumption) rfl ?_ | refine eal rfl (by assumption) (by assumption) rfl ?_ | refine eri rfl ?_ | refine erv rfl ?_ | refine erl rfl ?_ | refine era rfl ?_ | refine erz0 rfl ?_ | refine erz1 rfl ?_ | refine ean0 rfl (by assumption) (by assumption) rfl ?_ | refine ean8 rfl (by assumption) (by assumption) rfl ?_ | refine ean12 rfl (by assumption) (by assumption) rfl ?_ | refine ean7 rfl (by assumption) (by assumption) rfl ?_)
      try dsimp only [set1, set2, kilP, List.set_cons_zero, List.set_cons_succ, List.getElem?_cons_zero, List.getElem?_cons_succ, List.nil_append, List.cons_append, Option.toList_some, Option.toList_none]
      refine ecv rfl rfl (by assumption) rfl rfl rfl (y_ref hY (by decide)) (by first | rfl | exact Nat.blt_eq.mpr (by omega)) ?_
      rintro v M9 ⟨rfl, hY9, hF9⟩
      try dsimp only [set1, set2, kilP, List.set_cons_zero, List.set_cons_succ, List.getElem?_cons_zero, List.getElem?_cons_succ, List.nil_append, List.cons_append, Option.toList_some, Option.toList_none]
      repeat (first | refine es rfl rfl rfl ?_ | refine eg rfl (by assumption) rfl ?_ | refine ean rfl (by assumption) (by assumption) rfl ?_ | refine eal rfl (by assumption) (by assumption) rfl ?_ | refine eri rfl ?_ | refine erv rfl ?_ | refine erl rfl ?_ | refine era rfl ?_ | refine erz0 rfl ?_ | refine erz1 rfl ?_ | refine ean0 rfl (by assumption) (by assumption) rfl ?_ | refine ean8 rfl (by assumption) (by assumption) rfl ?_ | refine ean12 rfl (by assumption) (by assumption) rfl ?_ | refine ean7 rfl (by assumption) (by assumption) rfl ?_)
      try dsimp only [set1, set2, kilP, List.set_cons_zero, List.set_cons_succ, List.getElem?_cons_zero, List.getElem?_cons_succ, List.nil_append, List.cons_append, Option.toList_some, Option.toList_none]
      exact Pq.rf hY9 (hF.tr (hF9.wide (lo2 := b) (n2 := 16) (by omega) (by omega)) (by omega) (by omega))
  rw [if_pos c, show bI (isH σ x) = 1 from if_pos c.1]
  repeat (first | refine es rfl rfl rfl ?_ | refine eg rfl (by assumption) rfl ?_ | refine ean rfl (by assumption) (by assumption) rfl ?_ | refine eal rfl (by assumption) (by assumption) rfl ?_ | refine eri rfl ?_ | refine erv rfl ?_ | refine erl rfl ?_ | refine era rfl ?_ | refine erz0 rfl ?_ | refine erz1 rfl ?_ | refine ean0 rfl (by assumption) (by assumption) rfl ?_ | refine ean8 rfl (by assumption) (by assumption) rfl ?_ | refine ean12 rfl (by assumption) (by assumption) rfl ?_ | refine ean7 rfl (by assumption) (by assumption) rfl ?_)
  try dsimp only [set1, set2, kilP, List.set_cons_zero, List.set_cons_succ, List.getElem?_cons_zero, List.getElem?_cons_succ, List.nil_append, List.cons_append, Option.toList_some, Option.toList_none]
  refine ecr rfl rfl (by assumption) rfl rfl rfl (y_isH hY) (by first | rfl | exact Nat.blt_eq.mpr (by omega)) rfl ?_
  rw [show bI (isH σ y) = 1 from if_pos c.2.1]
  repeat (first | refine es rfl rfl rfl ?_ | refine eg rfl (by assumption) rfl ?_ | refine ean rfl (by assumption) (by assumption) rfl ?_ | refine eal rfl (by assumption) (by assumption) rfl ?_ | refine eri rfl ?_ | refine erv rfl ?_ | refine erl rfl ?_ | refine era rfl ?_ | refine erz0 rfl ?_ | refine erz1 rfl ?_ | refine ean0 rfl (by assumption) (by assumption) rfl ?_ | refine ean8 rfl (by assumption) (by assumption) rfl ?_ | refine ean12 rfl (by assumption) (by assumption) rfl ?_ | refine ean7 rfl (by assumption) (by assumption) rfl ?_)
  try dsimp only [set1, set2, kilP, List.set_cons_zero, List.set_cons_succ, List.getElem?_cons_zero, List.getElem?_cons_succ, List.nil_append, List.cons_append, Option.toList_some, Option.toList_none]
  refine ei _ rfl rfl (fun c3 => ?_) (fun c3 => ?_)
  rotate_left
  · exact absurd (Decidable.not_not.mp c3) c.2.2
  obtain ⟨k, j, hk, hj, hne, rfl, rfl⟩ := isU_k hn7 c
  have hk7 : k < 7 := by omega
  have hj7 : j < 7 := by omega
  have hk16 : k < 16 := by omega
  have hj16 : j < 16 := by omega
  obtain ⟨n1, a, t0, a1, a2, hM, hv, hpa, hmk, hfa⟩ := hR.2.2.2.2.2.2.2.2.2.resolve_left (fun q => by have := q.1; omega)
  replace t0 : tw = .ref a := t0
  subst t0
  obtain ⟨kn, Am, Bm, m0, mc, mH, mS, mP, mC, mN⟩ := id hM
  obtain ⟨m1, m2, m3, m4, m5, m6, m7, m8, m9, m10, m11, m12, m13, m14, m15, m16, m17⟩ := id mc
  have hkj : 7 * k + j < 49 := by omega
  rw [nI_clamp (by omega), nI_clamp (by omega), show k * 7 + j = 7 * k + j by omega]
  repeat (first | refine es rfl rfl rfl ?_ | refine eg rfl (by assumption) rfl ?_ | refine ean rfl (by assumption) (by assumption) rfl ?_ | refine eal rfl (by assumption) (by assumption) rfl ?_ | refine eri rfl ?_ | refine erv rfl ?_ | refine erl rfl ?_ | refine era rfl ?_ | refine erz0 rfl ?_ | refine erz1 rfl ?_ | refine ean0 rfl (by assumption) (by assumption) rfl ?_ | refine ean8 rfl (by assumption) (by assumption) rfl ?_ | refine ean12 rfl (by assumption) (by assumption) rfl ?_ | refine ean7 rfl (by assumption) (by assumption) rfl ?_)
  try dsimp only [set1, set2, kilP, List.set_cons_zero, List.set_cons_succ, List.getElem?_cons_zero, List.getElem?_cons_succ, List.nil_append, List.cons_append, Option.toList_some, Option.toList_none]
  rw [mS _ hkj]
  obtain ⟨z, hz, ez, _⟩ := (hI.tI n1).2.2.2.2.2.1 k j hk7 hj7
  rw [show k * 7 + j = 7 * k + j by omega] at ez
  rw [ez]
  refine ei _ rfl rfl (fun c4 => ?_) (fun c4 => ?_)
  · repeat (first | refine es rfl rfl rfl ?_ | refine eg rfl (by assumption) rfl ?_ | refine ean rfl (by assumption) (by assumption) rfl ?_ | refine eal rfl (by assumption) (by assumption) rfl ?_ | refine eri rfl ?_ | refine erv rfl ?_ | refine erl rfl ?_ | refine era rfl ?_ | refine erz0 rfl ?_ | refine erz1 rfl ?_ | refine ean0 rfl (by assumption) (by assumption) rfl ?_ | refine ean8 rfl (by assumption) (by assumption) rfl ?_ | refine ean12 rfl (by assumption) (by assumption) rfl ?_ | refine ean7 rfl (by assumption) (by assumption) rfl ?_)
    try dsimp only [set1, set2, kilP, List.set_cons_zero, List.set_cons_succ, List.getElem?_cons_zero, List.getElem?_cons_succ, List.nil_append, List.cons_append, Option.toList_some, Option.toList_none]
    rw [mS _ hkj, ez, if_pos (Decidable.byContradiction (fun q => c4 (by have h9 : ¬ 0 < z := fun w => q ((nI_ltI (a := 0) (b := z) (by omega) (by omega)).mpr w); rw [show z = 0 by omega]; rfl)))]
    repeat (first | refine es rfl rfl rfl ?_ | refine eg rfl (by assumption) rfl ?_ | refine ean rfl (by assumption) (by assumption) rfl ?_ | refine eal rfl (by assumption) (by assumption) rfl ?_ | refine eri rfl ?_ | refine erv rfl ?_ | refine erl rfl ?_ | refine era rfl ?_ | refine erz0 rfl ?_ | refine erz1 rfl ?_ | refine ean0 rfl (by assumption) (by assumption) rfl ?_ | refine ean8 rfl (by assumption) (by assumption) rfl ?_ | refine ean12 rfl (by assumption) (by assumption) rfl ?_ | refine ean7 rfl (by assumption) (by assumption) rfl ?_)
    try dsimp only [set1, set2, kilP, List.set_cons_zero, List.set_cons_succ, List.getElem?_cons_zero, List.getElem?_cons_succ, List.nil_append, List.cons_append, Option.toList_some, Option.toList_none]
    refine ecv rfl rfl (by assumption) rfl rfl rfl (y_good hY) (by first | rfl | exact Nat.blt_eq.mpr (by omega)) ?_
    rintro v M9 ⟨rfl, hY9, hF9⟩
    try dsimp only [set1, set2, kilP, List.set_cons_zero, List.set_cons_succ, List.getElem?_cons_zero, List.getElem?_cons_succ, List.nil_append, List.cons_append, Option.toList_some, Option.toList_none]
    repeat (first | refine es rfl rfl rfl ?_ | refine eg rfl (by assumption) rfl ?_ | refine ean rfl (by assumption) (by assumption) rfl ?_ | refine eal rfl (by assumption) (by assumption) rfl ?_ | refine eri rfl ?_ | refine erv rfl ?_ | refine erl rfl ?_ | refine era rfl ?_ | refine erz0 rfl ?_ | refine erz1 rfl ?_ | refine ean0 rfl (by assumption) (by assumption) rfl ?_ | refine ean8 rfl (by assumption) (by assumption) rfl ?_ | refine ean12 rfl (by assumption) (by assumption) rfl ?_ | refine ean7 rfl (by assumption) (by assumption) rfl ?_)
    try dsimp only [set1, set2, kilP, List.set_cons_zero, List.set_cons_succ, List.getElem?_cons_zero, List.getElem?_cons_succ, List.nil_append, List.cons_append, Option.toList_some, Option.toList_none]
    exact Pq.an hY9 (hF.tr (hF9.wide (lo2 := b) (n2 := 16) (by omega) (by omega)) (by omega) (by omega))
  · repeat (first | refine es rfl rfl rfl ?_ | refine eg rfl (by assumption) rfl ?_ | refine ean rfl (by assumption) (by assumption) rfl ?_ | refine eal rfl (by assumption) (by assumption) rfl ?_ | refine eri rfl ?_ | refine erv rfl ?_ | refine erl rfl ?_ | refine era rfl ?_ | refine erz0 rfl ?_ | refine erz1 rfl ?_ | refine ean0 rfl (by assumption) (by assumption) rfl ?_ | refine ean8 rfl (by assumption) (by assumption) rfl ?_ | refine ean12 rfl (by assumption) (by assumption) rfl ?_ | refine ean7 rfl (by assumption) (by assumption) rfl ?_)
    try dsimp only [set1, set2, kilP, List.set_cons_zero, List.set_cons_succ, List.getElem?_cons_zero, List.getElem?_cons_succ, List.nil_append, List.cons_append, Option.toList_some, Option.toList_none]
    rw [if_neg (fun q => c4 (fun q2 => by rw [q2] at q; exact absurd q (by decide)))]
    repeat (first | refine es rfl rfl rfl ?_ | refine eg rfl (by assumption) rfl ?_ | refine ean rfl (by assumption) (by assumption) rfl ?_ | refine eal rfl (by assumption) (by assumption) rfl ?_ | refine eri rfl ?_ | refine erv rfl ?_ | refine erl rfl ?_ | refine era rfl ?_ | refine erz0 rfl ?_ | refine erz1 rfl ?_ | refine ean0 rfl (by assumption) (by assumption) rfl ?_ | refine ean8 rfl (by assumption) (by assumption) rfl ?_ | refine ean12 rfl (by assumption) (by assumption) rfl ?_ | refine ean7 rfl (by assumption) (by assumption) rfl ?_)
    try dsimp only [set1, set2, kilP, List.set_cons_zero, List.set_cons_succ, List.getElem?_cons_zero, List.getElem?_cons_succ, List.nil_append, List.cons_append, Option.toList_some, Option.toList_none]
    refine ecv rfl rfl (by assumption) rfl rfl rfl (y_good hY) (by first | rfl | exact Nat.blt_eq.mpr (by omega)) ?_
    rintro v M9 ⟨rfl, hY9, hF9⟩
    try dsimp only [set1, set2, kilP, List.set_cons_zero, List.set_cons_succ, List.getElem?_cons_zero, List.getElem?_cons_succ, List.nil_append, List.cons_append, Option.toList_some, Option.toList_none]
    repeat (first | refine es rfl rfl rfl ?_ | refine eg rfl (by assumption) rfl ?_ | refine ean rfl (by assumption) (by assumption) rfl ?_ | refine eal rfl (by assumption) (by assumption) rfl ?_ | refine eri rfl ?_ | refine erv rfl ?_ | refine erl rfl ?_ | refine era rfl ?_ | refine erz0 rfl ?_ | refine erz1 rfl ?_ | refine ean0 rfl (by assumption) (by assumption) rfl ?_ | refine ean8 rfl (by assumption) (by assumption) rfl ?_ | refine ean12 rfl (by assumption) (by assumption) rfl ?_ | refine ean7 rfl (by assumption) (by assumption) rfl ?_)
    try dsimp only [set1, set2, kilP, List.set_cons_zero, List.set_cons_succ, List.getElem?_cons_zero, List.getElem?_cons_succ, List.nil_append, List.cons_append, Option.toList_some, Option.toList_none]
    exact Pq.an hY9 (hF.tr (hF9.wide (lo2 := b) (n2 := 16) (by omega) (by omega)) (by omega) (by omega))
theorem y_person {x w : Int32} (hY : YR M b σ) (hI : Inv σ C) : EvM ad 2 (iX13_person ad) [.ref b, .int x, .int w] M (Pq b M (spPerson σ x w)) := by
  have hn7 := hI.n7
  have hp4 := hI.p4
  unfold spPerson
  refine ⟨Nat.le_of_ble_eq_true rfl, ?_⟩
  show Ev ad _ (rX13_person ad) (0, [some (.ref b), some (.int x), some (.int w)], [], M) _
  refine yEn rfl rfl rfl hY (fun M1 hY hF _ => ?_)
  obtain ⟨⟨oa, ⟨tw, rd⟩, oq⟩, A, hR⟩ := id hY
  have h0 := hR.1.1
  have h2 := hR.1.c.2.1
  repeat (first | refine es rfl rfl rfl ?_ | refine eg rfl (by assumption) rfl ?_ | refine ean rfl (by assumption) (by assumption) rfl ?_ | refine eal rfl (by assumption) (by assumption) rfl ?_ | refine eri rfl ?_ | refine erv rfl ?_ | refine erl rfl ?_ | refine era rfl ?_ | refine erz0 rfl ?_ | refine erz1 rfl ?_ | refine ean0 rfl (by assumption) (by assumption) rfl ?_ | refine ean8 rfl (by assumption) (by assumption) rfl ?_ | refine ean12 rfl (by assumption) (by assumption) rfl ?_ | refine ean7 rfl (by assumption) (by assumption) rfl ?_)
  try dsimp only [set1, set2, kilP, List.set_cons_zero, List.set_cons_succ, List.getElem?_cons_zero, List.getElem?_cons_succ, List.nil_append, List.cons_append, Option.toList_some, Option.toList_none]
  refine ecr rfl rfl (by assumption) rfl rfl rfl (y_isP hY hI) (by first | rfl | exact Nat.blt_eq.mpr (by omega)) rfl ?_
  by_cases c : isP σ x
  rotate_left
  · rw [if_neg c, show bI (isP σ x) = 0 from if_neg c]
    repeat (first | refine es rfl rfl rfl ?_ | refine eg rfl (by assumption) rfl ?_ | refine ean rfl (by assumption) (by assumption) rfl ?_ | refine eal rfl (by assumption) (by assumption) rfl ?_ | refine eri rfl ?_ | refine erv rfl ?_ | refine erl rfl ?_ | refine era rfl ?_ | refine erz0 rfl ?_ | refine erz1 rfl ?_ | refine ean0 rfl (by assumption) (by assumption) rfl ?_ | refine ean8 rfl (by assumption) (by assumption) rfl ?_ | refine ean12 rfl (by assumption) (by assumption) rfl ?_ | refine ean7 rfl (by assumption) (by assumption) rfl ?_)
    try dsimp only [set1, set2, kilP, List.set_cons_zero, List.set_cons_succ, List.getElem?_cons_zero, List.getElem?_cons_succ, List.nil_append, List.cons_append, Option.toList_some, Option.toList_none]
    refine ecv rfl rfl (by assumption) rfl rfl rfl (y_ref hY (by decide)) (by first | rfl | exact Nat.blt_eq.mpr (by omega)) ?_
    rintro v M9 ⟨rfl, hY9, hF9⟩
    try dsimp only [set1, set2, kilP, List.set_cons_zero, List.set_cons_succ, List.getElem?_cons_zero, List.getElem?_cons_succ, List.nil_append, List.cons_append, Option.toList_some, Option.toList_none]
    repeat (first | refine es rfl rfl rfl ?_ | refine eg rfl (by assumption) rfl ?_ | refine ean rfl (by assumption) (by assumption) rfl ?_ | refine eal rfl (by assumption) (by assumption) rfl ?_ | refine eri rfl ?_ | refine erv rfl ?_ | refine erl rfl ?_ | refine era rfl ?_ | refine erz0 rfl ?_ | refine erz1 rfl ?_ | refine ean0 rfl (by assumption) (by assumption) rfl ?_ | refine ean8 rfl (by assumption) (by assumption) rfl ?_ | refine ean12 rfl (by assumption) (by assumption) rfl ?_ | refine ean7 rfl (by assumption) (by assumption) rfl ?_)
    try dsimp only [set1, set2, kilP, List.set_cons_zero, List.set_cons_succ, List.getElem?_cons_zero, List.getElem?_cons_succ, List.nil_append, List.cons_append, Option.toList_some, Option.toList_none]
    exact Pq.rf hY9 (hF.tr (hF9.wide (lo2 := b) (n2 := 16) (by omega) (by omega)) (by omega) (by omega))
  rw [if_pos c, show bI (isP σ x) = 1 from if_pos c]
  obtain ⟨k, hk, rfl⟩ := isP_k hp4 c
  have hk4 : k < 4 := by omega
  have hk8 : 8 + k < 16 := by omega
  have hk12 : 12 + k < 16 := by omega
  repeat (first | refine es rfl rfl rfl ?_ | refine eg rfl (by assumption) rfl ?_ | refine ean rfl (by assumption) (by assumption) rfl ?_ | refine eal rfl (by assumption) (by assumption) rfl ?_ | refine eri rfl ?_ | refine erv rfl ?_ | refine erl rfl ?_ | refine era rfl ?_ | refine erz0 rfl ?_ | refine erz1 rfl ?_ | refine ean0 rfl (by assumption) (by assumption) rfl ?_ | refine ean8 rfl (by assumption) (by assumption) rfl ?_ | refine ean12 rfl (by assumption) (by assumption) rfl ?_ | refine ean7 rfl (by assumption) (by assumption) rfl ?_)
  try dsimp only [set1, set2, kilP, List.set_cons_zero, List.set_cons_succ, List.getElem?_cons_zero, List.getElem?_cons_succ, List.nil_append, List.cons_append, Option.toList_some, Option.toList_none]
  refine ecsr rfl rfl rfl rfl rfl rfl (y_in) (by first | rfl | exact Nat.blt_eq.mpr (by omega)) rfl ?_
  have e5 : ((0 : Int32) ≤ w ∧ w ≤ 2) ↔ (0 ≤ w ∧ w < 3) := in5 (N := 2) (by omega)
  by_cases c2 : (0 : Int32) ≤ w ∧ w ≤ 2
  rotate_left
  · rw [if_neg (fun q => c2 (e5.mpr q)), show bI ((0 : Int32) ≤ w ∧ w ≤ 2) = 0 from if_neg c2]
    repeat (first | refine es rfl rfl rfl ?_ | refine eg rfl (by assumption) rfl ?_ | refine ean rfl (by assumption) (by assumption) rfl ?_ | refine eal rfl (by assumption) (by assumption) rfl ?_ | refine eri rfl ?_ | refine erv rfl ?_ | refine erl rfl ?_ | refine era rfl ?_ | refine erz0 rfl ?_ | refine erz1 rfl ?_ | refine ean0 rfl (by assumption) (by assumption) rfl ?_ | refine ean8 rfl (by assumption) (by assumption) rfl ?_ | refine ean12 rfl (by assumption) (by assumption) rfl ?_ | refine ean7 rfl (by assumption) (by assumption) rfl ?_)
    try dsimp only [set1, set2, kilP, List.set_cons_zero, List.set_cons_succ, List.getElem?_cons_zero, List.getElem?_cons_succ, List.nil_append, List.cons_append, Option.toList_some, Option.toList_none]
    refine ecv rfl rfl (by assumption) rfl rfl rfl (y_ref hY (by decide)) (by first | rfl | exact Nat.blt_eq.mpr (by omega)) ?_
    rintro v M9 ⟨rfl, hY9, hF9⟩
    try dsimp only [set1, set2, kilP, List.set_cons_zero, List.set_cons_succ, List.getElem?_cons_zero, List.getElem?_cons_succ, List.nil_append, List.cons_append, Option.toList_some, Option.toList_none]
    repeat (first | refine es rfl rfl rfl ?_ | refine eg rfl (by assumption) rfl ?_ | refine ean rfl (by assumption) (by assumption) rfl ?_ | refine eal rfl (by assumption) (by assumption) rfl ?_ | refine eri rfl ?_ | refine erv rfl ?_ | refine erl rfl ?_ | refine era rfl ?_ | refine erz0 rfl ?_ | refine erz1 rfl ?_ | refine ean0 rfl (by assumption) (by assumption) rfl ?_ | refine ean8 rfl (by assumption) (by assumption) rfl ?_ | refine ean12 rfl (by assumption) (by assumption) rfl ?_ | refine ean7 rfl (by assumption) (by assumption) rfl ?_)
    try dsimp only [set1, set2, kilP, List.set_cons_zero, List.set_cons_succ, List.getElem?_cons_zero, List.getElem?_cons_succ, List.nil_append, List.cons_append, Option.toList_some, Option.toList_none]
    exact Pq.rf hY9 (hF.tr (hF9.wide (lo2 := b) (n2 := 16) (by omega) (by omega)) (by omega) (by omega))
  rw [if_pos (e5.mp c2), show bI ((0 : Int32) ≤ w ∧ w ≤ 2) = 1 from if_pos c2]
  have hno : ¬ σ.T.hs.n = 0 := fun q => by have := (hI.2.1 q).1.2.2.1; omega
  obtain ⟨n1, a, t0, a1, a2, hM, hv, hpa, hmk, hfa⟩ := hR.2.2.2.2.2.2.2.2.2.resolve_left (fun q => by have := q.1; omega)
  replace t0 : tw = .ref a := t0
  subst t0
  obtain ⟨kn, Am, Bm, m0, mc, mH, mS, mP, mC, mN⟩ := id hM
  obtain ⟨m1, m2, m3, m4, m5, m6, m7, m8, m9, m10, m11, m12, m13, m14, m15, m16, m17⟩ := id mc
  obtain ⟨j, hj, rfl⟩ := nI_0k (n := 3) (by omega) (e5.mp c2)
  rw [nI_clamp (by omega), nI_clamp (by omega)]
  match j, hj with
  | 0, _ =>
    repeat (first | refine es rfl rfl rfl ?_ | refine eg rfl (by assumption) rfl ?_ | refine ean rfl (by assumption) (by assumption) rfl ?_ | refine eal rfl (by assumption) (by assumption) rfl ?_ | refine eri rfl ?_ | refine erv rfl ?_ | refine erl rfl ?_ | refine era rfl ?_ | refine erz0 rfl ?_ | refine erz1 rfl ?_ | refine ean0 rfl (by assumption) (by assumption) rfl ?_ | refine ean8 rfl (by assumption) (by assumption) rfl ?_ | refine ean12 rfl (by assumption) (by assumption) rfl ?_ | refine ean7 rfl (by assumption) (by assumption) rfl ?_)
    try dsimp only [set1, set2, kilP, List.set_cons_zero, List.set_cons_succ, List.getElem?_cons_zero, List.getElem?_cons_succ, List.nil_append, List.cons_append, Option.toList_some, Option.toList_none]
    rw [(mP k hk).1]
    repeat (first | refine es rfl rfl rfl ?_ | refine eg rfl (by assumption) rfl ?_ | refine ean rfl (by assumption) (by assumption) rfl ?_ | refine eal rfl (by assumption) (by assumption) rfl ?_ | refine eri rfl ?_ | refine erv rfl ?_ | refine erl rfl ?_ | refine era rfl ?_ | refine erz0 rfl ?_ | refine erz1 rfl ?_ | refine ean0 rfl (by assumption) (by assumption) rfl ?_ | refine ean8 rfl (by assumption) (by assumption) rfl ?_ | refine ean12 rfl (by assumption) (by assumption) rfl ?_ | refine ean7 rfl (by assumption) (by assumption) rfl ?_)
    try dsimp only [set1, set2, kilP, List.set_cons_zero, List.set_cons_succ, List.getElem?_cons_zero, List.getElem?_cons_succ, List.nil_append, List.cons_append, Option.toList_some, Option.toList_none]
    refine ecv rfl rfl (by assumption) rfl rfl rfl (y_good hY) (by first | rfl | exact Nat.blt_eq.mpr (by omega)) ?_
    rintro v M9 ⟨rfl, hY9, hF9⟩
    try dsimp only [set1, set2, kilP, List.set_cons_zero, List.set_cons_succ, List.getElem?_cons_zero, List.getElem?_cons_succ, List.nil_append, List.cons_append, Option.toList_some, Option.toList_none]
    repeat (first | refine es rfl rfl rfl ?_ | refine eg rfl (by assumption) rfl ?_ | refine ean rfl (by assumption) (by assumption) rfl ?_ | refine eal rfl (by assumption) (by assumption) rfl ?_ | refine eri rfl ?_ | refine erv rfl ?_ | refine erl rfl ?_ | refine era rfl ?_ | refine erz0 rfl ?_ | refine erz1 rfl ?_ | refine ean0 rfl (by assumption) (by assumption) rfl ?_ | refine ean8 rfl (by assumption) (by assumption) rfl ?_ | refine ean12 rfl (by assumption) (by assumption) rfl ?_ | refine ean7 rfl (by assumption) (by assumption) rfl ?_)
    try dsimp only [set1, set2, kilP, List.set_cons_zero, List.set_cons_succ, List.getElem?_cons_zero, List.getElem?_cons_succ, List.nil_append, List.cons_append, Option.toList_some, Option.toList_none]
    exact Pq.an hY9 (hF.tr (hF9.wide (lo2 := b) (n2 := 16) (by omega) (by omega)) (by omega) (by omega))
  | 1, _ =>
    repeat (first | refine es rfl rfl rfl ?_ | refine eg rfl (by assumption) rfl ?_ | refine ean rfl (by assumption) (by assumption) rfl ?_ | refine eal rfl (by assumption) (by assumption) rfl ?_ | refine eri rfl ?_ | refine erv rfl ?_ | refine erl rfl ?_ | refine era rfl ?_ | refine erz0 rfl ?_ | refine erz1 rfl ?_ | refine ean0 rfl (by assumption) (by assumption) rfl ?_ | refine ean8 rfl (by assumption) (by assumption) rfl ?_ | refine ean12 rfl (by assumption) (by assumption) rfl ?_ | refine ean7 rfl (by assumption) (by assumption) rfl ?_)
    try dsimp only [set1, set2, kilP, List.set_cons_zero, List.set_cons_succ, List.getElem?_cons_zero, List.getElem?_cons_succ, List.nil_append, List.cons_append, Option.toList_some, Option.toList_none]
    rw [hv _ hk8]
    repeat (first | refine es rfl rfl rfl ?_ | refine eg rfl (by assumption) rfl ?_ | refine ean rfl (by assumption) (by assumption) rfl ?_ | refine eal rfl (by assumption) (by assumption) rfl ?_ | refine eri rfl ?_ | refine erv rfl ?_ | refine erl rfl ?_ | refine era rfl ?_ | refine erz0 rfl ?_ | refine erz1 rfl ?_ | refine ean0 rfl (by assumption) (by assumption) rfl ?_ | refine ean8 rfl (by assumption) (by assumption) rfl ?_ | refine ean12 rfl (by assumption) (by assumption) rfl ?_ | refine ean7 rfl (by assumption) (by assumption) rfl ?_)
    try dsimp only [set1, set2, kilP, List.set_cons_zero, List.set_cons_succ, List.getElem?_cons_zero, List.getElem?_cons_succ, List.nil_append, List.cons_append, Option.toList_some, Option.toList_none]
    refine ecv rfl rfl (by assumption) rfl rfl rfl (y_good hY) (by first | rfl | exact Nat.blt_eq.mpr (by omega)) ?_
    rintro v M9 ⟨rfl, hY9, hF9⟩
    try dsimp only [set1, set2, kilP, List.set_cons_zero, List.set_cons_succ, List.getElem?_cons_zero, List.getElem?_cons_succ, List.nil_append, List.cons_append, Option.toList_some, Option.toList_none]
    repeat (first | refine es rfl rfl rfl ?_ | refine eg rfl (by assumption) rfl ?_ | refine ean rfl (by assumption) (by assumption) rfl ?_ | refine eal rfl (by assumption) (by assumption) rfl ?_ | refine eri rfl ?_ | refine erv rfl ?_ | refine erl rfl ?_ | refine era rfl ?_ | refine erz0 rfl ?_ | refine erz1 rfl ?_ | refine ean0 rfl (by assumption) (by assumption) rfl ?_ | refine ean8 rfl (by assumption) (by assumption) rfl ?_ | refine ean12 rfl (by assumption) (by assumption) rfl ?_ | refine ean7 rfl (by assumption) (by assumption) rfl ?_)
    try dsimp only [set1, set2, kilP, List.set_cons_zero, List.set_cons_succ, List.getElem?_cons_zero, List.getElem?_cons_succ, List.nil_append, List.cons_append, Option.toList_some, Option.toList_none]
    exact Pq.an hY9 (hF.tr (hF9.wide (lo2 := b) (n2 := 16) (by omega) (by omega)) (by omega) (by omega))
  | 2, _ =>
    repeat (first | refine es rfl rfl rfl ?_ | refine eg rfl (by assumption) rfl ?_ | refine ean rfl (by assumption) (by assumption) rfl ?_ | refine eal rfl (by assumption) (by assumption) rfl ?_ | refine eri rfl ?_ | refine erv rfl ?_ | refine erl rfl ?_ | refine era rfl ?_ | refine erz0 rfl ?_ | refine erz1 rfl ?_ | refine ean0 rfl (by assumption) (by assumption) rfl ?_ | refine ean8 rfl (by assumption) (by assumption) rfl ?_ | refine ean12 rfl (by assumption) (by assumption) rfl ?_ | refine ean7 rfl (by assumption) (by assumption) rfl ?_)
    try dsimp only [set1, set2, kilP, List.set_cons_zero, List.set_cons_succ, List.getElem?_cons_zero, List.getElem?_cons_succ, List.nil_append, List.cons_append, Option.toList_some, Option.toList_none]
    rw [hv _ hk12]
    repeat (first | refine es rfl rfl rfl ?_ | refine eg rfl (by assumption) rfl ?_ | refine ean rfl (by assumption) (by assumption) rfl ?_ | refine eal rfl (by assumption) (by assumption) rfl ?_ | refine eri rfl ?_ | refine erv rfl ?_ | refine erl rfl ?_ | refine era rfl ?_ | refine erz0 rfl ?_ | refine erz1 rfl ?_ | refine ean0 rfl (by assumption) (by assumption) rfl ?_ | refine ean8 rfl (by assumption) (by assumption) rfl ?_ | refine ean12 rfl (by assumption) (by assumption) rfl ?_ | refine ean7 rfl (by assumption) (by assumption) rfl ?_)
    try dsimp only [set1, set2, kilP, List.set_cons_zero, List.set_cons_succ, List.getElem?_cons_zero, List.getElem?_cons_succ, List.nil_append, List.cons_append, Option.toList_some, Option.toList_none]
    refine ecv rfl rfl (by assumption) rfl rfl rfl (y_good hY) (by first | rfl | exact Nat.blt_eq.mpr (by omega)) ?_
    rintro v M9 ⟨rfl, hY9, hF9⟩
    try dsimp only [set1, set2, kilP, List.set_cons_zero, List.set_cons_succ, List.getElem?_cons_zero, List.getElem?_cons_succ, List.nil_append, List.cons_append, Option.toList_some, Option.toList_none]
    repeat (first | refine es rfl rfl rfl ?_ | refine eg rfl (by assumption) rfl ?_ | refine ean rfl (by assumption) (by assumption) rfl ?_ | refine eal rfl (by assumption) (by assumption) rfl ?_ | refine eri rfl ?_ | refine erv rfl ?_ | refine erl rfl ?_ | refine era rfl ?_ | refine erz0 rfl ?_ | refine erz1 rfl ?_ | refine ean0 rfl (by assumption) (by assumption) rfl ?_ | refine ean8 rfl (by assumption) (by assumption) rfl ?_ | refine ean12 rfl (by assumption) (by assumption) rfl ?_ | refine ean7 rfl (by assumption) (by assumption) rfl ?_)
    try dsimp only [set1, set2, kilP, List.set_cons_zero, List.set_cons_succ, List.getElem?_cons_zero, List.getElem?_cons_succ, List.nil_append, List.cons_append, Option.toList_some, Option.toList_none]
    exact Pq.an hY9 (hF.tr (hF9.wide (lo2 := b) (n2 := 16) (by omega) (by omega)) (by omega) (by omega))
  | n + 3, h => exact absurd h (by omega)
end RFACE
