/-! Reader: lines, the whole text -/
abbrev fulP (T : Tw) (s : Nat) : Prop := (s = 1 ∧ 7 ≤ T.hs.n) ∨ (s = 4 ∧ 10 ≤ T.ss.n) ∨ (s = 5 ∧ 4 ≤ T.np) ∨ (s = 6 ∧ 8 ≤ T.cs.sg) ∨ (s = 7 ∧ 4 ≤ T.cs.nz)
theorem sorF_or (sc : Nat → Int64) (w : Int64) : ∀ n i, sorF sc w n i = -1 ∨ ∃ k, i ≤ k ∧ k < i + n ∧ sorF sc w n i = nI k
  | 0, i => Or.inl rfl
  | n + 1, i => by
    rw [sorF]
    split
    · exact Or.inr ⟨i, by omega, by omega, rfl⟩
    · rcases sorF_or sc w n (i + 1) with h | ⟨k, h1, h2, h3⟩
      · exact Or.inl h
      · exact Or.inr ⟨k, by omega, by omega, h3⟩
/-- how much of a town there may be while it is read -/
def rdW (T : Tw) : Prop := T.hs.n ≤ 7 ∧ T.np ≤ 4 ∧ T.ss.n ≤ 10 ∧ T.cs.sg ≤ 8 ∧ T.cs.nz ≤ 4 ∧ T.dr ≤ 9
theorem e5_full {ad : Nat → Nat} {M : Mm} {b tb : Nat} {tp : Nat → Int32} {sc : Nat → Int64} {q : Rq} {T : Tw} (hq : aRq M b tb tp sc q) (hT : aTw M tb T) (hw : rdW T) : ∀ s, s < 8 → Rd ad 0 (iX5_isFull ad) [.ref b, .int (nI s)] M (some (.int (bI (fulP T s)))) := by
  intro s hs
  have h0 := hq.1
  unfold aR0 at h0
  have t0 := hT.1.1
  have s0 := hT.2.1.1
  have s1 := hT.2.2.1.1
  have s2 := hT.2.2.2.1
  unfold rdW at hw
  match s, hs with
  | 0, _ =>
    refine ⟨Nat.le_of_ble_eq_true rfl, ?_⟩
    show Ev ad _ (rX5_isFull ad) (0, [some (.ref b), some (.int (nI 0))], [], M) _
    repeat (first | refine es rfl rfl rfl ?_ | refine eg rfl (by assumption) rfl ?_ | refine ean rfl (by assumption) (by assumption) rfl ?_ | refine eal rfl (by assumption) (by assumption) rfl ?_ | refine eri rfl ?_ | refine erv rfl ?_ | refine erl rfl ?_ | refine era rfl ?_ | refine erz0 rfl ?_ | refine erz1 rfl ?_)
    try dsimp only [set1, set2, kilP, List.set_cons_zero, List.set_cons_succ, List.getElem?_cons_zero, List.getElem?_cons_succ, List.nil_append, List.cons_append, Option.toList_some, Option.toList_none]
    rw [show bI (fulP T 0) = 0 from if_neg (by unfold fulP; omega)]
    exact ⟨rfl, rfl⟩
  | 1, _ =>
    refine ⟨Nat.le_of_ble_eq_true rfl, ?_⟩
    show Ev ad _ (rX5_isFull ad) (0, [some (.ref b), some (.int (nI 1))], [], M) _
    repeat (first | refine es rfl rfl rfl ?_ | refine eg rfl (by assumption) rfl ?_ | refine ean rfl (by assumption) (by assumption) rfl ?_ | refine eal rfl (by assumption) (by assumption) rfl ?_ | refine eri rfl ?_ | refine erv rfl ?_ | refine erl rfl ?_ | refine era rfl ?_ | refine erz0 rfl ?_ | refine erz1 rfl ?_)
    try dsimp only [set1, set2, kilP, List.set_cons_zero, List.set_cons_succ, List.getElem?_cons_zero, List.getElem?_cons_succ, List.nil_append, List.cons_append, Option.toList_some, Option.toList_none]
    refine ei _ rfl rfl (fun c => ?_) (fun c => ?_)
    · repeat (first | refine es rfl rfl rfl ?_ | refine eg rfl (by assumption) rfl ?_ | refine ean rfl (by assumption) (by assumption) rfl ?_ | refine eal rfl (by assumption) (by assumption) rfl ?_ | refine eri rfl ?_ | refine erv rfl ?_ | refine erl rfl ?_ | refine era rfl ?_ | refine erz0 rfl ?_ | refine erz1 rfl ?_)
      try dsimp only [set1, set2, kilP, List.set_cons_zero, List.set_cons_succ, List.getElem?_cons_zero, List.getElem?_cons_succ, List.nil_append, List.cons_append, Option.toList_some, Option.toList_none]
      have hn : ¬ 7 ≤ T.hs.n := fun h => nI_nlt (b := 7) h (by omega) c
      rw [show bI (fulP T 1) = 0 from if_neg (by unfold fulP; omega)]
      exact ⟨rfl, rfl⟩
    · repeat (first | refine es rfl rfl rfl ?_ | refine eg rfl (by assumption) rfl ?_ | refine ean rfl (by assumption) (by assumption) rfl ?_ | refine eal rfl (by assumption) (by assumption) rfl ?_ | refine eri rfl ?_ | refine erv rfl ?_ | refine erl rfl ?_ | refine era rfl ?_ | refine erz0 rfl ?_ | refine erz1 rfl ?_)
      try dsimp only [set1, set2, kilP, List.set_cons_zero, List.set_cons_succ, List.getElem?_cons_zero, List.getElem?_cons_succ, List.nil_append, List.cons_append, Option.toList_some, Option.toList_none]
      have hn : 7 ≤ T.hs.n := Decidable.byContradiction fun h => c (nI_lt (a := T.hs.n) (b := 7) (by omega) (by omega))
      rw [show bI (fulP T 1) = 1 from if_pos (by unfold fulP; omega)]
      exact ⟨rfl, rfl⟩
  | 2, _ =>
    refine ⟨Nat.le_of_ble_eq_true rfl, ?_⟩
    show Ev ad _ (rX5_isFull ad) (0, [some (.ref b), some (.int (nI 2))], [], M) _
    repeat (first | refine es rfl rfl rfl ?_ | refine eg rfl (by assumption) rfl ?_ | refine ean rfl (by assumption) (by assumption) rfl ?_ | refine eal rfl (by assumption) (by assumption) rfl ?_ | refine eri rfl ?_ | refine erv rfl ?_ | refine erl rfl ?_ | refine era rfl ?_ | refine erz0 rfl ?_ | refine erz1 rfl ?_)
    try dsimp only [set1, set2, kilP, List.set_cons_zero, List.set_cons_succ, List.getElem?_cons_zero, List.getElem?_cons_succ, List.nil_append, List.cons_append, Option.toList_some, Option.toList_none]
    rw [show bI (fulP T 2) = 0 from if_neg (by unfold fulP; omega)]
    exact ⟨rfl, rfl⟩
  | 3, _ =>
    refine ⟨Nat.le_of_ble_eq_true rfl, ?_⟩
    show Ev ad _ (rX5_isFull ad) (0, [some (.ref b), some (.int (nI 3))], [], M) _
    repeat (first | refine es rfl rfl rfl ?_ | refine eg rfl (by assumption) rfl ?_ | refine ean rfl (by assumption) (by assumption) rfl ?_ | refine eal rfl (by assumption) (by assumption) rfl ?_ | refine eri rfl ?_ | refine erv rfl ?_ | refine erl rfl ?_ | refine era rfl ?_ | refine erz0 rfl ?_ | refine erz1 rfl ?_)
    try dsimp only [set1, set2, kilP, List.set_cons_zero, List.set_cons_succ, List.getElem?_cons_zero, List.getElem?_cons_succ, List.nil_append, List.cons_append, Option.toList_some, Option.toList_none]
    rw [show bI (fulP T 3) = 0 from if_neg (by unfold fulP; omega)]
    exact ⟨rfl, rfl⟩
  | 4, _ =>
    refine ⟨Nat.le_of_ble_eq_true rfl, ?_⟩
    show Ev ad _ (rX5_isFull ad) (0, [some (.ref b), some (.int (nI 4))], [], M) _
    repeat (first | refine es rfl rfl rfl ?_ | refine eg rfl (by assumption) rfl ?_ | refine ean rfl (by assumption) (by assumption) rfl ?_ | refine eal rfl (by assumption) (by assumption) rfl ?_ | refine eri rfl ?_ | refine erv rfl ?_ | refine erl rfl ?_ | refine era rfl ?_ | refine erz0 rfl ?_ | refine erz1 rfl ?_)
    try dsimp only [set1, set2, kilP, List.set_cons_zero, List.set_cons_succ, List.getElem?_cons_zero, List.getElem?_cons_succ, List.nil_append, List.cons_append, Option.toList_some, Option.toList_none]
    refine ei _ rfl rfl (fun c => ?_) (fun c => ?_)
    · repeat (first | refine es rfl rfl rfl ?_ | refine eg rfl (by assumption) rfl ?_ | refine ean rfl (by assumption) (by assumption) rfl ?_ | refine eal rfl (by assumption) (by assumption) rfl ?_ | refine eri rfl ?_ | refine erv rfl ?_ | refine erl rfl ?_ | refine era rfl ?_ | refine erz0 rfl ?_ | refine erz1 rfl ?_)
      try dsimp only [set1, set2, kilP, List.set_cons_zero, List.set_cons_succ, List.getElem?_cons_zero, List.getElem?_cons_succ, List.nil_append, List.cons_append, Option.toList_some, Option.toList_none]
      have hn : ¬ 10 ≤ T.ss.n := fun h => nI_nlt (b := 10) h (by omega) c
      rw [show bI (fulP T 4) = 0 from if_neg (by unfold fulP; omega)]
      exact ⟨rfl, rfl⟩
    · repeat (first | refine es rfl rfl rfl ?_ | refine eg rfl (by assumption) rfl ?_ | refine ean rfl (by assumption) (by assumption) rfl ?_ | refine eal rfl (by assumption) (by assumption) rfl ?_ | refine eri rfl ?_ | refine erv rfl ?_ | refine erl rfl ?_ | refine era rfl ?_ | refine erz0 rfl ?_ | refine erz1 rfl ?_)
      try dsimp only [set1, set2, kilP, List.set_cons_zero, List.set_cons_succ, List.getElem?_cons_zero, List.getElem?_cons_succ, List.nil_append, List.cons_append, Option.toList_some, Option.toList_none]
      have hn : 10 ≤ T.ss.n := Decidable.byContradiction fun h => c (nI_lt (a := T.ss.n) (b := 10) (by omega) (by omega))
      rw [show bI (fulP T 4) = 1 from if_pos (by unfold fulP; omega)]
      exact ⟨rfl, rfl⟩
  | 5, _ =>
    refine ⟨Nat.le_of_ble_eq_true rfl, ?_⟩
    show Ev ad _ (rX5_isFull ad) (0, [some (.ref b), some (.int (nI 5))], [], M) _
    repeat (first | refine es rfl rfl rfl ?_ | refine eg rfl (by assumption) rfl ?_ | refine ean rfl (by assumption) (by assumption) rfl ?_ | refine eal rfl (by assumption) (by assumption) rfl ?_ | refine eri rfl ?_ | refine erv rfl ?_ | refine erl rfl ?_ | refine era rfl ?_ | refine erz0 rfl ?_ | refine erz1 rfl ?_)
    try dsimp only [set1, set2, kilP, List.set_cons_zero, List.set_cons_succ, List.getElem?_cons_zero, List.getElem?_cons_succ, List.nil_append, List.cons_append, Option.toList_some, Option.toList_none]
    refine ei _ rfl rfl (fun c => ?_) (fun c => ?_)
    · repeat (first | refine es rfl rfl rfl ?_ | refine eg rfl (by assumption) rfl ?_ | refine ean rfl (by assumption) (by assumption) rfl ?_ | refine eal rfl (by assumption) (by assumption) rfl ?_ | refine eri rfl ?_ | refine erv rfl ?_ | refine erl rfl ?_ | refine era rfl ?_ | refine erz0 rfl ?_ | refine erz1 rfl ?_)
      try dsimp only [set1, set2, kilP, List.set_cons_zero, List.set_cons_succ, List.getElem?_cons_zero, List.getElem?_cons_succ, List.nil_append, List.cons_append, Option.toList_some, Option.toList_none]
      have hn : ¬ 4 ≤ T.np := fun h => nI_nlt (b := 4) h (by omega) c
      rw [show bI (fulP T 5) = 0 from if_neg (by unfold fulP; omega)]
      exact ⟨rfl, rfl⟩
    · repeat (first | refine es rfl rfl rfl ?_ | refine eg rfl (by assumption) rfl ?_ | refine ean rfl (by assumption) (by assumption) rfl ?_ | refine eal rfl (by assumption) (by assumption) rfl ?_ | refine eri rfl ?_ | refine erv rfl ?_ | refine erl rfl ?_ | refine era rfl ?_ | refine erz0 rfl ?_ | refine erz1 rfl ?_)
      try dsimp only [set1, set2, kilP, List.set_cons_zero, List.set_cons_succ, List.getElem?_cons_zero, List.getElem?_cons_succ, List.nil_append, List.cons_append, Option.toList_some, Option.toList_none]
      have hn : 4 ≤ T.np := Decidable.byContradiction fun h => c (nI_lt (a := T.np) (b := 4) (by omega) (by omega))
      rw [show bI (fulP T 5) = 1 from if_pos (by unfold fulP; omega)]
      exact ⟨rfl, rfl⟩
  | 6, _ =>
    refine ⟨Nat.le_of_ble_eq_true rfl, ?_⟩
    show Ev ad _ (rX5_isFull ad) (0, [some (.ref b), some (.int (nI 6))], [], M) _
    repeat (first | refine es rfl rfl rfl ?_ | refine eg rfl (by assumption) rfl ?_ | refine ean rfl (by assumption) (by assumption) rfl ?_ | refine eal rfl (by assumption) (by assumption) rfl ?_ | refine eri rfl ?_ | refine erv rfl ?_ | refine erl rfl ?_ | refine era rfl ?_ | refine erz0 rfl ?_ | refine erz1 rfl ?_)
    try dsimp only [set1, set2, kilP, List.set_cons_zero, List.set_cons_succ, List.getElem?_cons_zero, List.getElem?_cons_succ, List.nil_append, List.cons_append, Option.toList_some, Option.toList_none]
    refine ei _ rfl rfl (fun c => ?_) (fun c => ?_)
    · repeat (first | refine es rfl rfl rfl ?_ | refine eg rfl (by assumption) rfl ?_ | refine ean rfl (by assumption) (by assumption) rfl ?_ | refine eal rfl (by assumption) (by assumption) rfl ?_ | refine eri rfl ?_ | refine erv rfl ?_ | refine erl rfl ?_ | refine era rfl ?_ | refine erz0 rfl ?_ | refine erz1 rfl ?_)
      try dsimp only [set1, set2, kilP, List.set_cons_zero, List.set_cons_succ, List.getElem?_cons_zero, List.getElem?_cons_succ, List.nil_append, List.cons_append, Option.toList_some, Option.toList_none]
      have hn : ¬ 8 ≤ T.cs.sg := fun h => nI_nlt (b := 8) h (by omega) c
      rw [show bI (fulP T 6) = 0 from if_neg (by unfold fulP; omega)]
      exact ⟨rfl, rfl⟩
    · repeat (first | refine es rfl rfl rfl ?_ | refine eg rfl (by assumption) rfl ?_ | refine ean rfl (by assumption) (by assumption) rfl ?_ | refine eal rfl (by assumption) (by assumption) rfl ?_ | refine eri rfl ?_ | refine erv rfl ?_ | refine erl rfl ?_ | refine era rfl ?_ | refine erz0 rfl ?_ | refine erz1 rfl ?_)
      try dsimp only [set1, set2, kilP, List.set_cons_zero, List.set_cons_succ, List.getElem?_cons_zero, List.getElem?_cons_succ, List.nil_append, List.cons_append, Option.toList_some, Option.toList_none]
      have hn : 8 ≤ T.cs.sg := Decidable.byContradiction fun h => c (nI_lt (a := T.cs.sg) (b := 8) (by omega) (by omega))
      rw [show bI (fulP T 6) = 1 from if_pos (by unfold fulP; omega)]
      exact ⟨rfl, rfl⟩
  | 7, _ =>
    refine ⟨Nat.le_of_ble_eq_true rfl, ?_⟩
    show Ev ad _ (rX5_isFull ad) (0, [some (.ref b), some (.int (nI 7))], [], M) _
    repeat (first | refine es rfl rfl rfl ?_ | refine eg rfl (by assumption) rfl ?_ | refine ean rfl (by assumption) (by assumption) rfl ?_ | refine eal rfl (by assumption) (by assumption) rfl ?_ | refine eri rfl ?_ | refine erv rfl ?_ | refine erl rfl ?_ | refine era rfl ?_ | refine erz0 rfl ?_ | refine erz1 rfl ?_)
    try dsimp only [set1, set2, kilP, List.set_cons_zero, List.set_cons_succ, List.getElem?_cons_zero, List.getElem?_cons_succ, List.nil_append, List.cons_append, Option.toList_some, Option.toList_none]
    refine ei _ rfl rfl (fun c => ?_) (fun c => ?_)
    · repeat (first | refine es rfl rfl rfl ?_ | refine eg rfl (by assumption) rfl ?_ | refine ean rfl (by assumption) (by assumption) rfl ?_ | refine eal rfl (by assumption) (by assumption) rfl ?_ | refine eri rfl ?_ | refine erv rfl ?_ | refine erl rfl ?_ | refine era rfl ?_ | refine erz0 rfl ?_ | refine erz1 rfl ?_)
      try dsimp only [set1, set2, kilP, List.set_cons_zero, List.set_cons_succ, List.getElem?_cons_zero, List.getElem?_cons_succ, List.nil_append, List.cons_append, Option.toList_some, Option.toList_none]
      have hn : ¬ 4 ≤ T.cs.nz := fun h => nI_nlt (b := 4) h (by omega) c
      rw [show bI (fulP T 7) = 0 from if_neg (by unfold fulP; omega)]
      exact ⟨rfl, rfl⟩
    · repeat (first | refine es rfl rfl rfl ?_ | refine eg rfl (by assumption) rfl ?_ | refine ean rfl (by assumption) (by assumption) rfl ?_ | refine eal rfl (by assumption) (by assumption) rfl ?_ | refine eri rfl ?_ | refine erv rfl ?_ | refine erl rfl ?_ | refine era rfl ?_ | refine erz0 rfl ?_ | refine erz1 rfl ?_)
      try dsimp only [set1, set2, kilP, List.set_cons_zero, List.set_cons_succ, List.getElem?_cons_zero, List.getElem?_cons_succ, List.nil_append, List.cons_append, Option.toList_some, Option.toList_none]
      have hn : 4 ≤ T.cs.nz := Decidable.byContradiction fun h => c (nI_lt (a := T.cs.nz) (b := 4) (by omega) (by omega))
      rw [show bI (fulP T 7) = 1 from if_pos (by unfold fulP; omega)]
      exact ⟨rfl, rfl⟩
  | n + 8, h => exact absurd h (by omega)
def lnOf (tp : Nat → Int32) (sc : Nat → Int64) (le : Nat) (T : Tw) (a : Nat) : Nat → Except Er (Tw × Nat)
  | 0 => lnTown tp sc le T a
  | 1 => lnHouse tp sc le T a
  | 2 => lnWrong tp sc le T a
  | 3 => lnOpen tp sc le T a
  | 4 => lnStreet tp sc le T a
  | 5 => lnPerson tp sc le T a
  | 6 => lnSign tp sc le T a
  | _ => lnNoise tp sc le T a
def pLn (tp : Nat → Int32) (sc : Nat → Int64) (le : Nat) (T : Tw) (a : Nat) : Except Er (Tw × Nat) :=
  match pAny tp le a with
  | .error e => .error e
  | .ok (w, a1) =>
  if sorF sc w 8 0 = -1 then .error (1, (tk tp le a).1) else
  if (sorF sc w 8 0).toNatClampNeg = 0 ∧ 0 < T.dr then .error (3, (tk tp le a).1) else
  if ¬ (sorF sc w 8 0).toNatClampNeg = 0 ∧ T.dr = 0 then .error (6, (tk tp le a).1) else
  if fulP T (sorF sc w 8 0).toNatClampNeg then .error (5, (tk tp le a).1) else
  lnOf tp sc le T a1 (sorF sc w 8 0).toNatClampNeg
theorem lnP.tr {b tb : Nat} {tp : Nat → Int32} {sc : Nat → Int64} {z : Rz} {M0 M : Mm} {r : Except Er (Tw × Nat)} {v : Option Value} {M' : Mm} (hF : Fr2 b tb M0 M) (h : lnP b tb tp sc z M r v M') : lnP b tb tp sc z M0 r v M' := ⟨⟨fun q a c => (h.1.1 q a c).trans (hF.1 q a c), h.1.2.trans hF.2⟩, h.2⟩
theorem e5_line {ad : Nat → Nat} {M : Mm} {b tb lo : Nat} {tp : Nat → Int32} {sc : Nat → Int64} {z : Rz} {a : Nat} {q : Rq} {T : Tw} (hq : rS M b tb tp sc z a q) (hT : aTw M tb T) (hS : aSt ad lo M) (hlo : lo ≤ b) (htb : okTb b tb) (hw : rdW T) : EvM ad 5 (iX5_readLine ad) [.ref b] M (lnP b tb tp sc z M (pLn tp sc z.2.2.2 T a)) := by
  generalize hr : pLn tp sc z.2.2.2 T a = r
  unfold pLn at hr
  have hw' := hw
  unfold rdW at hw'
  have hn7 : T.hs.n ≤ 7 := by omega
  have hG := Fr2.rf b tb M
  have h0 := hq.1.1
  unfold aR0 at h0
  refine ⟨Nat.le_of_ble_eq_true rfl, ?_⟩
  show Ev ad _ (rX5_readLine ad) (0, [some (.ref b), none, none], [], M) _
  repeat (first | refine es rfl rfl rfl ?_ | refine eg rfl (by assumption) rfl ?_ | refine ean rfl (by assumption) (by assumption) rfl ?_ | refine eal rfl (by assumption) (by assumption) rfl ?_ | refine eri rfl ?_ | refine erv rfl ?_ | refine erl rfl ?_ | refine era rfl ?_ | refine erz0 rfl ?_ | refine erz1 rfl ?_)
  try dsimp only [set1, set2, kilP, List.set_cons_zero, List.set_cons_succ, List.getElem?_cons_zero, List.getElem?_cons_succ, List.nil_append, List.cons_append, Option.toList_some, Option.toList_none]
  refine ecv rfl rfl (by assumption) rfl rfl rfl (w_any hq) (by first | rfl | exact Nat.blt_eq.mpr (by omega)) ?_
  rintro v M1 ⟨hF1, hm⟩
  have hT := hT.fr hF1 (by unfold okTb at htb; omega)
  have hS := hS.fr hF1 hlo
  have hG := hG.w hF1
  have t0 := hT.1.1
  rcases hp : pAny tp z.2.2.2 a with e | ⟨w, a1⟩
  · rw [hp] at hr hm
    dsimp only at hr hm
    subst hr
    obtain ⟨rfl, hE⟩ := hm
    try dsimp only [set1, set2, kilP, List.set_cons_zero, List.set_cons_succ, List.getElem?_cons_zero, List.getElem?_cons_succ, List.nil_append, List.cons_append, Option.toList_some, Option.toList_none]
    repeat (first | refine es rfl rfl rfl ?_ | refine eg rfl (by assumption) rfl ?_ | refine ean rfl (by assumption) (by assumption) rfl ?_ | refine eal rfl (by assumption) (by assumption) rfl ?_ | refine eri rfl ?_ | refine erv rfl ?_ | refine erl rfl ?_ | refine era rfl ?_ | refine erz0 rfl ?_ | refine erz1 rfl ?_)
    try dsimp only [set1, set2, kilP, List.set_cons_zero, List.set_cons_succ, List.getElem?_cons_zero, List.getElem?_cons_succ, List.nil_append, List.cons_append, Option.toList_some, Option.toList_none]
    exact ⟨hG, rfl, hE, _, hT⟩
  rw [hp] at hr hm
  dsimp only at hr hm
  obtain ⟨rfl, ⟨q, hq, hwd, hr', hst⟩⟩ := hm
  have h0 := hq.1.1
  unfold aR0 at h0
  try dsimp only [set1, set2, kilP, List.set_cons_zero, List.set_cons_succ, List.getElem?_cons_zero, List.getElem?_cons_succ, List.nil_append, List.cons_append, Option.toList_some, Option.toList_none]
  repeat (first | refine es rfl rfl rfl ?_ | refine eg rfl (by assumption) rfl ?_ | refine ean rfl (by assumption) (by assumption) rfl ?_ | refine eal rfl (by assumption) (by assumption) rfl ?_ | refine eri rfl ?_ | refine erv rfl ?_ | refine erl rfl ?_ | refine era rfl ?_ | refine erz0 rfl ?_ | refine erz1 rfl ?_)
  try dsimp only [set1, set2, kilP, List.set_cons_zero, List.set_cons_succ, List.getElem?_cons_zero, List.getElem?_cons_succ, List.nil_append, List.cons_append, Option.toList_some, Option.toList_none]
  refine ecr rfl rfl (by assumption) rfl rfl rfl (e5_sort hq.1) (by first | rfl | exact Nat.blt_eq.mpr (by omega)) rfl ?_
  rw [hwd]
  repeat (first | refine es rfl rfl rfl ?_ | refine eg rfl (by assumption) rfl ?_ | refine ean rfl (by assumption) (by assumption) rfl ?_ | refine eal rfl (by assumption) (by assumption) rfl ?_ | refine eri rfl ?_ | refine erv rfl ?_ | refine erl rfl ?_ | refine era rfl ?_ | refine erz0 rfl ?_ | refine erz1 rfl ?_)
  try dsimp only [set1, set2, kilP, List.set_cons_zero, List.set_cons_succ, List.getElem?_cons_zero, List.getElem?_cons_succ, List.nil_append, List.cons_append, Option.toList_some, Option.toList_none]
  rcases sorF_or sc w 8 0 with hs | ⟨k, _, hk, hs⟩
  · rw [if_pos hs] at hr
    refine ei _ rfl rfl (fun c => ?_) (fun c => ?_)
    · exact absurd hs c
    · repeat (first | refine es rfl rfl rfl ?_ | refine eg rfl (by assumption) rfl ?_ | refine ean rfl (by assumption) (by assumption) rfl ?_ | refine eal rfl (by assumption) (by assumption) rfl ?_ | refine eri rfl ?_ | refine erv rfl ?_ | refine erl rfl ?_ | refine era rfl ?_ | refine erz0 rfl ?_ | refine erz1 rfl ?_)
      try dsimp only [set1, set2, kilP, List.set_cons_zero, List.set_cons_succ, List.getElem?_cons_zero, List.getElem?_cons_succ, List.nil_append, List.cons_append, Option.toList_some, Option.toList_none]
      refine ecv rfl rfl (by assumption) rfl rfl rfl (e5_fail hq.1) (by first | rfl | exact Nat.blt_eq.mpr (by omega)) ?_
      rintro v M2 ⟨rfl, hb2, hF2⟩
      try dsimp only [set1, set2, kilP, List.set_cons_zero, List.set_cons_succ, List.getElem?_cons_zero, List.getElem?_cons_succ, List.nil_append, List.cons_append, Option.toList_some, Option.toList_none]
      repeat (first | refine es rfl rfl rfl ?_ | refine eg rfl (by assumption) rfl ?_ | refine ean rfl (by assumption) (by assumption) rfl ?_ | refine eal rfl (by assumption) (by assumption) rfl ?_ | refine eri rfl ?_ | refine erv rfl ?_ | refine erl rfl ?_ | refine era rfl ?_ | refine erz0 rfl ?_ | refine erz1 rfl ?_)
      try dsimp only [set1, set2, kilP, List.set_cons_zero, List.set_cons_succ, List.getElem?_cons_zero, List.getElem?_cons_succ, List.nil_append, List.cons_append, Option.toList_some, Option.toList_none]
      subst hr
      exact ⟨hG.w hF2, rfl, ⟨_, hb2, rfl, congrArg nI hst, hq.2.2.2.1⟩, _, hT.fr hF2 (by unfold okTb at htb; omega)⟩
  have hcl : (sorF sc w 8 0).toNatClampNeg = k := by rw [hs, nI_clamp (by omega)]
  have hne : ¬ nI k = -1 := by
    intro h
    have h9 := congrArg Int32.toInt h
    rw [nI_toInt (by omega)] at h9
    have h8 : (-1 : Int32).toInt = -1 := by decide
    omega
  rw [hcl, hs, if_neg hne] at hr
  rw [hs]
  refine ei _ rfl rfl (fun c => ?_) (fun c => ?_)
  rotate_left
  · exact absurd hne c
  have key : ∀ x : Int32, (x = if 0 < T.dr then 1 else 0) → Ev ad 5 (rX5_readLine ad) (41, [some (.ref b), some (.int (nI k)), some (.int x)], [], M1) (lnP b tb tp sc z M r) := by
    intro x hx
    match k, hk, hs, hcl, hne, c, hr with
    | 0, hk, hs, hcl, hne, c, hr =>
      repeat (first | refine es rfl rfl rfl ?_ | refine eg rfl (by assumption) rfl ?_ | refine ean rfl (by assumption) (by assumption) rfl ?_ | refine eal rfl (by assumption) (by assumption) rfl ?_ | refine eri rfl ?_ | refine erv rfl ?_ | refine erl rfl ?_ | refine era rfl ?_ | refine erz0 rfl ?_ | refine erz1 rfl ?_)
      try dsimp only [set1, set2, kilP, List.set_cons_zero, List.set_cons_succ, List.getElem?_cons_zero, List.getElem?_cons_succ, List.nil_append, List.cons_append, Option.toList_some, Option.toList_none]
      by_cases hd : 0 < T.dr
      · rw [if_pos hd] at hx
        subst hx
        rw [if_pos ⟨rfl, hd⟩] at hr
        repeat (first | refine es rfl rfl rfl ?_ | refine eg rfl (by assumption) rfl ?_ | refine ean rfl (by assumption) (by assumption) rfl ?_ | refine eal rfl (by assumption) (by assumption) rfl ?_ | refine eri rfl ?_ | refine erv rfl ?_ | refine erl rfl ?_ | refine era rfl ?_ | refine erz0 rfl ?_ | refine erz1 rfl ?_)
        try dsimp only [set1, set2, kilP, List.set_cons_zero, List.set_cons_succ, List.getElem?_cons_zero, List.getElem?_cons_succ, List.nil_append, List.cons_append, Option.toList_some, Option.toList_none]
        refine ecv rfl rfl (by assumption) rfl rfl rfl (e5_fail hq.1) (by first | rfl | exact Nat.blt_eq.mpr (by omega)) ?_
        rintro v M2 ⟨rfl, hb2, hF2⟩
        try dsimp only [set1, set2, kilP, List.set_cons_zero, List.set_cons_succ, List.getElem?_cons_zero, List.getElem?_cons_succ, List.nil_append, List.cons_append, Option.toList_some, Option.toList_none]
        repeat (first | refine es rfl rfl rfl ?_ | refine eg rfl (by assumption) rfl ?_ | refine ean rfl (by assumption) (by assumption) rfl ?_ | refine eal rfl (by assumption) (by assumption) rfl ?_ | refine eri rfl ?_ | refine erv rfl ?_ | refine erl rfl ?_ | refine era rfl ?_ | refine erz0 rfl ?_ | refine erz1 rfl ?_)
        try dsimp only [set1, set2, kilP, List.set_cons_zero, List.set_cons_succ, List.getElem?_cons_zero, List.getElem?_cons_succ, List.nil_append, List.cons_append, Option.toList_some, Option.toList_none]
        subst hr
        exact ⟨hG.w hF2, rfl, ⟨_, hb2, rfl, congrArg nI hst, hq.2.2.2.1⟩, _, hT.fr hF2 (by unfold okTb at htb; omega)⟩
      rw [if_neg hd] at hx
      subst hx
      rw [if_neg (fun h => hd h.2), if_neg (fun h => h.1 rfl)] at hr
      repeat (first | refine es rfl rfl rfl ?_ | refine eg rfl (by assumption) rfl ?_ | refine ean rfl (by assumption) (by assumption) rfl ?_ | refine eal rfl (by assumption) (by assumption) rfl ?_ | refine eri rfl ?_ | refine erv rfl ?_ | refine erl rfl ?_ | refine era rfl ?_ | refine erz0 rfl ?_ | refine erz1 rfl ?_)
      try dsimp only [set1, set2, kilP, List.set_cons_zero, List.set_cons_succ, List.getElem?_cons_zero, List.getElem?_cons_succ, List.nil_append, List.cons_append, Option.toList_some, Option.toList_none]
      refine ecr rfl rfl (by assumption) rfl rfl rfl (e5_full hq.1 hT hw 0 (by omega)) (by first | rfl | exact Nat.blt_eq.mpr (by omega)) rfl ?_
      by_cases hf : fulP T 0
      · rw [if_pos hf] at hr
        rw [show bI (fulP T 0) = 1 from if_pos hf]
        repeat (first | refine es rfl rfl rfl ?_ | refine eg rfl (by assumption) rfl ?_ | refine ean rfl (by assumption) (by assumption) rfl ?_ | refine eal rfl (by assumption) (by assumption) rfl ?_ | refine eri rfl ?_ | refine erv rfl ?_ | refine erl rfl ?_ | refine era rfl ?_ | refine erz0 rfl ?_ | refine erz1 rfl ?_)
        try dsimp only [set1, set2, kilP, List.set_cons_zero, List.set_cons_succ, List.getElem?_cons_zero, List.getElem?_cons_succ, List.nil_append, List.cons_append, Option.toList_some, Option.toList_none]
        refine ecv rfl rfl (by assumption) rfl rfl rfl (e5_fail hq.1) (by first | rfl | exact Nat.blt_eq.mpr (by omega)) ?_
        rintro v M2 ⟨rfl, hb2, hF2⟩
        try dsimp only [set1, set2, kilP, List.set_cons_zero, List.set_cons_succ, List.getElem?_cons_zero, List.getElem?_cons_succ, List.nil_append, List.cons_append, Option.toList_some, Option.toList_none]
        repeat (first | refine es rfl rfl rfl ?_ | refine eg rfl (by assumption) rfl ?_ | refine ean rfl (by assumption) (by assumption) rfl ?_ | refine eal rfl (by assumption) (by assumption) rfl ?_ | refine eri rfl ?_ | refine erv rfl ?_ | refine erl rfl ?_ | refine era rfl ?_ | refine erz0 rfl ?_ | refine erz1 rfl ?_)
        try dsimp only [set1, set2, kilP, List.set_cons_zero, List.set_cons_succ, List.getElem?_cons_zero, List.getElem?_cons_succ, List.nil_append, List.cons_append, Option.toList_some, Option.toList_none]
        subst hr
        exact ⟨hG.w hF2, rfl, ⟨_, hb2, rfl, congrArg nI hst, hq.2.2.2.1⟩, _, hT.fr hF2 (by unfold okTb at htb; omega)⟩
      rw [if_neg hf] at hr
      rw [show bI (fulP T 0) = 0 from if_neg hf]
      unfold fulP at hf
      repeat (first | refine es rfl rfl rfl ?_ | refine eg rfl (by assumption) rfl ?_ | refine ean rfl (by assumption) (by assumption) rfl ?_ | refine eal rfl (by assumption) (by assumption) rfl ?_ | refine eri rfl ?_ | refine erv rfl ?_ | refine erl rfl ?_ | refine era rfl ?_ | refine erz0 rfl ?_ | refine erz1 rfl ?_)
      try dsimp only [set1, set2, kilP, List.set_cons_zero, List.set_cons_succ, List.getElem?_cons_zero, List.getElem?_cons_succ, List.nil_append, List.cons_append, Option.toList_some, Option.toList_none]
      subst hr
      refine ecv rfl rfl (by assumption) rfl rfl rfl (e5_lnTown hq hT hS hlo htb hn7 ) (by first | rfl | exact Nat.blt_eq.mpr (by omega)) ?_
      rintro v M2 hm
      have hm := hm.tr hG
      try dsimp only [set1, set2, kilP, List.set_cons_zero, List.set_cons_succ, List.getElem?_cons_zero, List.getElem?_cons_succ, List.nil_append, List.cons_append, Option.toList_some, Option.toList_none]
      rcases hp2 : lnTown tp sc z.2.2.2 T a1 with e | x
      · rw [show lnOf tp sc z.2.2.2 T a1 0 = lnTown tp sc z.2.2.2 T a1 from rfl]
        rw [hp2] at hm ⊢
        obtain ⟨h1, rfl, h2⟩ := hm
        repeat (first | refine es rfl rfl rfl ?_ | refine eg rfl (by assumption) rfl ?_ | refine ean rfl (by assumption) (by assumption) rfl ?_ | refine eal rfl (by assumption) (by assumption) rfl ?_ | refine eri rfl ?_ | refine erv rfl ?_ | refine erl rfl ?_ | refine era rfl ?_ | refine erz0 rfl ?_ | refine erz1 rfl ?_)
        try dsimp only [set1, set2, kilP, List.set_cons_zero, List.set_cons_succ, List.getElem?_cons_zero, List.getElem?_cons_succ, List.nil_append, List.cons_append, Option.toList_some, Option.toList_none]
        exact ⟨h1, rfl, h2⟩
      rw [show lnOf tp sc z.2.2.2 T a1 0 = lnTown tp sc z.2.2.2 T a1 from rfl]
      rw [hp2] at hm ⊢
      obtain ⟨h1, rfl, h2⟩ := hm
      repeat (first | refine es rfl rfl rfl ?_ | refine eg rfl (by assumption) rfl ?_ | refine ean rfl (by assumption) (by assumption) rfl ?_ | refine eal rfl (by assumption) (by assumption) rfl ?_ | refine eri rfl ?_ | refine erv rfl ?_ | refine erl rfl ?_ | refine era rfl ?_ | refine erz0 rfl ?_ | refine erz1 rfl ?_)
      try dsimp only [set1, set2, kilP, List.set_cons_zero, List.set_cons_succ, List.getElem?_cons_zero, List.getElem?_cons_succ, List.nil_append, List.cons_append, Option.toList_some, Option.toList_none]
      exact ⟨h1, rfl, h2⟩
    | 1, hk, hs, hcl, hne, c, hr =>
      repeat (first | refine es rfl rfl rfl ?_ | refine eg rfl (by assumption) rfl ?_ | refine ean rfl (by assumption) (by assumption) rfl ?_ | refine eal rfl (by assumption) (by assumption) rfl ?_ | refine eri rfl ?_ | refine erv rfl ?_ | refine erl rfl ?_ | refine era rfl ?_ | refine erz0 rfl ?_ | refine erz1 rfl ?_)
      try dsimp only [set1, set2, kilP, List.set_cons_zero, List.set_cons_succ, List.getElem?_cons_zero, List.getElem?_cons_succ, List.nil_append, List.cons_append, Option.toList_some, Option.toList_none]
      by_cases hd : 0 < T.dr
      rotate_left
      · rw [if_neg hd] at hx
        subst hx
        rw [if_neg (fun h => absurd h.1 (by omega)), if_pos ⟨by omega, by omega⟩] at hr
        repeat (first | refine es rfl rfl rfl ?_ | refine eg rfl (by assumption) rfl ?_ | refine ean rfl (by assumption) (by assumption) rfl ?_ | refine eal rfl (by assumption) (by assumption) rfl ?_ | refine eri rfl ?_ | refine erv rfl ?_ | refine erl rfl ?_ | refine era rfl ?_ | refine erz0 rfl ?_ | refine erz1 rfl ?_)
        try dsimp only [set1, set2, kilP, List.set_cons_zero, List.set_cons_succ, List.getElem?_cons_zero, List.getElem?_cons_succ, List.nil_append, List.cons_append, Option.toList_some, Option.toList_none]
        refine ecv rfl rfl (by assumption) rfl rfl rfl (e5_fail hq.1) (by first | rfl | exact Nat.blt_eq.mpr (by omega)) ?_
        rintro v M2 ⟨rfl, hb2, hF2⟩
        try dsimp only [set1, set2, kilP, List.set_cons_zero, List.set_cons_succ, List.getElem?_cons_zero, List.getElem?_cons_succ, List.nil_append, List.cons_append, Option.toList_some, Option.toList_none]
        repeat (first | refine es rfl rfl rfl ?_ | refine eg rfl (by assumption) rfl ?_ | refine ean rfl (by assumption) (by assumption) rfl ?_ | refine eal rfl (by assumption) (by assumption) rfl ?_ | refine eri rfl ?_ | refine erv rfl ?_ | refine erl rfl ?_ | refine era rfl ?_ | refine erz0 rfl ?_ | refine erz1 rfl ?_)
        try dsimp only [set1, set2, kilP, List.set_cons_zero, List.set_cons_succ, List.getElem?_cons_zero, List.getElem?_cons_succ, List.nil_append, List.cons_append, Option.toList_some, Option.toList_none]
        subst hr
        exact ⟨hG.w hF2, rfl, ⟨_, hb2, rfl, congrArg nI hst, hq.2.2.2.1⟩, _, hT.fr hF2 (by unfold okTb at htb; omega)⟩
      rw [if_pos hd] at hx
      subst hx
      rw [if_neg (fun h => absurd h.1 (by omega)), if_neg (fun h => absurd h.2 (by omega))] at hr
      repeat (first | refine es rfl rfl rfl ?_ | refine eg rfl (by assumption) rfl ?_ | refine ean rfl (by assumption) (by assumption) rfl ?_ | refine eal rfl (by assumption) (by assumption) rfl ?_ | refine eri rfl ?_ | refine erv rfl ?_ | refine erl rfl ?_ | refine era rfl ?_ | refine erz0 rfl ?_ | refine erz1 rfl ?_)
      try dsimp only [set1, set2, kilP, List.set_cons_zero, List.set_cons_succ, List.getElem?_cons_zero, List.getElem?_cons_succ, List.nil_append, List.cons_append, Option.toList_some, Option.toList_none]
      refine ecr rfl rfl (by assumption) rfl rfl rfl (e5_full hq.1 hT hw 1 (by omega)) (by first | rfl | exact Nat.blt_eq.mpr (by omega)) rfl ?_
      by_cases hf : fulP T 1
      · rw [if_pos hf] at hr
        rw [show bI (fulP T 1) = 1 from if_pos hf]
        repeat (first | refine es rfl rfl rfl ?_ | refine eg rfl (by assumption) rfl ?_ | refine ean rfl (by assumption) (by assumption) rfl ?_ | refine eal rfl (by assumption) (by assumption) rfl ?_ | refine eri rfl ?_ | refine erv rfl ?_ | refine erl rfl ?_ | refine era rfl ?_ | refine erz0 rfl ?_ | refine erz1 rfl ?_)
        try dsimp only [set1, set2, kilP, List.set_cons_zero, List.set_cons_succ, List.getElem?_cons_zero, List.getElem?_cons_succ, List.nil_append, List.cons_append, Option.toList_some, Option.toList_none]
        refine ecv rfl rfl (by assumption) rfl rfl rfl (e5_fail hq.1) (by first | rfl | exact Nat.blt_eq.mpr (by omega)) ?_
        rintro v M2 ⟨rfl, hb2, hF2⟩
        try dsimp only [set1, set2, kilP, List.set_cons_zero, List.set_cons_succ, List.getElem?_cons_zero, List.getElem?_cons_succ, List.nil_append, List.cons_append, Option.toList_some, Option.toList_none]
        repeat (first | refine es rfl rfl rfl ?_ | refine eg rfl (by assumption) rfl ?_ | refine ean rfl (by assumption) (by assumption) rfl ?_ | refine eal rfl (by assumption) (by assumption) rfl ?_ | refine eri rfl ?_ | refine erv rfl ?_ | refine erl rfl ?_ | refine era rfl ?_ | refine erz0 rfl ?_ | refine erz1 rfl ?_)
        try dsimp only [set1, set2, kilP, List.set_cons_zero, List.set_cons_succ, List.getElem?_cons_zero, List.getElem?_cons_succ, List.nil_append, List.cons_append, Option.toList_some, Option.toList_none]
        subst hr
        exact ⟨hG.w hF2, rfl, ⟨_, hb2, rfl, congrArg nI hst, hq.2.2.2.1⟩, _, hT.fr hF2 (by unfold okTb at htb; omega)⟩
      rw [if_neg hf] at hr
      rw [show bI (fulP T 1) = 0 from if_neg hf]
      unfold fulP at hf
      repeat (first | refine es rfl rfl rfl ?_ | refine eg rfl (by assumption) rfl ?_ | refine ean rfl (by assumption) (by assumption) rfl ?_ | refine eal rfl (by assumption) (by assumption) rfl ?_ | refine eri rfl ?_ | refine erv rfl ?_ | refine erl rfl ?_ | refine era rfl ?_ | refine erz0 rfl ?_ | refine erz1 rfl ?_)
      try dsimp only [set1, set2, kilP, List.set_cons_zero, List.set_cons_succ, List.getElem?_cons_zero, List.getElem?_cons_succ, List.nil_append, List.cons_append, Option.toList_some, Option.toList_none]
      subst hr
      refine ecv rfl rfl (by assumption) rfl rfl rfl (e5_lnHouse hq hT hS hlo htb hn7 (by omega) (by omega)) (by first | rfl | exact Nat.blt_eq.mpr (by omega)) ?_
      rintro v M2 hm
      have hm := hm.tr hG
      try dsimp only [set1, set2, kilP, List.set_cons_zero, List.set_cons_succ, List.getElem?_cons_zero, List.getElem?_cons_succ, List.nil_append, List.cons_append, Option.toList_some, Option.toList_none]
      rcases hp2 : lnHouse tp sc z.2.2.2 T a1 with e | x
      · rw [show lnOf tp sc z.2.2.2 T a1 1 = lnHouse tp sc z.2.2.2 T a1 from rfl]
        rw [hp2] at hm ⊢
        obtain ⟨h1, rfl, h2⟩ := hm
        repeat (first | refine es rfl rfl rfl ?_ | refine eg rfl (by assumption) rfl ?_ | refine ean rfl (by assumption) (by assumption) rfl ?_ | refine eal rfl (by assumption) (by assumption) rfl ?_ | refine eri rfl ?_ | refine erv rfl ?_ | refine erl rfl ?_ | refine era rfl ?_ | refine erz0 rfl ?_ | refine erz1 rfl ?_)
        try dsimp only [set1, set2, kilP, List.set_cons_zero, List.set_cons_succ, List.getElem?_cons_zero, List.getElem?_cons_succ, List.nil_append, List.cons_append, Option.toList_some, Option.toList_none]
        exact ⟨h1, rfl, h2⟩
      rw [show lnOf tp sc z.2.2.2 T a1 1 = lnHouse tp sc z.2.2.2 T a1 from rfl]
      rw [hp2] at hm ⊢
      obtain ⟨h1, rfl, h2⟩ := hm
      repeat (first | refine es rfl rfl rfl ?_ | refine eg rfl (by assumption) rfl ?_ | refine ean rfl (by assumption) (by assumption) rfl ?_ | refine eal rfl (by assumption) (by assumption) rfl ?_ | refine eri rfl ?_ | refine erv rfl ?_ | refine erl rfl ?_ | refine era rfl ?_ | refine erz0 rfl ?_ | refine erz1 rfl ?_)
      try dsimp only [set1, set2, kilP, List.set_cons_zero, List.set_cons_succ, List.getElem?_cons_zero, List.getElem?_cons_succ, List.nil_append, List.cons_append, Option.toList_some, Option.toList_none]
      exact ⟨h1, rfl, h2⟩
    | 2, hk, hs, hcl, hne, c, hr =>
      repeat (first | refine es rfl rfl rfl ?_ | refine eg rfl (by assumption) rfl ?_ | refine ean rfl (by assumption) (by assumption) rfl ?_ | refine eal rfl (by assumption) (by assumption) rfl ?_ | refine eri rfl ?_ | refine erv rfl ?_ | refine erl rfl ?_ | refine era rfl ?_ | refine erz0 rfl ?_ | refine erz1 rfl ?_)
      try dsimp only [set1, set2, kilP, List.set_cons_zero, List.set_cons_succ, List.getElem?_cons_zero, List.getElem?_cons_succ, List.nil_append, List.cons_append, Option.toList_some, Option.toList_none]
      by_cases hd : 0 < T.dr
      rotate_left
      · rw [if_neg hd] at hx
        subst hx
        rw [if_neg (fun h => absurd h.1 (by omega)), if_pos ⟨by omega, by omega⟩] at hr
        repeat (first | refine es rfl rfl rfl ?_ | refine eg rfl (by assumption) rfl ?_ | refine ean rfl (by assumption) (by assumption) rfl ?_ | refine eal rfl (by assumption) (by assumption) rfl ?_ | refine eri rfl ?_ | refine erv rfl ?_ | refine erl rfl ?_ | refine era rfl ?_ | refine erz0 rfl ?_ | refine erz1 rfl ?_)
        try dsimp only [set1, set2, kilP, List.set_cons_zero, List.set_cons_succ, List.getElem?_cons_zero, List.getElem?_cons_succ, List.nil_append, List.cons_append, Option.toList_some, Option.toList_none]
        refine ecv rfl rfl (by assumption) rfl rfl rfl (e5_fail hq.1) (by first | rfl | exact Nat.blt_eq.mpr (by omega)) ?_
        rintro v M2 ⟨rfl, hb2, hF2⟩
        try dsimp only [set1, set2, kilP, List.set_cons_zero, List.set_cons_succ, List.getElem?_cons_zero, List.getElem?_cons_succ, List.nil_append, List.cons_append, Option.toList_some, Option.toList_none]
        repeat (first | refine es rfl rfl rfl ?_ | refine eg rfl (by assumption) rfl ?_ | refine ean rfl (by assumption) (by assumption) rfl ?_ | refine eal rfl (by assumption) (by assumption) rfl ?_ | refine eri rfl ?_ | refine erv rfl ?_ | refine erl rfl ?_ | refine era rfl ?_ | refine erz0 rfl ?_ | refine erz1 rfl ?_)
        try dsimp only [set1, set2, kilP, List.set_cons_zero, List.set_cons_succ, List.getElem?_cons_zero, List.getElem?_cons_succ, List.nil_append, List.cons_append, Option.toList_some, Option.toList_none]
        subst hr
        exact ⟨hG.w hF2, rfl, ⟨_, hb2, rfl, congrArg nI hst, hq.2.2.2.1⟩, _, hT.fr hF2 (by unfold okTb at htb; omega)⟩
      rw [if_pos hd] at hx
      subst hx
      rw [if_neg (fun h => absurd h.1 (by omega)), if_neg (fun h => absurd h.2 (by omega))] at hr
      repeat (first | refine es rfl rfl rfl ?_ | refine eg rfl (by assumption) rfl ?_ | refine ean rfl (by assumption) (by assumption) rfl ?_ | refine eal rfl (by assumption) (by assumption) rfl ?_ | refine eri rfl ?_ | refine erv rfl ?_ | refine erl rfl ?_ | refine era rfl ?_ | refine erz0 rfl ?_ | refine erz1 rfl ?_)
      try dsimp only [set1, set2, kilP, List.set_cons_zero, List.set_cons_succ, List.getElem?_cons_zero, List.getElem?_cons_succ, List.nil_append, List.cons_append, Option.toList_some, Option.toList_none]
      refine ecr rfl rfl (by assumption) rfl rfl rfl (e5_full hq.1 hT hw 2 (by omega)) (by first | rfl | exact Nat.blt_eq.mpr (by omega)) rfl ?_
      by_cases hf : fulP T 2
      · rw [if_pos hf] at hr
        rw [show bI (fulP T 2) = 1 from if_pos hf]
        repeat (first | refine es rfl rfl rfl ?_ | refine eg rfl (by assumption) rfl ?_ | refine ean rfl (by assumption) (by assumption) rfl ?_ | refine eal rfl (by assumption) (by assumption) rfl ?_ | refine eri rfl ?_ | refine erv rfl ?_ | refine erl rfl ?_ | refine era rfl ?_ | refine erz0 rfl ?_ | refine erz1 rfl ?_)
        try dsimp only [set1, set2, kilP, List.set_cons_zero, List.set_cons_succ, List.getElem?_cons_zero, List.getElem?_cons_succ, List.nil_append, List.cons_append, Option.toList_some, Option.toList_none]
        refine ecv rfl rfl (by assumption) rfl rfl rfl (e5_fail hq.1) (by first | rfl | exact Nat.blt_eq.mpr (by omega)) ?_
        rintro v M2 ⟨rfl, hb2, hF2⟩
        try dsimp only [set1, set2, kilP, List.set_cons_zero, List.set_cons_succ, List.getElem?_cons_zero, List.getElem?_cons_succ, List.nil_append, List.cons_append, Option.toList_some, Option.toList_none]
        repeat (first | refine es rfl rfl rfl ?_ | refine eg rfl (by assumption) rfl ?_ | refine ean rfl (by assumption) (by assumption) rfl ?_ | refine eal rfl (by assumption) (by assumption) rfl ?_ | refine eri rfl ?_ | refine erv rfl ?_ | refine erl rfl ?_ | refine era rfl ?_ | refine erz0 rfl ?_ | refine erz1 rfl ?_)
        try dsimp only [set1, set2, kilP, List.set_cons_zero, List.set_cons_succ, List.getElem?_cons_zero, List.getElem?_cons_succ, List.nil_append, List.cons_append, Option.toList_some, Option.toList_none]
        subst hr
        exact ⟨hG.w hF2, rfl, ⟨_, hb2, rfl, congrArg nI hst, hq.2.2.2.1⟩, _, hT.fr hF2 (by unfold okTb at htb; omega)⟩
      rw [if_neg hf] at hr
      rw [show bI (fulP T 2) = 0 from if_neg hf]
      unfold fulP at hf
      repeat (first | refine es rfl rfl rfl ?_ | refine eg rfl (by assumption) rfl ?_ | refine ean rfl (by assumption) (by assumption) rfl ?_ | refine eal rfl (by assumption) (by assumption) rfl ?_ | refine eri rfl ?_ | refine erv rfl ?_ | refine erl rfl ?_ | refine era rfl ?_ | refine erz0 rfl ?_ | refine erz1 rfl ?_)
      try dsimp only [set1, set2, kilP, List.set_cons_zero, List.set_cons_succ, List.getElem?_cons_zero, List.getElem?_cons_succ, List.nil_append, List.cons_append, Option.toList_some, Option.toList_none]
      subst hr
      refine ecv rfl rfl (by assumption) rfl rfl rfl (e5_lnWrong hq hT hS hlo htb hn7 ) (by first | rfl | exact Nat.blt_eq.mpr (by omega)) ?_
      rintro v M2 hm
      have hm := hm.tr hG
      try dsimp only [set1, set2, kilP, List.set_cons_zero, List.set_cons_succ, List.getElem?_cons_zero, List.getElem?_cons_succ, List.nil_append, List.cons_append, Option.toList_some, Option.toList_none]
      rcases hp2 : lnWrong tp sc z.2.2.2 T a1 with e | x
      · rw [show lnOf tp sc z.2.2.2 T a1 2 = lnWrong tp sc z.2.2.2 T a1 from rfl]
        rw [hp2] at hm ⊢
        obtain ⟨h1, rfl, h2⟩ := hm
        repeat (first | refine es rfl rfl rfl ?_ | refine eg rfl (by assumption) rfl ?_ | refine ean rfl (by assumption) (by assumption) rfl ?_ | refine eal rfl (by assumption) (by assumption) rfl ?_ | refine eri rfl ?_ | refine erv rfl ?_ | refine erl rfl ?_ | refine era rfl ?_ | refine erz0 rfl ?_ | refine erz1 rfl ?_)
        try dsimp only [set1, set2, kilP, List.set_cons_zero, List.set_cons_succ, List.getElem?_cons_zero, List.getElem?_cons_succ, List.nil_append, List.cons_append, Option.toList_some, Option.toList_none]
        exact ⟨h1, rfl, h2⟩
      rw [show lnOf tp sc z.2.2.2 T a1 2 = lnWrong tp sc z.2.2.2 T a1 from rfl]
      rw [hp2] at hm ⊢
      obtain ⟨h1, rfl, h2⟩ := hm
      repeat (first | refine es rfl rfl rfl ?_ | refine eg rfl (by assumption) rfl ?_ | refine ean rfl (by assumption) (by assumption) rfl ?_ | refine eal rfl (by assumption) (by assumption) rfl ?_ | refine eri rfl ?_ | refine erv rfl ?_ | refine erl rfl ?_ | refine era rfl ?_ | refine erz0 rfl ?_ | refine erz1 rfl ?_)
      try dsimp only [set1, set2, kilP, List.set_cons_zero, List.set_cons_succ, List.getElem?_cons_zero, List.getElem?_cons_succ, List.nil_append, List.cons_append, Option.toList_some, Option.toList_none]
      exact ⟨h1, rfl, h2⟩
    | 3, hk, hs, hcl, hne, c, hr =>
      repeat (first | refine es rfl rfl rfl ?_ | refine eg rfl (by assumption) rfl ?_ | refine ean rfl (by assumption) (by assumption) rfl ?_ | refine eal rfl (by assumption) (by assumption) rfl ?_ | refine eri rfl ?_ | refine erv rfl ?_ | refine erl rfl ?_ | refine era rfl ?_ | refine erz0 rfl ?_ | refine erz1 rfl ?_)
      try dsimp only [set1, set2, kilP, List.set_cons_zero, List.set_cons_succ, List.getElem?_cons_zero, List.getElem?_cons_succ, List.nil_append, List.cons_append, Option.toList_some, Option.toList_none]
      by_cases hd : 0 < T.dr
      rotate_left
      · rw [if_neg hd] at hx
        subst hx
        rw [if_neg (fun h => absurd h.1 (by omega)), if_pos ⟨by omega, by omega⟩] at hr
        repeat (first | refine es rfl rfl rfl ?_ | refine eg rfl (by assumption) rfl ?_ | refine ean rfl (by assumption) (by assumption) rfl ?_ | refine eal rfl (by assumption) (by assumption) rfl ?_ | refine eri rfl ?_ | refine erv rfl ?_ | refine erl rfl ?_ | refine era rfl ?_ | refine erz0 rfl ?_ | refine erz1 rfl ?_)
        try dsimp only [set1, set2, kilP, List.set_cons_zero, List.set_cons_succ, List.getElem?_cons_zero, List.getElem?_cons_succ, List.nil_append, List.cons_append, Option.toList_some, Option.toList_none]
        refine ecv rfl rfl (by assumption) rfl rfl rfl (e5_fail hq.1) (by first | rfl | exact Nat.blt_eq.mpr (by omega)) ?_
        rintro v M2 ⟨rfl, hb2, hF2⟩
        try dsimp only [set1, set2, kilP, List.set_cons_zero, List.set_cons_succ, List.getElem?_cons_zero, List.getElem?_cons_succ, List.nil_append, List.cons_append, Option.toList_some, Option.toList_none]
        repeat (first | refine es rfl rfl rfl ?_ | refine eg rfl (by assumption) rfl ?_ | refine ean rfl (by assumption) (by assumption) rfl ?_ | refine eal rfl (by assumption) (by assumption) rfl ?_ | refine eri rfl ?_ | refine erv rfl ?_ | refine erl rfl ?_ | refine era rfl ?_ | refine erz0 rfl ?_ | refine erz1 rfl ?_)
        try dsimp only [set1, set2, kilP, List.set_cons_zero, List.set_cons_succ, List.getElem?_cons_zero, List.getElem?_cons_succ, List.nil_append, List.cons_append, Option.toList_some, Option.toList_none]
        subst hr
        exact ⟨hG.w hF2, rfl, ⟨_, hb2, rfl, congrArg nI hst, hq.2.2.2.1⟩, _, hT.fr hF2 (by unfold okTb at htb; omega)⟩
      rw [if_pos hd] at hx
      subst hx
      rw [if_neg (fun h => absurd h.1 (by omega)), if_neg (fun h => absurd h.2 (by omega))] at hr
      repeat (first | refine es rfl rfl rfl ?_ | refine eg rfl (by assumption) rfl ?_ | refine ean rfl (by assumption) (by assumption) rfl ?_ | refine eal rfl (by assumption) (by assumption) rfl ?_ | refine eri rfl ?_ | refine erv rfl ?_ | refine erl rfl ?_ | refine era rfl ?_ | refine erz0 rfl ?_ | refine erz1 rfl ?_)
      try dsimp only [set1, set2, kilP, List.set_cons_zero, List.set_cons_succ, List.getElem?_cons_zero, List.getElem?_cons_succ, List.nil_append, List.cons_append, Option.toList_some, Option.toList_none]
      refine ecr rfl rfl (by assumption) rfl rfl rfl (e5_full hq.1 hT hw 3 (by omega)) (by first | rfl | exact Nat.blt_eq.mpr (by omega)) rfl ?_
      by_cases hf : fulP T 3
      · rw [if_pos hf] at hr
        rw [show bI (fulP T 3) = 1 from if_pos hf]
        repeat (first | refine es rfl rfl rfl ?_ | refine eg rfl (by assumption) rfl ?_ | refine ean rfl (by assumption) (by assumption) rfl ?_ | refine eal rfl (by assumption) (by assumption) rfl ?_ | refine eri rfl ?_ | refine erv rfl ?_ | refine erl rfl ?_ | refine era rfl ?_ | refine erz0 rfl ?_ | refine erz1 rfl ?_)
        try dsimp only [set1, set2, kilP, List.set_cons_zero, List.set_cons_succ, List.getElem?_cons_zero, List.getElem?_cons_succ, List.nil_append, List.cons_append, Option.toList_some, Option.toList_none]
        refine ecv rfl rfl (by assumption) rfl rfl rfl (e5_fail hq.1) (by first | rfl | exact Nat.blt_eq.mpr (by omega)) ?_
        rintro v M2 ⟨rfl, hb2, hF2⟩
        try dsimp only [set1, set2, kilP, List.set_cons_zero, List.set_cons_succ, List.getElem?_cons_zero, List.getElem?_cons_succ, List.nil_append, List.cons_append, Option.toList_some, Option.toList_none]
        repeat (first | refine es rfl rfl rfl ?_ | refine eg rfl (by assumption) rfl ?_ | refine ean rfl (by assumption) (by assumption) rfl ?_ | refine eal rfl (by assumption) (by assumption) rfl ?_ | refine eri rfl ?_ | refine erv rfl ?_ | refine erl rfl ?_ | refine era rfl ?_ | refine erz0 rfl ?_ | refine erz1 rfl ?_)
        try dsimp only [set1, set2, kilP, List.set_cons_zero, List.set_cons_succ, List.getElem?_cons_zero, List.getElem?_cons_succ, List.nil_append, List.cons_append, Option.toList_some, Option.toList_none]
        subst hr
        exact ⟨hG.w hF2, rfl, ⟨_, hb2, rfl, congrArg nI hst, hq.2.2.2.1⟩, _, hT.fr hF2 (by unfold okTb at htb; omega)⟩
      rw [if_neg hf] at hr
      rw [show bI (fulP T 3) = 0 from if_neg hf]
      unfold fulP at hf
      repeat (first | refine es rfl rfl rfl ?_ | refine eg rfl (by assumption) rfl ?_ | refine ean rfl (by assumption) (by assumption) rfl ?_ | refine eal rfl (by assumption) (by assumption) rfl ?_ | refine eri rfl ?_ | refine erv rfl ?_ | refine erl rfl ?_ | refine era rfl ?_ | refine erz0 rfl ?_ | refine erz1 rfl ?_)
      try dsimp only [set1, set2, kilP, List.set_cons_zero, List.set_cons_succ, List.getElem?_cons_zero, List.getElem?_cons_succ, List.nil_append, List.cons_append, Option.toList_some, Option.toList_none]
      subst hr
      refine ecv rfl rfl (by assumption) rfl rfl rfl (e5_lnOpen hq hT hS hlo htb hn7 ) (by first | rfl | exact Nat.blt_eq.mpr (by omega)) ?_
      rintro v M2 hm
      have hm := hm.tr hG
      try dsimp only [set1, set2, kilP, List.set_cons_zero, List.set_cons_succ, List.getElem?_cons_zero, List.getElem?_cons_succ, List.nil_append, List.cons_append, Option.toList_some, Option.toList_none]
      rcases hp2 : lnOpen tp sc z.2.2.2 T a1 with e | x
      · rw [show lnOf tp sc z.2.2.2 T a1 3 = lnOpen tp sc z.2.2.2 T a1 from rfl]
        rw [hp2] at hm ⊢
        obtain ⟨h1, rfl, h2⟩ := hm
        repeat (first | refine es rfl rfl rfl ?_ | refine eg rfl (by assumption) rfl ?_ | refine ean rfl (by assumption) (by assumption) rfl ?_ | refine eal rfl (by assumption) (by assumption) rfl ?_ | refine eri rfl ?_ | refine erv rfl ?_ | refine erl rfl ?_ | refine era rfl ?_ | refine erz0 rfl ?_ | refine erz1 rfl ?_)
        try dsimp only [set1, set2, kilP, List.set_cons_zero, List.set_cons_succ, List.getElem?_cons_zero, List.getElem?_cons_succ, List.nil_append, List.cons_append, Option.toList_some, Option.toList_none]
        exact ⟨h1, rfl, h2⟩
      rw [show lnOf tp sc z.2.2.2 T a1 3 = lnOpen tp sc z.2.2.2 T a1 from rfl]
      rw [hp2] at hm ⊢
      obtain ⟨h1, rfl, h2⟩ := hm
      repeat (first | refine es rfl rfl rfl ?_ | refine eg rfl (by assumption) rfl ?_ | refine ean rfl (by assumption) (by assumption) rfl ?_ | refine eal rfl (by assumption) (by assumption) rfl ?_ | refine eri rfl ?_ | refine erv rfl ?_ | refine erl rfl ?_ | refine era rfl ?_ | refine erz0 rfl ?_ | refine erz1 rfl ?_)
      try dsimp only [set1, set2, kilP, List.set_cons_zero, List.set_cons_succ, List.getElem?_cons_zero, List.getElem?_cons_succ, List.nil_append, List.cons_append, Option.toList_some, Option.toList_none]
      exact ⟨h1, rfl, h2⟩
    | 4, hk, hs, hcl, hne, c, hr =>
      repeat (first | refine es rfl rfl rfl ?_ | refine eg rfl (by assumption) rfl ?_ | refine ean rfl (by assumption) (by assumption) rfl ?_ | refine eal rfl (by assumption) (by assumption) rfl ?_ | refine eri rfl ?_ | refine erv rfl ?_ | refine erl rfl ?_ | refine era rfl ?_ | refine erz0 rfl ?_ | refine erz1 rfl ?_)
      try dsimp only [set1, set2, kilP, List.set_cons_zero, List.set_cons_succ, List.getElem?_cons_zero, List.getElem?_cons_succ, List.nil_append, List.cons_append, Option.toList_some, Option.toList_none]
      by_cases hd : 0 < T.dr
      rotate_left
      · rw [if_neg hd] at hx
        subst hx
        rw [if_neg (fun h => absurd h.1 (by omega)), if_pos ⟨by omega, by omega⟩] at hr
        repeat (first | refine es rfl rfl rfl ?_ | refine eg rfl (by assumption) rfl ?_ | refine ean rfl (by assumption) (by assumption) rfl ?_ | refine eal rfl (by assumption) (by assumption) rfl ?_ | refine eri rfl ?_ | refine erv rfl ?_ | refine erl rfl ?_ | refine era rfl ?_ | refine erz0 rfl ?_ | refine erz1 rfl ?_)
        try dsimp only [set1, set2, kilP, List.set_cons_zero, List.set_cons_succ, List.getElem?_cons_zero, List.getElem?_cons_succ, List.nil_append, List.cons_append, Option.toList_some, Option.toList_none]
        refine ecv rfl rfl (by assumption) rfl rfl rfl (e5_fail hq.1) (by first | rfl | exact Nat.blt_eq.mpr (by omega)) ?_
        rintro v M2 ⟨rfl, hb2, hF2⟩
        try dsimp only [set1, set2, kilP, List.set_cons_zero, List.set_cons_succ, List.getElem?_cons_zero, List.getElem?_cons_succ, List.nil_append, List.cons_append, Option.toList_some, Option.toList_none]
        repeat (first | refine es rfl rfl rfl ?_ | refine eg rfl (by assumption) rfl ?_ | refine ean rfl (by assumption) (by assumption) rfl ?_ | refine eal rfl (by assumption) (by assumption) rfl ?_ | refine eri rfl ?_ | refine erv rfl ?_ | refine erl rfl ?_ | refine era rfl ?_ | refine erz0 rfl ?_ | refine erz1 rfl ?_)
        try dsimp only [set1, set2, kilP, List.set_cons_zero, List.set_cons_succ, List.getElem?_cons_zero, List.getElem?_cons_succ, List.nil_append, List.cons_append, Option.toList_some, Option.toList_none]
        subst hr
        exact ⟨hG.w hF2, rfl, ⟨_, hb2, rfl, congrArg nI hst, hq.2.2.2.1⟩, _, hT.fr hF2 (by unfold okTb at htb; omega)⟩
      rw [if_pos hd] at hx
      subst hx
      rw [if_neg (fun h => absurd h.1 (by omega)), if_neg (fun h => absurd h.2 (by omega))] at hr
      repeat (first | refine es rfl rfl rfl ?_ | refine eg rfl (by assumption) rfl ?_ | refine ean rfl (by assumption) (by assumption) rfl ?_ | refine eal rfl (by assumption) (by assumption) rfl ?_ | refine eri rfl ?_ | refine erv rfl ?_ | refine erl rfl ?_ | refine era rfl ?_ | refine erz0 rfl ?_ | refine erz1 rfl ?_)
      try dsimp only [set1, set2, kilP, List.set_cons_zero, List.set_cons_succ, List.getElem?_cons_zero, List.getElem?_cons_succ, List.nil_append, List.cons_append, Option.toList_some, Option.toList_none]
      refine ecr rfl rfl (by assumption) rfl rfl rfl (e5_full hq.1 hT hw 4 (by omega)) (by first | rfl | exact Nat.blt_eq.mpr (by omega)) rfl ?_
      by_cases hf : fulP T 4
      · rw [if_pos hf] at hr
        rw [show bI (fulP T 4) = 1 from if_pos hf]
        repeat (first | refine es rfl rfl rfl ?_ | refine eg rfl (by assumption) rfl ?_ | refine ean rfl (by assumption) (by assumption) rfl ?_ | refine eal rfl (by assumption) (by assumption) rfl ?_ | refine eri rfl ?_ | refine erv rfl ?_ | refine erl rfl ?_ | refine era rfl ?_ | refine erz0 rfl ?_ | refine erz1 rfl ?_)
        try dsimp only [set1, set2, kilP, List.set_cons_zero, List.set_cons_succ, List.getElem?_cons_zero, List.getElem?_cons_succ, List.nil_append, List.cons_append, Option.toList_some, Option.toList_none]
        refine ecv rfl rfl (by assumption) rfl rfl rfl (e5_fail hq.1) (by first | rfl | exact Nat.blt_eq.mpr (by omega)) ?_
        rintro v M2 ⟨rfl, hb2, hF2⟩
        try dsimp only [set1, set2, kilP, List.set_cons_zero, List.set_cons_succ, List.getElem?_cons_zero, List.getElem?_cons_succ, List.nil_append, List.cons_append, Option.toList_some, Option.toList_none]
        repeat (first | refine es rfl rfl rfl ?_ | refine eg rfl (by assumption) rfl ?_ | refine ean rfl (by assumption) (by assumption) rfl ?_ | refine eal rfl (by assumption) (by assumption) rfl ?_ | refine eri rfl ?_ | refine erv rfl ?_ | refine erl rfl ?_ | refine era rfl ?_ | refine erz0 rfl ?_ | refine erz1 rfl ?_)
        try dsimp only [set1, set2, kilP, List.set_cons_zero, List.set_cons_succ, List.getElem?_cons_zero, List.getElem?_cons_succ, List.nil_append, List.cons_append, Option.toList_some, Option.toList_none]
        subst hr
        exact ⟨hG.w hF2, rfl, ⟨_, hb2, rfl, congrArg nI hst, hq.2.2.2.1⟩, _, hT.fr hF2 (by unfold okTb at htb; omega)⟩
      rw [if_neg hf] at hr
      rw [show bI (fulP T 4) = 0 from if_neg hf]
      unfold fulP at hf
      repeat (first | refine es rfl rfl rfl ?_ | refine eg rfl (by assumption) rfl ?_ | refine ean rfl (by assumption) (by assumption) rfl ?_ | refine eal rfl (by assumption) (by assumption) rfl ?_ | refine eri rfl ?_ | refine erv rfl ?_ | refine erl rfl ?_ | refine era rfl ?_ | refine erz0 rfl ?_ | refine erz1 rfl ?_)
      try dsimp only [set1, set2, kilP, List.set_cons_zero, List.set_cons_succ, List.getElem?_cons_zero, List.getElem?_cons_succ, List.nil_append, List.cons_append, Option.toList_some, Option.toList_none]
      subst hr
      refine ecv rfl rfl (by assumption) rfl rfl rfl (e5_lnStreet hq hT hS hlo htb hn7 ) (by first | rfl | exact Nat.blt_eq.mpr (by omega)) ?_
      rintro v M2 hm
      have hm := hm.tr hG
      try dsimp only [set1, set2, kilP, List.set_cons_zero, List.set_cons_succ, List.getElem?_cons_zero, List.getElem?_cons_succ, List.nil_append, List.cons_append, Option.toList_some, Option.toList_none]
      rcases hp2 : lnStreet tp sc z.2.2.2 T a1 with e | x
      · rw [show lnOf tp sc z.2.2.2 T a1 4 = lnStreet tp sc z.2.2.2 T a1 from rfl]
        rw [hp2] at hm ⊢
        obtain ⟨h1, rfl, h2⟩ := hm
        repeat (first | refine es rfl rfl rfl ?_ | refine eg rfl (by assumption) rfl ?_ | refine ean rfl (by assumption) (by assumption) rfl ?_ | refine eal rfl (by assumption) (by assumption) rfl ?_ | refine eri rfl ?_ | refine erv rfl ?_ | refine erl rfl ?_ | refine era rfl ?_ | refine erz0 rfl ?_ | refine erz1 rfl ?_)
        try dsimp only [set1, set2, kilP, List.set_cons_zero, List.set_cons_succ, List.getElem?_cons_zero, List.getElem?_cons_succ, List.nil_append, List.cons_append, Option.toList_some, Option.toList_none]
        exact ⟨h1, rfl, h2⟩
      rw [show lnOf tp sc z.2.2.2 T a1 4 = lnStreet tp sc z.2.2.2 T a1 from rfl]
      rw [hp2] at hm ⊢
      obtain ⟨h1, rfl, h2⟩ := hm
      repeat (first | refine es rfl rfl rfl ?_ | refine eg rfl (by assumption) rfl ?_ | refine ean rfl (by assumption) (by assumption) rfl ?_ | refine eal rfl (by assumption) (by assumption) rfl ?_ | refine eri rfl ?_ | refine erv rfl ?_ | refine erl rfl ?_ | refine era rfl ?_ | refine erz0 rfl ?_ | refine erz1 rfl ?_)
      try dsimp only [set1, set2, kilP, List.set_cons_zero, List.set_cons_succ, List.getElem?_cons_zero, List.getElem?_cons_succ, List.nil_append, List.cons_append, Option.toList_some, Option.toList_none]
      exact ⟨h1, rfl, h2⟩
    | 5, hk, hs, hcl, hne, c, hr =>
      repeat (first | refine es rfl rfl rfl ?_ | refine eg rfl (by assumption) rfl ?_ | refine ean rfl (by assumption) (by assumption) rfl ?_ | refine eal rfl (by assumption) (by assumption) rfl ?_ | refine eri rfl ?_ | refine erv rfl ?_ | refine erl rfl ?_ | refine era rfl ?_ | refine erz0 rfl ?_ | refine erz1 rfl ?_)
      try dsimp only [set1, set2, kilP, List.set_cons_zero, List.set_cons_succ, List.getElem?_cons_zero, List.getElem?_cons_succ, List.nil_append, List.cons_append, Option.toList_some, Option.toList_none]
      by_cases hd : 0 < T.dr
      rotate_left
      · rw [if_neg hd] at hx
        subst hx
        rw [if_neg (fun h => absurd h.1 (by omega)), if_pos ⟨by omega, by omega⟩] at hr
        repeat (first | refine es rfl rfl rfl ?_ | refine eg rfl (by assumption) rfl ?_ | refine ean rfl (by assumption) (by assumption) rfl ?_ | refine eal rfl (by assumption) (by assumption) rfl ?_ | refine eri rfl ?_ | refine erv rfl ?_ | refine erl rfl ?_ | refine era rfl ?_ | refine erz0 rfl ?_ | refine erz1 rfl ?_)
        try dsimp only [set1, set2, kilP, List.set_cons_zero, List.set_cons_succ, List.getElem?_cons_zero, List.getElem?_cons_succ, List.nil_append, List.cons_append, Option.toList_some, Option.toList_none]
        refine ecv rfl rfl (by assumption) rfl rfl rfl (e5_fail hq.1) (by first | rfl | exact Nat.blt_eq.mpr (by omega)) ?_
        rintro v M2 ⟨rfl, hb2, hF2⟩
        try dsimp only [set1, set2, kilP, List.set_cons_zero, List.set_cons_succ, List.getElem?_cons_zero, List.getElem?_cons_succ, List.nil_append, List.cons_append, Option.toList_some, Option.toList_none]
        repeat (first | refine es rfl rfl rfl ?_ | refine eg rfl (by assumption) rfl ?_ | refine ean rfl (by assumption) (by assumption) rfl ?_ | refine eal rfl (by assumption) (by assumption) rfl ?_ | refine eri rfl ?_ | refine erv rfl ?_ | refine erl rfl ?_ | refine era rfl ?_ | refine erz0 rfl ?_ | refine erz1 rfl ?_)
        try dsimp only [set1, set2, kilP, List.set_cons_zero, List.set_cons_succ, List.getElem?_cons_zero, List.getElem?_cons_succ, List.nil_append, List.cons_append, Option.toList_some, Option.toList_none]
        subst hr
        exact ⟨hG.w hF2, rfl, ⟨_, hb2, rfl, congrArg nI hst, hq.2.2.2.1⟩, _, hT.fr hF2 (by unfold okTb at htb; omega)⟩
      rw [if_pos hd] at hx
      subst hx
      rw [if_neg (fun h => absurd h.1 (by omega)), if_neg (fun h => absurd h.2 (by omega))] at hr
      repeat (first | refine es rfl rfl rfl ?_ | refine eg rfl (by assumption) rfl ?_ | refine ean rfl (by assumption) (by assumption) rfl ?_ | refine eal rfl (by assumption) (by assumption) rfl ?_ | refine eri rfl ?_ | refine erv rfl ?_ | refine erl rfl ?_ | refine era rfl ?_ | refine erz0 rfl ?_ | refine erz1 rfl ?_)
      try dsimp only [set1, set2, kilP, List.set_cons_zero, List.set_cons_succ, List.getElem?_cons_zero, List.getElem?_cons_succ, List.nil_append, List.cons_append, Option.toList_some, Option.toList_none]
      refine ecr rfl rfl (by assumption) rfl rfl rfl (e5_full hq.1 hT hw 5 (by omega)) (by first | rfl | exact Nat.blt_eq.mpr (by omega)) rfl ?_
      by_cases hf : fulP T 5
      · rw [if_pos hf] at hr
        rw [show bI (fulP T 5) = 1 from if_pos hf]
        repeat (first | refine es rfl rfl rfl ?_ | refine eg rfl (by assumption) rfl ?_ | refine ean rfl (by assumption) (by assumption) rfl ?_ | refine eal rfl (by assumption) (by assumption) rfl ?_ | refine eri rfl ?_ | refine erv rfl ?_ | refine erl rfl ?_ | refine era rfl ?_ | refine erz0 rfl ?_ | refine erz1 rfl ?_)
        try dsimp only [set1, set2, kilP, List.set_cons_zero, List.set_cons_succ, List.getElem?_cons_zero, List.getElem?_cons_succ, List.nil_append, List.cons_append, Option.toList_some, Option.toList_none]
        refine ecv rfl rfl (by assumption) rfl rfl rfl (e5_fail hq.1) (by first | rfl | exact Nat.blt_eq.mpr (by omega)) ?_
        rintro v M2 ⟨rfl, hb2, hF2⟩
        try dsimp only [set1, set2, kilP, List.set_cons_zero, List.set_cons_succ, List.getElem?_cons_zero, List.getElem?_cons_succ, List.nil_append, List.cons_append, Option.toList_some, Option.toList_none]
        repeat (first | refine es rfl rfl rfl ?_ | refine eg rfl (by assumption) rfl ?_ | refine ean rfl (by assumption) (by assumption) rfl ?_ | refine eal rfl (by assumption) (by assumption) rfl ?_ | refine eri rfl ?_ | refine erv rfl ?_ | refine erl rfl ?_ | refine era rfl ?_ | refine erz0 rfl ?_ | refine erz1 rfl ?_)
        try dsimp only [set1, set2, kilP, List.set_cons_zero, List.set_cons_succ, List.getElem?_cons_zero, List.getElem?_cons_succ, List.nil_append, List.cons_append, Option.toList_some, Option.toList_none]
        subst hr
        exact ⟨hG.w hF2, rfl, ⟨_, hb2, rfl, congrArg nI hst, hq.2.2.2.1⟩, _, hT.fr hF2 (by unfold okTb at htb; omega)⟩
      rw [if_neg hf] at hr
      rw [show bI (fulP T 5) = 0 from if_neg hf]
      unfold fulP at hf
      repeat (first | refine es rfl rfl rfl ?_ | refine eg rfl (by assumption) rfl ?_ | refine ean rfl (by assumption) (by assumption) rfl ?_ | refine eal rfl (by assumption) (by assumption) rfl ?_ | refine eri rfl ?_ | refine erv rfl ?_ | refine erl rfl ?_ | refine era rfl ?_ | refine erz0 rfl ?_ | refine erz1 rfl ?_)
      try dsimp only [set1, set2, kilP, List.set_cons_zero, List.set_cons_succ, List.getElem?_cons_zero, List.getElem?_cons_succ, List.nil_append, List.cons_append, Option.toList_some, Option.toList_none]
      subst hr
      refine ecv rfl rfl (by assumption) rfl rfl rfl (e5_lnPerson hq hT hS hlo htb hn7 (by omega) (by omega)) (by first | rfl | exact Nat.blt_eq.mpr (by omega)) ?_
      rintro v M2 hm
      have hm := hm.tr hG
      try dsimp only [set1, set2, kilP, List.set_cons_zero, List.set_cons_succ, List.getElem?_cons_zero, List.getElem?_cons_succ, List.nil_append, List.cons_append, Option.toList_some, Option.toList_none]
      rcases hp2 : lnPerson tp sc z.2.2.2 T a1 with e | x
      · rw [show lnOf tp sc z.2.2.2 T a1 5 = lnPerson tp sc z.2.2.2 T a1 from rfl]
        rw [hp2] at hm ⊢
        obtain ⟨h1, rfl, h2⟩ := hm
        repeat (first | refine es rfl rfl rfl ?_ | refine eg rfl (by assumption) rfl ?_ | refine ean rfl (by assumption) (by assumption) rfl ?_ | refine eal rfl (by assumption) (by assumption) rfl ?_ | refine eri rfl ?_ | refine erv rfl ?_ | refine erl rfl ?_ | refine era rfl ?_ | refine erz0 rfl ?_ | refine erz1 rfl ?_)
        try dsimp only [set1, set2, kilP, List.set_cons_zero, List.set_cons_succ, List.getElem?_cons_zero, List.getElem?_cons_succ, List.nil_append, List.cons_append, Option.toList_some, Option.toList_none]
        exact ⟨h1, rfl, h2⟩
      rw [show lnOf tp sc z.2.2.2 T a1 5 = lnPerson tp sc z.2.2.2 T a1 from rfl]
      rw [hp2] at hm ⊢
      obtain ⟨h1, rfl, h2⟩ := hm
      repeat (first | refine es rfl rfl rfl ?_ | refine eg rfl (by assumption) rfl ?_ | refine ean rfl (by assumption) (by assumption) rfl ?_ | refine eal rfl (by assumption) (by assumption) rfl ?_ | refine eri rfl ?_ | refine erv rfl ?_ | refine erl rfl ?_ | refine era rfl ?_ | refine erz0 rfl ?_ | refine erz1 rfl ?_)
      try dsimp only [set1, set2, kilP, List.set_cons_zero, List.set_cons_succ, List.getElem?_cons_zero, List.getElem?_cons_succ, List.nil_append, List.cons_append, Option.toList_some, Option.toList_none]
      exact ⟨h1, rfl, h2⟩
    | 6, hk, hs, hcl, hne, c, hr =>
      repeat (first | refine es rfl rfl rfl ?_ | refine eg rfl (by assumption) rfl ?_ | refine ean rfl (by assumption) (by assumption) rfl ?_ | refine eal rfl (by assumption) (by assumption) rfl ?_ | refine eri rfl ?_ | refine erv rfl ?_ | refine erl rfl ?_ | refine era rfl ?_ | refine erz0 rfl ?_ | refine erz1 rfl ?_)
      try dsimp only [set1, set2, kilP, List.set_cons_zero, List.set_cons_succ, List.getElem?_cons_zero, List.getElem?_cons_succ, List.nil_append, List.cons_append, Option.toList_some, Option.toList_none]
      by_cases hd : 0 < T.dr
      rotate_left
      · rw [if_neg hd] at hx
        subst hx
        rw [if_neg (fun h => absurd h.1 (by omega)), if_pos ⟨by omega, by omega⟩] at hr
        repeat (first | refine es rfl rfl rfl ?_ | refine eg rfl (by assumption) rfl ?_ | refine ean rfl (by assumption) (by assumption) rfl ?_ | refine eal rfl (by assumption) (by assumption) rfl ?_ | refine eri rfl ?_ | refine erv rfl ?_ | refine erl rfl ?_ | refine era rfl ?_ | refine erz0 rfl ?_ | refine erz1 rfl ?_)
        try dsimp only [set1, set2, kilP, List.set_cons_zero, List.set_cons_succ, List.getElem?_cons_zero, List.getElem?_cons_succ, List.nil_append, List.cons_append, Option.toList_some, Option.toList_none]
        refine ecv rfl rfl (by assumption) rfl rfl rfl (e5_fail hq.1) (by first | rfl | exact Nat.blt_eq.mpr (by omega)) ?_
        rintro v M2 ⟨rfl, hb2, hF2⟩
        try dsimp only [set1, set2, kilP, List.set_cons_zero, List.set_cons_succ, List.getElem?_cons_zero, List.getElem?_cons_succ, List.nil_append, List.cons_append, Option.toList_some, Option.toList_none]
        repeat (first | refine es rfl rfl rfl ?_ | refine eg rfl (by assumption) rfl ?_ | refine ean rfl (by assumption) (by assumption) rfl ?_ | refine eal rfl (by assumption) (by assumption) rfl ?_ | refine eri rfl ?_ | refine erv rfl ?_ | refine erl rfl ?_ | refine era rfl ?_ | refine erz0 rfl ?_ | refine erz1 rfl ?_)
        try dsimp only [set1, set2, kilP, List.set_cons_zero, List.set_cons_succ, List.getElem?_cons_zero, List.getElem?_cons_succ, List.nil_append, List.cons_append, Option.toList_some, Option.toList_none]
        subst hr
        exact ⟨hG.w hF2, rfl, ⟨_, hb2, rfl, congrArg nI hst, hq.2.2.2.1⟩, _, hT.fr hF2 (by unfold okTb at htb; omega)⟩
      rw [if_pos hd] at hx
      subst hx
      rw [if_neg (fun h => absurd h.1 (by omega)), if_neg (fun h => absurd h.2 (by omega))] at hr
      repeat (first | refine es rfl rfl rfl ?_ | refine eg rfl (by assumption) rfl ?_ | refine ean rfl (by assumption) (by assumption) rfl ?_ | refine eal rfl (by assumption) (by assumption) rfl ?_ | refine eri rfl ?_ | refine erv rfl ?_ | refine erl rfl ?_ | refine era rfl ?_ | refine erz0 rfl ?_ | refine erz1 rfl ?_)
      try dsimp only [set1, set2, kilP, List.set_cons_zero, List.set_cons_succ, List.getElem?_cons_zero, List.getElem?_cons_succ, List.nil_append, List.cons_append, Option.toList_some, Option.toList_none]
      refine ecr rfl rfl (by assumption) rfl rfl rfl (e5_full hq.1 hT hw 6 (by omega)) (by first | rfl | exact Nat.blt_eq.mpr (by omega)) rfl ?_
      by_cases hf : fulP T 6
      · rw [if_pos hf] at hr
        rw [show bI (fulP T 6) = 1 from if_pos hf]
        repeat (first | refine es rfl rfl rfl ?_ | refine eg rfl (by assumption) rfl ?_ | refine ean rfl (by assumption) (by assumption) rfl ?_ | refine eal rfl (by assumption) (by assumption) rfl ?_ | refine eri rfl ?_ | refine erv rfl ?_ | refine erl rfl ?_ | refine era rfl ?_ | refine erz0 rfl ?_ | refine erz1 rfl ?_)
        try dsimp only [set1, set2, kilP, List.set_cons_zero, List.set_cons_succ, List.getElem?_cons_zero, List.getElem?_cons_succ, List.nil_append, List.cons_append, Option.toList_some, Option.toList_none]
        refine ecv rfl rfl (by assumption) rfl rfl rfl (e5_fail hq.1) (by first | rfl | exact Nat.blt_eq.mpr (by omega)) ?_
        rintro v M2 ⟨rfl, hb2, hF2⟩
        try dsimp only [set1, set2, kilP, List.set_cons_zero, List.set_cons_succ, List.getElem?_cons_zero, List.getElem?_cons_succ, List.nil_append, List.cons_append, Option.toList_some, Option.toList_none]
        repeat (first | refine es rfl rfl rfl ?_ | refine eg rfl (by assumption) rfl ?_ | refine ean rfl (by assumption) (by assumption) rfl ?_ | refine eal rfl (by assumption) (by assumption) rfl ?_ | refine eri rfl ?_ | refine erv rfl ?_ | refine erl rfl ?_ | refine era rfl ?_ | refine erz0 rfl ?_ | refine erz1 rfl ?_)
        try dsimp only [set1, set2, kilP, List.set_cons_zero, List.set_cons_succ, List.getElem?_cons_zero, List.getElem?_cons_succ, List.nil_append, List.cons_append, Option.toList_some, Option.toList_none]
        subst hr
        exact ⟨hG.w hF2, rfl, ⟨_, hb2, rfl, congrArg nI hst, hq.2.2.2.1⟩, _, hT.fr hF2 (by unfold okTb at htb; omega)⟩
      rw [if_neg hf] at hr
      rw [show bI (fulP T 6) = 0 from if_neg hf]
      unfold fulP at hf
      repeat (first | refine es rfl rfl rfl ?_ | refine eg rfl (by assumption) rfl ?_ | refine ean rfl (by assumption) (by assumption) rfl ?_ | refine eal rfl (by assumption) (by assumption) rfl ?_ | refine eri rfl ?_ | refine erv rfl ?_ | refine erl rfl ?_ | refine era rfl ?_ | refine erz0 rfl ?_ | refine erz1 rfl ?_)
      try dsimp only [set1, set2, kilP, List.set_cons_zero, List.set_cons_succ, List.getElem?_cons_zero, List.getElem?_cons_succ, List.nil_append, List.cons_append, Option.toList_some, Option.toList_none]
      subst hr
      refine ecv rfl rfl (by assumption) rfl rfl rfl (e5_lnSign hq hT hS hlo htb hn7 (by omega)) (by first | rfl | exact Nat.blt_eq.mpr (by omega)) ?_
      rintro v M2 hm
      have hm := hm.tr hG
      try dsimp only [set1, set2, kilP, List.set_cons_zero, List.set_cons_succ, List.getElem?_cons_zero, List.getElem?_cons_succ, List.nil_append, List.cons_append, Option.toList_some, Option.toList_none]
      rcases hp2 : lnSign tp sc z.2.2.2 T a1 with e | x
      · rw [show lnOf tp sc z.2.2.2 T a1 6 = lnSign tp sc z.2.2.2 T a1 from rfl]
        rw [hp2] at hm ⊢
        obtain ⟨h1, rfl, h2⟩ := hm
        repeat (first | refine es rfl rfl rfl ?_ | refine eg rfl (by assumption) rfl ?_ | refine ean rfl (by assumption) (by assumption) rfl ?_ | refine eal rfl (by assumption) (by assumption) rfl ?_ | refine eri rfl ?_ | refine erv rfl ?_ | refine erl rfl ?_ | refine era rfl ?_ | refine erz0 rfl ?_ | refine erz1 rfl ?_)
        try dsimp only [set1, set2, kilP, List.set_cons_zero, List.set_cons_succ, List.getElem?_cons_zero, List.getElem?_cons_succ, List.nil_append, List.cons_append, Option.toList_some, Option.toList_none]
        exact ⟨h1, rfl, h2⟩
      rw [show lnOf tp sc z.2.2.2 T a1 6 = lnSign tp sc z.2.2.2 T a1 from rfl]
      rw [hp2] at hm ⊢
      obtain ⟨h1, rfl, h2⟩ := hm
      repeat (first | refine es rfl rfl rfl ?_ | refine eg rfl (by assumption) rfl ?_ | refine ean rfl (by assumption) (by assumption) rfl ?_ | refine eal rfl (by assumption) (by assumption) rfl ?_ | refine eri rfl ?_ | refine erv rfl ?_ | refine erl rfl ?_ | refine era rfl ?_ | refine erz0 rfl ?_ | refine erz1 rfl ?_)
      try dsimp only [set1, set2, kilP, List.set_cons_zero, List.set_cons_succ, List.getElem?_cons_zero, List.getElem?_cons_succ, List.nil_append, List.cons_append, Option.toList_some, Option.toList_none]
      exact ⟨h1, rfl, h2⟩
    | 7, hk, hs, hcl, hne, c, hr =>
      repeat (first | refine es rfl rfl rfl ?_ | refine eg rfl (by assumption) rfl ?_ | refine ean rfl (by assumption) (by assumption) rfl ?_ | refine eal rfl (by assumption) (by assumption) rfl ?_ | refine eri rfl ?_ | refine erv rfl ?_ | refine erl rfl ?_ | refine era rfl ?_ | refine erz0 rfl ?_ | refine erz1 rfl ?_)
      try dsimp only [set1, set2, kilP, List.set_cons_zero, List.set_cons_succ, List.getElem?_cons_zero, List.getElem?_cons_succ, List.nil_append, List.cons_append, Option.toList_some, Option.toList_none]
      by_cases hd : 0 < T.dr
      rotate_left
      · rw [if_neg hd] at hx
        subst hx
        rw [if_neg (fun h => absurd h.1 (by omega)), if_pos ⟨by omega, by omega⟩] at hr
        repeat (first | refine es rfl rfl rfl ?_ | refine eg rfl (by assumption) rfl ?_ | refine ean rfl (by assumption) (by assumption) rfl ?_ | refine eal rfl (by assumption) (by assumption) rfl ?_ | refine eri rfl ?_ | refine erv rfl ?_ | refine erl rfl ?_ | refine era rfl ?_ | refine erz0 rfl ?_ | refine erz1 rfl ?_)
        try dsimp only [set1, set2, kilP, List.set_cons_zero, List.set_cons_succ, List.getElem?_cons_zero, List.getElem?_cons_succ, List.nil_append, List.cons_append, Option.toList_some, Option.toList_none]
        refine ecv rfl rfl (by assumption) rfl rfl rfl (e5_fail hq.1) (by first | rfl | exact Nat.blt_eq.mpr (by omega)) ?_
        rintro v M2 ⟨rfl, hb2, hF2⟩
        try dsimp only [set1, set2, kilP, List.set_cons_zero, List.set_cons_succ, List.getElem?_cons_zero, List.getElem?_cons_succ, List.nil_append, List.cons_append, Option.toList_some, Option.toList_none]
        repeat (first | refine es rfl rfl rfl ?_ | refine eg rfl (by assumption) rfl ?_ | refine ean rfl (by assumption) (by assumption) rfl ?_ | refine eal rfl (by assumption) (by assumption) rfl ?_ | refine eri rfl ?_ | refine erv rfl ?_ | refine erl rfl ?_ | refine era rfl ?_ | refine erz0 rfl ?_ | refine erz1 rfl ?_)
        try dsimp only [set1, set2, kilP, List.set_cons_zero, List.set_cons_succ, List.getElem?_cons_zero, List.getElem?_cons_succ, List.nil_append, List.cons_append, Option.toList_some, Option.toList_none]
        subst hr
        exact ⟨hG.w hF2, rfl, ⟨_, hb2, rfl, congrArg nI hst, hq.2.2.2.1⟩, _, hT.fr hF2 (by unfold okTb at htb; omega)⟩
      rw [if_pos hd] at hx
      subst hx
      rw [if_neg (fun h => absurd h.1 (by omega)), if_neg (fun h => absurd h.2 (by omega))] at hr
      repeat (first | refine es rfl rfl rfl ?_ | refine eg rfl (by assumption) rfl ?_ | refine ean rfl (by assumption) (by assumption) rfl ?_ | refine eal rfl (by assumption) (by assumption) rfl ?_ | refine eri rfl ?_ | refine erv rfl ?_ | refine erl rfl ?_ | refine era rfl ?_ | refine erz0 rfl ?_ | refine erz1 rfl ?_)
      try dsimp only [set1, set2, kilP, List.set_cons_zero, List.set_cons_succ, List.getElem?_cons_zero, List.getElem?_cons_succ, List.nil_append, List.cons_append, Option.toList_some, Option.toList_none]
      refine ecr rfl rfl (by assumption) rfl rfl rfl (e5_full hq.1 hT hw 7 (by omega)) (by first | rfl | exact Nat.blt_eq.mpr (by omega)) rfl ?_
      by_cases hf : fulP T 7
      · rw [if_pos hf] at hr
        rw [show bI (fulP T 7) = 1 from if_pos hf]
        repeat (first | refine es rfl rfl rfl ?_ | refine eg rfl (by assumption) rfl ?_ | refine ean rfl (by assumption) (by assumption) rfl ?_ | refine eal rfl (by assumption) (by assumption) rfl ?_ | refine eri rfl ?_ | refine erv rfl ?_ | refine erl rfl ?_ | refine era rfl ?_ | refine erz0 rfl ?_ | refine erz1 rfl ?_)
        try dsimp only [set1, set2, kilP, List.set_cons_zero, List.set_cons_succ, List.getElem?_cons_zero, List.getElem?_cons_succ, List.nil_append, List.cons_append, Option.toList_some, Option.toList_none]
        refine ecv rfl rfl (by assumption) rfl rfl rfl (e5_fail hq.1) (by first | rfl | exact Nat.blt_eq.mpr (by omega)) ?_
        rintro v M2 ⟨rfl, hb2, hF2⟩
        try dsimp only [set1, set2, kilP, List.set_cons_zero, List.set_cons_succ, List.getElem?_cons_zero, List.getElem?_cons_succ, List.nil_append, List.cons_append, Option.toList_some, Option.toList_none]
        repeat (first | refine es rfl rfl rfl ?_ | refine eg rfl (by assumption) rfl ?_ | refine ean rfl (by assumption) (by assumption) rfl ?_ | refine eal rfl (by assumption) (by assumption) rfl ?_ | refine eri rfl ?_ | refine erv rfl ?_ | refine erl rfl ?_ | refine era rfl ?_ | refine erz0 rfl ?_ | refine erz1 rfl ?_)
        try dsimp only [set1, set2, kilP, List.set_cons_zero, List.set_cons_succ, List.getElem?_cons_zero, List.getElem?_cons_succ, List.nil_append, List.cons_append, Option.toList_some, Option.toList_none]
        subst hr
        exact ⟨hG.w hF2, rfl, ⟨_, hb2, rfl, congrArg nI hst, hq.2.2.2.1⟩, _, hT.fr hF2 (by unfold okTb at htb; omega)⟩
      rw [if_neg hf] at hr
      rw [show bI (fulP T 7) = 0 from if_neg hf]
      unfold fulP at hf
      repeat (first | refine es rfl rfl rfl ?_ | refine eg rfl (by assumption) rfl ?_ | refine ean rfl (by assumption) (by assumption) rfl ?_ | refine eal rfl (by assumption) (by assumption) rfl ?_ | refine eri rfl ?_ | refine erv rfl ?_ | refine erl rfl ?_ | refine era rfl ?_ | refine erz0 rfl ?_ | refine erz1 rfl ?_)
      try dsimp only [set1, set2, kilP, List.set_cons_zero, List.set_cons_succ, List.getElem?_cons_zero, List.getElem?_cons_succ, List.nil_append, List.cons_append, Option.toList_some, Option.toList_none]
      subst hr
      refine ecv rfl rfl (by assumption) rfl rfl rfl (e5_lnNoise hq hT hS hlo htb hn7 (by omega)) (by first | rfl | exact Nat.blt_eq.mpr (by omega)) ?_
      rintro v M2 hm
      have hm := hm.tr hG
      try dsimp only [set1, set2, kilP, List.set_cons_zero, List.set_cons_succ, List.getElem?_cons_zero, List.getElem?_cons_succ, List.nil_append, List.cons_append, Option.toList_some, Option.toList_none]
      rcases hp2 : lnNoise tp sc z.2.2.2 T a1 with e | x
      · rw [show lnOf tp sc z.2.2.2 T a1 7 = lnNoise tp sc z.2.2.2 T a1 from rfl]
        rw [hp2] at hm ⊢
        obtain ⟨h1, rfl, h2⟩ := hm
        repeat (first | refine es rfl rfl rfl ?_ | refine eg rfl (by assumption) rfl ?_ | refine ean rfl (by assumption) (by assumption) rfl ?_ | refine eal rfl (by assumption) (by assumption) rfl ?_ | refine eri rfl ?_ | refine erv rfl ?_ | refine erl rfl ?_ | refine era rfl ?_ | refine erz0 rfl ?_ | refine erz1 rfl ?_)
        try dsimp only [set1, set2, kilP, List.set_cons_zero, List.set_cons_succ, List.getElem?_cons_zero, List.getElem?_cons_succ, List.nil_append, List.cons_append, Option.toList_some, Option.toList_none]
        exact ⟨h1, rfl, h2⟩
      rw [show lnOf tp sc z.2.2.2 T a1 7 = lnNoise tp sc z.2.2.2 T a1 from rfl]
      rw [hp2] at hm ⊢
      obtain ⟨h1, rfl, h2⟩ := hm
      repeat (first | refine es rfl rfl rfl ?_ | refine eg rfl (by assumption) rfl ?_ | refine ean rfl (by assumption) (by assumption) rfl ?_ | refine eal rfl (by assumption) (by assumption) rfl ?_ | refine eri rfl ?_ | refine erv rfl ?_ | refine erl rfl ?_ | refine era rfl ?_ | refine erz0 rfl ?_ | refine erz1 rfl ?_)
      try dsimp only [set1, set2, kilP, List.set_cons_zero, List.set_cons_succ, List.getElem?_cons_zero, List.getElem?_cons_succ, List.nil_append, List.cons_append, Option.toList_some, Option.toList_none]
      exact ⟨h1, rfl, h2⟩
    | n + 8, hk, hs, hcl, hne, c, hr => exact absurd hk (by omega)
  repeat (first | refine es rfl rfl rfl ?_ | refine eg rfl (by assumption) rfl ?_ | refine ean rfl (by assumption) (by assumption) rfl ?_ | refine eal rfl (by assumption) (by assumption) rfl ?_ | refine eri rfl ?_ | refine erv rfl ?_ | refine erl rfl ?_ | refine era rfl ?_ | refine erz0 rfl ?_ | refine erz1 rfl ?_)
  try dsimp only [set1, set2, kilP, List.set_cons_zero, List.set_cons_succ, List.getElem?_cons_zero, List.getElem?_cons_succ, List.nil_append, List.cons_append, Option.toList_some, Option.toList_none]
  refine ei _ rfl rfl (fun c1 => ?_) (fun c1 => ?_)
  · have hz : T.dr = 0 := Decidable.byContradiction fun h => absurd c1 (Int32.not_le.mpr (show (0 : Int32) < nI T.dr from nI_lt (a := 0) (by omega) (by omega)))
    repeat (refine ng 41 rfl ?_; first | refine es rfl rfl rfl ?_ | refine eg rfl (by assumption) rfl ?_ | refine ean rfl (by assumption) (by assumption) rfl ?_ | refine eal rfl (by assumption) (by assumption) rfl ?_ | refine eri rfl ?_ | refine erv rfl ?_ | refine erl rfl ?_ | refine era rfl ?_ | refine erz0 rfl ?_ | refine erz1 rfl ?_)
    try dsimp only [set1, set2, kilP, List.set_cons_zero, List.set_cons_succ, List.getElem?_cons_zero, List.getElem?_cons_succ, List.nil_append, List.cons_append, Option.toList_some, Option.toList_none]
    exact key 0 (by rw [if_neg (by omega)])
  · have hz : 0 < T.dr := Decidable.byContradiction fun h => c1 (show nI T.dr ≤ 0 from by rw [show T.dr = 0 by omega]; decide)
    repeat (refine ng 41 rfl ?_; first | refine es rfl rfl rfl ?_ | refine eg rfl (by assumption) rfl ?_ | refine ean rfl (by assumption) (by assumption) rfl ?_ | refine eal rfl (by assumption) (by assumption) rfl ?_ | refine eri rfl ?_ | refine erv rfl ?_ | refine erl rfl ?_ | refine era rfl ?_ | refine erz0 rfl ?_ | refine erz1 rfl ?_)
    try dsimp only [set1, set2, kilP, List.set_cons_zero, List.set_cons_succ, List.getElem?_cons_zero, List.getElem?_cons_succ, List.nil_append, List.cons_append, Option.toList_some, Option.toList_none]
    exact key 1 (by rw [if_pos hz])
/-- lines, from a kind, a place and a start on -/
def pLoop (tp : Nat → Int32) (sc : Nat → Int64) (le : Nat) : Nat → Tw → Nat → Nat → Nat → Except Er (Tw × Nat)
  | 0, T, _, _, p => .ok (T, p)
  | n + 1, T, k, a, p => if k = 0 then .ok (T, p) else if ¬ k = 3 then .error (1, p) else
    match pLn tp sc le T a with
    | .error e => .error e
    | .ok (T', a') => pLoop tp sc le n T' (tk tp le a').2.2.1 (tk tp le a').2.1 (tk tp le a').1
def pTown (tp : Nat → Int32) (sc : Nat → Int64) (le : Nat) (T : Tw) : Except Er Tw :=
  match pLoop tp sc le (le + 1) T 3 0 0 with
  | .error e => .error e
  | .ok (T', p) => if T'.hs.n < 2 then .error (6, p) else .ok (T'.1, T'.hs, (T'.ss.n, T'.ss.mi, mesF T'.ss.mi T'.ss.sh, T'.ss.ne), T'.cs)
def twP (b tb : Nat) (tp : Nat → Int32) (sc : Nat → Int64) (z : Rz) (M : Mm) (r : Except Er Tw) (v : Option Value) (M' : Mm) : Prop := Fr2 b tb M M' ∧ match r with
  | .ok T => v = some (.int 1) ∧ (∃ q', aRq M' b tb tp sc q' ∧ q'.fn = z.1 ∧ q'.fp = z.2.1 ∧ q'.ts = z.2.2.1) ∧ aTw M' tb T
  | .error e => v = some (.int 0) ∧ rE M' b tb tp sc z e ∧ ∃ T', aTw M' tb T'
