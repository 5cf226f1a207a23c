/-! The reference reads: one word ahead -/
section RTOK
variable {ad : Nat → Nat} {b : Nat} {tp : Nat → Int32} {le : Nat} {A : Ar} {oa : Int32 × Int32 × Int32} {oq : Yq} {tw rd : Value}
theorem and255 (x : Int32) : ¬ x &&& 255 = -1 := fun h => by
  have h2 := congrArg (fun y => y &&& (256 : Int32)) h
  simp only [Int32.and_assoc] at h2
  rw [show (255 : Int32) &&& 256 = 0 from rfl, Int32.and_zero] at h2
  exact absurd h2 (by decide)
def btR (tp : Nat → Int32) (le k : Nat) : Int32 := if k < le then tp k else -1
abbrev tpR (A : Ar) (tp : Nat → Int32) : Prop := ∀ j, j < 1100 → A 1 j &&& 255 = tp j
theorem btR_i {k : Nat} (h : k < le) : btR tp le k = tp k := if_pos h
theorem btR_o {k : Nat} (h : ¬ k < le) : btR tp le k = -1 := if_neg h
theorem tpR.ne {k : Nat} (hA : tpR A tp) (hl : le ≤ 1100) (h : k < le) : ¬ tp k = -1 := by
  rw [← hA k (by omega)]
  exact and255 _
theorem y_byteAt {M : Mm} {ta sp so pl nu fa wa : Int32} {wo : Int64} {k : Nat} (hy : aY M b (oa, (tw, rd), (ta, nI le, sp, so, pl, nu, fa, wa, wo), oq) A) (hA : tpR A tp) (hl : le ≤ 1100) (hk : k ≤ 1100) : Rd ad 0 (iX13_byteAt ad) [.ref b, .int (nI k)] M (some (.int (btR tp le k))) := by
  have h0 := hy.1
  have h1 := hy.c.1
  refine ⟨Nat.le_of_ble_eq_true rfl, ?_⟩
  show Ev ad _ (rX13_byteAt ad) (0, [some (.ref b), some (.int (nI k))], [], M) _
  repeat (first | refine es rfl rfl rfl ?_ | refine eg rfl (by assumption) rfl ?_ | refine eanE rfl (by assumption) (by with_reducible first | exact rfl | exact Int32.zero_add _ | exact ix8 _ | exact ix12 _ | exact ix7r _ _ | exact n7 | exact n0 | exact n1) (by assumption) rfl ?_ | refine eal rfl (by assumption) (by assumption) rfl ?_ | refine eri rfl ?_ | refine erv rfl ?_ | refine erl rfl ?_ | refine era rfl ?_ | refine erz0 rfl ?_ | refine erz1 rfl ?_)
  try dsimp only [set1, set2, kilP, List.set_cons_zero, List.set_cons_succ, List.getElem?_cons_zero, List.getElem?_cons_succ, List.nil_append, List.cons_append, Option.toList_some, Option.toList_none]
  refine ei _ rfl rfl (fun c => ?_) (fun c => ?_)
  · repeat (first | refine es rfl rfl rfl ?_ | refine eg rfl (by assumption) rfl ?_ | refine eanE rfl (by assumption) (by with_reducible first | exact rfl | exact Int32.zero_add _ | exact ix8 _ | exact ix12 _ | exact ix7r _ _ | exact n7 | exact n0 | exact n1) (by assumption) rfl ?_ | refine eal rfl (by assumption) (by assumption) rfl ?_ | refine eri rfl ?_ | refine erv rfl ?_ | refine erl rfl ?_ | refine era rfl ?_ | refine erz0 rfl ?_ | refine erz1 rfl ?_)
    try dsimp only [set1, set2, kilP, List.set_cons_zero, List.set_cons_succ, List.getElem?_cons_zero, List.getElem?_cons_succ, List.nil_append, List.cons_append, Option.toList_some, Option.toList_none]
    rw [btR_o (fun h => absurd c (nI_ge h (by omega)))]
    exact ⟨rfl, rfl⟩
  · have hk2 : k < le := Decidable.byContradiction fun h => c (nI_le (by omega) (by omega))
    have hk3 : k < 1100 := by omega
    repeat (first | refine es rfl rfl rfl ?_ | refine eg rfl (by assumption) rfl ?_ | refine eanE rfl (by assumption) (by with_reducible first | exact rfl | exact Int32.zero_add _ | exact ix8 _ | exact ix12 _ | exact ix7r _ _ | exact n7 | exact n0 | exact n1) (by assumption) rfl ?_ | refine eal rfl (by assumption) (by assumption) rfl ?_ | refine eri rfl ?_ | refine erv rfl ?_ | refine erl rfl ?_ | refine era rfl ?_ | refine erz0 rfl ?_ | refine erz1 rfl ?_)
    try dsimp only [set1, set2, kilP, List.set_cons_zero, List.set_cons_succ, List.getElem?_cons_zero, List.getElem?_cons_succ, List.nil_append, List.cons_append, Option.toList_some, Option.toList_none]
    rw [btR_i hk2, ← hA k hk3]
    exact ⟨rfl, rfl⟩
theorem y_isL {M : Mm} {x : Int32} : Rd ad 0 (iX13_isLetter ad) [.int x] M (some (.int (bI (isL x)))) := by
  refine ⟨Nat.le_of_ble_eq_true rfl, ?_⟩
  show Ev ad _ (rX13_isLetter ad) (0, [some (.int x)], [], M) _
  repeat (first | refine es rfl rfl rfl ?_ | refine eg rfl (by assumption) rfl ?_ | refine eanE rfl (by assumption) (by with_reducible first | exact rfl | exact Int32.zero_add _ | exact ix8 _ | exact ix12 _ | exact ix7r _ _ | exact n7 | exact n0 | exact n1) (by assumption) rfl ?_ | refine eal rfl (by assumption) (by assumption) rfl ?_ | refine eri rfl ?_ | refine erv rfl ?_ | refine erl rfl ?_ | refine era rfl ?_ | refine erz0 rfl ?_ | refine erz1 rfl ?_)
  try dsimp only [set1, set2, kilP, List.set_cons_zero, List.set_cons_succ, List.getElem?_cons_zero, List.getElem?_cons_succ, List.nil_append, List.cons_append, Option.toList_some, Option.toList_none]
  refine ei _ rfl rfl (fun c => ?_) (fun c => ?_)
  · repeat (first | refine es rfl rfl rfl ?_ | refine eg rfl (by assumption) rfl ?_ | refine eanE rfl (by assumption) (by with_reducible first | exact rfl | exact Int32.zero_add _ | exact ix8 _ | exact ix12 _ | exact ix7r _ _ | exact n7 | exact n0 | exact n1) (by assumption) rfl ?_ | refine eal rfl (by assumption) (by assumption) rfl ?_ | refine eri rfl ?_ | refine erv rfl ?_ | refine erl rfl ?_ | refine era rfl ?_ | refine erz0 rfl ?_ | refine erz1 rfl ?_)
    try dsimp only [set1, set2, kilP, List.set_cons_zero, List.set_cons_succ, List.getElem?_cons_zero, List.getElem?_cons_succ, List.nil_append, List.cons_append, Option.toList_some, Option.toList_none]
    rw [show bI (isL x) = 0 from if_neg (fun q => Int32.not_le.mpr c q.1)]
    exact ⟨rfl, rfl⟩
  · repeat (first | refine es rfl rfl rfl ?_ | refine eg rfl (by assumption) rfl ?_ | refine eanE rfl (by assumption) (by with_reducible first | exact rfl | exact Int32.zero_add _ | exact ix8 _ | exact ix12 _ | exact ix7r _ _ | exact n7 | exact n0 | exact n1) (by assumption) rfl ?_ | refine eal rfl (by assumption) (by assumption) rfl ?_ | refine eri rfl ?_ | refine erv rfl ?_ | refine erl rfl ?_ | refine era rfl ?_ | refine erz0 rfl ?_ | refine erz1 rfl ?_)
    try dsimp only [set1, set2, kilP, List.set_cons_zero, List.set_cons_succ, List.getElem?_cons_zero, List.getElem?_cons_succ, List.nil_append, List.cons_append, Option.toList_some, Option.toList_none]
    refine ei _ rfl rfl (fun c2 => ?_) (fun c2 => ?_)
    · repeat (first | refine es rfl rfl rfl ?_ | refine eg rfl (by assumption) rfl ?_ | refine eanE rfl (by assumption) (by with_reducible first | exact rfl | exact Int32.zero_add _ | exact ix8 _ | exact ix12 _ | exact ix7r _ _ | exact n7 | exact n0 | exact n1) (by assumption) rfl ?_ | refine eal rfl (by assumption) (by assumption) rfl ?_ | refine eri rfl ?_ | refine erv rfl ?_ | refine erl rfl ?_ | refine era rfl ?_ | refine erz0 rfl ?_ | refine erz1 rfl ?_)
      try dsimp only [set1, set2, kilP, List.set_cons_zero, List.set_cons_succ, List.getElem?_cons_zero, List.getElem?_cons_succ, List.nil_append, List.cons_append, Option.toList_some, Option.toList_none]
      rw [show bI (isL x) = 0 from if_neg (fun q => Int32.not_le.mpr c2 q.2)]
      exact ⟨rfl, rfl⟩
    · repeat (first | refine es rfl rfl rfl ?_ | refine eg rfl (by assumption) rfl ?_ | refine eanE rfl (by assumption) (by with_reducible first | exact rfl | exact Int32.zero_add _ | exact ix8 _ | exact ix12 _ | exact ix7r _ _ | exact n7 | exact n0 | exact n1) (by assumption) rfl ?_ | refine eal rfl (by assumption) (by assumption) rfl ?_ | refine eri rfl ?_ | refine erv rfl ?_ | refine erl rfl ?_ | refine era rfl ?_ | refine erz0 rfl ?_ | refine erz1 rfl ?_)
      try dsimp only [set1, set2, kilP, List.set_cons_zero, List.set_cons_succ, List.getElem?_cons_zero, List.getElem?_cons_succ, List.nil_append, List.cons_append, Option.toList_some, Option.toList_none]
      rw [show bI (isL x) = 1 from if_pos ⟨Int32.not_lt.mp c, Int32.not_lt.mp c2⟩]
      exact ⟨rfl, rfl⟩
theorem y_isD {M : Mm} {x : Int32} : Rd ad 0 (iX13_isDigit ad) [.int x] M (some (.int (bI (isD x)))) := by
  refine ⟨Nat.le_of_ble_eq_true rfl, ?_⟩
  show Ev ad _ (rX13_isDigit ad) (0, [some (.int x)], [], M) _
  repeat (first | refine es rfl rfl rfl ?_ | refine eg rfl (by assumption) rfl ?_ | refine eanE rfl (by assumption) (by with_reducible first | exact rfl | exact Int32.zero_add _ | exact ix8 _ | exact ix12 _ | exact ix7r _ _ | exact n7 | exact n0 | exact n1) (by assumption) rfl ?_ | refine eal rfl (by assumption) (by assumption) rfl ?_ | refine eri rfl ?_ | refine erv rfl ?_ | refine erl rfl ?_ | refine era rfl ?_ | refine erz0 rfl ?_ | refine erz1 rfl ?_)
  try dsimp only [set1, set2, kilP, List.set_cons_zero, List.set_cons_succ, List.getElem?_cons_zero, List.getElem?_cons_succ, List.nil_append, List.cons_append, Option.toList_some, Option.toList_none]
  refine ei _ rfl rfl (fun c => ?_) (fun c => ?_)
  · repeat (first | refine es rfl rfl rfl ?_ | refine eg rfl (by assumption) rfl ?_ | refine eanE rfl (by assumption) (by with_reducible first | exact rfl | exact Int32.zero_add _ | exact ix8 _ | exact ix12 _ | exact ix7r _ _ | exact n7 | exact n0 | exact n1) (by assumption) rfl ?_ | refine eal rfl (by assumption) (by assumption) rfl ?_ | refine eri rfl ?_ | refine erv rfl ?_ | refine erl rfl ?_ | refine era rfl ?_ | refine erz0 rfl ?_ | refine erz1 rfl ?_)
    try dsimp only [set1, set2, kilP, List.set_cons_zero, List.set_cons_succ, List.getElem?_cons_zero, List.getElem?_cons_succ, List.nil_append, List.cons_append, Option.toList_some, Option.toList_none]
    rw [show bI (isD x) = 0 from if_neg (fun q => Int32.not_le.mpr c q.1)]
    exact ⟨rfl, rfl⟩
  · repeat (first | refine es rfl rfl rfl ?_ | refine eg rfl (by assumption) rfl ?_ | refine eanE rfl (by assumption) (by with_reducible first | exact rfl | exact Int32.zero_add _ | exact ix8 _ | exact ix12 _ | exact ix7r _ _ | exact n7 | exact n0 | exact n1) (by assumption) rfl ?_ | refine eal rfl (by assumption) (by assumption) rfl ?_ | refine eri rfl ?_ | refine erv rfl ?_ | refine erl rfl ?_ | refine era rfl ?_ | refine erz0 rfl ?_ | refine erz1 rfl ?_)
    try dsimp only [set1, set2, kilP, List.set_cons_zero, List.set_cons_succ, List.getElem?_cons_zero, List.getElem?_cons_succ, List.nil_append, List.cons_append, Option.toList_some, Option.toList_none]
    refine ei _ rfl rfl (fun c2 => ?_) (fun c2 => ?_)
    · repeat (first | refine es rfl rfl rfl ?_ | refine eg rfl (by assumption) rfl ?_ | refine eanE rfl (by assumption) (by with_reducible first | exact rfl | exact Int32.zero_add _ | exact ix8 _ | exact ix12 _ | exact ix7r _ _ | exact n7 | exact n0 | exact n1) (by assumption) rfl ?_ | refine eal rfl (by assumption) (by assumption) rfl ?_ | refine eri rfl ?_ | refine erv rfl ?_ | refine erl rfl ?_ | refine era rfl ?_ | refine erz0 rfl ?_ | refine erz1 rfl ?_)
      try dsimp only [set1, set2, kilP, List.set_cons_zero, List.set_cons_succ, List.getElem?_cons_zero, List.getElem?_cons_succ, List.nil_append, List.cons_append, Option.toList_some, Option.toList_none]
      rw [show bI (isD x) = 0 from if_neg (fun q => Int32.not_le.mpr c2 q.2)]
      exact ⟨rfl, rfl⟩
    · repeat (first | refine es rfl rfl rfl ?_ | refine eg rfl (by assumption) rfl ?_ | refine eanE rfl (by assumption) (by with_reducible first | exact rfl | exact Int32.zero_add _ | exact ix8 _ | exact ix12 _ | exact ix7r _ _ | exact n7 | exact n0 | exact n1) (by assumption) rfl ?_ | refine eal rfl (by assumption) (by assumption) rfl ?_ | refine eri rfl ?_ | refine erv rfl ?_ | refine erl rfl ?_ | refine era rfl ?_ | refine erz0 rfl ?_ | refine erz1 rfl ?_)
      try dsimp only [set1, set2, kilP, List.set_cons_zero, List.set_cons_succ, List.getElem?_cons_zero, List.getElem?_cons_succ, List.nil_append, List.cons_append, Option.toList_some, Option.toList_none]
      rw [show bI (isD x) = 1 from if_pos ⟨Int32.not_lt.mp c, Int32.not_lt.mp c2⟩]
      exact ⟨rfl, rfl⟩
theorem y_on_w {M0 : Mm} {pl nu wa x : Int32} {s : Nat} (hA : tpR A tp) (hl : le ≤ 1100) : ∀ (n p : Nat) (M : Mm) (w wo : Int64), aY M b (oa, (tw, rd), (0, nI le, nI p, 0, pl, nu, 0, wa, wo), oq) A → Fr b 1 M0 M → p + n = le → s ≤ p → (p - s ≤ 8 → wo = w) → Ev ad 1 (rX13_goesOn ad) (84, [some (.ref b), some (.int x), some (.int (nI (p - s)))], [], M) (fun v' M' => v' = none ∧ Fr b 1 M0 M' ∧ ∃ wo', aY M' b (oa, (tw, rd), (0, nI le, nI (wdF tp n p w).1, (if (wdF tp n p w).1 - s ≤ 8 then 2 else 0), pl, nu, 0, wa, wo'), oq) A ∧ ((wdF tp n p w).1 - s ≤ 8 → wo' = (wdF tp n p w).2)) := by
  have fin : ∀ (p : Nat) (M : Mm) (w wo : Int64), aY M b (oa, (tw, rd), (0, nI le, nI p, 0, pl, nu, 0, wa, wo), oq) A → Fr b 1 M0 M → p ≤ le → s ≤ p → (p - s ≤ 8 → wo = w) → Ev ad 1 (rX13_goesOn ad) (147, [some (.ref b), some (.int x), some (.int (nI (p - s)))], [], M) (fun v' M' => v' = none ∧ Fr b 1 M0 M' ∧ ∃ wo', aY M' b (oa, (tw, rd), (0, nI le, nI p, (if p - s ≤ 8 then 2 else 0), pl, nu, 0, wa, wo'), oq) A ∧ (p - s ≤ 8 → wo' = w)) := by
    intro p M w wo hy hF hp hs hw
    have h0 := hy.1
    repeat (first | refine es rfl rfl rfl ?_ | refine eg rfl (by assumption) rfl ?_ | refine eanE rfl (by assumption) (by with_reducible first | exact rfl | exact Int32.zero_add _ | exact ix8 _ | exact ix12 _ | exact ix7r _ _ | exact n7 | exact n0 | exact n1) (by assumption) rfl ?_ | refine eal rfl (by assumption) (by assumption) rfl ?_ | refine eri rfl ?_ | refine erv rfl ?_ | refine erl rfl ?_ | refine era rfl ?_ | refine erz0 rfl ?_ | refine erz1 rfl ?_)
    try dsimp only [set1, set2, kilP, List.set_cons_zero, List.set_cons_succ, List.getElem?_cons_zero, List.getElem?_cons_succ, List.nil_append, List.cons_append, Option.toList_some, Option.toList_none]
    refine ei _ rfl rfl (fun c => ?_) (fun c => ?_)
    · repeat (first | refine es rfl rfl rfl ?_ | refine eg rfl (by assumption) rfl ?_ | refine eanE rfl (by assumption) (by with_reducible first | exact rfl | exact Int32.zero_add _ | exact ix8 _ | exact ix12 _ | exact ix7r _ _ | exact n7 | exact n0 | exact n1) (by assumption) rfl ?_ | refine eal rfl (by assumption) (by assumption) rfl ?_ | refine eri rfl ?_ | refine erv rfl ?_ | refine erl rfl ?_ | refine era rfl ?_ | refine erz0 rfl ?_ | refine erz1 rfl ?_)
      try dsimp only [set1, set2, kilP, List.set_cons_zero, List.set_cons_succ, List.getElem?_cons_zero, List.getElem?_cons_succ, List.nil_append, List.cons_append, Option.toList_some, Option.toList_none]
      rw [if_neg (fun hh => nI_nlt (a := 8) hh (by omega) c)]
      exact ⟨rfl, hF, wo, hy, hw⟩
    · repeat (first | refine es rfl rfl rfl ?_ | refine eg rfl (by assumption) rfl ?_ | refine eanE rfl (by assumption) (by with_reducible first | exact rfl | exact Int32.zero_add _ | exact ix8 _ | exact ix12 _ | exact ix7r _ _ | exact n7 | exact n0 | exact n1) (by assumption) rfl ?_ | refine eal rfl (by assumption) (by assumption) rfl ?_ | refine eri rfl ?_ | refine erv rfl ?_ | refine erl rfl ?_ | refine era rfl ?_ | refine erz0 rfl ?_ | refine erz1 rfl ?_)
      try dsimp only [set1, set2, kilP, List.set_cons_zero, List.set_cons_succ, List.getElem?_cons_zero, List.getElem?_cons_succ, List.nil_append, List.cons_append, Option.toList_some, Option.toList_none]
      refine epM (fs' := yF b (oa, (tw, rd), (0, nI le, nI p, 2, pl, nu, 0, wa, wo), oq)) rfl h0 rfl rfl rfl (fun M2 eM => ?_)
      repeat (first | refine es rfl rfl rfl ?_ | refine eg rfl (by assumption) rfl ?_ | refine eanE rfl (by assumption) (by with_reducible first | exact rfl | exact Int32.zero_add _ | exact ix8 _ | exact ix12 _ | exact ix7r _ _ | exact n7 | exact n0 | exact n1) (by assumption) rfl ?_ | refine eal rfl (by assumption) (by assumption) rfl ?_ | refine eri rfl ?_ | refine erv rfl ?_ | refine erl rfl ?_ | refine era rfl ?_ | refine erz0 rfl ?_ | refine erz1 rfl ?_)
      try dsimp only [set1, set2, kilP, List.set_cons_zero, List.set_cons_succ, List.getElem?_cons_zero, List.getElem?_cons_succ, List.nil_append, List.cons_append, Option.toList_some, Option.toList_none]
      rw [if_pos (Decidable.byContradiction fun hh => c (nI_lt (a := 8) (by omega) (by omega)))]
      exact ⟨rfl, hF.up eM (by omega) (by omega), wo, hy.ob eM, hw⟩
  intro n
  induction n with
  | zero =>
    intro p M w wo hy hF hn hs hw
    have h0 := hy.1
    repeat (first | refine es rfl rfl rfl ?_ | refine eg rfl (by assumption) rfl ?_ | refine eanE rfl (by assumption) (by with_reducible first | exact rfl | exact Int32.zero_add _ | exact ix8 _ | exact ix12 _ | exact ix7r _ _ | exact n7 | exact n0 | exact n1) (by assumption) rfl ?_ | refine eal rfl (by assumption) (by assumption) rfl ?_ | refine eri rfl ?_ | refine erv rfl ?_ | refine erl rfl ?_ | refine era rfl ?_ | refine erz0 rfl ?_ | refine erz1 rfl ?_)
    try dsimp only [set1, set2, kilP, List.set_cons_zero, List.set_cons_succ, List.getElem?_cons_zero, List.getElem?_cons_succ, List.nil_append, List.cons_append, Option.toList_some, Option.toList_none]
    refine ecr rfl rfl (by assumption) rfl rfl rfl (y_byteAt hy hA hl (by omega)) (by first | rfl | exact Nat.blt_eq.mpr (by omega)) rfl ?_
    rw [btR_o (by omega)]
    repeat (first | refine es rfl rfl rfl ?_ | refine eg rfl (by assumption) rfl ?_ | refine eanE rfl (by assumption) (by with_reducible first | exact rfl | exact Int32.zero_add _ | exact ix8 _ | exact ix12 _ | exact ix7r _ _ | exact n7 | exact n0 | exact n1) (by assumption) rfl ?_ | refine eal rfl (by assumption) (by assumption) rfl ?_ | refine eri rfl ?_ | refine erv rfl ?_ | refine erl rfl ?_ | refine era rfl ?_ | refine erz0 rfl ?_ | refine erz1 rfl ?_)
    try dsimp only [set1, set2, kilP, List.set_cons_zero, List.set_cons_succ, List.getElem?_cons_zero, List.getElem?_cons_succ, List.nil_append, List.cons_append, Option.toList_some, Option.toList_none]
    refine ecsr rfl rfl rfl rfl rfl rfl (y_isL) (by first | rfl | exact Nat.blt_eq.mpr (by omega)) rfl ?_
    repeat (refine ng 147 rfl ?_; first | refine es rfl rfl rfl ?_ | refine eg rfl (by assumption) rfl ?_ | refine eanE rfl (by assumption) (by with_reducible first | exact rfl | exact Int32.zero_add _ | exact ix8 _ | exact ix12 _ | exact ix7r _ _ | exact n7 | exact n0 | exact n1) (by assumption) rfl ?_ | refine eal rfl (by assumption) (by assumption) rfl ?_ | refine eri rfl ?_ | refine erv rfl ?_ | refine erl rfl ?_ | refine era rfl ?_ | refine erz0 rfl ?_ | refine erz1 rfl ?_)
    try dsimp only [set1, set2, kilP, List.set_cons_zero, List.set_cons_succ, List.getElem?_cons_zero, List.getElem?_cons_succ, List.nil_append, List.cons_append, Option.toList_some, Option.toList_none]
    exact fin p M w wo hy hF (by omega) hs hw
  | succ n ih =>
    intro p M w wo hy hF hn hs hw
    have h0 := hy.1
    repeat (first | refine es rfl rfl rfl ?_ | refine eg rfl (by assumption) rfl ?_ | refine eanE rfl (by assumption) (by with_reducible first | exact rfl | exact Int32.zero_add _ | exact ix8 _ | exact ix12 _ | exact ix7r _ _ | exact n7 | exact n0 | exact n1) (by assumption) rfl ?_ | refine eal rfl (by assumption) (by assumption) rfl ?_ | refine eri rfl ?_ | refine erv rfl ?_ | refine erl rfl ?_ | refine era rfl ?_ | refine erz0 rfl ?_ | refine erz1 rfl ?_)
    try dsimp only [set1, set2, kilP, List.set_cons_zero, List.set_cons_succ, List.getElem?_cons_zero, List.getElem?_cons_succ, List.nil_append, List.cons_append, Option.toList_some, Option.toList_none]
    refine ecr rfl rfl (by assumption) rfl rfl rfl (y_byteAt hy hA hl (by omega)) (by first | rfl | exact Nat.blt_eq.mpr (by omega)) rfl ?_
    rw [btR_i (by omega)]
    repeat (first | refine es rfl rfl rfl ?_ | refine eg rfl (by assumption) rfl ?_ | refine eanE rfl (by assumption) (by with_reducible first | exact rfl | exact Int32.zero_add _ | exact ix8 _ | exact ix12 _ | exact ix7r _ _ | exact n7 | exact n0 | exact n1) (by assumption) rfl ?_ | refine eal rfl (by assumption) (by assumption) rfl ?_ | refine eri rfl ?_ | refine erv rfl ?_ | refine erl rfl ?_ | refine era rfl ?_ | refine erz0 rfl ?_ | refine erz1 rfl ?_)
    try dsimp only [set1, set2, kilP, List.set_cons_zero, List.set_cons_succ, List.getElem?_cons_zero, List.getElem?_cons_succ, List.nil_append, List.cons_append, Option.toList_some, Option.toList_none]
    refine ecsr rfl rfl rfl rfl rfl rfl (y_isL) (by first | rfl | exact Nat.blt_eq.mpr (by omega)) rfl ?_
    by_cases hL : isL (tp p)
    rotate_left
    · rw [show bI (isL (tp p)) = 0 from if_neg hL]
      rw [show wdF tp (n + 1) p w = (p, w) by rw [wdF, if_neg hL]]
      repeat (refine ng 147 rfl ?_; first | refine es rfl rfl rfl ?_ | refine eg rfl (by assumption) rfl ?_ | refine eanE rfl (by assumption) (by with_reducible first | exact rfl | exact Int32.zero_add _ | exact ix8 _ | exact ix12 _ | exact ix7r _ _ | exact n7 | exact n0 | exact n1) (by assumption) rfl ?_ | refine eal rfl (by assumption) (by assumption) rfl ?_ | refine eri rfl ?_ | refine erv rfl ?_ | refine erl rfl ?_ | refine era rfl ?_ | refine erz0 rfl ?_ | refine erz1 rfl ?_)
      try dsimp only [set1, set2, kilP, List.set_cons_zero, List.set_cons_succ, List.getElem?_cons_zero, List.getElem?_cons_succ, List.nil_append, List.cons_append, Option.toList_some, Option.toList_none]
      exact fin p M w wo hy hF (by omega) hs hw
    rw [show bI (isL (tp p)) = 1 from if_pos hL]
    rw [show wdF tp (n + 1) p w = wdF tp n (p + 1) (wlF w (tp p)) by rw [wdF, if_pos hL]]
    repeat (first | refine es rfl rfl rfl ?_ | refine eg rfl (by assumption) rfl ?_ | refine eanE rfl (by assumption) (by with_reducible first | exact rfl | exact Int32.zero_add _ | exact ix8 _ | exact ix12 _ | exact ix7r _ _ | exact n7 | exact n0 | exact n1) (by assumption) rfl ?_ | refine eal rfl (by assumption) (by assumption) rfl ?_ | refine eri rfl ?_ | refine erv rfl ?_ | refine erl rfl ?_ | refine era rfl ?_ | refine erz0 rfl ?_ | refine erz1 rfl ?_)
    try dsimp only [set1, set2, kilP, List.set_cons_zero, List.set_cons_succ, List.getElem?_cons_zero, List.getElem?_cons_succ, List.nil_append, List.cons_append, Option.toList_some, Option.toList_none]
    refine ei _ rfl rfl (fun c => ?_) (fun c => ?_)
    · repeat (first | refine es rfl rfl rfl ?_ | refine eg rfl (by assumption) rfl ?_ | refine eanE rfl (by assumption) (by with_reducible first | exact rfl | exact Int32.zero_add _ | exact ix8 _ | exact ix12 _ | exact ix7r _ _ | exact n7 | exact n0 | exact n1) (by assumption) rfl ?_ | refine eal rfl (by assumption) (by assumption) rfl ?_ | refine eri rfl ?_ | refine erv rfl ?_ | refine erl rfl ?_ | refine era rfl ?_ | refine erz0 rfl ?_ | refine erz1 rfl ?_)
      try dsimp only [set1, set2, kilP, List.set_cons_zero, List.set_cons_succ, List.getElem?_cons_zero, List.getElem?_cons_succ, List.nil_append, List.cons_append, Option.toList_some, Option.toList_none]
      refine epM (fs' := yF b (oa, (tw, rd), (0, nI le, nI (p + 1), 0, pl, nu, 0, wa, wo), oq)) rfl h0 rfl rfl (by rw [← nI_1]; rfl) (fun M2 eM => ?_)
      repeat (refine ng 84 rfl ?_; first | refine es rfl rfl rfl ?_ | refine eg rfl (by assumption) rfl ?_ | refine eanE rfl (by assumption) (by with_reducible first | exact rfl | exact Int32.zero_add _ | exact ix8 _ | exact ix12 _ | exact ix7r _ _ | exact n7 | exact n0 | exact n1) (by assumption) rfl ?_ | refine eal rfl (by assumption) (by assumption) rfl ?_ | refine eri rfl ?_ | refine erv rfl ?_ | refine erl rfl ?_ | refine era rfl ?_ | refine erz0 rfl ?_ | refine erz1 rfl ?_)
      try dsimp only [set1, set2, kilP, List.set_cons_zero, List.set_cons_succ, List.getElem?_cons_zero, List.getElem?_cons_succ, List.nil_append, List.cons_append, Option.toList_some, Option.toList_none]
      rw [nI_1, show p - s + 1 = p + 1 - s by omega]
      exact ih (p + 1) M2 _ wo (hy.ob eM) (hF.up eM (by omega) (by omega)) (by omega) (by omega) (fun h => absurd c (nI_ge (b := 8) (by omega) (by omega)))
    · repeat (first | refine es rfl rfl rfl ?_ | refine eg rfl (by assumption) rfl ?_ | refine eanE rfl (by assumption) (by with_reducible first | exact rfl | exact Int32.zero_add _ | exact ix8 _ | exact ix12 _ | exact ix7r _ _ | exact n7 | exact n0 | exact n1) (by assumption) rfl ?_ | refine eal rfl (by assumption) (by assumption) rfl ?_ | refine eri rfl ?_ | refine erv rfl ?_ | refine erl rfl ?_ | refine era rfl ?_ | refine erz0 rfl ?_ | refine erz1 rfl ?_)
      try dsimp only [set1, set2, kilP, List.set_cons_zero, List.set_cons_succ, List.getElem?_cons_zero, List.getElem?_cons_succ, List.nil_append, List.cons_append, Option.toList_some, Option.toList_none]
      refine ecr rfl rfl (by assumption) rfl rfl rfl (y_byteAt hy hA hl (by omega)) (by first | rfl | exact Nat.blt_eq.mpr (by omega)) rfl ?_
      rw [btR_i (by omega)]
      repeat (first | refine es rfl rfl rfl ?_ | refine eg rfl (by assumption) rfl ?_ | refine eanE rfl (by assumption) (by with_reducible first | exact rfl | exact Int32.zero_add _ | exact ix8 _ | exact ix12 _ | exact ix7r _ _ | exact n7 | exact n0 | exact n1) (by assumption) rfl ?_ | refine eal rfl (by assumption) (by assumption) rfl ?_ | refine eri rfl ?_ | refine erv rfl ?_ | refine erl rfl ?_ | refine era rfl ?_ | refine erz0 rfl ?_ | refine erz1 rfl ?_)
      try dsimp only [set1, set2, kilP, List.set_cons_zero, List.set_cons_succ, List.getElem?_cons_zero, List.getElem?_cons_succ, List.nil_append, List.cons_append, Option.toList_some, Option.toList_none]
      refine epM (fs' := yF b (oa, (tw, rd), (0, nI le, nI p, 0, pl, nu, 0, wa, wlF wo (tp p)), oq)) rfl h0 rfl rfl rfl (fun M1 eM1 => ?_)
      have hy1 := hy.ob eM1
      have h1 := hy1.1
      repeat (first | refine es rfl rfl rfl ?_ | refine eg rfl (by assumption) rfl ?_ | refine eanE rfl (by assumption) (by with_reducible first | exact rfl | exact Int32.zero_add _ | exact ix8 _ | exact ix12 _ | exact ix7r _ _ | exact n7 | exact n0 | exact n1) (by assumption) rfl ?_ | refine eal rfl (by assumption) (by assumption) rfl ?_ | refine eri rfl ?_ | refine erv rfl ?_ | refine erl rfl ?_ | refine era rfl ?_ | refine erz0 rfl ?_ | refine erz1 rfl ?_)
      try dsimp only [set1, set2, kilP, List.set_cons_zero, List.set_cons_succ, List.getElem?_cons_zero, List.getElem?_cons_succ, List.nil_append, List.cons_append, Option.toList_some, Option.toList_none]
      refine epM (fs' := yF b (oa, (tw, rd), (0, nI le, nI (p + 1), 0, pl, nu, 0, wa, wlF wo (tp p)), oq)) rfl h1 rfl rfl (by rw [← nI_1]; rfl) (fun M2 eM => ?_)
      repeat (refine ng 84 rfl ?_; first | refine es rfl rfl rfl ?_ | refine eg rfl (by assumption) rfl ?_ | refine eanE rfl (by assumption) (by with_reducible first | exact rfl | exact Int32.zero_add _ | exact ix8 _ | exact ix12 _ | exact ix7r _ _ | exact n7 | exact n0 | exact n1) (by assumption) rfl ?_ | refine eal rfl (by assumption) (by assumption) rfl ?_ | refine eri rfl ?_ | refine erv rfl ?_ | refine erl rfl ?_ | refine era rfl ?_ | refine erz0 rfl ?_ | refine erz1 rfl ?_)
      try dsimp only [set1, set2, kilP, List.set_cons_zero, List.set_cons_succ, List.getElem?_cons_zero, List.getElem?_cons_succ, List.nil_append, List.cons_append, Option.toList_some, Option.toList_none]
      rw [nI_1, show p - s + 1 = p + 1 - s by omega]
      exact ih (p + 1) M2 _ _ (hy1.ob eM) ((hF.up eM1 (by omega) (by omega)).up eM (by omega) (by omega)) (by omega) (by omega) (fun h => by rw [hw (by omega)])
theorem y_on_d {M0 : Mm} {pl wa x : Int32} {wo : Int64} {s : Nat} (hA : tpR A tp) (hl : le ≤ 1100) : ∀ (n p : Nat) (M : Mm) (w nu : Int32), aY M b (oa, (tw, rd), (0, nI le, nI p, 0, pl, nu, 0, wa, wo), oq) A → Fr b 1 M0 M → p + n = le → s ≤ p → (p - s ≤ 3 → nu = w) → Ev ad 1 (rX13_goesOn ad) (173, [some (.ref b), some (.int x), some (.int (nI (p - s)))], [], M) (fun v' M' => v' = none ∧ Fr b 1 M0 M' ∧ ∃ nu', aY M' b (oa, (tw, rd), (0, nI le, nI (whF tp n p w).1, (if (whF tp n p w).1 - s ≤ 3 then 3 else 0), pl, nu', 0, wa, wo), oq) A ∧ ((whF tp n p w).1 - s ≤ 3 → nu' = (whF tp n p w).2)) := by
  have fin : ∀ (p : Nat) (M : Mm) (w nu : Int32), aY M b (oa, (tw, rd), (0, nI le, nI p, 0, pl, nu, 0, wa, wo), oq) A → Fr b 1 M0 M → p ≤ le → s ≤ p → (p - s ≤ 3 → nu = w) → Ev ad 1 (rX13_goesOn ad) (231, [some (.ref b), some (.int x), some (.int (nI (p - s)))], [], M) (fun v' M' => v' = none ∧ Fr b 1 M0 M' ∧ ∃ nu', aY M' b (oa, (tw, rd), (0, nI le, nI p, (if p - s ≤ 3 then 3 else 0), pl, nu', 0, wa, wo), oq) A ∧ (p - s ≤ 3 → nu' = w)) := by
    intro p M w nu hy hF hp hs hw
    have h0 := hy.1
    repeat (first | refine es rfl rfl rfl ?_ | refine eg rfl (by assumption) rfl ?_ | refine eanE rfl (by assumption) (by with_reducible first | exact rfl | exact Int32.zero_add _ | exact ix8 _ | exact ix12 _ | exact ix7r _ _ | exact n7 | exact n0 | exact n1) (by assumption) rfl ?_ | refine eal rfl (by assumption) (by assumption) rfl ?_ | refine eri rfl ?_ | refine erv rfl ?_ | refine erl rfl ?_ | refine era rfl ?_ | refine erz0 rfl ?_ | refine erz1 rfl ?_)
    try dsimp only [set1, set2, kilP, List.set_cons_zero, List.set_cons_succ, List.getElem?_cons_zero, List.getElem?_cons_succ, List.nil_append, List.cons_append, Option.toList_some, Option.toList_none]
    refine ei _ rfl rfl (fun c => ?_) (fun c => ?_)
    · repeat (first | refine es rfl rfl rfl ?_ | refine eg rfl (by assumption) rfl ?_ | refine eanE rfl (by assumption) (by with_reducible first | exact rfl | exact Int32.zero_add _ | exact ix8 _ | exact ix12 _ | exact ix7r _ _ | exact n7 | exact n0 | exact n1) (by assumption) rfl ?_ | refine eal rfl (by assumption) (by assumption) rfl ?_ | refine eri rfl ?_ | refine erv rfl ?_ | refine erl rfl ?_ | refine era rfl ?_ | refine erz0 rfl ?_ | refine erz1 rfl ?_)
      try dsimp only [set1, set2, kilP, List.set_cons_zero, List.set_cons_succ, List.getElem?_cons_zero, List.getElem?_cons_succ, List.nil_append, List.cons_append, Option.toList_some, Option.toList_none]
      rw [if_neg (fun hh => nI_nlt (a := 3) hh (by omega) c)]
      exact ⟨rfl, hF, nu, hy, hw⟩
    · repeat (first | refine es rfl rfl rfl ?_ | refine eg rfl (by assumption) rfl ?_ | refine eanE rfl (by assumption) (by with_reducible first | exact rfl | exact Int32.zero_add _ | exact ix8 _ | exact ix12 _ | exact ix7r _ _ | exact n7 | exact n0 | exact n1) (by assumption) rfl ?_ | refine eal rfl (by assumption) (by assumption) rfl ?_ | refine eri rfl ?_ | refine erv rfl ?_ | refine erl rfl ?_ | refine era rfl ?_ | refine erz0 rfl ?_ | refine erz1 rfl ?_)
      try dsimp only [set1, set2, kilP, List.set_cons_zero, List.set_cons_succ, List.getElem?_cons_zero, List.getElem?_cons_succ, List.nil_append, List.cons_append, Option.toList_some, Option.toList_none]
      refine epM (fs' := yF b (oa, (tw, rd), (0, nI le, nI p, 3, pl, nu, 0, wa, wo), oq)) rfl h0 rfl rfl rfl (fun M2 eM => ?_)
      repeat (first | refine es rfl rfl rfl ?_ | refine eg rfl (by assumption) rfl ?_ | refine eanE rfl (by assumption) (by with_reducible first | exact rfl | exact Int32.zero_add _ | exact ix8 _ | exact ix12 _ | exact ix7r _ _ | exact n7 | exact n0 | exact n1) (by assumption) rfl ?_ | refine eal rfl (by assumption) (by assumption) rfl ?_ | refine eri rfl ?_ | refine erv rfl ?_ | refine erl rfl ?_ | refine era rfl ?_ | refine erz0 rfl ?_ | refine erz1 rfl ?_)
      try dsimp only [set1, set2, kilP, List.set_cons_zero, List.set_cons_succ, List.getElem?_cons_zero, List.getElem?_cons_succ, List.nil_append, List.cons_append, Option.toList_some, Option.toList_none]
      rw [if_pos (Decidable.byContradiction fun hh => c (nI_lt (a := 3) (by omega) (by omega)))]
      exact ⟨rfl, hF.up eM (by omega) (by omega), nu, hy.ob eM, hw⟩
  intro n
  induction n with
  | zero =>
    intro p M w nu hy hF hn hs hw
    have h0 := hy.1
    repeat (first | refine es rfl rfl rfl ?_ | refine eg rfl (by assumption) rfl ?_ | refine eanE rfl (by assumption) (by with_reducible first | exact rfl | exact Int32.zero_add _ | exact ix8 _ | exact ix12 _ | exact ix7r _ _ | exact n7 | exact n0 | exact n1) (by assumption) rfl ?_ | refine eal rfl (by assumption) (by assumption) rfl ?_ | refine eri rfl ?_ | refine erv rfl ?_ | refine erl rfl ?_ | refine era rfl ?_ | refine erz0 rfl ?_ | refine erz1 rfl ?_)
    try dsimp only [set1, set2, kilP, List.set_cons_zero, List.set_cons_succ, List.getElem?_cons_zero, List.getElem?_cons_succ, List.nil_append, List.cons_append, Option.toList_some, Option.toList_none]
    refine ecr rfl rfl (by assumption) rfl rfl rfl (y_byteAt hy hA hl (by omega)) (by first | rfl | exact Nat.blt_eq.mpr (by omega)) rfl ?_
    rw [btR_o (by omega)]
    repeat (first | refine es rfl rfl rfl ?_ | refine eg rfl (by assumption) rfl ?_ | refine eanE rfl (by assumption) (by with_reducible first | exact rfl | exact Int32.zero_add _ | exact ix8 _ | exact ix12 _ | exact ix7r _ _ | exact n7 | exact n0 | exact n1) (by assumption) rfl ?_ | refine eal rfl (by assumption) (by assumption) rfl ?_ | refine eri rfl ?_ | refine erv rfl ?_ | refine erl rfl ?_ | refine era rfl ?_ | refine erz0 rfl ?_ | refine erz1 rfl ?_)
    try dsimp only [set1, set2, kilP, List.set_cons_zero, List.set_cons_succ, List.getElem?_cons_zero, List.getElem?_cons_succ, List.nil_append, List.cons_append, Option.toList_some, Option.toList_none]
    refine ecsr rfl rfl rfl rfl rfl rfl (y_isD) (by first | rfl | exact Nat.blt_eq.mpr (by omega)) rfl ?_
    repeat (refine ng 231 rfl ?_; first | refine es rfl rfl rfl ?_ | refine eg rfl (by assumption) rfl ?_ | refine eanE rfl (by assumption) (by with_reducible first | exact rfl | exact Int32.zero_add _ | exact ix8 _ | exact ix12 _ | exact ix7r _ _ | exact n7 | exact n0 | exact n1) (by assumption) rfl ?_ | refine eal rfl (by assumption) (by assumption) rfl ?_ | refine eri rfl ?_ | refine erv rfl ?_ | refine erl rfl ?_ | refine era rfl ?_ | refine erz0 rfl ?_ | refine erz1 rfl ?_)
    try dsimp only [set1, set2, kilP, List.set_cons_zero, List.set_cons_succ, List.getElem?_cons_zero, List.getElem?_cons_succ, List.nil_append, List.cons_append, Option.toList_some, Option.toList_none]
    exact fin p M w nu hy hF (by omega) hs hw
  | succ n ih =>
    intro p M w nu hy hF hn hs hw
    have h0 := hy.1
    repeat (first | refine es rfl rfl rfl ?_ | refine eg rfl (by assumption) rfl ?_ | refine eanE rfl (by assumption) (by with_reducible first | exact rfl | exact Int32.zero_add _ | exact ix8 _ | exact ix12 _ | exact ix7r _ _ | exact n7 | exact n0 | exact n1) (by assumption) rfl ?_ | refine eal rfl (by assumption) (by assumption) rfl ?_ | refine eri rfl ?_ | refine erv rfl ?_ | refine erl rfl ?_ | refine era rfl ?_ | refine erz0 rfl ?_ | refine erz1 rfl ?_)
    try dsimp only [set1, set2, kilP, List.set_cons_zero, List.set_cons_succ, List.getElem?_cons_zero, List.getElem?_cons_succ, List.nil_append, List.cons_append, Option.toList_some, Option.toList_none]
    refine ecr rfl rfl (by assumption) rfl rfl rfl (y_byteAt hy hA hl (by omega)) (by first | rfl | exact Nat.blt_eq.mpr (by omega)) rfl ?_
    rw [btR_i (by omega)]
    repeat (first | refine es rfl rfl rfl ?_ | refine eg rfl (by assumption) rfl ?_ | refine eanE rfl (by assumption) (by with_reducible first | exact rfl | exact Int32.zero_add _ | exact ix8 _ | exact ix12 _ | exact ix7r _ _ | exact n7 | exact n0 | exact n1) (by assumption) rfl ?_ | refine eal rfl (by assumption) (by assumption) rfl ?_ | refine eri rfl ?_ | refine erv rfl ?_ | refine erl rfl ?_ | refine era rfl ?_ | refine erz0 rfl ?_ | refine erz1 rfl ?_)
    try dsimp only [set1, set2, kilP, List.set_cons_zero, List.set_cons_succ, List.getElem?_cons_zero, List.getElem?_cons_succ, List.nil_append, List.cons_append, Option.toList_some, Option.toList_none]
    refine ecsr rfl rfl rfl rfl rfl rfl (y_isD) (by first | rfl | exact Nat.blt_eq.mpr (by omega)) rfl ?_
    by_cases hL : isD (tp p)
    rotate_left
    · rw [show bI (isD (tp p)) = 0 from if_neg hL]
      rw [show whF tp (n + 1) p w = (p, w) by rw [whF, if_neg hL]]
      repeat (refine ng 231 rfl ?_; first | refine es rfl rfl rfl ?_ | refine eg rfl (by assumption) rfl ?_ | refine eanE rfl (by assumption) (by with_reducible first | exact rfl | exact Int32.zero_add _ | exact ix8 _ | exact ix12 _ | exact ix7r _ _ | exact n7 | exact n0 | exact n1) (by assumption) rfl ?_ | refine eal rfl (by assumption) (by assumption) rfl ?_ | refine eri rfl ?_ | refine erv rfl ?_ | refine erl rfl ?_ | refine era rfl ?_ | refine erz0 rfl ?_ | refine erz1 rfl ?_)
      try dsimp only [set1, set2, kilP, List.set_cons_zero, List.set_cons_succ, List.getElem?_cons_zero, List.getElem?_cons_succ, List.nil_append, List.cons_append, Option.toList_some, Option.toList_none]
      exact fin p M w nu hy hF (by omega) hs hw
    rw [show bI (isD (tp p)) = 1 from if_pos hL]
    rw [show whF tp (n + 1) p w = whF tp n (p + 1) (10 * w + tp p - 48) by rw [whF, if_pos hL]]
    repeat (first | refine es rfl rfl rfl ?_ | refine eg rfl (by assumption) rfl ?_ | refine eanE rfl (by assumption) (by with_reducible first | exact rfl | exact Int32.zero_add _ | exact ix8 _ | exact ix12 _ | exact ix7r _ _ | exact n7 | exact n0 | exact n1) (by assumption) rfl ?_ | refine eal rfl (by assumption) (by assumption) rfl ?_ | refine eri rfl ?_ | refine erv rfl ?_ | refine erl rfl ?_ | refine era rfl ?_ | refine erz0 rfl ?_ | refine erz1 rfl ?_)
    try dsimp only [set1, set2, kilP, List.set_cons_zero, List.set_cons_succ, List.getElem?_cons_zero, List.getElem?_cons_succ, List.nil_append, List.cons_append, Option.toList_some, Option.toList_none]
    refine ei _ rfl rfl (fun c => ?_) (fun c => ?_)
    · repeat (first | refine es rfl rfl rfl ?_ | refine eg rfl (by assumption) rfl ?_ | refine eanE rfl (by assumption) (by with_reducible first | exact rfl | exact Int32.zero_add _ | exact ix8 _ | exact ix12 _ | exact ix7r _ _ | exact n7 | exact n0 | exact n1) (by assumption) rfl ?_ | refine eal rfl (by assumption) (by assumption) rfl ?_ | refine eri rfl ?_ | refine erv rfl ?_ | refine erl rfl ?_ | refine era rfl ?_ | refine erz0 rfl ?_ | refine erz1 rfl ?_)
      try dsimp only [set1, set2, kilP, List.set_cons_zero, List.set_cons_succ, List.getElem?_cons_zero, List.getElem?_cons_succ, List.nil_append, List.cons_append, Option.toList_some, Option.toList_none]
      refine epM (fs' := yF b (oa, (tw, rd), (0, nI le, nI (p + 1), 0, pl, nu, 0, wa, wo), oq)) rfl h0 rfl rfl (by rw [← nI_1]; rfl) (fun M2 eM => ?_)
      repeat (refine ng 173 rfl ?_; first | refine es rfl rfl rfl ?_ | refine eg rfl (by assumption) rfl ?_ | refine eanE rfl (by assumption) (by with_reducible first | exact rfl | exact Int32.zero_add _ | exact ix8 _ | exact ix12 _ | exact ix7r _ _ | exact n7 | exact n0 | exact n1) (by assumption) rfl ?_ | refine eal rfl (by assumption) (by assumption) rfl ?_ | refine eri rfl ?_ | refine erv rfl ?_ | refine erl rfl ?_ | refine era rfl ?_ | refine erz0 rfl ?_ | refine erz1 rfl ?_)
      try dsimp only [set1, set2, kilP, List.set_cons_zero, List.set_cons_succ, List.getElem?_cons_zero, List.getElem?_cons_succ, List.nil_append, List.cons_append, Option.toList_some, Option.toList_none]
      rw [nI_1, show p - s + 1 = p + 1 - s by omega]
      exact ih (p + 1) M2 _ nu (hy.ob eM) (hF.up eM (by omega) (by omega)) (by omega) (by omega) (fun h => absurd c (nI_ge (b := 3) (by omega) (by omega)))
    · repeat (first | refine es rfl rfl rfl ?_ | refine eg rfl (by assumption) rfl ?_ | refine eanE rfl (by assumption) (by with_reducible first | exact rfl | exact Int32.zero_add _ | exact ix8 _ | exact ix12 _ | exact ix7r _ _ | exact n7 | exact n0 | exact n1) (by assumption) rfl ?_ | refine eal rfl (by assumption) (by assumption) rfl ?_ | refine eri rfl ?_ | refine erv rfl ?_ | refine erl rfl ?_ | refine era rfl ?_ | refine erz0 rfl ?_ | refine erz1 rfl ?_)
      try dsimp only [set1, set2, kilP, List.set_cons_zero, List.set_cons_succ, List.getElem?_cons_zero, List.getElem?_cons_succ, List.nil_append, List.cons_append, Option.toList_some, Option.toList_none]
      refine ecr rfl rfl (by assumption) rfl rfl rfl (y_byteAt hy hA hl (by omega)) (by first | rfl | exact Nat.blt_eq.mpr (by omega)) rfl ?_
      rw [btR_i (by omega)]
      repeat (first | refine es rfl rfl rfl ?_ | refine eg rfl (by assumption) rfl ?_ | refine eanE rfl (by assumption) (by with_reducible first | exact rfl | exact Int32.zero_add _ | exact ix8 _ | exact ix12 _ | exact ix7r _ _ | exact n7 | exact n0 | exact n1) (by assumption) rfl ?_ | refine eal rfl (by assumption) (by assumption) rfl ?_ | refine eri rfl ?_ | refine erv rfl ?_ | refine erl rfl ?_ | refine era rfl ?_ | refine erz0 rfl ?_ | refine erz1 rfl ?_)
      try dsimp only [set1, set2, kilP, List.set_cons_zero, List.set_cons_succ, List.getElem?_cons_zero, List.getElem?_cons_succ, List.nil_append, List.cons_append, Option.toList_some, Option.toList_none]
      refine epM (fs' := yF b (oa, (tw, rd), (0, nI le, nI p, 0, pl, 10 * nu + tp p - 48, 0, wa, wo), oq)) rfl h0 rfl rfl rfl (fun M1 eM1 => ?_)
      have hy1 := hy.ob eM1
      have h1 := hy1.1
      repeat (first | refine es rfl rfl rfl ?_ | refine eg rfl (by assumption) rfl ?_ | refine eanE rfl (by assumption) (by with_reducible first | exact rfl | exact Int32.zero_add _ | exact ix8 _ | exact ix12 _ | exact ix7r _ _ | exact n7 | exact n0 | exact n1) (by assumption) rfl ?_ | refine eal rfl (by assumption) (by assumption) rfl ?_ | refine eri rfl ?_ | refine erv rfl ?_ | refine erl rfl ?_ | refine era rfl ?_ | refine erz0 rfl ?_ | refine erz1 rfl ?_)
      try dsimp only [set1, set2, kilP, List.set_cons_zero, List.set_cons_succ, List.getElem?_cons_zero, List.getElem?_cons_succ, List.nil_append, List.cons_append, Option.toList_some, Option.toList_none]
      refine epM (fs' := yF b (oa, (tw, rd), (0, nI le, nI (p + 1), 0, pl, 10 * nu + tp p - 48, 0, wa, wo), oq)) rfl h1 rfl rfl (by rw [← nI_1]; rfl) (fun M2 eM => ?_)
      repeat (refine ng 173 rfl ?_; first | refine es rfl rfl rfl ?_ | refine eg rfl (by assumption) rfl ?_ | refine eanE rfl (by assumption) (by with_reducible first | exact rfl | exact Int32.zero_add _ | exact ix8 _ | exact ix12 _ | exact ix7r _ _ | exact n7 | exact n0 | exact n1) (by assumption) rfl ?_ | refine eal rfl (by assumption) (by assumption) rfl ?_ | refine eri rfl ?_ | refine erv rfl ?_ | refine erl rfl ?_ | refine era rfl ?_ | refine erz0 rfl ?_ | refine erz1 rfl ?_)
      try dsimp only [set1, set2, kilP, List.set_cons_zero, List.set_cons_succ, List.getElem?_cons_zero, List.getElem?_cons_succ, List.nil_append, List.cons_append, Option.toList_some, Option.toList_none]
      rw [nI_1, show p - s + 1 = p + 1 - s by omega]
      exact ih (p + 1) M2 _ _ (hy1.ob eM) ((hF.up eM1 (by omega) (by omega)).up eM (by omega) (by omega)) (by omega) (by omega) (fun h => by rw [hw (by omega)])
end RTOK
