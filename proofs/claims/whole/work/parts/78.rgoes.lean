/-! The reference reads: from word to word -/
section RGOES
variable {ad : Nat → Nat} {b : Nat} {tp : Nat → Int32} {le : Nat} {A : Ar} {oa : Int32 × Int32 × Int32} {oq : Yq} {tw rd : Value}
def kR : Nat → Int32
  | 0 => 1
  | 1 => 2
  | 2 => 3
  | 3 => 4
  | _ => 0
theorem kR_1 : ∀ k, kR k = 1 ↔ k = 0
  | 0 => by decide
  | 1 => by decide
  | 2 => by decide
  | 3 => by decide
  | n + 4 => ⟨fun h => absurd (show (0 : Int32) = 1 from h) (by decide), fun h => absurd h (by omega)⟩
theorem kR_2 : ∀ k, kR k = 2 ↔ k = 1
  | 0 => by decide
  | 1 => by decide
  | 2 => by decide
  | 3 => by decide
  | n + 4 => ⟨fun h => absurd (show (0 : Int32) = 2 from h) (by decide), fun h => absurd h (by omega)⟩
theorem kR_3 : ∀ k, kR k = 3 ↔ k = 2
  | 0 => by decide
  | 1 => by decide
  | 2 => by decide
  | 3 => by decide
  | n + 4 => ⟨fun h => absurd (show (0 : Int32) = 3 from h) (by decide), fun h => absurd h (by omega)⟩
theorem kR_4 : ∀ k, kR k = 4 ↔ k = 3
  | 0 => by decide
  | 1 => by decide
  | 2 => by decide
  | 3 => by decide
  | n + 4 => ⟨fun h => absurd (show (0 : Int32) = 4 from h) (by decide), fun h => absurd h (by omega)⟩
theorem kR_5 : ∀ k, ¬ kR k = 5
  | 0 => by decide
  | 1 => by decide
  | 2 => by decide
  | 3 => by decide
  | n + 4 => fun h => absurd (show (0 : Int32) = 5 from h) (by decide)
def yLs (k : Tk) (r : Yr) : Prop := r.so = kR k.2.2.1 ∧ r.pl = nI k.1 ∧ (k.2.2.1 < 4 → r.sp = nI k.2.1) ∧ (k.2.2.1 = 1 → r.wo = k.2.2.2.1) ∧ (k.2.2.1 = 2 → r.nu = k.2.2.2.2) ∧ r.fa = 0
def yEr (e : Er) (r : Yr) : Prop := r.so = 5 ∧ r.fa = nI e.1 ∧ r.wa = nI e.2
def yOn (M0 : Mm) (b : Nat) (oa : Int32 × Int32 × Int32) (tw rd : Value) (oq : Yq) (A : Ar) (le : Nat) (k : Tk) (v' : Option Value) (M' : Mm) : Prop := v' = none ∧ Fr b 1 M0 M' ∧ ∃ r : Yr, aY M' b (oa, (tw, rd), r, oq) A ∧ r.ta = 0 ∧ r.sz = nI le ∧ yLs k r
theorem y_on2 {M0 M : Mm} {so pl nu wa : Int32} {wo : Int64} {s : Nat} (hA : tpR A tp) (hl : le ≤ 1100) (hy : aY M b (oa, (tw, rd), (0, nI le, nI s, so, pl, nu, 0, wa, wo), oq) A) (hF : Fr b 1 M0 M) (hs : s ≤ le) : Ev ad 1 (rX13_goesOn ad) (35, [some (.ref b), none, none], [], M) (yOn M0 b oa tw rd oq A le (tokS tp le s 0 0)) := by
  have h0 := hy.1
  repeat (first | refine es rfl rfl rfl ?_ | refine eg rfl (by assumption) rfl ?_ | refine eanE rfl (by assumption) (by with_reducible first | exact rfl | exact Int32.zero_add _ | exact ix8 _ | exact ix12 _ | exact ix7r _ _ | exact n7 | exact n0 | exact n1) (by assumption) rfl ?_ | refine eal rfl (by assumption) (by assumption) rfl ?_ | refine eri rfl ?_ | refine erv rfl ?_ | refine erl rfl ?_ | refine era rfl ?_ | refine erz0 rfl ?_ | refine erz1 rfl ?_)
  try dsimp only [set1, set2, kilP, List.set_cons_zero, List.set_cons_succ, List.getElem?_cons_zero, List.getElem?_cons_succ, List.nil_append, List.cons_append, Option.toList_some, Option.toList_none]
  refine epM (fs' := yF b (oa, (tw, rd), (0, nI le, nI s, so, nI s, nu, 0, wa, wo), oq)) rfl h0 rfl rfl rfl (fun M1 eM1 => ?_)
  replace hy := hy.ob eM1
  replace hF := hF.up eM1 (by omega) (by omega)
  have h1 := hy.1
  repeat (first | refine es rfl rfl rfl ?_ | refine eg rfl (by assumption) rfl ?_ | refine eanE rfl (by assumption) (by with_reducible first | exact rfl | exact Int32.zero_add _ | exact ix8 _ | exact ix12 _ | exact ix7r _ _ | exact n7 | exact n0 | exact n1) (by assumption) rfl ?_ | refine eal rfl (by assumption) (by assumption) rfl ?_ | refine eri rfl ?_ | refine erv rfl ?_ | refine erl rfl ?_ | refine era rfl ?_ | refine erz0 rfl ?_ | refine erz1 rfl ?_)
  try dsimp only [set1, set2, kilP, List.set_cons_zero, List.set_cons_succ, List.getElem?_cons_zero, List.getElem?_cons_succ, List.nil_append, List.cons_append, Option.toList_some, Option.toList_none]
  refine epM (fs' := yF b (oa, (tw, rd), (0, nI le, nI s, 0, nI s, nu, 0, wa, wo), oq)) rfl h1 rfl rfl rfl (fun M2 eM2 => ?_)
  replace hy := hy.ob eM2
  replace hF := hF.up eM2 (by omega) (by omega)
  have h2 := hy.1
  repeat (first | refine es rfl rfl rfl ?_ | refine eg rfl (by assumption) rfl ?_ | refine eanE rfl (by assumption) (by with_reducible first | exact rfl | exact Int32.zero_add _ | exact ix8 _ | exact ix12 _ | exact ix7r _ _ | exact n7 | exact n0 | exact n1) (by assumption) rfl ?_ | refine eal rfl (by assumption) (by assumption) rfl ?_ | refine eri rfl ?_ | refine erv rfl ?_ | refine erl rfl ?_ | refine era rfl ?_ | refine erz0 rfl ?_ | refine erz1 rfl ?_)
  try dsimp only [set1, set2, kilP, List.set_cons_zero, List.set_cons_succ, List.getElem?_cons_zero, List.getElem?_cons_succ, List.nil_append, List.cons_append, Option.toList_some, Option.toList_none]
  refine ecr rfl rfl (by assumption) rfl rfl rfl (y_byteAt hy hA hl (by omega)) (by first | rfl | exact Nat.blt_eq.mpr (by omega)) rfl ?_
  by_cases hs2 : s < le
  rotate_left
  · rw [btR_o hs2, show tokS tp le s 0 0 = (s, s, 0, 0, 0) by rw [tokS, if_pos (by omega)]]
    repeat (first | refine es rfl rfl rfl ?_ | refine eg rfl (by assumption) rfl ?_ | refine eanE rfl (by assumption) (by with_reducible first | exact rfl | exact Int32.zero_add _ | exact ix8 _ | exact ix12 _ | exact ix7r _ _ | exact n7 | exact n0 | exact n1) (by assumption) rfl ?_ | refine eal rfl (by assumption) (by assumption) rfl ?_ | refine eri rfl ?_ | refine erv rfl ?_ | refine erl rfl ?_ | refine era rfl ?_ | refine erz0 rfl ?_ | refine erz1 rfl ?_)
    try dsimp only [set1, set2, kilP, List.set_cons_zero, List.set_cons_succ, List.getElem?_cons_zero, List.getElem?_cons_succ, List.nil_append, List.cons_append, Option.toList_some, Option.toList_none]
    refine epM (fs' := yF b (oa, (tw, rd), (0, nI le, nI s, 1, nI s, nu, 0, wa, wo), oq)) rfl h2 rfl rfl rfl (fun M3 eM3 => ?_)
    repeat (first | refine es rfl rfl rfl ?_ | refine eg rfl (by assumption) rfl ?_ | refine eanE rfl (by assumption) (by with_reducible first | exact rfl | exact Int32.zero_add _ | exact ix8 _ | exact ix12 _ | exact ix7r _ _ | exact n7 | exact n0 | exact n1) (by assumption) rfl ?_ | refine eal rfl (by assumption) (by assumption) rfl ?_ | refine eri rfl ?_ | refine erv rfl ?_ | refine erl rfl ?_ | refine era rfl ?_ | refine erz0 rfl ?_ | refine erz1 rfl ?_)
    try dsimp only [set1, set2, kilP, List.set_cons_zero, List.set_cons_succ, List.getElem?_cons_zero, List.getElem?_cons_succ, List.nil_append, List.cons_append, Option.toList_some, Option.toList_none]
    exact ⟨rfl, hF.up eM3 (by omega) (by omega), _, hy.ob eM3, rfl, rfl, rfl, rfl, fun _ => rfl, fun h => absurd (show (0 : Nat) = 1 from h) (by decide), fun h => absurd (show (0 : Nat) = 2 from h) (by decide), rfl⟩
  rw [btR_i hs2]
  repeat (first | refine es rfl rfl rfl ?_ | refine eg rfl (by assumption) rfl ?_ | refine eanE rfl (by assumption) (by with_reducible first | exact rfl | exact Int32.zero_add _ | exact ix8 _ | exact ix12 _ | exact ix7r _ _ | exact n7 | exact n0 | exact n1) (by assumption) rfl ?_ | refine eal rfl (by assumption) (by assumption) rfl ?_ | refine eri rfl ?_ | refine erv rfl ?_ | refine erl rfl ?_ | refine era rfl ?_ | refine erz0 rfl ?_ | refine erz1 rfl ?_)
  try dsimp only [set1, set2, kilP, List.set_cons_zero, List.set_cons_succ, List.getElem?_cons_zero, List.getElem?_cons_succ, List.nil_append, List.cons_append, Option.toList_some, Option.toList_none]
  refine ei _ rfl rfl (fun c => ?_) (fun c => ?_)
  rotate_left
  · exact absurd (Decidable.not_not.mp c) (hA.ne hl hs2)
  repeat (first | refine es rfl rfl rfl ?_ | refine eg rfl (by assumption) rfl ?_ | refine eanE rfl (by assumption) (by with_reducible first | exact rfl | exact Int32.zero_add _ | exact ix8 _ | exact ix12 _ | exact ix7r _ _ | exact n7 | exact n0 | exact n1) (by assumption) rfl ?_ | refine eal rfl (by assumption) (by assumption) rfl ?_ | refine eri rfl ?_ | refine erv rfl ?_ | refine erl rfl ?_ | refine era rfl ?_ | refine erz0 rfl ?_ | refine erz1 rfl ?_)
  try dsimp only [set1, set2, kilP, List.set_cons_zero, List.set_cons_succ, List.getElem?_cons_zero, List.getElem?_cons_succ, List.nil_append, List.cons_append, Option.toList_some, Option.toList_none]
  refine ecsr rfl rfl rfl rfl rfl rfl (y_isL) (by first | rfl | exact Nat.blt_eq.mpr (by omega)) rfl ?_
  by_cases hL : isL (tp s)
  · rw [show bI (isL (tp s)) = 1 from if_pos hL, show tokS tp le s 0 0 = (s, (wdF tp (le - s) s 0).1, (if (wdF tp (le - s) s 0).1 - s ≤ 8 then 1 else 4), (wdF tp (le - s) s 0).2, 0) by rw [tokS, if_neg (by omega), if_pos hL]]
    repeat (first | refine es rfl rfl rfl ?_ | refine eg rfl (by assumption) rfl ?_ | refine eanE rfl (by assumption) (by with_reducible first | exact rfl | exact Int32.zero_add _ | exact ix8 _ | exact ix12 _ | exact ix7r _ _ | exact n7 | exact n0 | exact n1) (by assumption) rfl ?_ | refine eal rfl (by assumption) (by assumption) rfl ?_ | refine eri rfl ?_ | refine erv rfl ?_ | refine erl rfl ?_ | refine era rfl ?_ | refine erz0 rfl ?_ | refine erz1 rfl ?_)
    try dsimp only [set1, set2, kilP, List.set_cons_zero, List.set_cons_succ, List.getElem?_cons_zero, List.getElem?_cons_succ, List.nil_append, List.cons_append, Option.toList_some, Option.toList_none]
    refine epM (fs' := yF b (oa, (tw, rd), (0, nI le, nI s, 0, nI s, nu, 0, wa, 0), oq)) rfl h2 rfl rfl rfl (fun M3 eM3 => ?_)
    repeat (refine ng 84 rfl ?_; first | refine es rfl rfl rfl ?_ | refine eg rfl (by assumption) rfl ?_ | refine eanE rfl (by assumption) (by with_reducible first | exact rfl | exact Int32.zero_add _ | exact ix8 _ | exact ix12 _ | exact ix7r _ _ | exact n7 | exact n0 | exact n1) (by assumption) rfl ?_ | refine eal rfl (by assumption) (by assumption) rfl ?_ | refine eri rfl ?_ | refine erv rfl ?_ | refine erl rfl ?_ | refine era rfl ?_ | refine erz0 rfl ?_ | refine erz1 rfl ?_)
    try dsimp only [set1, set2, kilP, List.set_cons_zero, List.set_cons_succ, List.getElem?_cons_zero, List.getElem?_cons_succ, List.nil_append, List.cons_append, Option.toList_some, Option.toList_none]
    have hh := y_on_w (ad := ad) (x := tp s) (s := s) hA hl (le - s) s M3 0 0 (hy.ob eM3) (hF.up eM3 (by omega) (by omega)) (by omega) (by omega) (fun _ => rfl)
    rw [Nat.sub_self] at hh
    refine hh.im (fun v M' ⟨e, hF', wo', hy', hw⟩ => ⟨e, hF', _, hy', rfl, rfl, ?_, rfl, fun _ => rfl, fun h => ?_, fun h => ?_, rfl⟩)
    · dsimp only
      split <;> rfl
    · refine hw (Decidable.byContradiction fun hn => ?_)
      dsimp only at h
      rw [if_neg hn] at h
      exact absurd h (by decide)
    · dsimp only at h
      split at h <;> exact absurd h (by decide)
  rw [show bI (isL (tp s)) = 0 from if_neg hL]
  repeat (first | refine es rfl rfl rfl ?_ | refine eg rfl (by assumption) rfl ?_ | refine eanE rfl (by assumption) (by with_reducible first | exact rfl | exact Int32.zero_add _ | exact ix8 _ | exact ix12 _ | exact ix7r _ _ | exact n7 | exact n0 | exact n1) (by assumption) rfl ?_ | refine eal rfl (by assumption) (by assumption) rfl ?_ | refine eri rfl ?_ | refine erv rfl ?_ | refine erl rfl ?_ | refine era rfl ?_ | refine erz0 rfl ?_ | refine erz1 rfl ?_)
  try dsimp only [set1, set2, kilP, List.set_cons_zero, List.set_cons_succ, List.getElem?_cons_zero, List.getElem?_cons_succ, List.nil_append, List.cons_append, Option.toList_some, Option.toList_none]
  refine ecsr rfl rfl rfl rfl rfl rfl (y_isD) (by first | rfl | exact Nat.blt_eq.mpr (by omega)) rfl ?_
  by_cases hD : isD (tp s)
  · rw [show bI (isD (tp s)) = 1 from if_pos hD, show tokS tp le s 0 0 = (s, (whF tp (le - s) s 0).1, (if (whF tp (le - s) s 0).1 - s ≤ 3 then 2 else 4), 0, (whF tp (le - s) s 0).2) by rw [tokS, if_neg (by omega), if_neg hL, if_pos hD]]
    repeat (first | refine es rfl rfl rfl ?_ | refine eg rfl (by assumption) rfl ?_ | refine eanE rfl (by assumption) (by with_reducible first | exact rfl | exact Int32.zero_add _ | exact ix8 _ | exact ix12 _ | exact ix7r _ _ | exact n7 | exact n0 | exact n1) (by assumption) rfl ?_ | refine eal rfl (by assumption) (by assumption) rfl ?_ | refine eri rfl ?_ | refine erv rfl ?_ | refine erl rfl ?_ | refine era rfl ?_ | refine erz0 rfl ?_ | refine erz1 rfl ?_)
    try dsimp only [set1, set2, kilP, List.set_cons_zero, List.set_cons_succ, List.getElem?_cons_zero, List.getElem?_cons_succ, List.nil_append, List.cons_append, Option.toList_some, Option.toList_none]
    refine epM (fs' := yF b (oa, (tw, rd), (0, nI le, nI s, 0, nI s, 0, 0, wa, wo), oq)) rfl h2 rfl rfl rfl (fun M3 eM3 => ?_)
    repeat (refine ng 173 rfl ?_; first | refine es rfl rfl rfl ?_ | refine eg rfl (by assumption) rfl ?_ | refine eanE rfl (by assumption) (by with_reducible first | exact rfl | exact Int32.zero_add _ | exact ix8 _ | exact ix12 _ | exact ix7r _ _ | exact n7 | exact n0 | exact n1) (by assumption) rfl ?_ | refine eal rfl (by assumption) (by assumption) rfl ?_ | refine eri rfl ?_ | refine erv rfl ?_ | refine erl rfl ?_ | refine era rfl ?_ | refine erz0 rfl ?_ | refine erz1 rfl ?_)
    try dsimp only [set1, set2, kilP, List.set_cons_zero, List.set_cons_succ, List.getElem?_cons_zero, List.getElem?_cons_succ, List.nil_append, List.cons_append, Option.toList_some, Option.toList_none]
    have hh := y_on_d (ad := ad) (x := tp s) (s := s) hA hl (le - s) s M3 0 0 (hy.ob eM3) (hF.up eM3 (by omega) (by omega)) (by omega) (by omega) (fun _ => rfl)
    rw [Nat.sub_self] at hh
    refine hh.im (fun v M' ⟨e, hF', wo', hy', hw⟩ => ⟨e, hF', _, hy', rfl, rfl, ?_, rfl, fun _ => rfl, fun h => ?_, fun h => ?_, rfl⟩)
    · dsimp only
      split <;> rfl
    · dsimp only at h
      split at h <;> exact absurd h (by decide)
    · refine hw (Decidable.byContradiction fun hn => ?_)
      dsimp only at h
      rw [if_neg hn] at h
      exact absurd h (by decide)
  rw [show bI (isD (tp s)) = 0 from if_neg hD, show tokS tp le s 0 0 = (s, s + 1, (if tp s = 59 then 3 else 4), 0, 0) by rw [tokS, if_neg (by omega), if_neg hL, if_neg hD]]
  repeat (first | refine es rfl rfl rfl ?_ | refine eg rfl (by assumption) rfl ?_ | refine eanE rfl (by assumption) (by with_reducible first | exact rfl | exact Int32.zero_add _ | exact ix8 _ | exact ix12 _ | exact ix7r _ _ | exact n7 | exact n0 | exact n1) (by assumption) rfl ?_ | refine eal rfl (by assumption) (by assumption) rfl ?_ | refine eri rfl ?_ | refine erv rfl ?_ | refine erl rfl ?_ | refine era rfl ?_ | refine erz0 rfl ?_ | refine erz1 rfl ?_)
  try dsimp only [set1, set2, kilP, List.set_cons_zero, List.set_cons_succ, List.getElem?_cons_zero, List.getElem?_cons_succ, List.nil_append, List.cons_append, Option.toList_some, Option.toList_none]
  refine ei _ rfl rfl (fun c2 => ?_) (fun c2 => ?_)
  · rw [if_neg c2]
    repeat (first | refine es rfl rfl rfl ?_ | refine eg rfl (by assumption) rfl ?_ | refine eanE rfl (by assumption) (by with_reducible first | exact rfl | exact Int32.zero_add _ | exact ix8 _ | exact ix12 _ | exact ix7r _ _ | exact n7 | exact n0 | exact n1) (by assumption) rfl ?_ | refine eal rfl (by assumption) (by assumption) rfl ?_ | refine eri rfl ?_ | refine erv rfl ?_ | refine erl rfl ?_ | refine era rfl ?_ | refine erz0 rfl ?_ | refine erz1 rfl ?_)
    try dsimp only [set1, set2, kilP, List.set_cons_zero, List.set_cons_succ, List.getElem?_cons_zero, List.getElem?_cons_succ, List.nil_append, List.cons_append, Option.toList_some, Option.toList_none]
    exact ⟨rfl, hF, _, hy, rfl, rfl, rfl, rfl, fun h => absurd (show (4 : Nat) < 4 from h) (by decide), fun h => absurd (show (4 : Nat) = 1 from h) (by decide), fun h => absurd (show (4 : Nat) = 2 from h) (by decide), rfl⟩
  · rw [if_pos (Decidable.not_not.mp c2)]
    repeat (first | refine es rfl rfl rfl ?_ | refine eg rfl (by assumption) rfl ?_ | refine eanE rfl (by assumption) (by with_reducible first | exact rfl | exact Int32.zero_add _ | exact ix8 _ | exact ix12 _ | exact ix7r _ _ | exact n7 | exact n0 | exact n1) (by assumption) rfl ?_ | refine eal rfl (by assumption) (by assumption) rfl ?_ | refine eri rfl ?_ | refine erv rfl ?_ | refine erl rfl ?_ | refine era rfl ?_ | refine erz0 rfl ?_ | refine erz1 rfl ?_)
    try dsimp only [set1, set2, kilP, List.set_cons_zero, List.set_cons_succ, List.getElem?_cons_zero, List.getElem?_cons_succ, List.nil_append, List.cons_append, Option.toList_some, Option.toList_none]
    refine epM (fs' := yF b (oa, (tw, rd), (0, nI le, nI s, 4, nI s, nu, 0, wa, wo), oq)) rfl h2 rfl rfl rfl (fun M3 eM3 => ?_)
    replace hy := hy.ob eM3
    replace hF := hF.up eM3 (by omega) (by omega)
    have h3 := hy.1
    repeat (first | refine es rfl rfl rfl ?_ | refine eg rfl (by assumption) rfl ?_ | refine eanE rfl (by assumption) (by with_reducible first | exact rfl | exact Int32.zero_add _ | exact ix8 _ | exact ix12 _ | exact ix7r _ _ | exact n7 | exact n0 | exact n1) (by assumption) rfl ?_ | refine eal rfl (by assumption) (by assumption) rfl ?_ | refine eri rfl ?_ | refine erv rfl ?_ | refine erl rfl ?_ | refine era rfl ?_ | refine erz0 rfl ?_ | refine erz1 rfl ?_)
    try dsimp only [set1, set2, kilP, List.set_cons_zero, List.set_cons_succ, List.getElem?_cons_zero, List.getElem?_cons_succ, List.nil_append, List.cons_append, Option.toList_some, Option.toList_none]
    refine epM (fs' := yF b (oa, (tw, rd), (0, nI le, nI (s + 1), 4, nI s, nu, 0, wa, wo), oq)) rfl h3 rfl rfl (by rw [← nI_1]; rfl) (fun M4 eM4 => ?_)
    repeat (first | refine es rfl rfl rfl ?_ | refine eg rfl (by assumption) rfl ?_ | refine eanE rfl (by assumption) (by with_reducible first | exact rfl | exact Int32.zero_add _ | exact ix8 _ | exact ix12 _ | exact ix7r _ _ | exact n7 | exact n0 | exact n1) (by assumption) rfl ?_ | refine eal rfl (by assumption) (by assumption) rfl ?_ | refine eri rfl ?_ | refine erv rfl ?_ | refine erl rfl ?_ | refine era rfl ?_ | refine erz0 rfl ?_ | refine erz1 rfl ?_)
    try dsimp only [set1, set2, kilP, List.set_cons_zero, List.set_cons_succ, List.getElem?_cons_zero, List.getElem?_cons_succ, List.nil_append, List.cons_append, Option.toList_some, Option.toList_none]
    exact ⟨rfl, hF.up eM4 (by omega) (by omega), _, hy.ob eM4, rfl, rfl, rfl, rfl, fun _ => rfl, fun h => absurd (show (3 : Nat) = 1 from h) (by decide), fun h => absurd (show (3 : Nat) = 2 from h) (by decide), rfl⟩
theorem y_on1 {M0 : Mm} {so pl nu wa : Int32} {wo : Int64} (hA : tpR A tp) (hl : le ≤ 1100) : ∀ (n s : Nat) (M : Mm), aY M b (oa, (tw, rd), (0, nI le, nI s, so, pl, nu, 0, wa, wo), oq) A → Fr b 1 M0 M → s + n = le → Ev ad 1 (rX13_goesOn ad) (9, [some (.ref b), none, none], [], M) (yOn M0 b oa tw rd oq A le (tokS tp le (spF tp n s) 0 0)) := by
  intro n
  induction n with
  | zero =>
    intro s M hy hF hn
    have h0 := hy.1
    repeat (first | refine es rfl rfl rfl ?_ | refine eg rfl (by assumption) rfl ?_ | refine eanE rfl (by assumption) (by with_reducible first | exact rfl | exact Int32.zero_add _ | exact ix8 _ | exact ix12 _ | exact ix7r _ _ | exact n7 | exact n0 | exact n1) (by assumption) rfl ?_ | refine eal rfl (by assumption) (by assumption) rfl ?_ | refine eri rfl ?_ | refine erv rfl ?_ | refine erl rfl ?_ | refine era rfl ?_ | refine erz0 rfl ?_ | refine erz1 rfl ?_)
    try dsimp only [set1, set2, kilP, List.set_cons_zero, List.set_cons_succ, List.getElem?_cons_zero, List.getElem?_cons_succ, List.nil_append, List.cons_append, Option.toList_some, Option.toList_none]
    refine ecr rfl rfl (by assumption) rfl rfl rfl (y_byteAt hy hA hl (by omega)) (by first | rfl | exact Nat.blt_eq.mpr (by omega)) rfl ?_
    rw [btR_o (by omega)]
    repeat (refine ng 35 rfl ?_; first | refine es rfl rfl rfl ?_ | refine eg rfl (by assumption) rfl ?_ | refine eanE rfl (by assumption) (by with_reducible first | exact rfl | exact Int32.zero_add _ | exact ix8 _ | exact ix12 _ | exact ix7r _ _ | exact n7 | exact n0 | exact n1) (by assumption) rfl ?_ | refine eal rfl (by assumption) (by assumption) rfl ?_ | refine eri rfl ?_ | refine erv rfl ?_ | refine erl rfl ?_ | refine era rfl ?_ | refine erz0 rfl ?_ | refine erz1 rfl ?_)
    try dsimp only [set1, set2, kilP, List.set_cons_zero, List.set_cons_succ, List.getElem?_cons_zero, List.getElem?_cons_succ, List.nil_append, List.cons_append, Option.toList_some, Option.toList_none]
    rw [show spF tp 0 s = s from rfl]
    exact y_on2 hA hl hy hF (by omega)
  | succ n ih =>
    intro s M hy hF hn
    have h0 := hy.1
    repeat (first | refine es rfl rfl rfl ?_ | refine eg rfl (by assumption) rfl ?_ | refine eanE rfl (by assumption) (by with_reducible first | exact rfl | exact Int32.zero_add _ | exact ix8 _ | exact ix12 _ | exact ix7r _ _ | exact n7 | exact n0 | exact n1) (by assumption) rfl ?_ | refine eal rfl (by assumption) (by assumption) rfl ?_ | refine eri rfl ?_ | refine erv rfl ?_ | refine erl rfl ?_ | refine era rfl ?_ | refine erz0 rfl ?_ | refine erz1 rfl ?_)
    try dsimp only [set1, set2, kilP, List.set_cons_zero, List.set_cons_succ, List.getElem?_cons_zero, List.getElem?_cons_succ, List.nil_append, List.cons_append, Option.toList_some, Option.toList_none]
    refine ecr rfl rfl (by assumption) rfl rfl rfl (y_byteAt hy hA hl (by omega)) (by first | rfl | exact Nat.blt_eq.mpr (by omega)) rfl ?_
    rw [btR_i (by omega)]
    repeat (first | refine es rfl rfl rfl ?_ | refine eg rfl (by assumption) rfl ?_ | refine eanE rfl (by assumption) (by with_reducible first | exact rfl | exact Int32.zero_add _ | exact ix8 _ | exact ix12 _ | exact ix7r _ _ | exact n7 | exact n0 | exact n1) (by assumption) rfl ?_ | refine eal rfl (by assumption) (by assumption) rfl ?_ | refine eri rfl ?_ | refine erv rfl ?_ | refine erl rfl ?_ | refine era rfl ?_ | refine erz0 rfl ?_ | refine erz1 rfl ?_)
    try dsimp only [set1, set2, kilP, List.set_cons_zero, List.set_cons_succ, List.getElem?_cons_zero, List.getElem?_cons_succ, List.nil_append, List.cons_append, Option.toList_some, Option.toList_none]
    refine ei _ rfl rfl (fun c => ?_) (fun c => ?_)
    · rw [show spF tp (n + 1) s = s by rw [spF, if_neg c]]
      exact y_on2 hA hl hy hF (by omega)
    · rw [show spF tp (n + 1) s = spF tp n (s + 1) by rw [spF, if_pos (Decidable.not_not.mp c)]]
      repeat (first | refine es rfl rfl rfl ?_ | refine eg rfl (by assumption) rfl ?_ | refine eanE rfl (by assumption) (by with_reducible first | exact rfl | exact Int32.zero_add _ | exact ix8 _ | exact ix12 _ | exact ix7r _ _ | exact n7 | exact n0 | exact n1) (by assumption) rfl ?_ | refine eal rfl (by assumption) (by assumption) rfl ?_ | refine eri rfl ?_ | refine erv rfl ?_ | refine erl rfl ?_ | refine era rfl ?_ | refine erz0 rfl ?_ | refine erz1 rfl ?_)
      try dsimp only [set1, set2, kilP, List.set_cons_zero, List.set_cons_succ, List.getElem?_cons_zero, List.getElem?_cons_succ, List.nil_append, List.cons_append, Option.toList_some, Option.toList_none]
      refine epM (fs' := yF b (oa, (tw, rd), (0, nI le, nI (s + 1), so, pl, nu, 0, wa, wo), oq)) rfl h0 rfl rfl (by rw [← nI_1]; rfl) (fun M2 eM => ?_)
      repeat (refine ng 9 rfl ?_; first | refine es rfl rfl rfl ?_ | refine eg rfl (by assumption) rfl ?_ | refine eanE rfl (by assumption) (by with_reducible first | exact rfl | exact Int32.zero_add _ | exact ix8 _ | exact ix12 _ | exact ix7r _ _ | exact n7 | exact n0 | exact n1) (by assumption) rfl ?_ | refine eal rfl (by assumption) (by assumption) rfl ?_ | refine eri rfl ?_ | refine erv rfl ?_ | refine erl rfl ?_ | refine era rfl ?_ | refine erz0 rfl ?_ | refine erz1 rfl ?_)
      try dsimp only [set1, set2, kilP, List.set_cons_zero, List.set_cons_succ, List.getElem?_cons_zero, List.getElem?_cons_succ, List.nil_append, List.cons_append, Option.toList_some, Option.toList_none]
      exact ih (s + 1) M2 (hy.ob eM) (hF.up eM (by omega) (by omega)) (by omega)
theorem tk_le {p : Nat} (h : p ≤ le) : (tk tp le p).2.1 ≤ le := (tok_at tp (0, 0, 0, le, p, 0, 0, 0, 0, 0) h).2
/-- the word ahead is the one at p, or a flaw was found -/
def yPs (tp : Nat → Int32) (le : Nat) : Except Er Nat → Yr → Prop
  | .ok p, r => p ≤ le ∧ yLs (tk tp le p) r
  | .error e, r => yEr e r
def yNs (le : Nat) : Except Er Nat → Yr → Prop
  | .ok p, r => p ≤ le ∧ ¬ r.so = 5 ∧ r.sp = nI p ∧ r.fa = 0
  | .error e, r => yEr e r
def yP (M : Mm) (b : Nat) (oa : Int32 × Int32 × Int32) (tw rd : Value) (oq : Yq) (A : Ar) (tp : Nat → Int32) (le : Nat) (s : Except Er Nat) : Prop := ∃ r : Yr, aY M b (oa, (tw, rd), r, oq) A ∧ r.ta = 0 ∧ r.sz = nI le ∧ yPs tp le s r
def yN (M : Mm) (b : Nat) (oa : Int32 × Int32 × Int32) (tw rd : Value) (oq : Yq) (A : Ar) (le : Nat) (s : Except Er Nat) : Prop := ∃ r : Yr, aY M b (oa, (tw, rd), r, oq) A ∧ r.ta = 0 ∧ r.sz = nI le ∧ yNs le s r
theorem yP.er {M : Mm} {e : Er} (h : yP M b oa tw rd oq A tp le (.error e)) : yN M b oa tw rd oq A le (.error e) := h
theorem yP.nx {M : Mm} {p : Nat} (h : yP M b oa tw rd oq A tp le (.ok p)) (hk : (tk tp le p).2.2.1 < 4) : yN M b oa tw rd oq A le (.ok (tk tp le p).2.1) := by
  obtain ⟨r, hy, e1, e2, hp, q1, q2, q3, q4, q5, q6⟩ := h
  exact ⟨r, hy, e1, e2, tk_le hp, by rw [q1]; exact kR_5 _, q3 hk, q6⟩
theorem y_goesOn {M : Mm} {s : Except Er Nat} (hA : tpR A tp) (hl : le ≤ 1100) (h : yN M b oa tw rd oq A le s) : EvM ad 1 (iX13_goesOn ad) [.ref b] M (fun v' M' => v' = none ∧ Fr b 1 M M' ∧ yP M' b oa tw rd oq A tp le s) := by
  obtain ⟨⟨ta, sz, sp, so, pl, nu, fa, wa, wo⟩, hy, e1, e2, hs⟩ := h
  replace e1 : ta = 0 := e1
  replace e2 : sz = nI le := e2
  subst e1 e2
  have h0 := hy.1
  refine ⟨Nat.le_of_ble_eq_true rfl, ?_⟩
  show Ev ad _ (rX13_goesOn ad) (0, [some (.ref b), none, none], [], M) _
  match s, hs with
  | .error e, hs =>
    obtain ⟨q1, q2, q3⟩ := id hs
    replace q1 : so = 5 := q1
    subst q1
    repeat (first | refine es rfl rfl rfl ?_ | refine eg rfl (by assumption) rfl ?_ | refine eanE rfl (by assumption) (by with_reducible first | exact rfl | exact Int32.zero_add _ | exact ix8 _ | exact ix12 _ | exact ix7r _ _ | exact n7 | exact n0 | exact n1) (by assumption) rfl ?_ | refine eal rfl (by assumption) (by assumption) rfl ?_ | refine eri rfl ?_ | refine erv rfl ?_ | refine erl rfl ?_ | refine era rfl ?_ | refine erz0 rfl ?_ | refine erz1 rfl ?_)
    try dsimp only [set1, set2, kilP, List.set_cons_zero, List.set_cons_succ, List.getElem?_cons_zero, List.getElem?_cons_succ, List.nil_append, List.cons_append, Option.toList_some, Option.toList_none]
    exact ⟨rfl, Fr.rf b 1 M, _, hy, rfl, rfl, hs⟩
  | .ok p, hs =>
    obtain ⟨q1, q2, q3, q4⟩ := hs
    replace q2 : ¬ so = 5 := q2
    replace q3 : sp = nI p := q3
    replace q4 : fa = 0 := q4
    subst q3 q4
    repeat (first | refine es rfl rfl rfl ?_ | refine eg rfl (by assumption) rfl ?_ | refine eanE rfl (by assumption) (by with_reducible first | exact rfl | exact Int32.zero_add _ | exact ix8 _ | exact ix12 _ | exact ix7r _ _ | exact n7 | exact n0 | exact n1) (by assumption) rfl ?_ | refine eal rfl (by assumption) (by assumption) rfl ?_ | refine eri rfl ?_ | refine erv rfl ?_ | refine erl rfl ?_ | refine era rfl ?_ | refine erz0 rfl ?_ | refine erz1 rfl ?_)
    try dsimp only [set1, set2, kilP, List.set_cons_zero, List.set_cons_succ, List.getElem?_cons_zero, List.getElem?_cons_succ, List.nil_append, List.cons_append, Option.toList_some, Option.toList_none]
    refine ei _ rfl rfl (fun c => ?_) (fun c => ?_)
    rotate_left
    · exact absurd (Decidable.not_not.mp c) q2
    refine (y_on1 hA hl (le - p) p M hy (Fr.rf b 1 M) (by omega)).im (fun v M' ⟨e, hF, r, hy', r1, r2, hr⟩ => ⟨e, hF, r, hy', r1, r2, q1, hr⟩)
end RGOES
