/-! Reader: words that are due, wholes, names, houses; as parts of a reader with errors -/
theorem e5_any {ad : Nat → Nat} {M : Mm} {b t : Nat} {tp : Nat → Int32} {sc : Nat → Int64} {q : Rq} (hb : aRq M b t tp sc q) (hl : q.le ≤ 1100) (ha : q.at ≤ q.le) : EvM ad 3 (iX5_anyWord ad) [.ref b] M (fun v' M' => v' = some (.int (bI ((advF tp q).kd = 1))) ∧ aRq M' b t tp sc (if (advF tp q).kd = 1 then advF tp q else failF 1 (advF tp q)) ∧ Fr b 1 M M') := by
  have h0' := hb.1
  unfold aR0 at h0'
  refine ⟨Nat.le_of_ble_eq_true rfl, ?_⟩
  show Ev ad _ (rX5_anyWord ad) (0, [some (.ref b)], [], M) _
  repeat (first | refine es rfl rfl rfl ?_ | refine eg rfl (by assumption) rfl ?_ | refine ean rfl (by assumption) (by assumption) rfl ?_ | refine eal rfl (by assumption) (by assumption) rfl ?_ | refine eri rfl ?_ | refine erv rfl ?_ | refine erl rfl ?_ | refine era rfl ?_ | refine erz0 rfl ?_ | refine erz1 rfl ?_)
  try dsimp only [set1, set2, kilP, List.set_cons_zero, List.set_cons_succ, List.getElem?_cons_zero, List.getElem?_cons_succ, List.nil_append, List.cons_append, Option.toList_some, Option.toList_none]
  refine ecv rfl rfl (by assumption) rfl rfl rfl (e5_advance hb hl ha) (by first | rfl | exact Nat.blt_eq.mpr (by omega)) ?_
  rintro v M2 ⟨rfl, hb2, hF⟩
  have h0 := hb2.1
  unfold aR0 at h0
  try dsimp only [set1, set2, kilP, List.set_cons_zero, List.set_cons_succ, List.getElem?_cons_zero, List.getElem?_cons_succ, List.nil_append, List.cons_append, Option.toList_some, Option.toList_none]
  repeat (first | refine es rfl rfl rfl ?_ | refine eg rfl (by assumption) rfl ?_ | refine ean rfl (by assumption) (by assumption) rfl ?_ | refine eal rfl (by assumption) (by assumption) rfl ?_ | refine eri rfl ?_ | refine erv rfl ?_ | refine erl rfl ?_ | refine era rfl ?_ | refine erz0 rfl ?_ | refine erz1 rfl ?_)
  try dsimp only [set1, set2, kilP, List.set_cons_zero, List.set_cons_succ, List.getElem?_cons_zero, List.getElem?_cons_succ, List.nil_append, List.cons_append, Option.toList_some, Option.toList_none]
  by_cases hk : (advF tp q).kd = 1
  · rw [if_pos hk, show bI ((advF tp q).kd = 1) = 1 from if_pos hk]
    refine ei _ rfl rfl (fun c => ?_) (fun c => ?_)
    · repeat (first | refine es rfl rfl rfl ?_ | refine eg rfl (by assumption) rfl ?_ | refine ean rfl (by assumption) (by assumption) rfl ?_ | refine eal rfl (by assumption) (by assumption) rfl ?_ | refine eri rfl ?_ | refine erv rfl ?_ | refine erl rfl ?_ | refine era rfl ?_ | refine erz0 rfl ?_ | refine erz1 rfl ?_)
      try dsimp only [set1, set2, kilP, List.set_cons_zero, List.set_cons_succ, List.getElem?_cons_zero, List.getElem?_cons_succ, List.nil_append, List.cons_append, Option.toList_some, Option.toList_none]
      exact ⟨rfl, hb2, hF⟩
    · exact absurd (by rw [hk]; rfl) c
  · rw [if_neg hk, show bI ((advF tp q).kd = 1) = 0 from if_neg hk]
    refine ei _ rfl rfl (fun c => ?_) (fun c => ?_)
    · exact absurd (nI_inj (b := 1) (by have := tok_kd tp q; omega) (by omega) c) hk
    · repeat (first | refine es rfl rfl rfl ?_ | refine eg rfl (by assumption) rfl ?_ | refine ean rfl (by assumption) (by assumption) rfl ?_ | refine eal rfl (by assumption) (by assumption) rfl ?_ | refine eri rfl ?_ | refine erv rfl ?_ | refine erl rfl ?_ | refine era rfl ?_ | refine erz0 rfl ?_ | refine erz1 rfl ?_)
      try dsimp only [set1, set2, kilP, List.set_cons_zero, List.set_cons_succ, List.getElem?_cons_zero, List.getElem?_cons_succ, List.nil_append, List.cons_append, Option.toList_some, Option.toList_none]
      refine ecv rfl rfl (by assumption) rfl rfl rfl (e5_fail hb2) (by first | rfl | exact Nat.blt_eq.mpr (by omega)) ?_
      rintro v M3 ⟨rfl, hb3, hF3⟩
      try dsimp only [set1, set2, kilP, List.set_cons_zero, List.set_cons_succ, List.getElem?_cons_zero, List.getElem?_cons_succ, List.nil_append, List.cons_append, Option.toList_some, Option.toList_none]
      repeat (first | refine es rfl rfl rfl ?_ | refine eg rfl (by assumption) rfl ?_ | refine ean rfl (by assumption) (by assumption) rfl ?_ | refine eal rfl (by assumption) (by assumption) rfl ?_ | refine eri rfl ?_ | refine erv rfl ?_ | refine erl rfl ?_ | refine era rfl ?_ | refine erz0 rfl ?_ | refine erz1 rfl ?_)
      try dsimp only [set1, set2, kilP, List.set_cons_zero, List.set_cons_succ, List.getElem?_cons_zero, List.getElem?_cons_succ, List.nil_append, List.cons_append, Option.toList_some, Option.toList_none]
      exact ⟨rfl, hb3, hF.tr hF3 (by omega) (by omega)⟩
abbrev thsP (tp : Nat → Int32) (q : Rq) (i : Nat) : Prop := (advF tp q).kd = 1 ∧ (advF tp q).wd = sC i
theorem e5_this {ad : Nat → Nat} {M : Mm} {b t lo i : Nat} {tp : Nat → Int32} {sc : Nat → Int64} {q : Rq} (hb : aRq M b t tp sc q) (hl : q.le ≤ 1100) (ha : q.at ≤ q.le) (hS : aSt ad lo M) (hlo : lo ≤ b) (hi : i < 20) : EvM ad 3 (iX5_thisWord ad) [.ref b, .ref (ad i)] M (fun v' M' => v' = some (.int (bI (thsP tp q i))) ∧ aRq M' b t tp sc (if thsP tp q i then advF tp q else failF 1 (advF tp q)) ∧ Fr b 1 M M') := by
  have h0' := hb.1
  unfold aR0 at h0'
  refine ⟨Nat.le_of_ble_eq_true rfl, ?_⟩
  show Ev ad _ (rX5_thisWord ad) (0, [some (.ref b), some (.ref (ad i))], [], M) _
  repeat (first | refine es rfl rfl rfl ?_ | refine eg rfl (by assumption) rfl ?_ | refine ean rfl (by assumption) (by assumption) rfl ?_ | refine eal rfl (by assumption) (by assumption) rfl ?_ | refine eri rfl ?_ | refine erv rfl ?_ | refine erl rfl ?_ | refine era rfl ?_ | refine erz0 rfl ?_ | refine erz1 rfl ?_)
  try dsimp only [set1, set2, kilP, List.set_cons_zero, List.set_cons_succ, List.getElem?_cons_zero, List.getElem?_cons_succ, List.nil_append, List.cons_append, Option.toList_some, Option.toList_none]
  refine ecv rfl rfl (by assumption) rfl rfl rfl (e5_advance hb hl ha) (by first | rfl | exact Nat.blt_eq.mpr (by omega)) ?_
  rintro v M2 ⟨rfl, hb2, hF⟩
  have h0 := hb2.1
  unfold aR0 at h0
  have hS2 := hS.fr hF hlo
  have key : ¬ thsP tp q i → Ev ad 3 (rX5_thisWord ad) (24, [some (.ref b), some (.ref (ad i))], [], M2) (fun v' M' => v' = some (.int 0) ∧ aRq M' b t tp sc (failF 1 (advF tp q)) ∧ Fr b 1 M M') := fun hn => by
    repeat (first | refine es rfl rfl rfl ?_ | refine eg rfl (by assumption) rfl ?_ | refine ean rfl (by assumption) (by assumption) rfl ?_ | refine eal rfl (by assumption) (by assumption) rfl ?_ | refine eri rfl ?_ | refine erv rfl ?_ | refine erl rfl ?_ | refine era rfl ?_ | refine erz0 rfl ?_ | refine erz1 rfl ?_)
    try dsimp only [set1, set2, kilP, List.set_cons_zero, List.set_cons_succ, List.getElem?_cons_zero, List.getElem?_cons_succ, List.nil_append, List.cons_append, Option.toList_some, Option.toList_none]
    refine ecv rfl rfl (by assumption) rfl rfl rfl (e5_fail hb2) (by first | rfl | exact Nat.blt_eq.mpr (by omega)) ?_
    rintro v M3 ⟨rfl, hb3, hF3⟩
    try dsimp only [set1, set2, kilP, List.set_cons_zero, List.set_cons_succ, List.getElem?_cons_zero, List.getElem?_cons_succ, List.nil_append, List.cons_append, Option.toList_some, Option.toList_none]
    repeat (first | refine es rfl rfl rfl ?_ | refine eg rfl (by assumption) rfl ?_ | refine ean rfl (by assumption) (by assumption) rfl ?_ | refine eal rfl (by assumption) (by assumption) rfl ?_ | refine eri rfl ?_ | refine erv rfl ?_ | refine erl rfl ?_ | refine era rfl ?_ | refine erz0 rfl ?_ | refine erz1 rfl ?_)
    try dsimp only [set1, set2, kilP, List.set_cons_zero, List.set_cons_succ, List.getElem?_cons_zero, List.getElem?_cons_succ, List.nil_append, List.cons_append, Option.toList_some, Option.toList_none]
    exact ⟨rfl, hb3, hF.tr hF3 (by omega) (by omega)⟩
  try dsimp only [set1, set2, kilP, List.set_cons_zero, List.set_cons_succ, List.getElem?_cons_zero, List.getElem?_cons_succ, List.nil_append, List.cons_append, Option.toList_some, Option.toList_none]
  repeat (first | refine es rfl rfl rfl ?_ | refine eg rfl (by assumption) rfl ?_ | refine ean rfl (by assumption) (by assumption) rfl ?_ | refine eal rfl (by assumption) (by assumption) rfl ?_ | refine eri rfl ?_ | refine erv rfl ?_ | refine erl rfl ?_ | refine era rfl ?_ | refine erz0 rfl ?_ | refine erz1 rfl ?_)
  try dsimp only [set1, set2, kilP, List.set_cons_zero, List.set_cons_succ, List.getElem?_cons_zero, List.getElem?_cons_succ, List.nil_append, List.cons_append, Option.toList_some, Option.toList_none]
  by_cases hk : (advF tp q).kd = 1
  · refine ei _ rfl rfl (fun c => ?_) (fun c => ?_)
    · exact absurd (by rw [hk]; rfl) c
    · repeat (first | refine es rfl rfl rfl ?_ | refine eg rfl (by assumption) rfl ?_ | refine ean rfl (by assumption) (by assumption) rfl ?_ | refine eal rfl (by assumption) (by assumption) rfl ?_ | refine eri rfl ?_ | refine erv rfl ?_ | refine erl rfl ?_ | refine era rfl ?_ | refine erz0 rfl ?_ | refine erz1 rfl ?_)
      try dsimp only [set1, set2, kilP, List.set_cons_zero, List.set_cons_succ, List.getElem?_cons_zero, List.getElem?_cons_succ, List.nil_append, List.cons_append, Option.toList_some, Option.toList_none]
      refine ecsr rfl rfl rfl rfl rfl rfl (e5_codeOf hi (hS2 i hi).2) (by first | rfl | exact Nat.blt_eq.mpr (by omega)) rfl ?_
      repeat (first | refine es rfl rfl rfl ?_ | refine eg rfl (by assumption) rfl ?_ | refine ean rfl (by assumption) (by assumption) rfl ?_ | refine eal rfl (by assumption) (by assumption) rfl ?_ | refine eri rfl ?_ | refine erv rfl ?_ | refine erl rfl ?_ | refine era rfl ?_ | refine erz0 rfl ?_ | refine erz1 rfl ?_)
      try dsimp only [set1, set2, kilP, List.set_cons_zero, List.set_cons_succ, List.getElem?_cons_zero, List.getElem?_cons_succ, List.nil_append, List.cons_append, Option.toList_some, Option.toList_none]
      by_cases hw : (advF tp q).wd = sC i
      · have ht : thsP tp q i := ⟨hk, hw⟩
        rw [if_pos ht, show bI (thsP tp q i) = 1 from if_pos ht]
        refine ei _ rfl rfl (fun c2 => ?_) (fun c2 => ?_)
        · repeat (first | refine es rfl rfl rfl ?_ | refine eg rfl (by assumption) rfl ?_ | refine ean rfl (by assumption) (by assumption) rfl ?_ | refine eal rfl (by assumption) (by assumption) rfl ?_ | refine eri rfl ?_ | refine erv rfl ?_ | refine erl rfl ?_ | refine era rfl ?_ | refine erz0 rfl ?_ | refine erz1 rfl ?_)
          try dsimp only [set1, set2, kilP, List.set_cons_zero, List.set_cons_succ, List.getElem?_cons_zero, List.getElem?_cons_succ, List.nil_append, List.cons_append, Option.toList_some, Option.toList_none]
          exact ⟨rfl, hb2, hF⟩
        · exact absurd (lcmp_eq.mpr hw) c2
      · have ht : ¬ thsP tp q i := fun h => hw h.2
        rw [if_neg ht, show bI (thsP tp q i) = 0 from if_neg ht]
        refine ei _ rfl rfl (fun c2 => ?_) (fun c2 => ?_)
        · exact absurd (lcmp_eq.mp c2) hw
        · exact key ht
  · have ht : ¬ thsP tp q i := fun h => hk h.1
    rw [if_neg ht, show bI (thsP tp q i) = 0 from if_neg ht]
    refine ei _ rfl rfl (fun c => ?_) (fun c => ?_)
    · exact key ht
    · exact absurd (nI_inj (b := 1) (by have := tok_kd tp q; omega) (by omega) (Decidable.byContradiction c)) hk
abbrev whoP (tp : Nat → Int32) (q : Rq) (lo hi : Int32) : Prop := lo ≤ (advF tp q).wh ∧ (advF tp q).wh ≤ hi
theorem e5_within {ad : Nat → Nat} {M : Mm} {b t : Nat} {lo hi : Int32} {tp : Nat → Int32} {sc : Nat → Int64} {q : Rq} (hb : aRq M b t tp sc q) (hl : q.le ≤ 1100) (ha : q.at ≤ q.le) : EvM ad 3 (iX5_wholeWithin ad) [.ref b, .int lo, .int hi] M (fun v' M' => v' = some (.int (if (advF tp q).kd = 2 then bI (whoP tp q lo hi) else 0)) ∧ aRq M' b t tp sc (if (advF tp q).kd = 2 then if whoP tp q lo hi then advF tp q else failF 4 (advF tp q) else failF 1 (advF tp q)) ∧ Fr b 1 M M') := by
  have h0' := hb.1
  unfold aR0 at h0'
  refine ⟨Nat.le_of_ble_eq_true rfl, ?_⟩
  show Ev ad _ (rX5_wholeWithin ad) (0, [some (.ref b), some (.int lo), some (.int hi)], [], M) _
  repeat (first | refine es rfl rfl rfl ?_ | refine eg rfl (by assumption) rfl ?_ | refine ean rfl (by assumption) (by assumption) rfl ?_ | refine eal rfl (by assumption) (by assumption) rfl ?_ | refine eri rfl ?_ | refine erv rfl ?_ | refine erl rfl ?_ | refine era rfl ?_ | refine erz0 rfl ?_ | refine erz1 rfl ?_)
  try dsimp only [set1, set2, kilP, List.set_cons_zero, List.set_cons_succ, List.getElem?_cons_zero, List.getElem?_cons_succ, List.nil_append, List.cons_append, Option.toList_some, Option.toList_none]
  refine ecv rfl rfl (by assumption) rfl rfl rfl (e5_advance hb hl ha) (by first | rfl | exact Nat.blt_eq.mpr (by omega)) ?_
  rintro v M2 ⟨rfl, hb2, hF⟩
  have h0 := hb2.1
  unfold aR0 at h0
  try dsimp only [set1, set2, kilP, List.set_cons_zero, List.set_cons_succ, List.getElem?_cons_zero, List.getElem?_cons_succ, List.nil_append, List.cons_append, Option.toList_some, Option.toList_none]
  repeat (first | refine es rfl rfl rfl ?_ | refine eg rfl (by assumption) rfl ?_ | refine ean rfl (by assumption) (by assumption) rfl ?_ | refine eal rfl (by assumption) (by assumption) rfl ?_ | refine eri rfl ?_ | refine erv rfl ?_ | refine erl rfl ?_ | refine era rfl ?_ | refine erz0 rfl ?_ | refine erz1 rfl ?_)
  try dsimp only [set1, set2, kilP, List.set_cons_zero, List.set_cons_succ, List.getElem?_cons_zero, List.getElem?_cons_succ, List.nil_append, List.cons_append, Option.toList_some, Option.toList_none]
  by_cases hk : (advF tp q).kd = 2
  · rw [if_pos hk, if_pos hk]
    refine ei _ rfl rfl (fun c => ?_) (fun c => ?_)
    · have key : ¬ whoP tp q lo hi → Ev ad 3 (rX5_wholeWithin ad) (34, [some (.ref b), some (.int lo), some (.int hi)], [], M2) (fun v' M' => v' = some (.int (bI (whoP tp q lo hi))) ∧ aRq M' b t tp sc (if whoP tp q lo hi then advF tp q else failF 4 (advF tp q)) ∧ Fr b 1 M M') := fun hn => by
        rw [if_neg hn, show bI (whoP tp q lo hi) = 0 from if_neg hn]
        repeat (first | refine es rfl rfl rfl ?_ | refine eg rfl (by assumption) rfl ?_ | refine ean rfl (by assumption) (by assumption) rfl ?_ | refine eal rfl (by assumption) (by assumption) rfl ?_ | refine eri rfl ?_ | refine erv rfl ?_ | refine erl rfl ?_ | refine era rfl ?_ | refine erz0 rfl ?_ | refine erz1 rfl ?_)
        try dsimp only [set1, set2, kilP, List.set_cons_zero, List.set_cons_succ, List.getElem?_cons_zero, List.getElem?_cons_succ, List.nil_append, List.cons_append, Option.toList_some, Option.toList_none]
        refine ecv rfl rfl (by assumption) rfl rfl rfl (e5_fail hb2) (by first | rfl | exact Nat.blt_eq.mpr (by omega)) ?_
        rintro v M3 ⟨rfl, hb3, hF3⟩
        try dsimp only [set1, set2, kilP, List.set_cons_zero, List.set_cons_succ, List.getElem?_cons_zero, List.getElem?_cons_succ, List.nil_append, List.cons_append, Option.toList_some, Option.toList_none]
        repeat (first | refine es rfl rfl rfl ?_ | refine eg rfl (by assumption) rfl ?_ | refine ean rfl (by assumption) (by assumption) rfl ?_ | refine eal rfl (by assumption) (by assumption) rfl ?_ | refine eri rfl ?_ | refine erv rfl ?_ | refine erl rfl ?_ | refine era rfl ?_ | refine erz0 rfl ?_ | refine erz1 rfl ?_)
        try dsimp only [set1, set2, kilP, List.set_cons_zero, List.set_cons_succ, List.getElem?_cons_zero, List.getElem?_cons_succ, List.nil_append, List.cons_append, Option.toList_some, Option.toList_none]
        exact ⟨rfl, hb3, hF.tr hF3 (by omega) (by omega)⟩
      repeat (first | refine es rfl rfl rfl ?_ | refine eg rfl (by assumption) rfl ?_ | refine ean rfl (by assumption) (by assumption) rfl ?_ | refine eal rfl (by assumption) (by assumption) rfl ?_ | refine eri rfl ?_ | refine erv rfl ?_ | refine erl rfl ?_ | refine era rfl ?_ | refine erz0 rfl ?_ | refine erz1 rfl ?_)
      try dsimp only [set1, set2, kilP, List.set_cons_zero, List.set_cons_succ, List.getElem?_cons_zero, List.getElem?_cons_succ, List.nil_append, List.cons_append, Option.toList_some, Option.toList_none]
      refine ei _ rfl rfl (fun c2 => ?_) (fun c2 => ?_)
      · exact key (fun h => Int32.not_le.mpr c2 h.1)
      · repeat (first | refine es rfl rfl rfl ?_ | refine eg rfl (by assumption) rfl ?_ | refine ean rfl (by assumption) (by assumption) rfl ?_ | refine eal rfl (by assumption) (by assumption) rfl ?_ | refine eri rfl ?_ | refine erv rfl ?_ | refine erl rfl ?_ | refine era rfl ?_ | refine erz0 rfl ?_ | refine erz1 rfl ?_)
        try dsimp only [set1, set2, kilP, List.set_cons_zero, List.set_cons_succ, List.getElem?_cons_zero, List.getElem?_cons_succ, List.nil_append, List.cons_append, Option.toList_some, Option.toList_none]
        refine ei _ rfl rfl (fun c3 => ?_) (fun c3 => ?_)
        · repeat (first | refine es rfl rfl rfl ?_ | refine eg rfl (by assumption) rfl ?_ | refine ean rfl (by assumption) (by assumption) rfl ?_ | refine eal rfl (by assumption) (by assumption) rfl ?_ | refine eri rfl ?_ | refine erv rfl ?_ | refine erl rfl ?_ | refine era rfl ?_ | refine erz0 rfl ?_ | refine erz1 rfl ?_)
          try dsimp only [set1, set2, kilP, List.set_cons_zero, List.set_cons_succ, List.getElem?_cons_zero, List.getElem?_cons_succ, List.nil_append, List.cons_append, Option.toList_some, Option.toList_none]
          have hw : whoP tp q lo hi := ⟨Int32.not_lt.mp c2, c3⟩
          rw [if_pos hw, show bI (whoP tp q lo hi) = 1 from if_pos hw]
          exact ⟨rfl, hb2, hF⟩
        · exact key (fun h => c3 h.2)
    · exact absurd (by rw [hk]; rfl) c
  · rw [if_neg hk, if_neg hk]
    refine ei _ rfl rfl (fun c => ?_) (fun c => ?_)
    · exact absurd (nI_inj (b := 2) (by have := tok_kd tp q; omega) (by omega) c) hk
    · repeat (first | refine es rfl rfl rfl ?_ | refine eg rfl (by assumption) rfl ?_ | refine ean rfl (by assumption) (by assumption) rfl ?_ | refine eal rfl (by assumption) (by assumption) rfl ?_ | refine eri rfl ?_ | refine erv rfl ?_ | refine erl rfl ?_ | refine era rfl ?_ | refine erz0 rfl ?_ | refine erz1 rfl ?_)
      try dsimp only [set1, set2, kilP, List.set_cons_zero, List.set_cons_succ, List.getElem?_cons_zero, List.getElem?_cons_succ, List.nil_append, List.cons_append, Option.toList_some, Option.toList_none]
      refine ecv rfl rfl (by assumption) rfl rfl rfl (e5_fail hb2) (by first | rfl | exact Nat.blt_eq.mpr (by omega)) ?_
      rintro v M3 ⟨rfl, hb3, hF3⟩
      try dsimp only [set1, set2, kilP, List.set_cons_zero, List.set_cons_succ, List.getElem?_cons_zero, List.getElem?_cons_succ, List.nil_append, List.cons_append, Option.toList_some, Option.toList_none]
      repeat (first | refine es rfl rfl rfl ?_ | refine eg rfl (by assumption) rfl ?_ | refine ean rfl (by assumption) (by assumption) rfl ?_ | refine eal rfl (by assumption) (by assumption) rfl ?_ | refine eri rfl ?_ | refine erv rfl ?_ | refine erl rfl ?_ | refine era rfl ?_ | refine erz0 rfl ?_ | refine erz1 rfl ?_)
      try dsimp only [set1, set2, kilP, List.set_cons_zero, List.set_cons_succ, List.getElem?_cons_zero, List.getElem?_cons_succ, List.nil_append, List.cons_append, Option.toList_some, Option.toList_none]
      exact ⟨rfl, hb3, hF.tr hF3 (by omega) (by omega)⟩
def sorF (sc : Nat → Int64) (w : Int64) : Nat → Nat → Int32
  | 0, _ => -1
  | n + 1, i => if sc i = w then nI i else sorF sc w n (i + 1)
theorem e5_sort_loop {ad : Nat → Nat} {M : Mm} {b t : Nat} {tp : Nat → Int32} {sc : Nat → Int64} {q : Rq} (hb : aRq M b t tp sc q) : ∀ (n i : Nat), i + n = 8 → Ev ad 0 (rX5_sortOfWord ad) (2, [some (.ref b), some (.int (nI i))], [], M) (fun v' M' => v' = some (.int (sorF sc q.wd n i)) ∧ M' = M) := by
  obtain ⟨h0, h1, h2⟩ := hb
  unfold aR0 at h0
  intro n
  induction n with
  | zero =>
    intro i hn
    repeat (first | refine es rfl rfl rfl ?_ | refine eg rfl (by assumption) rfl ?_ | refine ean rfl (by assumption) (by assumption) rfl ?_ | refine eal rfl (by assumption) (by assumption) rfl ?_ | refine eri rfl ?_ | refine erv rfl ?_ | refine erl rfl ?_ | refine era rfl ?_ | refine erz0 rfl ?_ | refine erz1 rfl ?_)
    try dsimp only [set1, set2, kilP, List.set_cons_zero, List.set_cons_succ, List.getElem?_cons_zero, List.getElem?_cons_succ, List.nil_append, List.cons_append, Option.toList_some, Option.toList_none]
    refine ei _ rfl rfl (fun c => ?_) (fun c => ?_)
    · repeat (first | refine es rfl rfl rfl ?_ | refine eg rfl (by assumption) rfl ?_ | refine ean rfl (by assumption) (by assumption) rfl ?_ | refine eal rfl (by assumption) (by assumption) rfl ?_ | refine eri rfl ?_ | refine erv rfl ?_ | refine erl rfl ?_ | refine era rfl ?_ | refine erz0 rfl ?_ | refine erz1 rfl ?_)
      try dsimp only [set1, set2, kilP, List.set_cons_zero, List.set_cons_succ, List.getElem?_cons_zero, List.getElem?_cons_succ, List.nil_append, List.cons_append, Option.toList_some, Option.toList_none]
      exact ⟨rfl, rfl⟩
    · exact absurd (nI_le (a := 8) (by omega) (by omega)) c
  | succ n ih =>
    intro i hn
    have hi : i < 8 := by omega
    rw [sorF]
    repeat (first | refine es rfl rfl rfl ?_ | refine eg rfl (by assumption) rfl ?_ | refine ean rfl (by assumption) (by assumption) rfl ?_ | refine eal rfl (by assumption) (by assumption) rfl ?_ | refine eri rfl ?_ | refine erv rfl ?_ | refine erl rfl ?_ | refine era rfl ?_ | refine erz0 rfl ?_ | refine erz1 rfl ?_)
    try dsimp only [set1, set2, kilP, List.set_cons_zero, List.set_cons_succ, List.getElem?_cons_zero, List.getElem?_cons_succ, List.nil_append, List.cons_append, Option.toList_some, Option.toList_none]
    refine ei _ rfl rfl (fun c => ?_) (fun c => ?_)
    · exact absurd c (nI_ge (b := 8) (by omega) (by omega))
    · repeat (first | refine es rfl rfl rfl ?_ | refine eg rfl (by assumption) rfl ?_ | refine ean rfl (by assumption) (by assumption) rfl ?_ | refine eal rfl (by assumption) (by assumption) rfl ?_ | refine eri rfl ?_ | refine erv rfl ?_ | refine erl rfl ?_ | refine era rfl ?_ | refine erz0 rfl ?_ | refine erz1 rfl ?_)
      try dsimp only [set1, set2, kilP, List.set_cons_zero, List.set_cons_succ, List.getElem?_cons_zero, List.getElem?_cons_succ, List.nil_append, List.cons_append, Option.toList_some, Option.toList_none]
      refine ei _ rfl rfl (fun c2 => ?_) (fun c2 => ?_)
      · rw [if_neg (fun e => c2 (lcmp_eq.mpr e))]
        repeat (refine ng 2 rfl ?_; first | refine es rfl rfl rfl ?_ | refine eg rfl (by assumption) rfl ?_ | refine ean rfl (by assumption) (by assumption) rfl ?_ | refine eal rfl (by assumption) (by assumption) rfl ?_ | refine eri rfl ?_ | refine erv rfl ?_ | refine erl rfl ?_ | refine era rfl ?_ | refine erz0 rfl ?_ | refine erz1 rfl ?_)
        try dsimp only [set1, set2, kilP, List.set_cons_zero, List.set_cons_succ, List.getElem?_cons_zero, List.getElem?_cons_succ, List.nil_append, List.cons_append, Option.toList_some, Option.toList_none]
        rw [nI_1]
        exact ih (i + 1) (by omega)
      · rw [if_pos (lcmp_eq.mp (Decidable.byContradiction c2))]
        repeat (first | refine es rfl rfl rfl ?_ | refine eg rfl (by assumption) rfl ?_ | refine ean rfl (by assumption) (by assumption) rfl ?_ | refine eal rfl (by assumption) (by assumption) rfl ?_ | refine eri rfl ?_ | refine erv rfl ?_ | refine erl rfl ?_ | refine era rfl ?_ | refine erz0 rfl ?_ | refine erz1 rfl ?_)
        try dsimp only [set1, set2, kilP, List.set_cons_zero, List.set_cons_succ, List.getElem?_cons_zero, List.getElem?_cons_succ, List.nil_append, List.cons_append, Option.toList_some, Option.toList_none]
        exact ⟨rfl, rfl⟩
theorem e5_sort {ad : Nat → Nat} {M : Mm} {b t : Nat} {tp : Nat → Int32} {sc : Nat → Int64} {q : Rq} (hb : aRq M b t tp sc q) : Rd ad 0 (iX5_sortOfWord ad) [.ref b] M (some (.int (sorF sc q.wd 8 0))) := by
  refine ⟨Nat.le_of_ble_eq_true rfl, ?_⟩
  show Ev ad _ (rX5_sortOfWord ad) (0, [some (.ref b), none], [], M) _
  repeat (refine ng 2 rfl ?_; first | refine es rfl rfl rfl ?_ | refine eg rfl (by assumption) rfl ?_ | refine ean rfl (by assumption) (by assumption) rfl ?_ | refine eal rfl (by assumption) (by assumption) rfl ?_ | refine eri rfl ?_ | refine erv rfl ?_ | refine erl rfl ?_ | refine era rfl ?_ | refine erz0 rfl ?_ | refine erz1 rfl ?_)
  try dsimp only [set1, set2, kilP, List.set_cons_zero, List.set_cons_succ, List.getElem?_cons_zero, List.getElem?_cons_succ, List.nil_append, List.cons_append, Option.toList_some, Option.toList_none]
  exact e5_sort_loop hb 8 0 rfl
abbrev nmP (tp : Nat → Int32) (sc : Nat → Int64) (q : Rq) : Prop := (advF tp q).kd = 1 ∧ sorF sc (advF tp q).wd 8 0 = -1
abbrev tldP (T : Tw) (w : Int64) : Prop := nmtF T.pn w T.np 0 = true ∨ ¬ calF T.hs.nm w T.hs.n 0 = -1
theorem e5_new {ad : Nat → Nat} {M : Mm} {b t : Nat} {tp : Nat → Int32} {sc : Nat → Int64} {q : Rq} {T : Tw} (hb : aRq M b t tp sc q) (hT : aTw M t T) (hn7 : T.hs.n ≤ 7) (hp : T.np ≤ 4) (hd : ¬ (t ≤ b ∧ b < t + 22)) (hl : q.le ≤ 1100) (ha : q.at ≤ q.le) : EvM ad 3 (iX5_newName ad) [.ref b] M (fun v' M' => v' = some (.int (if nmP tp sc q then bI (¬ tldP T (advF tp q).wd) else 0)) ∧ aRq M' b t tp sc (if nmP tp sc q then if tldP T (advF tp q).wd then failF 3 (advF tp q) else advF tp q else failF 1 (advF tp q)) ∧ Fr b 1 M M') := by
  have h0' := hb.1
  unfold aR0 at h0'
  refine ⟨Nat.le_of_ble_eq_true rfl, ?_⟩
  show Ev ad _ (rX5_newName ad) (0, [some (.ref b)], [], M) _
  repeat (first | refine es rfl rfl rfl ?_ | refine eg rfl (by assumption) rfl ?_ | refine ean rfl (by assumption) (by assumption) rfl ?_ | refine eal rfl (by assumption) (by assumption) rfl ?_ | refine eri rfl ?_ | refine erv rfl ?_ | refine erl rfl ?_ | refine era rfl ?_ | refine erz0 rfl ?_ | refine erz1 rfl ?_)
  try dsimp only [set1, set2, kilP, List.set_cons_zero, List.set_cons_succ, List.getElem?_cons_zero, List.getElem?_cons_succ, List.nil_append, List.cons_append, Option.toList_some, Option.toList_none]
  refine ecv rfl rfl (by assumption) rfl rfl rfl (e5_advance hb hl ha) (by first | rfl | exact Nat.blt_eq.mpr (by omega)) ?_
  rintro v M2 ⟨rfl, hb2, hF⟩
  have hT2 := hT.fr hF (by omega)
  have h0 := hb2.1
  unfold aR0 at h0
  have t0 := hT2.1.1
  have key : ¬ nmP tp sc q → Ev ad 3 (rX5_newName ad) (20, [some (.ref b)], [], M2) (fun v' M' => v' = some (.int (if nmP tp sc q then bI (¬ tldP T (advF tp q).wd) else 0)) ∧ aRq M' b t tp sc (if nmP tp sc q then if tldP T (advF tp q).wd then failF 3 (advF tp q) else advF tp q else failF 1 (advF tp q)) ∧ Fr b 1 M M') := fun hn => by
    rw [if_neg hn, if_neg hn]
    repeat (first | refine es rfl rfl rfl ?_ | refine eg rfl (by assumption) rfl ?_ | refine ean rfl (by assumption) (by assumption) rfl ?_ | refine eal rfl (by assumption) (by assumption) rfl ?_ | refine eri rfl ?_ | refine erv rfl ?_ | refine erl rfl ?_ | refine era rfl ?_ | refine erz0 rfl ?_ | refine erz1 rfl ?_)
    try dsimp only [set1, set2, kilP, List.set_cons_zero, List.set_cons_succ, List.getElem?_cons_zero, List.getElem?_cons_succ, List.nil_append, List.cons_append, Option.toList_some, Option.toList_none]
    refine ecv rfl rfl (by assumption) rfl rfl rfl (e5_fail hb2) (by first | rfl | exact Nat.blt_eq.mpr (by omega)) ?_
    rintro v M3 ⟨rfl, hb3, hF3⟩
    try dsimp only [set1, set2, kilP, List.set_cons_zero, List.set_cons_succ, List.getElem?_cons_zero, List.getElem?_cons_succ, List.nil_append, List.cons_append, Option.toList_some, Option.toList_none]
    repeat (first | refine es rfl rfl rfl ?_ | refine eg rfl (by assumption) rfl ?_ | refine ean rfl (by assumption) (by assumption) rfl ?_ | refine eal rfl (by assumption) (by assumption) rfl ?_ | refine eri rfl ?_ | refine erv rfl ?_ | refine erl rfl ?_ | refine era rfl ?_ | refine erz0 rfl ?_ | refine erz1 rfl ?_)
    try dsimp only [set1, set2, kilP, List.set_cons_zero, List.set_cons_succ, List.getElem?_cons_zero, List.getElem?_cons_succ, List.nil_append, List.cons_append, Option.toList_some, Option.toList_none]
    exact ⟨rfl, hb3, hF.tr hF3 (by omega) (by omega)⟩
  try dsimp only [set1, set2, kilP, List.set_cons_zero, List.set_cons_succ, List.getElem?_cons_zero, List.getElem?_cons_succ, List.nil_append, List.cons_append, Option.toList_some, Option.toList_none]
  repeat (first | refine es rfl rfl rfl ?_ | refine eg rfl (by assumption) rfl ?_ | refine ean rfl (by assumption) (by assumption) rfl ?_ | refine eal rfl (by assumption) (by assumption) rfl ?_ | refine eri rfl ?_ | refine erv rfl ?_ | refine erl rfl ?_ | refine era rfl ?_ | refine erz0 rfl ?_ | refine erz1 rfl ?_)
  try dsimp only [set1, set2, kilP, List.set_cons_zero, List.set_cons_succ, List.getElem?_cons_zero, List.getElem?_cons_succ, List.nil_append, List.cons_append, Option.toList_some, Option.toList_none]
  by_cases hk : (advF tp q).kd = 1
  · refine ei _ rfl rfl (fun c => ?_) (fun c => ?_)
    · exact absurd (by rw [hk]; rfl) c
    · repeat (first | refine es rfl rfl rfl ?_ | refine eg rfl (by assumption) rfl ?_ | refine ean rfl (by assumption) (by assumption) rfl ?_ | refine eal rfl (by assumption) (by assumption) rfl ?_ | refine eri rfl ?_ | refine erv rfl ?_ | refine erl rfl ?_ | refine era rfl ?_ | refine erz0 rfl ?_ | refine erz1 rfl ?_)
      try dsimp only [set1, set2, kilP, List.set_cons_zero, List.set_cons_succ, List.getElem?_cons_zero, List.getElem?_cons_succ, List.nil_append, List.cons_append, Option.toList_some, Option.toList_none]
      refine ecr rfl rfl (by assumption) rfl rfl rfl (e5_sort hb2) (by first | rfl | exact Nat.blt_eq.mpr (by omega)) rfl ?_
      repeat (first | refine es rfl rfl rfl ?_ | refine eg rfl (by assumption) rfl ?_ | refine ean rfl (by assumption) (by assumption) rfl ?_ | refine eal rfl (by assumption) (by assumption) rfl ?_ | refine eri rfl ?_ | refine erv rfl ?_ | refine erl rfl ?_ | refine era rfl ?_ | refine erz0 rfl ?_ | refine erz1 rfl ?_)
      try dsimp only [set1, set2, kilP, List.set_cons_zero, List.set_cons_succ, List.getElem?_cons_zero, List.getElem?_cons_succ, List.nil_append, List.cons_append, Option.toList_some, Option.toList_none]
      refine ei _ rfl rfl (fun c2 => ?_) (fun c2 => ?_)
      · have hn : nmP tp sc q := ⟨hk, c2⟩
        rw [if_pos hn, if_pos hn]
        repeat (first | refine es rfl rfl rfl ?_ | refine eg rfl (by assumption) rfl ?_ | refine ean rfl (by assumption) (by assumption) rfl ?_ | refine eal rfl (by assumption) (by assumption) rfl ?_ | refine eri rfl ?_ | refine erv rfl ?_ | refine erl rfl ?_ | refine era rfl ?_ | refine erz0 rfl ?_ | refine erz1 rfl ?_)
        try dsimp only [set1, set2, kilP, List.set_cons_zero, List.set_cons_succ, List.getElem?_cons_zero, List.getElem?_cons_succ, List.nil_append, List.cons_append, Option.toList_some, Option.toList_none]
        refine ecr rfl rfl (by assumption) rfl rfl rfl (e9_nmt hT2 hn7 hp) (by first | rfl | exact Nat.blt_eq.mpr (by omega)) rfl ?_
        by_cases ht : tldP T (advF tp q).wd
        · rw [if_pos ht, show bI (¬ tldP T (advF tp q).wd) = 0 from if_neg (fun h => h ht), if_pos ht]
          repeat (first | refine es rfl rfl rfl ?_ | refine eg rfl (by assumption) rfl ?_ | refine ean rfl (by assumption) (by assumption) rfl ?_ | refine eal rfl (by assumption) (by assumption) rfl ?_ | refine eri rfl ?_ | refine erv rfl ?_ | refine erl rfl ?_ | refine era rfl ?_ | refine erz0 rfl ?_ | refine erz1 rfl ?_)
          try dsimp only [set1, set2, kilP, List.set_cons_zero, List.set_cons_succ, List.getElem?_cons_zero, List.getElem?_cons_succ, List.nil_append, List.cons_append, Option.toList_some, Option.toList_none]
          refine ecv rfl rfl (by assumption) rfl rfl rfl (e5_fail hb2) (by first | rfl | exact Nat.blt_eq.mpr (by omega)) ?_
          rintro v M3 ⟨rfl, hb3, hF3⟩
          try dsimp only [set1, set2, kilP, List.set_cons_zero, List.set_cons_succ, List.getElem?_cons_zero, List.getElem?_cons_succ, List.nil_append, List.cons_append, Option.toList_some, Option.toList_none]
          repeat (first | refine es rfl rfl rfl ?_ | refine eg rfl (by assumption) rfl ?_ | refine ean rfl (by assumption) (by assumption) rfl ?_ | refine eal rfl (by assumption) (by assumption) rfl ?_ | refine eri rfl ?_ | refine erv rfl ?_ | refine erl rfl ?_ | refine era rfl ?_ | refine erz0 rfl ?_ | refine erz1 rfl ?_)
          try dsimp only [set1, set2, kilP, List.set_cons_zero, List.set_cons_succ, List.getElem?_cons_zero, List.getElem?_cons_succ, List.nil_append, List.cons_append, Option.toList_some, Option.toList_none]
          exact ⟨rfl, hb3, hF.tr hF3 (by omega) (by omega)⟩
        · rw [if_neg ht, show bI (¬ tldP T (advF tp q).wd) = 1 from if_pos ht, if_neg ht]
          repeat (first | refine es rfl rfl rfl ?_ | refine eg rfl (by assumption) rfl ?_ | refine ean rfl (by assumption) (by assumption) rfl ?_ | refine eal rfl (by assumption) (by assumption) rfl ?_ | refine eri rfl ?_ | refine erv rfl ?_ | refine erl rfl ?_ | refine era rfl ?_ | refine erz0 rfl ?_ | refine erz1 rfl ?_)
          try dsimp only [set1, set2, kilP, List.set_cons_zero, List.set_cons_succ, List.getElem?_cons_zero, List.getElem?_cons_succ, List.nil_append, List.cons_append, Option.toList_some, Option.toList_none]
          exact ⟨rfl, hb2, hF⟩
      · exact key (fun h => c2 h.2)
  · refine ei _ rfl rfl (fun c => ?_) (fun c => ?_)
    · exact key (fun h => hk h.1)
    · exact absurd (nI_inj (b := 1) (by have := tok_kd tp q; omega) (by omega) (Decidable.byContradiction c)) hk
def houF (x : Int32) (q : Rq) : Rq := (q.fn, q.fp, q.ts, q.le, q.at, q.kd, q.st, q.wd, q.wh, x)
theorem e5_told {ad : Nat → Nat} {M : Mm} {b t : Nat} {tp : Nat → Int32} {sc : Nat → Int64} {q : Rq} {T : Tw} (hb : aRq M b t tp sc q) (hT : aTw M t T) (hn7 : T.hs.n ≤ 7) (hd : ¬ (t ≤ b ∧ b < t + 22)) (hl : q.le ≤ 1100) (ha : q.at ≤ q.le) : EvM ad 3 (iX5_toldHouse ad) [.ref b] M (fun v' M' => v' = some (.int (if nmP tp sc q then bI (¬ calF T.hs.nm (advF tp q).wd T.hs.n 0 = -1) else 0)) ∧ aRq M' b t tp sc (if nmP tp sc q then if calF T.hs.nm (advF tp q).wd T.hs.n 0 = -1 then failF 2 (houF (-1) (advF tp q)) else houF (calF T.hs.nm (advF tp q).wd T.hs.n 0) (advF tp q) else failF 1 (advF tp q)) ∧ Fr b 1 M M') := by
  have h0' := hb.1
  unfold aR0 at h0'
  refine ⟨Nat.le_of_ble_eq_true rfl, ?_⟩
  show Ev ad _ (rX5_toldHouse ad) (0, [some (.ref b)], [], M) _
  repeat (first | refine es rfl rfl rfl ?_ | refine eg rfl (by assumption) rfl ?_ | refine ean rfl (by assumption) (by assumption) rfl ?_ | refine eal rfl (by assumption) (by assumption) rfl ?_ | refine eri rfl ?_ | refine erv rfl ?_ | refine erl rfl ?_ | refine era rfl ?_ | refine erz0 rfl ?_ | refine erz1 rfl ?_)
  try dsimp only [set1, set2, kilP, List.set_cons_zero, List.set_cons_succ, List.getElem?_cons_zero, List.getElem?_cons_succ, List.nil_append, List.cons_append, Option.toList_some, Option.toList_none]
  refine ecv rfl rfl (by assumption) rfl rfl rfl (e5_advance hb hl ha) (by first | rfl | exact Nat.blt_eq.mpr (by omega)) ?_
  rintro v M2 ⟨rfl, hb2, hF⟩
  have hT2 := hT.fr hF (by omega)
  have hb2' := hb2
  obtain ⟨h0, h1, h2⟩ := hb2
  unfold aR0 at h0
  have t0 := hT2.1.1
  have s0 := hT2.2.1.1
  have key : ¬ nmP tp sc q → Ev ad 3 (rX5_toldHouse ad) (20, [some (.ref b)], [], M2) (fun v' M' => v' = some (.int (if nmP tp sc q then bI (¬ calF T.hs.nm (advF tp q).wd T.hs.n 0 = -1) else 0)) ∧ aRq M' b t tp sc (if nmP tp sc q then if calF T.hs.nm (advF tp q).wd T.hs.n 0 = -1 then failF 2 (houF (-1) (advF tp q)) else houF (calF T.hs.nm (advF tp q).wd T.hs.n 0) (advF tp q) else failF 1 (advF tp q)) ∧ Fr b 1 M M') := fun hn => by
    rw [if_neg hn, if_neg hn]
    repeat (first | refine es rfl rfl rfl ?_ | refine eg rfl (by assumption) rfl ?_ | refine ean rfl (by assumption) (by assumption) rfl ?_ | refine eal rfl (by assumption) (by assumption) rfl ?_ | refine eri rfl ?_ | refine erv rfl ?_ | refine erl rfl ?_ | refine era rfl ?_ | refine erz0 rfl ?_ | refine erz1 rfl ?_)
    try dsimp only [set1, set2, kilP, List.set_cons_zero, List.set_cons_succ, List.getElem?_cons_zero, List.getElem?_cons_succ, List.nil_append, List.cons_append, Option.toList_some, Option.toList_none]
    refine ecv rfl rfl (by assumption) rfl rfl rfl (e5_fail hb2') (by first | rfl | exact Nat.blt_eq.mpr (by omega)) ?_
    rintro v M3 ⟨rfl, hb3, hF3⟩
    try dsimp only [set1, set2, kilP, List.set_cons_zero, List.set_cons_succ, List.getElem?_cons_zero, List.getElem?_cons_succ, List.nil_append, List.cons_append, Option.toList_some, Option.toList_none]
    repeat (first | refine es rfl rfl rfl ?_ | refine eg rfl (by assumption) rfl ?_ | refine ean rfl (by assumption) (by assumption) rfl ?_ | refine eal rfl (by assumption) (by assumption) rfl ?_ | refine eri rfl ?_ | refine erv rfl ?_ | refine erl rfl ?_ | refine era rfl ?_ | refine erz0 rfl ?_ | refine erz1 rfl ?_)
    try dsimp only [set1, set2, kilP, List.set_cons_zero, List.set_cons_succ, List.getElem?_cons_zero, List.getElem?_cons_succ, List.nil_append, List.cons_append, Option.toList_some, Option.toList_none]
    exact ⟨rfl, hb3, hF.tr hF3 (by omega) (by omega)⟩
  try dsimp only [set1, set2, kilP, List.set_cons_zero, List.set_cons_succ, List.getElem?_cons_zero, List.getElem?_cons_succ, List.nil_append, List.cons_append, Option.toList_some, Option.toList_none]
  repeat (first | refine es rfl rfl rfl ?_ | refine eg rfl (by assumption) rfl ?_ | refine ean rfl (by assumption) (by assumption) rfl ?_ | refine eal rfl (by assumption) (by assumption) rfl ?_ | refine eri rfl ?_ | refine erv rfl ?_ | refine erl rfl ?_ | refine era rfl ?_ | refine erz0 rfl ?_ | refine erz1 rfl ?_)
  try dsimp only [set1, set2, kilP, List.set_cons_zero, List.set_cons_succ, List.getElem?_cons_zero, List.getElem?_cons_succ, List.nil_append, List.cons_append, Option.toList_some, Option.toList_none]
  by_cases hk : (advF tp q).kd = 1
  · refine ei _ rfl rfl (fun c => ?_) (fun c => ?_)
    · exact absurd (by rw [hk]; rfl) c
    · repeat (first | refine es rfl rfl rfl ?_ | refine eg rfl (by assumption) rfl ?_ | refine ean rfl (by assumption) (by assumption) rfl ?_ | refine eal rfl (by assumption) (by assumption) rfl ?_ | refine eri rfl ?_ | refine erv rfl ?_ | refine erl rfl ?_ | refine era rfl ?_ | refine erz0 rfl ?_ | refine erz1 rfl ?_)
      try dsimp only [set1, set2, kilP, List.set_cons_zero, List.set_cons_succ, List.getElem?_cons_zero, List.getElem?_cons_succ, List.nil_append, List.cons_append, Option.toList_some, Option.toList_none]
      refine ecr rfl rfl (by assumption) rfl rfl rfl (e5_sort hb2') (by first | rfl | exact Nat.blt_eq.mpr (by omega)) rfl ?_
      repeat (first | refine es rfl rfl rfl ?_ | refine eg rfl (by assumption) rfl ?_ | refine ean rfl (by assumption) (by assumption) rfl ?_ | refine eal rfl (by assumption) (by assumption) rfl ?_ | refine eri rfl ?_ | refine erv rfl ?_ | refine erl rfl ?_ | refine era rfl ?_ | refine erz0 rfl ?_ | refine erz1 rfl ?_)
      try dsimp only [set1, set2, kilP, List.set_cons_zero, List.set_cons_succ, List.getElem?_cons_zero, List.getElem?_cons_succ, List.nil_append, List.cons_append, Option.toList_some, Option.toList_none]
      refine ei _ rfl rfl (fun c2 => ?_) (fun c2 => ?_)
      · have hn : nmP tp sc q := ⟨hk, c2⟩
        rw [if_pos hn, if_pos hn]
        repeat (first | refine es rfl rfl rfl ?_ | refine eg rfl (by assumption) rfl ?_ | refine ean rfl (by assumption) (by assumption) rfl ?_ | refine eal rfl (by assumption) (by assumption) rfl ?_ | refine eri rfl ?_ | refine erv rfl ?_ | refine erl rfl ?_ | refine era rfl ?_ | refine erz0 rfl ?_ | refine erz1 rfl ?_)
        try dsimp only [set1, set2, kilP, List.set_cons_zero, List.set_cons_succ, List.getElem?_cons_zero, List.getElem?_cons_succ, List.nil_append, List.cons_append, Option.toList_some, Option.toList_none]
        refine ecr rfl rfl (by assumption) rfl rfl rfl (e2_called hT2.2.1 hn7) (by first | rfl | exact Nat.blt_eq.mpr (by omega)) rfl ?_
        refine epM rfl (by assumption) rfl rfl rfl (fun M3 eM => ?_)
        have k0 := up_w eM
        replace h1 := up_k eM h1 (by omega)
        replace h2 := up_k eM h2 (by omega)
        have hF := hF.up eM (by omega) (by omega)
        repeat (first | refine es rfl rfl rfl ?_ | refine eg rfl (by assumption) rfl ?_ | refine ean rfl (by assumption) (by assumption) rfl ?_ | refine eal rfl (by assumption) (by assumption) rfl ?_ | refine eri rfl ?_ | refine erv rfl ?_ | refine erl rfl ?_ | refine era rfl ?_ | refine erz0 rfl ?_ | refine erz1 rfl ?_)
        try dsimp only [set1, set2, kilP, List.set_cons_zero, List.set_cons_succ, List.getElem?_cons_zero, List.getElem?_cons_succ, List.nil_append, List.cons_append, Option.toList_some, Option.toList_none]
        by_cases ht : calF T.hs.nm (advF tp q).wd T.hs.n 0 = -1
        · rw [show bI (¬ calF T.hs.nm (advF tp q).wd T.hs.n 0 = -1) = 0 from if_neg (fun h => h ht), if_pos ht]
          rw [ht] at k0
          refine ei _ rfl rfl (fun c3 => ?_) (fun c3 => ?_)
          · exact absurd ht c3
          · repeat (first | refine es rfl rfl rfl ?_ | refine eg rfl (by assumption) rfl ?_ | refine ean rfl (by assumption) (by assumption) rfl ?_ | refine eal rfl (by assumption) (by assumption) rfl ?_ | refine eri rfl ?_ | refine erv rfl ?_ | refine erl rfl ?_ | refine era rfl ?_ | refine erz0 rfl ?_ | refine erz1 rfl ?_)
            try dsimp only [set1, set2, kilP, List.set_cons_zero, List.set_cons_succ, List.getElem?_cons_zero, List.getElem?_cons_succ, List.nil_append, List.cons_append, Option.toList_some, Option.toList_none]
            refine ecv rfl rfl (by assumption) rfl rfl rfl (e5_fail (q := houF (-1) (advF tp q)) ⟨k0, h1, h2⟩) (by first | rfl | exact Nat.blt_eq.mpr (by omega)) ?_
            rintro v M4 ⟨rfl, hb3, hF3⟩
            try dsimp only [set1, set2, kilP, List.set_cons_zero, List.set_cons_succ, List.getElem?_cons_zero, List.getElem?_cons_succ, List.nil_append, List.cons_append, Option.toList_some, Option.toList_none]
            repeat (first | refine es rfl rfl rfl ?_ | refine eg rfl (by assumption) rfl ?_ | refine ean rfl (by assumption) (by assumption) rfl ?_ | refine eal rfl (by assumption) (by assumption) rfl ?_ | refine eri rfl ?_ | refine erv rfl ?_ | refine erl rfl ?_ | refine era rfl ?_ | refine erz0 rfl ?_ | refine erz1 rfl ?_)
            try dsimp only [set1, set2, kilP, List.set_cons_zero, List.set_cons_succ, List.getElem?_cons_zero, List.getElem?_cons_succ, List.nil_append, List.cons_append, Option.toList_some, Option.toList_none]
            exact ⟨rfl, hb3, hF.tr hF3 (by omega) (by omega)⟩
        · rw [show bI (¬ calF T.hs.nm (advF tp q).wd T.hs.n 0 = -1) = 1 from if_pos ht, if_neg ht]
          refine ei _ rfl rfl (fun c3 => ?_) (fun c3 => ?_)
          · repeat (first | refine es rfl rfl rfl ?_ | refine eg rfl (by assumption) rfl ?_ | refine ean rfl (by assumption) (by assumption) rfl ?_ | refine eal rfl (by assumption) (by assumption) rfl ?_ | refine eri rfl ?_ | refine erv rfl ?_ | refine erl rfl ?_ | refine era rfl ?_ | refine erz0 rfl ?_ | refine erz1 rfl ?_)
            try dsimp only [set1, set2, kilP, List.set_cons_zero, List.set_cons_succ, List.getElem?_cons_zero, List.getElem?_cons_succ, List.nil_append, List.cons_append, Option.toList_some, Option.toList_none]
            exact ⟨rfl, ⟨k0, h1, h2⟩, hF⟩
          · exact absurd ht c3
      · exact key (fun h => c2 h.2)
  · refine ei _ rfl rfl (fun c => ?_) (fun c => ?_)
    · exact key (fun h => hk h.1)
    · exact absurd (nI_inj (b := 1) (by have := tok_kd tp q; omega) (by omega) (Decidable.byContradiction c)) hk
