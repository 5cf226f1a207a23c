/-! The reference reads: names -/
section RNAME
variable {ad : Nat → Nat} {a b lo0 : Nat} {tp : Nat → Int32} {sc : Nat → Int64} {le : Nat} {A : Ar} {oa : Int32 × Int32 × Int32} {oq : Yq} {tw : Value} {M : Mm} {s : Except Er Nat} {T : Tw} {kn : Int32}
theorem calF_i (nm : Nat → Int64) (w : Int64) : ∀ n i, i + n < 100 → (calF nm w n i = -1 ↔ ∀ k, i ≤ k → k < i + n → ¬ nm k = w)
  | 0, i, _ => ⟨fun _ k h1 h2 => absurd h2 (by omega), fun _ => rfl⟩
  | n + 1, i, hb => by
    rw [calF]
    split
    · rename_i h
      constructor
      · intro q
        have h9 := congrArg Int32.toInt q
        rw [nI_toInt (by omega)] at h9
        have h8 : (-1 : Int32).toInt = -1 := by decide
        omega
      · intro q
        exact absurd h (q i (by omega) (by omega))
    · rename_i h
      rw [calF_i nm w n (i + 1) (by omega)]
      constructor
      · intro q k h1 h2
        by_cases e : k = i
        · rw [e]; exact h
        · exact q k (by omega) (by omega)
      · intro q k h1 h2
        exact q k (by omega) (by omega)
theorem y_find_loop {nm : Nat → Int64} {w : Int64} (m0 : M.1 a = some (.inr (12, mtO a T kn))) (m15 : M.1 (a + 15) = lngs 11 nm) (hN : T.hs.n + T.np ≤ 11) : ∀ (n i : Nat), i + n = T.hs.n + T.np → Ev ad 0 (rX12_find ad) (2, [some (.ref a), some (.long w), none, some (.int (nI i))], [], M) (fun v' M' => v' = some (.int (calF nm w n i)) ∧ M' = M) := by
  intro n
  induction n with
  | zero =>
    intro i hi
    repeat (first | refine es rfl rfl rfl ?_ | refine eg rfl (by assumption) rfl ?_ | refine eanE rfl (by assumption) (by with_reducible first | exact rfl | exact Int32.zero_add _ | exact ix8 _ | exact ix12 _ | exact ix7r _ _ | exact n7 | exact n0 | exact n1) (by assumption) rfl ?_ | refine eal rfl (by assumption) (by assumption) rfl ?_ | refine eri rfl ?_ | refine erv rfl ?_ | refine erl rfl ?_ | refine era rfl ?_ | refine erz0 rfl ?_ | refine erz1 rfl ?_)
    try dsimp only [set1, set2, kilP, List.set_cons_zero, List.set_cons_succ, List.getElem?_cons_zero, List.getElem?_cons_succ, List.nil_append, List.cons_append, Option.toList_some, Option.toList_none]
    refine ei _ rfl rfl (fun c => ?_) (fun c => ?_)
    · repeat (first | refine es rfl rfl rfl ?_ | refine eg rfl (by assumption) rfl ?_ | refine eanE rfl (by assumption) (by with_reducible first | exact rfl | exact Int32.zero_add _ | exact ix8 _ | exact ix12 _ | exact ix7r _ _ | exact n7 | exact n0 | exact n1) (by assumption) rfl ?_ | refine eal rfl (by assumption) (by assumption) rfl ?_ | refine eri rfl ?_ | refine erv rfl ?_ | refine erl rfl ?_ | refine era rfl ?_ | refine erz0 rfl ?_ | refine erz1 rfl ?_)
      try dsimp only [set1, set2, kilP, List.set_cons_zero, List.set_cons_succ, List.getElem?_cons_zero, List.getElem?_cons_succ, List.nil_append, List.cons_append, Option.toList_some, Option.toList_none]
      exact ⟨rfl, rfl⟩
    · exact absurd (nI_le (by omega) (by omega)) c
  | succ n ih =>
    intro i hi
    have hk : i < 11 := by omega
    repeat (first | refine es rfl rfl rfl ?_ | refine eg rfl (by assumption) rfl ?_ | refine eanE rfl (by assumption) (by with_reducible first | exact rfl | exact Int32.zero_add _ | exact ix8 _ | exact ix12 _ | exact ix7r _ _ | exact n7 | exact n0 | exact n1) (by assumption) rfl ?_ | refine eal rfl (by assumption) (by assumption) rfl ?_ | refine eri rfl ?_ | refine erv rfl ?_ | refine erl rfl ?_ | refine era rfl ?_ | refine erz0 rfl ?_ | refine erz1 rfl ?_)
    try dsimp only [set1, set2, kilP, List.set_cons_zero, List.set_cons_succ, List.getElem?_cons_zero, List.getElem?_cons_succ, List.nil_append, List.cons_append, Option.toList_some, Option.toList_none]
    refine ei _ rfl rfl (fun c => ?_) (fun c => ?_)
    · exact absurd c (nI_ge (by omega) (by omega))
    · repeat (first | refine es rfl rfl rfl ?_ | refine eg rfl (by assumption) rfl ?_ | refine eanE rfl (by assumption) (by with_reducible first | exact rfl | exact Int32.zero_add _ | exact ix8 _ | exact ix12 _ | exact ix7r _ _ | exact n7 | exact n0 | exact n1) (by assumption) rfl ?_ | refine eal rfl (by assumption) (by assumption) rfl ?_ | refine eri rfl ?_ | refine erv rfl ?_ | refine erl rfl ?_ | refine era rfl ?_ | refine erz0 rfl ?_ | refine erz1 rfl ?_)
      try dsimp only [set1, set2, kilP, List.set_cons_zero, List.set_cons_succ, List.getElem?_cons_zero, List.getElem?_cons_succ, List.nil_append, List.cons_append, Option.toList_some, Option.toList_none]
      refine ei _ rfl rfl (fun e => ?_) (fun e => ?_)
      · repeat (refine ng 2 rfl ?_; first | refine es rfl rfl rfl ?_ | refine eg rfl (by assumption) rfl ?_ | refine eanE rfl (by assumption) (by with_reducible first | exact rfl | exact Int32.zero_add _ | exact ix8 _ | exact ix12 _ | exact ix7r _ _ | exact n7 | exact n0 | exact n1) (by assumption) rfl ?_ | refine eal rfl (by assumption) (by assumption) rfl ?_ | refine eri rfl ?_ | refine erv rfl ?_ | refine erl rfl ?_ | refine era rfl ?_ | refine erz0 rfl ?_ | refine erz1 rfl ?_)
        try dsimp only [set1, set2, kilP, List.set_cons_zero, List.set_cons_succ, List.getElem?_cons_zero, List.getElem?_cons_succ, List.nil_append, List.cons_append, Option.toList_some, Option.toList_none]
        rw [nI_1, calF, if_neg (fun q => e (lcmp_eq.mpr q))]
        exact ih (i + 1) (by omega)
      · repeat (first | refine es rfl rfl rfl ?_ | refine eg rfl (by assumption) rfl ?_ | refine eanE rfl (by assumption) (by with_reducible first | exact rfl | exact Int32.zero_add _ | exact ix8 _ | exact ix12 _ | exact ix7r _ _ | exact n7 | exact n0 | exact n1) (by assumption) rfl ?_ | refine eal rfl (by assumption) (by assumption) rfl ?_ | refine eri rfl ?_ | refine erv rfl ?_ | refine erl rfl ?_ | refine era rfl ?_ | refine erz0 rfl ?_ | refine erz1 rfl ?_)
        try dsimp only [set1, set2, kilP, List.set_cons_zero, List.set_cons_succ, List.getElem?_cons_zero, List.getElem?_cons_succ, List.nil_append, List.cons_append, Option.toList_some, Option.toList_none]
        rw [calF, if_pos (lcmp_eq.mp (Decidable.not_not.mp e))]
        exact ⟨rfl, rfl⟩
theorem y_find {nm : Nat → Int64} {w : Int64} (m0 : M.1 a = some (.inr (12, mtO a T kn))) (m15 : M.1 (a + 15) = lngs 11 nm) (hN : T.hs.n + T.np ≤ 11) : Rd ad 0 (iX12_find ad) [.ref a, .long w] M (some (.int (calF nm w (T.hs.n + T.np) 0))) := by
  refine ⟨Nat.le_of_ble_eq_true rfl, ?_⟩
  show Ev ad _ (rX12_find ad) (0, [some (.ref a), some (.long w), none, none], [], M) _
  repeat (refine ng 2 rfl ?_; first | refine es rfl rfl rfl ?_ | refine eg rfl (by assumption) rfl ?_ | refine eanE rfl (by assumption) (by with_reducible first | exact rfl | exact Int32.zero_add _ | exact ix8 _ | exact ix12 _ | exact ix7r _ _ | exact n7 | exact n0 | exact n1) (by assumption) rfl ?_ | refine eal rfl (by assumption) (by assumption) rfl ?_ | refine eri rfl ?_ | refine erv rfl ?_ | refine erl rfl ?_ | refine era rfl ?_ | refine erz0 rfl ?_ | refine erz1 rfl ?_)
  try dsimp only [set1, set2, kilP, List.set_cons_zero, List.set_cons_succ, List.getElem?_cons_zero, List.getElem?_cons_succ, List.nil_append, List.cons_append, Option.toList_some, Option.toList_none]
  exact y_find_loop m0 m15 hN _ 0 (by omega)
theorem y_isOf_loop {f : Nat → Int32} {x : Int32} (m0 : M.1 a = some (.inr (12, mtO a T kn))) (m4 : M.1 (a + 4) = ints 7 f) (hN : T.hs.n ≤ 7) : ∀ (n i : Nat), i + n = T.hs.n → Ev ad 0 (rX12_isOf ad) (2, [some (.ref a), some (.int x), some (.int (nI i))], [], M) (fun v' M' => v' = some (.int (isoF f x n i)) ∧ M' = M) := by
  intro n
  induction n with
  | zero =>
    intro i hi
    repeat (first | refine es rfl rfl rfl ?_ | refine eg rfl (by assumption) rfl ?_ | refine eanE rfl (by assumption) (by with_reducible first | exact rfl | exact Int32.zero_add _ | exact ix8 _ | exact ix12 _ | exact ix7r _ _ | exact n7 | exact n0 | exact n1) (by assumption) rfl ?_ | refine eal rfl (by assumption) (by assumption) rfl ?_ | refine eri rfl ?_ | refine erv rfl ?_ | refine erl rfl ?_ | refine era rfl ?_ | refine erz0 rfl ?_ | refine erz1 rfl ?_)
    try dsimp only [set1, set2, kilP, List.set_cons_zero, List.set_cons_succ, List.getElem?_cons_zero, List.getElem?_cons_succ, List.nil_append, List.cons_append, Option.toList_some, Option.toList_none]
    refine ei _ rfl rfl (fun c => ?_) (fun c => ?_)
    · repeat (first | refine es rfl rfl rfl ?_ | refine eg rfl (by assumption) rfl ?_ | refine eanE rfl (by assumption) (by with_reducible first | exact rfl | exact Int32.zero_add _ | exact ix8 _ | exact ix12 _ | exact ix7r _ _ | exact n7 | exact n0 | exact n1) (by assumption) rfl ?_ | refine eal rfl (by assumption) (by assumption) rfl ?_ | refine eri rfl ?_ | refine erv rfl ?_ | refine erl rfl ?_ | refine era rfl ?_ | refine erz0 rfl ?_ | refine erz1 rfl ?_)
      try dsimp only [set1, set2, kilP, List.set_cons_zero, List.set_cons_succ, List.getElem?_cons_zero, List.getElem?_cons_succ, List.nil_append, List.cons_append, Option.toList_some, Option.toList_none]
      exact ⟨rfl, rfl⟩
    · exact absurd (nI_le (by omega) (by omega)) c
  | succ n ih =>
    intro i hi
    have hk : i < 7 := by omega
    repeat (first | refine es rfl rfl rfl ?_ | refine eg rfl (by assumption) rfl ?_ | refine eanE rfl (by assumption) (by with_reducible first | exact rfl | exact Int32.zero_add _ | exact ix8 _ | exact ix12 _ | exact ix7r _ _ | exact n7 | exact n0 | exact n1) (by assumption) rfl ?_ | refine eal rfl (by assumption) (by assumption) rfl ?_ | refine eri rfl ?_ | refine erv rfl ?_ | refine erl rfl ?_ | refine era rfl ?_ | refine erz0 rfl ?_ | refine erz1 rfl ?_)
    try dsimp only [set1, set2, kilP, List.set_cons_zero, List.set_cons_succ, List.getElem?_cons_zero, List.getElem?_cons_succ, List.nil_append, List.cons_append, Option.toList_some, Option.toList_none]
    refine ei _ rfl rfl (fun c => ?_) (fun c => ?_)
    · exact absurd c (nI_ge (by omega) (by omega))
    · repeat (first | refine es rfl rfl rfl ?_ | refine eg rfl (by assumption) rfl ?_ | refine eanE rfl (by assumption) (by with_reducible first | exact rfl | exact Int32.zero_add _ | exact ix8 _ | exact ix12 _ | exact ix7r _ _ | exact n7 | exact n0 | exact n1) (by assumption) rfl ?_ | refine eal rfl (by assumption) (by assumption) rfl ?_ | refine eri rfl ?_ | refine erv rfl ?_ | refine erl rfl ?_ | refine era rfl ?_ | refine erz0 rfl ?_ | refine erz1 rfl ?_)
      try dsimp only [set1, set2, kilP, List.set_cons_zero, List.set_cons_succ, List.getElem?_cons_zero, List.getElem?_cons_succ, List.nil_append, List.cons_append, Option.toList_some, Option.toList_none]
      refine ei _ rfl rfl (fun e => ?_) (fun e => ?_)
      · repeat (refine ng 2 rfl ?_; first | refine es rfl rfl rfl ?_ | refine eg rfl (by assumption) rfl ?_ | refine eanE rfl (by assumption) (by with_reducible first | exact rfl | exact Int32.zero_add _ | exact ix8 _ | exact ix12 _ | exact ix7r _ _ | exact n7 | exact n0 | exact n1) (by assumption) rfl ?_ | refine eal rfl (by assumption) (by assumption) rfl ?_ | refine eri rfl ?_ | refine erv rfl ?_ | refine erl rfl ?_ | refine era rfl ?_ | refine erz0 rfl ?_ | refine erz1 rfl ?_)
        try dsimp only [set1, set2, kilP, List.set_cons_zero, List.set_cons_succ, List.getElem?_cons_zero, List.getElem?_cons_succ, List.nil_append, List.cons_append, Option.toList_some, Option.toList_none]
        rw [nI_1, isoF, if_neg e]
        exact ih (i + 1) (by omega)
      · repeat (first | refine es rfl rfl rfl ?_ | refine eg rfl (by assumption) rfl ?_ | refine eanE rfl (by assumption) (by with_reducible first | exact rfl | exact Int32.zero_add _ | exact ix8 _ | exact ix12 _ | exact ix7r _ _ | exact n7 | exact n0 | exact n1) (by assumption) rfl ?_ | refine eal rfl (by assumption) (by assumption) rfl ?_ | refine eri rfl ?_ | refine erv rfl ?_ | refine erl rfl ?_ | refine era rfl ?_ | refine erz0 rfl ?_ | refine erz1 rfl ?_)
        try dsimp only [set1, set2, kilP, List.set_cons_zero, List.set_cons_succ, List.getElem?_cons_zero, List.getElem?_cons_succ, List.nil_append, List.cons_append, Option.toList_some, Option.toList_none]
        rw [isoF, if_pos (Decidable.not_not.mp e)]
        exact ⟨rfl, rfl⟩
theorem isoF_c {f g : Nat → Int32} {x : Int32} : ∀ n i, (∀ k, k < i + n → f k = g k) → isoF f x n i = isoF g x n i
  | 0, _, _ => rfl
  | n + 1, i, h => by rw [isoF, isoF, h i (by omega), isoF_c n (i + 1) (fun k hk => h k (by omega))]
theorem y_isOf {x : Int32} (hM : aMt M a T) (hN : T.hs.n ≤ 7) : Rd ad 0 (iX12_isOf ad) [.ref a, .int x] M (some (.int (isoF T.hs.to x T.hs.n 0))) := by
  obtain ⟨kn, Am, Bm, m0, mc, mH, mS, mP, mC, mN⟩ := id hM
  rw [← isoF_c (f := Am 4) T.hs.n 0 (fun k hk => (mH k (by omega)).2.2.2.1)]
  refine ⟨Nat.le_of_ble_eq_true rfl, ?_⟩
  show Ev ad _ (rX12_isOf ad) (0, [some (.ref a), some (.int x), none], [], M) _
  repeat (refine ng 2 rfl ?_; first | refine es rfl rfl rfl ?_ | refine eg rfl (by assumption) rfl ?_ | refine eanE rfl (by assumption) (by with_reducible first | exact rfl | exact Int32.zero_add _ | exact ix8 _ | exact ix12 _ | exact ix7r _ _ | exact n7 | exact n0 | exact n1) (by assumption) rfl ?_ | refine eal rfl (by assumption) (by assumption) rfl ?_ | refine eri rfl ?_ | refine erv rfl ?_ | refine erl rfl ?_ | refine era rfl ?_ | refine erz0 rfl ?_ | refine erz1 rfl ?_)
  try dsimp only [set1, set2, kilP, List.set_cons_zero, List.set_cons_succ, List.getElem?_cons_zero, List.getElem?_cons_succ, List.nil_append, List.cons_append, Option.toList_some, Option.toList_none]
  exact y_isOf_loop m0 mc.2.2.2.1 hN _ 0 (by omega)
theorem y_isTimed {k : Nat} (hM : aMt M a T) (hN : T.hs.n ≤ 7) (hk : k < T.hs.n) (hE : tE T) : Rd ad 0 (iX12_isTimed ad) [.ref a, .int (nI k)] M (some (.int (if T.hs.fr k = -2 then 0 else 1))) := by
  obtain ⟨kn, Am, Bm, m0, mc, mH, mS, mP, mC, mN⟩ := id hM
  have m5 : M.1 (a + 5) = ints 7 (Am 5) := mc.2.2.2.2.1
  have h5 := (mH k hk).2.2.2.2.1
  have hk7 : k < 7 := by omega
  refine ⟨Nat.le_of_ble_eq_true rfl, ?_⟩
  show Ev ad _ (rX12_isTimed ad) (0, [some (.ref a), some (.int (nI k))], [], M) _
  repeat (first | refine es rfl rfl rfl ?_ | refine eg rfl (by assumption) rfl ?_ | refine eanE rfl (by assumption) (by with_reducible first | exact rfl | exact Int32.zero_add _ | exact ix8 _ | exact ix12 _ | exact ix7r _ _ | exact n7 | exact n0 | exact n1) (by assumption) rfl ?_ | refine eal rfl (by assumption) (by assumption) rfl ?_ | refine eri rfl ?_ | refine erv rfl ?_ | refine erl rfl ?_ | refine era rfl ?_ | refine erz0 rfl ?_ | refine erz1 rfl ?_)
  try dsimp only [set1, set2, kilP, List.set_cons_zero, List.set_cons_succ, List.getElem?_cons_zero, List.getElem?_cons_succ, List.nil_append, List.cons_append, Option.toList_some, Option.toList_none]
  rw [h5]
  by_cases c : T.hs.fr k = -2
  · rw [if_pos c, if_pos c]
    repeat (first | refine es rfl rfl rfl ?_ | refine eg rfl (by assumption) rfl ?_ | refine eanE rfl (by assumption) (by with_reducible first | exact rfl | exact Int32.zero_add _ | exact ix8 _ | exact ix12 _ | exact ix7r _ _ | exact n7 | exact n0 | exact n1) (by assumption) rfl ?_ | refine eal rfl (by assumption) (by assumption) rfl ?_ | refine eri rfl ?_ | refine erv rfl ?_ | refine erl rfl ?_ | refine era rfl ?_ | refine erz0 rfl ?_ | refine erz1 rfl ?_)
    try dsimp only [set1, set2, kilP, List.set_cons_zero, List.set_cons_succ, List.getElem?_cons_zero, List.getElem?_cons_succ, List.nil_append, List.cons_append, Option.toList_some, Option.toList_none]
    exact ⟨rfl, rfl⟩
  · rw [if_neg c, if_neg c]
    have hne : ¬ T.hs.fr k = -1 := by
      rcases hE k hk7 with q | ⟨_, x, y, h1, h2, h3, _⟩
      · exact absurd q c
      · rw [h3]
        intro q
        have h9 := congrArg Int32.toInt q
        rw [nI_toInt (by omega)] at h9
        have h8 : (-1 : Int32).toInt = -1 := by decide
        omega
    refine ei _ rfl rfl (fun c2 => ?_) (fun c2 => ?_)
    · exact absurd c2 hne
    · repeat (first | refine es rfl rfl rfl ?_ | refine eg rfl (by assumption) rfl ?_ | refine eanE rfl (by assumption) (by with_reducible first | exact rfl | exact Int32.zero_add _ | exact ix8 _ | exact ix12 _ | exact ix7r _ _ | exact n7 | exact n0 | exact n1) (by assumption) rfl ?_ | refine eal rfl (by assumption) (by assumption) rfl ?_ | refine eri rfl ?_ | refine erv rfl ?_ | refine erl rfl ?_ | refine era rfl ?_ | refine erz0 rfl ?_ | refine erz1 rfl ?_)
      try dsimp only [set1, set2, kilP, List.set_cons_zero, List.set_cons_succ, List.getElem?_cons_zero, List.getElem?_cons_succ, List.nil_append, List.cons_append, Option.toList_some, Option.toList_none]
      exact ⟨rfl, rfl⟩
theorem mtN.nw {Am : Ar} {Bm : Br} {w : Int64} (h : mtN T Am Bm) (hN : T.hs.n + T.np ≤ 11) : calF (Bm 15) w (T.hs.n + T.np) 0 = -1 ↔ ¬ tldP T w := by
  rw [calF_i _ _ _ _ (by omega)]
  unfold tldP
  rw [calF_i _ _ _ _ (by omega), nmtF_f]
  constructor
  · rintro q (⟨k, _, k2, k3⟩ | q2)
    · obtain ⟨j, j1, j2⟩ := h.2.2 k (by omega)
      exact q j (by omega) (by omega) (j2.trans k3)
    · refine q2 (fun k _ k2 k3 => ?_)
      obtain ⟨j, j1, j2⟩ := h.2.1 k (by omega)
      exact q j (by omega) (by omega) (j2.trans k3)
  · intro q k _ k2 k3
    rcases h.1 k (by omega) with ⟨_, x, x1, _, x3⟩ | ⟨_, p, p1, p2⟩
    · exact q (Or.inr (fun q2 => q2 x (by omega) (by omega) (x3.symm.trans k3)))
    · exact q (Or.inl ⟨p, by omega, by omega, p2.symm.trans k3⟩)
theorem mtN.ho {Am : Ar} {Bm : Br} {w : Int64} (h : mtN T Am Bm) (hK : tK T) (hN : T.hs.n + T.np ≤ 11) : (calF (Bm 15) w (T.hs.n + T.np) 0 = -1 ∧ calF T.hs.nm w T.hs.n 0 = -1) ∨ ∃ k, k < T.hs.n + T.np ∧ calF (Bm 15) w (T.hs.n + T.np) 0 = nI k ∧ ((Am 16 k = 0 ∧ ∃ x, x < T.hs.n ∧ Am 17 k = nI x ∧ calF T.hs.nm w T.hs.n 0 = nI x) ∨ (Am 16 k = 1 ∧ calF T.hs.nm w T.hs.n 0 = -1)) := by
  rcases calF_or (Bm 15) w (T.hs.n + T.np) 0 with q | ⟨k, _, k2, k3, k4⟩
  · refine Or.inl ⟨q, ?_⟩
    have q2 := (h.nw hN).mp q
    exact Decidable.byContradiction fun q3 => q2 (Or.inr q3)
  · refine Or.inr ⟨k, by omega, k3, ?_⟩
    rcases h.1 k (by omega) with ⟨x0, x, x1, x2, x3⟩ | ⟨p0, p, p1, p2⟩
    · refine Or.inl ⟨x0, x, x1, x2, ?_⟩
      rcases calF_or T.hs.nm w T.hs.n 0 with q | ⟨y, _, y2, y3, y4⟩
      · exact absurd (x3.symm.trans k4) ((calF_i _ _ _ _ (by omega)).mp q x (by omega) (by omega))
      · rw [y3, hK.1 y x (by omega) x1 (y4.trans (k4.symm.trans x3))]
    · refine Or.inr ⟨p0, (calF_i _ _ _ _ (by omega)).mpr (fun y _ y2 y3 => ?_)⟩
      exact hK.2.2 p y p1 (by omega) ((p2.symm.trans k4).trans y3.symm)
theorem y_begins {x y : Int32} {p : Nat} (h : yP M b oa tw (.ref a) oq A tp le (.ok p)) (k : (tk tp le p).2.2.1 = 1) (hM : aMt M a T) (ha : b + 16 ≤ a) (hd : T.dr ≤ 9) (hA : tpR A tp) (hl : le ≤ 1100) : EvM ad 2 (iX13_lineBegins ad) [.ref b, .int x, .int y] M (fun v' M' => v' = none ∧ Fr b 1 M M' ∧ yP M' b oa tw (.ref a) oq A tp le (if x = y then .error (5, (tk tp le p).1) else if T.dr = 0 then .error (6, (tk tp le p).1) else .ok (tk tp le p).2.1)) := by
  obtain ⟨kn, Am, Bm, m0, _⟩ := id hM
  have ⟨r, hy, _⟩ := id h
  have h0 := hy.1
  refine ⟨Nat.le_of_ble_eq_true rfl, ?_⟩
  show Ev ad _ (rX13_lineBegins ad) (0, [some (.ref b), some (.int x), some (.int y)], [], M) _
  repeat (first | refine es rfl rfl rfl ?_ | refine eg rfl (by assumption) rfl ?_ | refine eanE rfl (by assumption) (by with_reducible first | exact rfl | exact Int32.zero_add _ | exact ix8 _ | exact ix12 _ | exact ix7r _ _ | exact n7 | exact n0 | exact n1) (by assumption) rfl ?_ | refine eal rfl (by assumption) (by assumption) rfl ?_ | refine eri rfl ?_ | refine erv rfl ?_ | refine erl rfl ?_ | refine era rfl ?_ | refine erz0 rfl ?_ | refine erz1 rfl ?_)
  try dsimp only [set1, set2, kilP, List.set_cons_zero, List.set_cons_succ, List.getElem?_cons_zero, List.getElem?_cons_succ, List.nil_append, List.cons_append, Option.toList_some, Option.toList_none]
  refine ei _ rfl rfl (fun c => ?_) (fun c => ?_)
  · rw [if_neg c]
    by_cases hz : T.dr = 0
    · rw [if_pos hz]
      repeat (first | refine es rfl rfl rfl ?_ | refine eg rfl (by assumption) rfl ?_ | refine eanE rfl (by assumption) (by with_reducible first | exact rfl | exact Int32.zero_add _ | exact ix8 _ | exact ix12 _ | exact ix7r _ _ | exact n7 | exact n0 | exact n1) (by assumption) rfl ?_ | refine eal rfl (by assumption) (by assumption) rfl ?_ | refine eri rfl ?_ | refine erv rfl ?_ | refine erl rfl ?_ | refine era rfl ?_ | refine erz0 rfl ?_ | refine erz1 rfl ?_)
      try dsimp only [set1, set2, kilP, List.set_cons_zero, List.set_cons_succ, List.getElem?_cons_zero, List.getElem?_cons_succ, List.nil_append, List.cons_append, Option.toList_some, Option.toList_none]
      refine ei _ rfl rfl (fun c2 => ?_) (fun c2 => ?_)
      · exact absurd (show nI T.dr = 0 by rw [hz]; rfl) c2
      repeat (first | refine es rfl rfl rfl ?_ | refine eg rfl (by assumption) rfl ?_ | refine eanE rfl (by assumption) (by with_reducible first | exact rfl | exact Int32.zero_add _ | exact ix8 _ | exact ix12 _ | exact ix7r _ _ | exact n7 | exact n0 | exact n1) (by assumption) rfl ?_ | refine eal rfl (by assumption) (by assumption) rfl ?_ | refine eri rfl ?_ | refine erv rfl ?_ | refine erl rfl ?_ | refine era rfl ?_ | refine erz0 rfl ?_ | refine erz1 rfl ?_)
      try dsimp only [set1, set2, kilP, List.set_cons_zero, List.set_cons_succ, List.getElem?_cons_zero, List.getElem?_cons_succ, List.nil_append, List.cons_append, Option.toList_some, Option.toList_none]
      refine ecv rfl rfl (by assumption) rfl rfl rfl (y_flaw (n := 6) rfl h) (by first | rfl | exact Nat.blt_eq.mpr (by omega)) ?_
      rintro v M1 ⟨rfl, hF1, h1⟩
      have ⟨r1, hy1, _⟩ := id h1
      have k0 := hy1.1
      try dsimp only [set1, set2, kilP, List.set_cons_zero, List.set_cons_succ, List.getElem?_cons_zero, List.getElem?_cons_succ, List.nil_append, List.cons_append, Option.toList_some, Option.toList_none]
      repeat (first | refine es rfl rfl rfl ?_ | refine eg rfl (by assumption) rfl ?_ | refine eanE rfl (by assumption) (by with_reducible first | exact rfl | exact Int32.zero_add _ | exact ix8 _ | exact ix12 _ | exact ix7r _ _ | exact n7 | exact n0 | exact n1) (by assumption) rfl ?_ | refine eal rfl (by assumption) (by assumption) rfl ?_ | refine eri rfl ?_ | refine erv rfl ?_ | refine erl rfl ?_ | refine era rfl ?_ | refine erz0 rfl ?_ | refine erz1 rfl ?_)
      try dsimp only [set1, set2, kilP, List.set_cons_zero, List.set_cons_succ, List.getElem?_cons_zero, List.getElem?_cons_succ, List.nil_append, List.cons_append, Option.toList_some, Option.toList_none]
      refine ecv rfl rfl (by assumption) rfl rfl rfl (y_goesOn hA hl h1.er) (by first | rfl | exact Nat.blt_eq.mpr (by omega)) ?_
      rintro v M2 ⟨rfl, hF2, h2⟩
      try dsimp only [set1, set2, kilP, List.set_cons_zero, List.set_cons_succ, List.getElem?_cons_zero, List.getElem?_cons_succ, List.nil_append, List.cons_append, Option.toList_some, Option.toList_none]
      repeat (first | refine es rfl rfl rfl ?_ | refine eg rfl (by assumption) rfl ?_ | refine eanE rfl (by assumption) (by with_reducible first | exact rfl | exact Int32.zero_add _ | exact ix8 _ | exact ix12 _ | exact ix7r _ _ | exact n7 | exact n0 | exact n1) (by assumption) rfl ?_ | refine eal rfl (by assumption) (by assumption) rfl ?_ | refine eri rfl ?_ | refine erv rfl ?_ | refine erl rfl ?_ | refine era rfl ?_ | refine erz0 rfl ?_ | refine erz1 rfl ?_)
      try dsimp only [set1, set2, kilP, List.set_cons_zero, List.set_cons_succ, List.getElem?_cons_zero, List.getElem?_cons_succ, List.nil_append, List.cons_append, Option.toList_some, Option.toList_none]
      exact ⟨rfl, hF1.tr hF2 (by omega) (by omega), h2⟩
    · rw [if_neg hz]
      repeat (first | refine es rfl rfl rfl ?_ | refine eg rfl (by assumption) rfl ?_ | refine eanE rfl (by assumption) (by with_reducible first | exact rfl | exact Int32.zero_add _ | exact ix8 _ | exact ix12 _ | exact ix7r _ _ | exact n7 | exact n0 | exact n1) (by assumption) rfl ?_ | refine eal rfl (by assumption) (by assumption) rfl ?_ | refine eri rfl ?_ | refine erv rfl ?_ | refine erl rfl ?_ | refine era rfl ?_ | refine erz0 rfl ?_ | refine erz1 rfl ?_)
      try dsimp only [set1, set2, kilP, List.set_cons_zero, List.set_cons_succ, List.getElem?_cons_zero, List.getElem?_cons_succ, List.nil_append, List.cons_append, Option.toList_some, Option.toList_none]
      refine ei _ rfl rfl (fun c2 => ?_) (fun c2 => ?_)
      rotate_left
      · exact absurd (Decidable.not_not.mp c2) (nI_ne0 (by omega) (by omega))
      repeat (first | refine es rfl rfl rfl ?_ | refine eg rfl (by assumption) rfl ?_ | refine eanE rfl (by assumption) (by with_reducible first | exact rfl | exact Int32.zero_add _ | exact ix8 _ | exact ix12 _ | exact ix7r _ _ | exact n7 | exact n0 | exact n1) (by assumption) rfl ?_ | refine eal rfl (by assumption) (by assumption) rfl ?_ | refine eri rfl ?_ | refine erv rfl ?_ | refine erl rfl ?_ | refine era rfl ?_ | refine erz0 rfl ?_ | refine erz1 rfl ?_)
      try dsimp only [set1, set2, kilP, List.set_cons_zero, List.set_cons_succ, List.getElem?_cons_zero, List.getElem?_cons_succ, List.nil_append, List.cons_append, Option.toList_some, Option.toList_none]
      refine ecv rfl rfl (by assumption) rfl rfl rfl (y_goesOn hA hl (h.nx (by omega))) (by first | rfl | exact Nat.blt_eq.mpr (by omega)) ?_
      rintro v M2 ⟨rfl, hF2, h2⟩
      try dsimp only [set1, set2, kilP, List.set_cons_zero, List.set_cons_succ, List.getElem?_cons_zero, List.getElem?_cons_succ, List.nil_append, List.cons_append, Option.toList_some, Option.toList_none]
      repeat (first | refine es rfl rfl rfl ?_ | refine eg rfl (by assumption) rfl ?_ | refine eanE rfl (by assumption) (by with_reducible first | exact rfl | exact Int32.zero_add _ | exact ix8 _ | exact ix12 _ | exact ix7r _ _ | exact n7 | exact n0 | exact n1) (by assumption) rfl ?_ | refine eal rfl (by assumption) (by assumption) rfl ?_ | refine eri rfl ?_ | refine erv rfl ?_ | refine erl rfl ?_ | refine era rfl ?_ | refine erz0 rfl ?_ | refine erz1 rfl ?_)
      try dsimp only [set1, set2, kilP, List.set_cons_zero, List.set_cons_succ, List.getElem?_cons_zero, List.getElem?_cons_succ, List.nil_append, List.cons_append, Option.toList_some, Option.toList_none]
      exact ⟨rfl, hF2, h2⟩
  · rw [if_pos (Decidable.not_not.mp c)]
    repeat (first | refine es rfl rfl rfl ?_ | refine eg rfl (by assumption) rfl ?_ | refine eanE rfl (by assumption) (by with_reducible first | exact rfl | exact Int32.zero_add _ | exact ix8 _ | exact ix12 _ | exact ix7r _ _ | exact n7 | exact n0 | exact n1) (by assumption) rfl ?_ | refine eal rfl (by assumption) (by assumption) rfl ?_ | refine eri rfl ?_ | refine erv rfl ?_ | refine erl rfl ?_ | refine era rfl ?_ | refine erz0 rfl ?_ | refine erz1 rfl ?_)
    try dsimp only [set1, set2, kilP, List.set_cons_zero, List.set_cons_succ, List.getElem?_cons_zero, List.getElem?_cons_succ, List.nil_append, List.cons_append, Option.toList_some, Option.toList_none]
    refine ecv rfl rfl (by assumption) rfl rfl rfl (y_flaw (n := 5) rfl h) (by first | rfl | exact Nat.blt_eq.mpr (by omega)) ?_
    rintro v M1 ⟨rfl, hF1, h1⟩
    have ⟨r1, hy1, _⟩ := id h1
    have k0 := hy1.1
    have n0 := (hF1.1 a (by omega)).trans m0
    try dsimp only [set1, set2, kilP, List.set_cons_zero, List.set_cons_succ, List.getElem?_cons_zero, List.getElem?_cons_succ, List.nil_append, List.cons_append, Option.toList_some, Option.toList_none]
    have tail : ∀ M2, Fr b 1 M M2 → yP M2 b oa tw (.ref a) oq A tp le (.error (5, (tk tp le p).1)) → Ev ad 2 (rX13_lineBegins ad) (26, [some (.ref b), some (.int x), some (.int y)], [], M2) (fun v' M' => v' = none ∧ Fr b 1 M M' ∧ yP M' b oa tw (.ref a) oq A tp le (.error (5, (tk tp le p).1))) := by
      intro M2 hF2 h2
      have ⟨r2, hy2, _⟩ := id h2
      have j0 := hy2.1
      repeat (first | refine es rfl rfl rfl ?_ | refine eg rfl (by assumption) rfl ?_ | refine eanE rfl (by assumption) (by with_reducible first | exact rfl | exact Int32.zero_add _ | exact ix8 _ | exact ix12 _ | exact ix7r _ _ | exact n7 | exact n0 | exact n1) (by assumption) rfl ?_ | refine eal rfl (by assumption) (by assumption) rfl ?_ | refine eri rfl ?_ | refine erv rfl ?_ | refine erl rfl ?_ | refine era rfl ?_ | refine erz0 rfl ?_ | refine erz1 rfl ?_)
      try dsimp only [set1, set2, kilP, List.set_cons_zero, List.set_cons_succ, List.getElem?_cons_zero, List.getElem?_cons_succ, List.nil_append, List.cons_append, Option.toList_some, Option.toList_none]
      refine ecv rfl rfl (by assumption) rfl rfl rfl (y_goesOn hA hl h2.er) (by first | rfl | exact Nat.blt_eq.mpr (by omega)) ?_
      rintro v M3 ⟨rfl, hF3, h3⟩
      try dsimp only [set1, set2, kilP, List.set_cons_zero, List.set_cons_succ, List.getElem?_cons_zero, List.getElem?_cons_succ, List.nil_append, List.cons_append, Option.toList_some, Option.toList_none]
      repeat (first | refine es rfl rfl rfl ?_ | refine eg rfl (by assumption) rfl ?_ | refine eanE rfl (by assumption) (by with_reducible first | exact rfl | exact Int32.zero_add _ | exact ix8 _ | exact ix12 _ | exact ix7r _ _ | exact n7 | exact n0 | exact n1) (by assumption) rfl ?_ | refine eal rfl (by assumption) (by assumption) rfl ?_ | refine eri rfl ?_ | refine erv rfl ?_ | refine erl rfl ?_ | refine era rfl ?_ | refine erz0 rfl ?_ | refine erz1 rfl ?_)
      try dsimp only [set1, set2, kilP, List.set_cons_zero, List.set_cons_succ, List.getElem?_cons_zero, List.getElem?_cons_succ, List.nil_append, List.cons_append, Option.toList_some, Option.toList_none]
      exact ⟨rfl, hF2.tr hF3 (by omega) (by omega), h3⟩
    repeat (first | refine es rfl rfl rfl ?_ | refine eg rfl (by assumption) rfl ?_ | refine eanE rfl (by assumption) (by with_reducible first | exact rfl | exact Int32.zero_add _ | exact ix8 _ | exact ix12 _ | exact ix7r _ _ | exact n7 | exact n0 | exact n1) (by assumption) rfl ?_ | refine eal rfl (by assumption) (by assumption) rfl ?_ | refine eri rfl ?_ | refine erv rfl ?_ | refine erl rfl ?_ | refine era rfl ?_ | refine erz0 rfl ?_ | refine erz1 rfl ?_)
    try dsimp only [set1, set2, kilP, List.set_cons_zero, List.set_cons_succ, List.getElem?_cons_zero, List.getElem?_cons_succ, List.nil_append, List.cons_append, Option.toList_some, Option.toList_none]
    refine ei _ rfl rfl (fun c2 => ?_) (fun c2 => ?_)
    · exact tail M1 hF1 h1
    · repeat (first | refine es rfl rfl rfl ?_ | refine eg rfl (by assumption) rfl ?_ | refine eanE rfl (by assumption) (by with_reducible first | exact rfl | exact Int32.zero_add _ | exact ix8 _ | exact ix12 _ | exact ix7r _ _ | exact n7 | exact n0 | exact n1) (by assumption) rfl ?_ | refine eal rfl (by assumption) (by assumption) rfl ?_ | refine eri rfl ?_ | refine erv rfl ?_ | refine erl rfl ?_ | refine era rfl ?_ | refine erz0 rfl ?_ | refine erz1 rfl ?_)
      try dsimp only [set1, set2, kilP, List.set_cons_zero, List.set_cons_succ, List.getElem?_cons_zero, List.getElem?_cons_succ, List.nil_append, List.cons_append, Option.toList_some, Option.toList_none]
      refine ecv rfl rfl (by assumption) rfl rfl rfl (y_flaw (n := 6) rfl h1) (by first | rfl | exact Nat.blt_eq.mpr (by omega)) ?_
      rintro v M2 ⟨rfl, hF2, h2⟩
      try dsimp only [set1, set2, kilP, List.set_cons_zero, List.set_cons_succ, List.getElem?_cons_zero, List.getElem?_cons_succ, List.nil_append, List.cons_append, Option.toList_some, Option.toList_none]
      exact tail M2 (hF1.tr hF2 (by omega) (by omega)) h2
end RNAME
