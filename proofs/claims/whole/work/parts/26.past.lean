/-! Past: acts go round in 16 rows, marks lie in 3 -/
/-- rows: acts, the next place, how many; marks, how many -/
abbrev Pt4 : Type := (Nat → Int32) × Nat × Nat × (Nat → Int32) × Nat
def aPt (M : Mm) (b : Nat) (p : Pt4) : Prop := M.1 b = some (.inr (4, [.ref (b + 1), .int (nI p.2.1), .int (nI p.2.2.1), .ref (b + 2), .int (nI p.2.2.2.2)])) ∧ M.1 (b + 1) = ints 256 p.1 ∧ M.1 (b + 2) = ints 48 p.2.2.2.1
theorem aPt.kept {M M' : Mm} {b : Nat} {p : Pt4} (hb : aPt M b p) (hq : ∀ q, b ≤ q → q < b + 3 → M'.1 q = M.1 q) : aPt M' b p := by
  obtain ⟨h0, h1, h2⟩ := hb
  exact ⟨(hq _ (by omega) (by omega)).trans h0, (hq _ (by omega) (by omega)).trans h1, (hq _ (by omega) (by omega)).trans h2⟩
theorem aPt.fr {M M' : Mm} {b lo n : Nat} {p : Pt4} (hb : aPt M b p) (hF : Fr lo n M M') (hq : b + 3 ≤ lo ∨ lo + n ≤ b) : aPt M' b p := hb.kept (fun q h1 h2 => hF.1 q (by omega))
theorem e4_forget {ad : Nat → Nat} {M : Mm} {b : Nat} {p : Pt4} (hb : aPt M b p) : EvM ad 0 (iX4_forget ad) [.ref b] M (fun v' M' => v' = none ∧ aPt M' b (p.1, p.2.1, 0, p.2.2.2.1, 0) ∧ Fr b 3 M M') := by
  obtain ⟨h0, h1, h2⟩ := hb
  have hF := Fr.rf b 3 M
  refine ⟨Nat.le_of_ble_eq_true rfl, ?_⟩
  show Ev ad _ (rX4_forget ad) (0, [some (.ref b)], [], M) _
  repeat (first | refine es rfl rfl rfl ?_ | refine eg rfl (by assumption) rfl ?_ | refine ean rfl (by assumption) (by assumption) rfl ?_ | refine eal rfl (by assumption) (by assumption) rfl ?_ | refine eri rfl ?_ | refine erv rfl ?_ | refine erl rfl ?_ | refine era rfl ?_ | refine erz0 rfl ?_ | refine erz1 rfl ?_)
  try dsimp only [set1, set2, kilP, List.set_cons_zero, List.set_cons_succ, List.getElem?_cons_zero, List.getElem?_cons_succ, List.nil_append, List.cons_append, Option.toList_some, Option.toList_none]
  refine epM rfl (by assumption) rfl rfl rfl (fun M2 eM => ?_)
  have k0 := up_w eM
  replace h1 := up_k eM h1 (by omega)
  replace h2 := up_k eM h2 (by omega)
  replace hF := hF.up eM (by omega) (by omega)
  repeat (first | refine es rfl rfl rfl ?_ | refine eg rfl (by assumption) rfl ?_ | refine ean rfl (by assumption) (by assumption) rfl ?_ | refine eal rfl (by assumption) (by assumption) rfl ?_ | refine eri rfl ?_ | refine erv rfl ?_ | refine erl rfl ?_ | refine era rfl ?_ | refine erz0 rfl ?_ | refine erz1 rfl ?_)
  try dsimp only [set1, set2, kilP, List.set_cons_zero, List.set_cons_succ, List.getElem?_cons_zero, List.getElem?_cons_succ, List.nil_append, List.cons_append, Option.toList_some, Option.toList_none]
  refine epM rfl (by assumption) rfl rfl rfl (fun M3 eM3 => ?_)
  have k1 := up_w eM3
  replace h1 := up_k eM3 h1 (by omega)
  replace h2 := up_k eM3 h2 (by omega)
  replace hF := hF.up eM3 (by omega) (by omega)
  repeat (first | refine es rfl rfl rfl ?_ | refine eg rfl (by assumption) rfl ?_ | refine ean rfl (by assumption) (by assumption) rfl ?_ | refine eal rfl (by assumption) (by assumption) rfl ?_ | refine eri rfl ?_ | refine erv rfl ?_ | refine erl rfl ?_ | refine era rfl ?_ | refine erz0 rfl ?_ | refine erz1 rfl ?_)
  try dsimp only [set1, set2, kilP, List.set_cons_zero, List.set_cons_succ, List.getElem?_cons_zero, List.getElem?_cons_succ, List.nil_append, List.cons_append, Option.toList_some, Option.toList_none]
  exact ⟨rfl, ⟨k1, h1, h2⟩, hF⟩
theorem e4_acts {ad : Nat → Nat} {M : Mm} {b : Nat} {p : Pt4} (hb : aPt M b p) : Rd ad 0 (iX4_actCount ad) [.ref b] M (some (.int (nI p.2.2.1))) := by
  obtain ⟨h0, h1, h2⟩ := hb
  refine ⟨Nat.le_of_ble_eq_true rfl, ?_⟩
  show Ev ad _ (rX4_actCount ad) (0, [some (.ref b)], [], M) _
  repeat (first | refine es rfl rfl rfl ?_ | refine eg rfl (by assumption) rfl ?_ | refine ean rfl (by assumption) (by assumption) rfl ?_ | refine eal rfl (by assumption) (by assumption) rfl ?_ | refine eri rfl ?_ | refine erv rfl ?_ | refine erl rfl ?_ | refine era rfl ?_ | refine erz0 rfl ?_ | refine erz1 rfl ?_)
  try dsimp only [set1, set2, kilP, List.set_cons_zero, List.set_cons_succ, List.getElem?_cons_zero, List.getElem?_cons_succ, List.nil_append, List.cons_append, Option.toList_some, Option.toList_none]
  exact ⟨rfl, rfl⟩
theorem e4_marks {ad : Nat → Nat} {M : Mm} {b : Nat} {p : Pt4} (hb : aPt M b p) : Rd ad 0 (iX4_markCount ad) [.ref b] M (some (.int (nI p.2.2.2.2))) := by
  obtain ⟨h0, h1, h2⟩ := hb
  refine ⟨Nat.le_of_ble_eq_true rfl, ?_⟩
  show Ev ad _ (rX4_markCount ad) (0, [some (.ref b)], [], M) _
  repeat (first | refine es rfl rfl rfl ?_ | refine eg rfl (by assumption) rfl ?_ | refine ean rfl (by assumption) (by assumption) rfl ?_ | refine eal rfl (by assumption) (by assumption) rfl ?_ | refine eri rfl ?_ | refine erv rfl ?_ | refine erl rfl ?_ | refine era rfl ?_ | refine erz0 rfl ?_ | refine erz1 rfl ?_)
  try dsimp only [set1, set2, kilP, List.set_cons_zero, List.set_cons_succ, List.getElem?_cons_zero, List.getElem?_cons_succ, List.nil_append, List.cons_append, Option.toList_some, Option.toList_none]
  exact ⟨rfl, rfl⟩
/-- a rest by 16 -/
theorem rem16 {x : Int32} {a : Nat} (hx : x = nI a) (ha : a < 2 ^ 31) : x - x / 16 * 16 = nI (a % 16) := by
  subst hx
  rw [show (16 : Int32) = nI 16 from rfl, pk_rem ha (by omega) (by omega)]
theorem e4_keepAct {ad : Nat → Nat} {M : Mm} {b w : Nat} {p : Pt4} {f : Nat → Int32} (hb : aPt M b p) (hw : aNw M w f) (hx : p.2.1 < 16) (hk : p.2.2.1 ≤ 16) (hd : w + 2 ≤ b ∨ b + 3 ≤ w) : EvM ad 1 (iX4_keepAct ad) [.ref b, .ref w] M (fun v' M' => v' = none ∧ aPt M' b (va_cpy f p.1 0 (p.2.1 * 16) 16, (p.2.1 + 1) % 16, min 16 (p.2.2.1 + 1), p.2.2.2.1, p.2.2.2.2) ∧ Fr b 3 M M') := by
  obtain ⟨h0, h1, h2⟩ := hb
  have g0 := hw.1
  have hF := Fr.rf b 3 M
  refine ⟨Nat.le_of_ble_eq_true rfl, ?_⟩
  show Ev ad _ (rX4_keepAct ad) (0, [some (.ref b), some (.ref w)], [], M) _
  repeat (first | refine es rfl rfl rfl ?_ | refine eg rfl (by assumption) rfl ?_ | refine ean rfl (by assumption) (by assumption) rfl ?_ | refine eal rfl (by assumption) (by assumption) rfl ?_ | refine eri rfl ?_ | refine erv rfl ?_ | refine erl rfl ?_ | refine era rfl ?_ | refine erz0 rfl ?_ | refine erz1 rfl ?_)
  try dsimp only [set1, set2, kilP, List.set_cons_zero, List.set_cons_succ, List.getElem?_cons_zero, List.getElem?_cons_succ, List.nil_append, List.cons_append, Option.toList_some, Option.toList_none]
  rw [show nI p.2.1 * 16 = nI (p.2.1 * 16) from pk_mul _ 16]
  refine ecv rfl rfl (by assumption) rfl rfl rfl (e3_save (o := p.2.1 * 16) hw h1 (by omega) rfl) (by first | rfl | exact Nat.blt_eq.mpr (by omega)) ?_
  rintro v M2 ⟨rfl, eM⟩
  have k1 := up_w eM
  replace h0 := up_k eM h0 (by omega)
  replace h2 := up_k eM h2 (by omega)
  replace hF := hF.up eM (by omega) (by omega)
  try dsimp only [set1, set2, kilP, List.set_cons_zero, List.set_cons_succ, List.getElem?_cons_zero, List.getElem?_cons_succ, List.nil_append, List.cons_append, Option.toList_some, Option.toList_none]
  repeat (first | refine es rfl rfl rfl ?_ | refine eg rfl (by assumption) rfl ?_ | refine ean rfl (by assumption) (by assumption) rfl ?_ | refine eal rfl (by assumption) (by assumption) rfl ?_ | refine eri rfl ?_ | refine erv rfl ?_ | refine erl rfl ?_ | refine era rfl ?_ | refine erz0 rfl ?_ | refine erz1 rfl ?_)
  try dsimp only [set1, set2, kilP, List.set_cons_zero, List.set_cons_succ, List.getElem?_cons_zero, List.getElem?_cons_succ, List.nil_append, List.cons_append, Option.toList_some, Option.toList_none]
  rw [rem16 (a := p.2.1 + 1) (nI_1 _) (by omega)]
  refine epM rfl (by assumption) rfl rfl rfl (fun M3 eM3 => ?_)
  have k0 := up_w eM3
  replace k1 := up_k eM3 k1 (by omega)
  replace h2 := up_k eM3 h2 (by omega)
  replace hF := hF.up eM3 (by omega) (by omega)
  repeat (first | refine es rfl rfl rfl ?_ | refine eg rfl (by assumption) rfl ?_ | refine ean rfl (by assumption) (by assumption) rfl ?_ | refine eal rfl (by assumption) (by assumption) rfl ?_ | refine eri rfl ?_ | refine erv rfl ?_ | refine erl rfl ?_ | refine era rfl ?_ | refine erz0 rfl ?_ | refine erz1 rfl ?_)
  try dsimp only [set1, set2, kilP, List.set_cons_zero, List.set_cons_succ, List.getElem?_cons_zero, List.getElem?_cons_succ, List.nil_append, List.cons_append, Option.toList_some, Option.toList_none]
  refine ei _ rfl rfl (fun c1 => ?_) (fun c1 => ?_)
  · repeat (first | refine es rfl rfl rfl ?_ | refine eg rfl (by assumption) rfl ?_ | refine ean rfl (by assumption) (by assumption) rfl ?_ | refine eal rfl (by assumption) (by assumption) rfl ?_ | refine eri rfl ?_ | refine erv rfl ?_ | refine erl rfl ?_ | refine era rfl ?_ | refine erz0 rfl ?_ | refine erz1 rfl ?_)
    try dsimp only [set1, set2, kilP, List.set_cons_zero, List.set_cons_succ, List.getElem?_cons_zero, List.getElem?_cons_succ, List.nil_append, List.cons_append, Option.toList_some, Option.toList_none]
    have e16 : p.2.2.1 = 16 := by
      rcases Nat.lt_or_ge p.2.2.1 16 with q | q
      · exact absurd c1 (nI_ge (b := 16) q (by omega))
      · omega
    refine ⟨rfl, ⟨?_, k1, h2⟩, hF⟩
    rw [k0, e16]
    rfl
  · repeat (first | refine es rfl rfl rfl ?_ | refine eg rfl (by assumption) rfl ?_ | refine ean rfl (by assumption) (by assumption) rfl ?_ | refine eal rfl (by assumption) (by assumption) rfl ?_ | refine eri rfl ?_ | refine erv rfl ?_ | refine erl rfl ?_ | refine era rfl ?_ | refine erz0 rfl ?_ | refine erz1 rfl ?_)
    try dsimp only [set1, set2, kilP, List.set_cons_zero, List.set_cons_succ, List.getElem?_cons_zero, List.getElem?_cons_succ, List.nil_append, List.cons_append, Option.toList_some, Option.toList_none]
    refine epM rfl (by assumption) rfl rfl rfl (fun M4 eM4 => ?_)
    have k5 := up_w eM4
    replace k1 := up_k eM4 k1 (by omega)
    replace h2 := up_k eM4 h2 (by omega)
    replace hF := hF.up eM4 (by omega) (by omega)
    repeat (first | refine es rfl rfl rfl ?_ | refine eg rfl (by assumption) rfl ?_ | refine ean rfl (by assumption) (by assumption) rfl ?_ | refine eal rfl (by assumption) (by assumption) rfl ?_ | refine eri rfl ?_ | refine erv rfl ?_ | refine erl rfl ?_ | refine era rfl ?_ | refine erz0 rfl ?_ | refine erz1 rfl ?_)
    try dsimp only [set1, set2, kilP, List.set_cons_zero, List.set_cons_succ, List.getElem?_cons_zero, List.getElem?_cons_succ, List.nil_append, List.cons_append, Option.toList_some, Option.toList_none]
    have e16 : p.2.2.1 < 16 := by
      rcases Nat.lt_or_ge p.2.2.1 16 with q | q
      · exact q
      · exact absurd (nI_le (a := 16) q (by omega)) c1
    refine ⟨rfl, ⟨?_, k1, h2⟩, hF⟩
    rw [nI_1] at k5
    rw [k5]
    show some (Sum.inr (4, [_, _, Value.int (nI (p.2.2.1 + 1)), _, _])) = some (Sum.inr (4, [_, _, Value.int (nI (min 16 (p.2.2.1 + 1))), _, _]))
    rw [Nat.min_eq_right (by omega)]
theorem e4_takeBack {ad : Nat → Nat} {M : Mm} {b w : Nat} {p : Pt4} {f : Nat → Int32} (hb : aPt M b p) (hw : aNw M w f) (hx : p.2.1 < 16) (hk : 1 ≤ p.2.2.1 ∧ p.2.2.1 ≤ 16) (hd : w + 2 ≤ b ∨ b + 3 ≤ w) : EvM ad 1 (iX4_takeBack ad) [.ref b, .ref w] M (fun v' M' => v' = none ∧ aPt M' b (p.1, (p.2.1 + 15) % 16, p.2.2.1 - 1, p.2.2.2.1, p.2.2.2.2) ∧ aNw M' w (va_cpy p.1 f ((p.2.1 + 15) % 16 * 16) 0 16) ∧ (∀ q, (q < b ∨ b + 3 ≤ q) → (q < w ∨ w + 2 ≤ q) → M'.1 q = M.1 q) ∧ M'.2 = M.2) := by
  obtain ⟨h0, h1, h2⟩ := hb
  obtain ⟨g0, g1⟩ := hw
  refine ⟨Nat.le_of_ble_eq_true rfl, ?_⟩
  show Ev ad _ (rX4_takeBack ad) (0, [some (.ref b), some (.ref w)], [], M) _
  repeat (first | refine es rfl rfl rfl ?_ | refine eg rfl (by assumption) rfl ?_ | refine ean rfl (by assumption) (by assumption) rfl ?_ | refine eal rfl (by assumption) (by assumption) rfl ?_ | refine eri rfl ?_ | refine erv rfl ?_ | refine erl rfl ?_ | refine era rfl ?_ | refine erz0 rfl ?_ | refine erz1 rfl ?_)
  try dsimp only [set1, set2, kilP, List.set_cons_zero, List.set_cons_succ, List.getElem?_cons_zero, List.getElem?_cons_succ, List.nil_append, List.cons_append, Option.toList_some, Option.toList_none]
  refine ei _ rfl rfl (fun c1 => ?_) (fun c1 => ?_)
  · repeat (first | refine es rfl rfl rfl ?_ | refine eg rfl (by assumption) rfl ?_ | refine ean rfl (by assumption) (by assumption) rfl ?_ | refine eal rfl (by assumption) (by assumption) rfl ?_ | refine eri rfl ?_ | refine erv rfl ?_ | refine erl rfl ?_ | refine era rfl ?_ | refine erz0 rfl ?_ | refine erz1 rfl ?_)
    try dsimp only [set1, set2, kilP, List.set_cons_zero, List.set_cons_succ, List.getElem?_cons_zero, List.getElem?_cons_succ, List.nil_append, List.cons_append, Option.toList_some, Option.toList_none]
    have e15 : nI p.2.1 + 16 - 1 = nI (p.2.1 + 15) := by
      rw [show nI p.2.1 + 16 = nI (p.2.1 + 15 + 1) from nI_add _ 16, nI_pred]
    rw [rem16 (a := p.2.1 + 15) e15 (by omega)]
    · refine epM rfl (by assumption) rfl rfl rfl (fun M2 eM => ?_)
      have k0 := up_w eM
      replace h1 := up_k eM h1 (by omega)
      replace h2 := up_k eM h2 (by omega)
      replace g0 := up_k eM g0 (by omega)
      replace g1 := up_k eM g1 (by omega)
      repeat (first | refine es rfl rfl rfl ?_ | refine eg rfl (by assumption) rfl ?_ | refine ean rfl (by assumption) (by assumption) rfl ?_ | refine eal rfl (by assumption) (by assumption) rfl ?_ | refine eri rfl ?_ | refine erv rfl ?_ | refine erl rfl ?_ | refine era rfl ?_ | refine erz0 rfl ?_ | refine erz1 rfl ?_)
      try dsimp only [set1, set2, kilP, List.set_cons_zero, List.set_cons_succ, List.getElem?_cons_zero, List.getElem?_cons_succ, List.nil_append, List.cons_append, Option.toList_some, Option.toList_none]
      refine epM rfl (by assumption) rfl rfl rfl (fun M3 eM3 => ?_)
      have k1 := up_w eM3
      replace h1 := up_k eM3 h1 (by omega)
      replace h2 := up_k eM3 h2 (by omega)
      replace g0 := up_k eM3 g0 (by omega)
      replace g1 := up_k eM3 g1 (by omega)
      repeat (first | refine es rfl rfl rfl ?_ | refine eg rfl (by assumption) rfl ?_ | refine ean rfl (by assumption) (by assumption) rfl ?_ | refine eal rfl (by assumption) (by assumption) rfl ?_ | refine eri rfl ?_ | refine erv rfl ?_ | refine erl rfl ?_ | refine era rfl ?_ | refine erz0 rfl ?_ | refine erz1 rfl ?_)
      try dsimp only [set1, set2, kilP, List.set_cons_zero, List.set_cons_succ, List.getElem?_cons_zero, List.getElem?_cons_succ, List.nil_append, List.cons_append, Option.toList_some, Option.toList_none]
      have hlt : (p.2.1 + 15) % 16 < 16 := Nat.mod_lt _ (by omega)
      rw [show nI ((p.2.1 + 15) % 16) * 16 = nI ((p.2.1 + 15) % 16 * 16) from pk_mul _ 16]
      refine ecv rfl rfl (by assumption) rfl rfl rfl (e3_load (o := (p.2.1 + 15) % 16 * 16) ⟨g0, g1⟩ h1 (by omega) rfl) (by first | rfl | exact Nat.blt_eq.mpr (by omega)) ?_
      rintro v M4 ⟨rfl, eM4⟩
      replace k1 := up_k eM4 k1 (by omega)
      replace h1 := up_k eM4 h1 (by omega)
      replace h2 := up_k eM4 h2 (by omega)
      replace g0 := up_k eM4 g0 (by omega)
      have k9 := up_w eM4
      try dsimp only [set1, set2, kilP, List.set_cons_zero, List.set_cons_succ, List.getElem?_cons_zero, List.getElem?_cons_succ, List.nil_append, List.cons_append, Option.toList_some, Option.toList_none]
      repeat (first | refine es rfl rfl rfl ?_ | refine eg rfl (by assumption) rfl ?_ | refine ean rfl (by assumption) (by assumption) rfl ?_ | refine eal rfl (by assumption) (by assumption) rfl ?_ | refine eri rfl ?_ | refine erv rfl ?_ | refine erl rfl ?_ | refine era rfl ?_ | refine erz0 rfl ?_ | refine erz1 rfl ?_)
      try dsimp only [set1, set2, kilP, List.set_cons_zero, List.set_cons_succ, List.getElem?_cons_zero, List.getElem?_cons_succ, List.nil_append, List.cons_append, Option.toList_some, Option.toList_none]
      refine ⟨rfl, ⟨?_, h1, h2⟩, ⟨g0, k9⟩, fun q a1 a2 => ?_, ?_⟩
      · rw [k1]
        show some (Sum.inr (4, [_, _, Value.int (nI p.2.2.1 - 1), _, _])) = some (Sum.inr (4, [_, _, Value.int (nI (p.2.2.1 - 1)), _, _]))
        rw [show nI p.2.2.1 - 1 = nI (p.2.2.1 - 1) from by
          have h9 := nI_pred (p.2.2.1 - 1)
          rw [show p.2.2.1 - 1 + 1 = p.2.2.1 by omega] at h9
          exact h9]
      · rw [eM4, up_n _ _ (by omega), eM3, up_n _ _ (by omega), eM, up_n _ _ (by omega)]
      · rw [eM4, eM3, eM]; rfl
  · exact absurd (nI_ne0 (by omega) (by omega)) c1
theorem e4_keepMark {ad : Nat → Nat} {M : Mm} {b w : Nat} {p : Pt4} {f : Nat → Int32} (hb : aPt M b p) (hw : aNw M w f) (hk : p.2.2.2.2 < 3) (hd : w + 2 ≤ b ∨ b + 3 ≤ w) : EvM ad 1 (iX4_keepMark ad) [.ref b, .ref w] M (fun v' M' => v' = some (.int (nI p.2.2.2.2)) ∧ aPt M' b (p.1, p.2.1, p.2.2.1, va_cpy f p.2.2.2.1 0 (p.2.2.2.2 * 16) 16, p.2.2.2.2 + 1) ∧ Fr b 3 M M') := by
  obtain ⟨h0, h1, h2⟩ := hb
  have g0 := hw.1
  have hF := Fr.rf b 3 M
  refine ⟨Nat.le_of_ble_eq_true rfl, ?_⟩
  show Ev ad _ (rX4_keepMark ad) (0, [some (.ref b), some (.ref w)], [], M) _
  repeat (first | refine es rfl rfl rfl ?_ | refine eg rfl (by assumption) rfl ?_ | refine ean rfl (by assumption) (by assumption) rfl ?_ | refine eal rfl (by assumption) (by assumption) rfl ?_ | refine eri rfl ?_ | refine erv rfl ?_ | refine erl rfl ?_ | refine era rfl ?_ | refine erz0 rfl ?_ | refine erz1 rfl ?_)
  try dsimp only [set1, set2, kilP, List.set_cons_zero, List.set_cons_succ, List.getElem?_cons_zero, List.getElem?_cons_succ, List.nil_append, List.cons_append, Option.toList_some, Option.toList_none]
  rw [show nI p.2.2.2.2 * 16 = nI (p.2.2.2.2 * 16) from pk_mul _ 16]
  refine ecv rfl rfl (by assumption) rfl rfl rfl (e3_save (o := p.2.2.2.2 * 16) hw h2 (by omega) rfl) (by first | rfl | exact Nat.blt_eq.mpr (by omega)) ?_
  rintro v M2 ⟨rfl, eM⟩
  have k2 := up_w eM
  replace h0 := up_k eM h0 (by omega)
  replace h1 := up_k eM h1 (by omega)
  replace hF := hF.up eM (by omega) (by omega)
  try dsimp only [set1, set2, kilP, List.set_cons_zero, List.set_cons_succ, List.getElem?_cons_zero, List.getElem?_cons_succ, List.nil_append, List.cons_append, Option.toList_some, Option.toList_none]
  repeat (first | refine es rfl rfl rfl ?_ | refine eg rfl (by assumption) rfl ?_ | refine ean rfl (by assumption) (by assumption) rfl ?_ | refine eal rfl (by assumption) (by assumption) rfl ?_ | refine eri rfl ?_ | refine erv rfl ?_ | refine erl rfl ?_ | refine era rfl ?_ | refine erz0 rfl ?_ | refine erz1 rfl ?_)
  try dsimp only [set1, set2, kilP, List.set_cons_zero, List.set_cons_succ, List.getElem?_cons_zero, List.getElem?_cons_succ, List.nil_append, List.cons_append, Option.toList_some, Option.toList_none]
  refine epM rfl (by assumption) rfl rfl rfl (fun M3 eM3 => ?_)
  have k0 := up_w eM3
  replace h1 := up_k eM3 h1 (by omega)
  replace k2 := up_k eM3 k2 (by omega)
  replace hF := hF.up eM3 (by omega) (by omega)
  rw [nI_1] at k0
  repeat (first | refine es rfl rfl rfl ?_ | refine eg rfl (by assumption) rfl ?_ | refine ean rfl (by assumption) (by assumption) rfl ?_ | refine eal rfl (by assumption) (by assumption) rfl ?_ | refine eri rfl ?_ | refine erv rfl ?_ | refine erl rfl ?_ | refine era rfl ?_ | refine erz0 rfl ?_ | refine erz1 rfl ?_)
  try dsimp only [set1, set2, kilP, List.set_cons_zero, List.set_cons_succ, List.getElem?_cons_zero, List.getElem?_cons_succ, List.nil_append, List.cons_append, Option.toList_some, Option.toList_none]
  rw [nI_pred]
  exact ⟨rfl, ⟨k0, h1, k2⟩, hF⟩
theorem e4_goBack {ad : Nat → Nat} {M : Mm} {b w m : Nat} {p : Pt4} {f : Nat → Int32} (hb : aPt M b p) (hw : aNw M w f) (hm : m < 3) (hd : w + 2 ≤ b ∨ b + 3 ≤ w) : EvM ad 1 (iX4_goBack ad) [.ref b, .int (nI m), .ref w] M (fun v' M' => v' = none ∧ aPt M' b (p.1, p.2.1, 0, p.2.2.2.1, p.2.2.2.2) ∧ aNw M' w (va_cpy p.2.2.2.1 f (m * 16) 0 16) ∧ (∀ q, (q < b ∨ b + 3 ≤ q) → (q < w ∨ w + 2 ≤ q) → M'.1 q = M.1 q) ∧ M'.2 = M.2) := by
  obtain ⟨h0, h1, h2⟩ := hb
  obtain ⟨g0, g1⟩ := hw
  refine ⟨Nat.le_of_ble_eq_true rfl, ?_⟩
  show Ev ad _ (rX4_goBack ad) (0, [some (.ref b), some (.int (nI m)), some (.ref w)], [], M) _
  repeat (first | refine es rfl rfl rfl ?_ | refine eg rfl (by assumption) rfl ?_ | refine ean rfl (by assumption) (by assumption) rfl ?_ | refine eal rfl (by assumption) (by assumption) rfl ?_ | refine eri rfl ?_ | refine erv rfl ?_ | refine erl rfl ?_ | refine era rfl ?_ | refine erz0 rfl ?_ | refine erz1 rfl ?_)
  try dsimp only [set1, set2, kilP, List.set_cons_zero, List.set_cons_succ, List.getElem?_cons_zero, List.getElem?_cons_succ, List.nil_append, List.cons_append, Option.toList_some, Option.toList_none]
  rw [show nI m * 16 = nI (m * 16) from pk_mul _ 16]
  refine ecv rfl rfl (by assumption) rfl rfl rfl (e3_load (o := m * 16) ⟨g0, g1⟩ h2 (by omega) rfl) (by first | rfl | exact Nat.blt_eq.mpr (by omega)) ?_
  rintro v M2 ⟨rfl, eM⟩
  have k9 := up_w eM
  replace h0 := up_k eM h0 (by omega)
  replace h1 := up_k eM h1 (by omega)
  replace h2 := up_k eM h2 (by omega)
  replace g0 := up_k eM g0 (by omega)
  try dsimp only [set1, set2, kilP, List.set_cons_zero, List.set_cons_succ, List.getElem?_cons_zero, List.getElem?_cons_succ, List.nil_append, List.cons_append, Option.toList_some, Option.toList_none]
  repeat (first | refine es rfl rfl rfl ?_ | refine eg rfl (by assumption) rfl ?_ | refine ean rfl (by assumption) (by assumption) rfl ?_ | refine eal rfl (by assumption) (by assumption) rfl ?_ | refine eri rfl ?_ | refine erv rfl ?_ | refine erl rfl ?_ | refine era rfl ?_ | refine erz0 rfl ?_ | refine erz1 rfl ?_)
  try dsimp only [set1, set2, kilP, List.set_cons_zero, List.set_cons_succ, List.getElem?_cons_zero, List.getElem?_cons_succ, List.nil_append, List.cons_append, Option.toList_some, Option.toList_none]
  refine epM rfl (by assumption) rfl rfl rfl (fun M3 eM3 => ?_)
  have k0 := up_w eM3
  replace h1 := up_k eM3 h1 (by omega)
  replace h2 := up_k eM3 h2 (by omega)
  replace g0 := up_k eM3 g0 (by omega)
  replace k9 := up_k eM3 k9 (by omega)
  repeat (first | refine es rfl rfl rfl ?_ | refine eg rfl (by assumption) rfl ?_ | refine ean rfl (by assumption) (by assumption) rfl ?_ | refine eal rfl (by assumption) (by assumption) rfl ?_ | refine eri rfl ?_ | refine erv rfl ?_ | refine erl rfl ?_ | refine era rfl ?_ | refine erz0 rfl ?_ | refine erz1 rfl ?_)
  try dsimp only [set1, set2, kilP, List.set_cons_zero, List.set_cons_succ, List.getElem?_cons_zero, List.getElem?_cons_succ, List.nil_append, List.cons_append, Option.toList_some, Option.toList_none]
  refine ⟨rfl, ⟨k0, h1, h2⟩, ⟨g0, k9⟩, fun q a1 a2 => ?_, ?_⟩
  · rw [eM3, up_n _ _ (by omega), eM, up_n _ _ (by omega)]
  · rw [eM3, eM]; rfl
