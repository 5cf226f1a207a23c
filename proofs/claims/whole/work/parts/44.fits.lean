/-! The class's methods: whose room it is -/
section FITS
variable {ad : Nat → Nat} {M : Mm} {b : Nat} {σ : Sg} {C : Nat}
theorem x_fit1 (hX : XR M b σ) (hI : Inv σ C) (hn : 0 < σ.T.hs.n) : EvM ad 10 (iX11_fitted ad) [.ref b] M (fun v' M' => v' = some (.ref (b + 59)) ∧ (∃ w, aFt M' (b + 59) w ∧ w.2.2 = 1 ∧ ctd σ.T w.2.1) ∧ XR M' b σ ∧ Fr (b + 59) 5 M M') := by
  obtain ⟨tb, sp, hts, h0, hRd, hT, hT2, hN, hTr, hPt, hWy, hFt, hSw, hRt⟩ := id hX
  unfold xTop at h0
  have t0 := hT.1.1
  have s0 := hT.2.1.1
  have s1 := hT.2.2.1.1
  have s2 := hT.2.2.2.1
  have n0 := hN.1
  obtain ⟨w, hw, hr⟩ := hFt
  have w0 := hw.1
  refine ⟨Nat.le_of_ble_eq_true rfl, ?_⟩
  show Ev ad _ (rX11_fitted ad) (0, [some (.ref b)], [], M) _
  repeat (first | refine es rfl rfl rfl ?_ | refine eg rfl (by assumption) rfl ?_ | refine ean rfl (by assumption) (by assumption) rfl ?_ | refine eal rfl (by assumption) (by assumption) rfl ?_ | refine eri rfl ?_ | refine erv rfl ?_ | refine erl rfl ?_ | refine era rfl ?_ | refine erz0 rfl ?_ | refine erz1 rfl ?_)
  try dsimp only [set1, set2, kilP, List.set_cons_zero, List.set_cons_succ, List.getElem?_cons_zero, List.getElem?_cons_succ, List.nil_append, List.cons_append, Option.toList_some, Option.toList_none]
  refine ecv rfl rfl (by assumption) rfl rfl rfl (e1_count (hI.wf hn) hw hT hr.1 (by unfold tsp at hts; omega)) (by first | rfl | exact Nat.blt_eq.mpr (by omega)) ?_
  rintro v M1 ⟨rfl, hc, hF1⟩
  have h01 : M1.1 b = _ := (hF1.1 _ (by omega)).trans h0
  try dsimp only [set1, set2, kilP, List.set_cons_zero, List.set_cons_succ, List.getElem?_cons_zero, List.getElem?_cons_succ, List.nil_append, List.cons_append, Option.toList_some, Option.toList_none]
  repeat (first | refine es rfl rfl rfl ?_ | refine eg rfl (by assumption) rfl ?_ | refine ean rfl (by assumption) (by assumption) rfl ?_ | refine eal rfl (by assumption) (by assumption) rfl ?_ | refine eri rfl ?_ | refine erv rfl ?_ | refine erl rfl ?_ | refine era rfl ?_ | refine erz0 rfl ?_ | refine erz1 rfl ?_)
  try dsimp only [set1, set2, kilP, List.set_cons_zero, List.set_cons_succ, List.getElem?_cons_zero, List.getElem?_cons_succ, List.nil_append, List.cons_append, Option.toList_some, Option.toList_none]
  rcases hc with ⟨e1, hw1⟩ | ⟨e1, mb, ct, hmb, hct, hw1⟩
  · exact ⟨rfl, ⟨w, hw1, e1, hr.2 e1⟩, hX.ft hF1 hw1 hr, hF1⟩
  · have hcd : ctd σ.T ((plF σ.T.hs mb σ.T.hs.n 0 0 (ct, w.2.1.2.1, w.2.1.2.2.1, 0)).2.1, (plF σ.T.hs mb σ.T.hs.n 0 0 (ct, w.2.1.2.1, w.2.1.2.2.1, 0)).2.2.1, (plF σ.T.hs mb σ.T.hs.n 0 0 (ct, w.2.1.2.1, w.2.1.2.2.1, 0)).2.2.2.1, (plF σ.T.hs mb σ.T.hs.n 0 0 (ct, w.2.1.2.1, w.2.1.2.2.1, 0)).1) := ⟨mb, ct, _, _, hmb, hct, rfl⟩
    exact ⟨rfl, ⟨_, hw1, rfl, hcd⟩, hX.ft hF1 hw1 ⟨Or.inr rfl, fun _ => hcd⟩, hF1⟩
theorem x_fit2 {w : Ft} (hX : XR M b σ) (hI : Inv σ C) (hn : 0 < σ.T.hs.n) (hw : aFt M (b + 59) w) (hw1 : w.2.2 = 1) (hcd : ctd σ.T w.2.1) : EvM ad 10 (iX11_fitted ad) [.ref b] M (fun v' M' => v' = some (.ref (b + 59)) ∧ aFt M' (b + 59) w ∧ XR M' b σ ∧ Fr (b + 59) 5 M M') := by
  obtain ⟨tb, sp, hts, h0, hRd, hT, hT2, hN, hTr, hPt, hWy, hFt, hSw, hRt⟩ := id hX
  unfold xTop at h0
  have t0 := hT.1.1
  have s0 := hT.2.1.1
  have s1 := hT.2.2.1.1
  have s2 := hT.2.2.2.1
  have n0 := hN.1
  have w0 := hw.1
  refine ⟨Nat.le_of_ble_eq_true rfl, ?_⟩
  show Ev ad _ (rX11_fitted ad) (0, [some (.ref b)], [], M) _
  repeat (first | refine es rfl rfl rfl ?_ | refine eg rfl (by assumption) rfl ?_ | refine ean rfl (by assumption) (by assumption) rfl ?_ | refine eal rfl (by assumption) (by assumption) rfl ?_ | refine eri rfl ?_ | refine erv rfl ?_ | refine erl rfl ?_ | refine era rfl ?_ | refine erz0 rfl ?_ | refine erz1 rfl ?_)
  try dsimp only [set1, set2, kilP, List.set_cons_zero, List.set_cons_succ, List.getElem?_cons_zero, List.getElem?_cons_succ, List.nil_append, List.cons_append, Option.toList_some, Option.toList_none]
  refine ecv rfl rfl (by assumption) rfl rfl rfl (e1_count (hI.wf hn) hw hT (Or.inr hw1) (by unfold tsp at hts; omega)) (by first | rfl | exact Nat.blt_eq.mpr (by omega)) ?_
  rintro v M1 ⟨rfl, hc, hF1⟩
  have h01 : M1.1 b = _ := (hF1.1 _ (by omega)).trans h0
  try dsimp only [set1, set2, kilP, List.set_cons_zero, List.set_cons_succ, List.getElem?_cons_zero, List.getElem?_cons_succ, List.nil_append, List.cons_append, Option.toList_some, Option.toList_none]
  repeat (first | refine es rfl rfl rfl ?_ | refine eg rfl (by assumption) rfl ?_ | refine ean rfl (by assumption) (by assumption) rfl ?_ | refine eal rfl (by assumption) (by assumption) rfl ?_ | refine eri rfl ?_ | refine erv rfl ?_ | refine erl rfl ?_ | refine era rfl ?_ | refine erz0 rfl ?_ | refine erz1 rfl ?_)
  try dsimp only [set1, set2, kilP, List.set_cons_zero, List.set_cons_succ, List.getElem?_cons_zero, List.getElem?_cons_succ, List.nil_append, List.cons_append, Option.toList_some, Option.toList_none]
  rcases hc with ⟨e1, hw1'⟩ | ⟨e1, _⟩
  · exact ⟨rfl, hw1', hX.ft hF1 hw1' ⟨Or.inr hw1, fun _ => hcd⟩, hF1⟩
  · rw [hw1] at e1; exact absurd e1 (by decide)
def spFits (σ : Sg) (g : Fs4 → Int32) : Option Value → Sg → Prop := if σ.T.hs.n = 0 then rf σ 1 else fun v σ' => ∃ s, ctd σ.T s ∧ an σ (g s) v σ'
def spFitsH (σ : Sg) (x : Int32) (g : Nat → Fs4 → Int32) : Option Value → Sg → Prop := if isH σ x then (fun v σ' => ∃ s, ctd σ.T s ∧ an σ (g x.toNatClampNeg s) v σ') else rf σ 1
theorem x_fits (hX : XR M b σ) (hI : Inv σ C) : EvM ad 11 (iX11_fits ad) [.ref b] M (Po b M (spFits σ (fun s => s.2.2.2))) := by
  have hn7 := hI.n7
  have hF := Fr.rf b 73 M
  obtain ⟨tb, sp, hts, h0, hRd, hT, hT2, hN, hTr, hPt, hWy, hFt, hSw, hRt⟩ := id hX
  unfold xTop at h0
  have t0 := hT.1.1
  have s0 := hT.2.1.1
  have s1 := hT.2.2.1.1
  have s2 := hT.2.2.2.1
  have n0 := hN.1
  unfold spFits
  refine ⟨Nat.le_of_ble_eq_true rfl, ?_⟩
  show Ev ad _ (rX11_fits ad) (0, [some (.ref b)], [], M) _
  repeat (first | refine es rfl rfl rfl ?_ | refine eg rfl (by assumption) rfl ?_ | refine ean rfl (by assumption) (by assumption) rfl ?_ | refine eal rfl (by assumption) (by assumption) rfl ?_ | refine eri rfl ?_ | refine erv rfl ?_ | refine erl rfl ?_ | refine era rfl ?_ | refine erz0 rfl ?_ | refine erz1 rfl ?_)
  try dsimp only [set1, set2, kilP, List.set_cons_zero, List.set_cons_succ, List.getElem?_cons_zero, List.getElem?_cons_succ, List.nil_append, List.cons_append, Option.toList_some, Option.toList_none]
  refine ecr rfl rfl (by assumption) rfl rfl rfl (x_noT hX (by omega)) (by first | rfl | exact Nat.blt_eq.mpr (by omega)) rfl ?_
  by_cases hno : σ.T.hs.n = 0
  · rw [if_pos hno, show bI (σ.T.hs.n = 0) = 1 from if_pos hno]
    repeat (first | refine es rfl rfl rfl ?_ | refine eg rfl (by assumption) rfl ?_ | refine ean rfl (by assumption) (by assumption) rfl ?_ | refine eal rfl (by assumption) (by assumption) rfl ?_ | refine eri rfl ?_ | refine erv rfl ?_ | refine erl rfl ?_ | refine era rfl ?_ | refine erz0 rfl ?_ | refine erz1 rfl ?_)
    try dsimp only [set1, set2, kilP, List.set_cons_zero, List.set_cons_succ, List.getElem?_cons_zero, List.getElem?_cons_succ, List.nil_append, List.cons_append, Option.toList_some, Option.toList_none]
    refine ecv rfl rfl (by assumption) rfl rfl rfl (x_ref hX) (by first | rfl | exact Nat.blt_eq.mpr (by omega)) ?_
    rintro v M9 ⟨rfl, hX9, hF9⟩
    try dsimp only [set1, set2, kilP, List.set_cons_zero, List.set_cons_succ, List.getElem?_cons_zero, List.getElem?_cons_succ, List.nil_append, List.cons_append, Option.toList_some, Option.toList_none]
    repeat (first | refine es rfl rfl rfl ?_ | refine eg rfl (by assumption) rfl ?_ | refine ean rfl (by assumption) (by assumption) rfl ?_ | refine eal rfl (by assumption) (by assumption) rfl ?_ | refine eri rfl ?_ | refine erv rfl ?_ | refine erl rfl ?_ | refine era rfl ?_ | refine erz0 rfl ?_ | refine erz1 rfl ?_)
    try dsimp only [set1, set2, kilP, List.set_cons_zero, List.set_cons_succ, List.getElem?_cons_zero, List.getElem?_cons_succ, List.nil_append, List.cons_append, Option.toList_some, Option.toList_none]
    exact ⟨_, ⟨rfl, rfl⟩, hX9, hF.tr (hF9.wide (lo2 := b) (n2 := 73) (by omega) (by omega)) (by omega) (by omega)⟩
  rw [if_neg hno, show bI (σ.T.hs.n = 0) = 0 from if_neg hno]
  repeat (first | refine es rfl rfl rfl ?_ | refine eg rfl (by assumption) rfl ?_ | refine ean rfl (by assumption) (by assumption) rfl ?_ | refine eal rfl (by assumption) (by assumption) rfl ?_ | refine eri rfl ?_ | refine erv rfl ?_ | refine erl rfl ?_ | refine era rfl ?_ | refine erz0 rfl ?_ | refine erz1 rfl ?_)
  try dsimp only [set1, set2, kilP, List.set_cons_zero, List.set_cons_succ, List.getElem?_cons_zero, List.getElem?_cons_succ, List.nil_append, List.cons_append, Option.toList_some, Option.toList_none]
  refine ecv rfl rfl (by assumption) rfl rfl rfl (x_fit1 hX hI (by omega)) (by first | rfl | exact Nat.blt_eq.mpr (by omega)) ?_
  rintro v M1 ⟨rfl, ⟨w, hw, hw1, hcd⟩, hX1, hF1⟩
  have w0 := hw.1
  have h01 : M1.1 b = _ := (hF1.1 _ (by omega)).trans h0
  have hF := hF.tr (hF1.wide (lo2 := b) (n2 := 73) (by omega) (by omega)) (by omega) (by omega)
  try dsimp only [set1, set2, kilP, List.set_cons_zero, List.set_cons_succ, List.getElem?_cons_zero, List.getElem?_cons_succ, List.nil_append, List.cons_append, Option.toList_some, Option.toList_none]
  refine ecr rfl rfl (by assumption) rfl rfl rfl (e1_rowCount hw) (by first | rfl | exact Nat.blt_eq.mpr (by omega)) rfl ?_
  repeat (first | refine es rfl rfl rfl ?_ | refine eg rfl (by assumption) rfl ?_ | refine ean rfl (by assumption) (by assumption) rfl ?_ | refine eal rfl (by assumption) (by assumption) rfl ?_ | refine eri rfl ?_ | refine erv rfl ?_ | refine erl rfl ?_ | refine era rfl ?_ | refine erz0 rfl ?_ | refine erz1 rfl ?_)
  try dsimp only [set1, set2, kilP, List.set_cons_zero, List.set_cons_succ, List.getElem?_cons_zero, List.getElem?_cons_succ, List.nil_append, List.cons_append, Option.toList_some, Option.toList_none]
  refine ecv rfl rfl (by assumption) rfl rfl rfl (x_ans hX1) (by first | rfl | exact Nat.blt_eq.mpr (by omega)) ?_
  rintro v M9 ⟨rfl, hX9, hF9⟩
  try dsimp only [set1, set2, kilP, List.set_cons_zero, List.set_cons_succ, List.getElem?_cons_zero, List.getElem?_cons_succ, List.nil_append, List.cons_append, Option.toList_some, Option.toList_none]
  repeat (first | refine es rfl rfl rfl ?_ | refine eg rfl (by assumption) rfl ?_ | refine ean rfl (by assumption) (by assumption) rfl ?_ | refine eal rfl (by assumption) (by assumption) rfl ?_ | refine eri rfl ?_ | refine erv rfl ?_ | refine erl rfl ?_ | refine era rfl ?_ | refine erz0 rfl ?_ | refine erz1 rfl ?_)
  try dsimp only [set1, set2, kilP, List.set_cons_zero, List.set_cons_succ, List.getElem?_cons_zero, List.getElem?_cons_succ, List.nil_append, List.cons_append, Option.toList_some, Option.toList_none]
  exact ⟨_, ⟨_, hcd, rfl, rfl⟩, hX9, hF.tr (hF9.wide (lo2 := b) (n2 := 73) (by omega) (by omega)) (by omega) (by omega)⟩
noncomputable def askO (s : Fs4) : Option Nat := askF (fun k => mlF s.1 k 7) 7 0 none
theorem x_ask (hX : XR M b σ) (hI : Inv σ C) : EvM ad 11 (iX11_ask ad) [.ref b] M (Po b M (spFits σ (fun s => oI (askO s)))) := by
  have hn7 := hI.n7
  have hF := Fr.rf b 73 M
  obtain ⟨tb, sp, hts, h0, hRd, hT, hT2, hN, hTr, hPt, hWy, hFt, hSw, hRt⟩ := id hX
  unfold xTop at h0
  have t0 := hT.1.1
  have s0 := hT.2.1.1
  have s1 := hT.2.2.1.1
  have s2 := hT.2.2.2.1
  have n0 := hN.1
  unfold spFits
  refine ⟨Nat.le_of_ble_eq_true rfl, ?_⟩
  show Ev ad _ (rX11_ask ad) (0, [some (.ref b)], [], M) _
  repeat (first | refine es rfl rfl rfl ?_ | refine eg rfl (by assumption) rfl ?_ | refine ean rfl (by assumption) (by assumption) rfl ?_ | refine eal rfl (by assumption) (by assumption) rfl ?_ | refine eri rfl ?_ | refine erv rfl ?_ | refine erl rfl ?_ | refine era rfl ?_ | refine erz0 rfl ?_ | refine erz1 rfl ?_)
  try dsimp only [set1, set2, kilP, List.set_cons_zero, List.set_cons_succ, List.getElem?_cons_zero, List.getElem?_cons_succ, List.nil_append, List.cons_append, Option.toList_some, Option.toList_none]
  refine ecr rfl rfl (by assumption) rfl rfl rfl (x_noT hX (by omega)) (by first | rfl | exact Nat.blt_eq.mpr (by omega)) rfl ?_
  by_cases hno : σ.T.hs.n = 0
  · rw [if_pos hno, show bI (σ.T.hs.n = 0) = 1 from if_pos hno]
    repeat (first | refine es rfl rfl rfl ?_ | refine eg rfl (by assumption) rfl ?_ | refine ean rfl (by assumption) (by assumption) rfl ?_ | refine eal rfl (by assumption) (by assumption) rfl ?_ | refine eri rfl ?_ | refine erv rfl ?_ | refine erl rfl ?_ | refine era rfl ?_ | refine erz0 rfl ?_ | refine erz1 rfl ?_)
    try dsimp only [set1, set2, kilP, List.set_cons_zero, List.set_cons_succ, List.getElem?_cons_zero, List.getElem?_cons_succ, List.nil_append, List.cons_append, Option.toList_some, Option.toList_none]
    refine ecv rfl rfl (by assumption) rfl rfl rfl (x_ref hX) (by first | rfl | exact Nat.blt_eq.mpr (by omega)) ?_
    rintro v M9 ⟨rfl, hX9, hF9⟩
    try dsimp only [set1, set2, kilP, List.set_cons_zero, List.set_cons_succ, List.getElem?_cons_zero, List.getElem?_cons_succ, List.nil_append, List.cons_append, Option.toList_some, Option.toList_none]
    repeat (first | refine es rfl rfl rfl ?_ | refine eg rfl (by assumption) rfl ?_ | refine ean rfl (by assumption) (by assumption) rfl ?_ | refine eal rfl (by assumption) (by assumption) rfl ?_ | refine eri rfl ?_ | refine erv rfl ?_ | refine erl rfl ?_ | refine era rfl ?_ | refine erz0 rfl ?_ | refine erz1 rfl ?_)
    try dsimp only [set1, set2, kilP, List.set_cons_zero, List.set_cons_succ, List.getElem?_cons_zero, List.getElem?_cons_succ, List.nil_append, List.cons_append, Option.toList_some, Option.toList_none]
    exact ⟨_, ⟨rfl, rfl⟩, hX9, hF.tr (hF9.wide (lo2 := b) (n2 := 73) (by omega) (by omega)) (by omega) (by omega)⟩
  rw [if_neg hno, show bI (σ.T.hs.n = 0) = 0 from if_neg hno]
  repeat (first | refine es rfl rfl rfl ?_ | refine eg rfl (by assumption) rfl ?_ | refine ean rfl (by assumption) (by assumption) rfl ?_ | refine eal rfl (by assumption) (by assumption) rfl ?_ | refine eri rfl ?_ | refine erv rfl ?_ | refine erl rfl ?_ | refine era rfl ?_ | refine erz0 rfl ?_ | refine erz1 rfl ?_)
  try dsimp only [set1, set2, kilP, List.set_cons_zero, List.set_cons_succ, List.getElem?_cons_zero, List.getElem?_cons_succ, List.nil_append, List.cons_append, Option.toList_some, Option.toList_none]
  refine ecv rfl rfl (by assumption) rfl rfl rfl (x_fit1 hX hI (by omega)) (by first | rfl | exact Nat.blt_eq.mpr (by omega)) ?_
  rintro v M1 ⟨rfl, ⟨w, hw, hw1, hcd⟩, hX1, hF1⟩
  have w0 := hw.1
  have h01 : M1.1 b = _ := (hF1.1 _ (by omega)).trans h0
  have hF := hF.tr (hF1.wide (lo2 := b) (n2 := 73) (by omega) (by omega)) (by omega) (by omega)
  try dsimp only [set1, set2, kilP, List.set_cons_zero, List.set_cons_succ, List.getElem?_cons_zero, List.getElem?_cons_succ, List.nil_append, List.cons_append, Option.toList_some, Option.toList_none]
  refine ecr rfl rfl (by assumption) rfl rfl rfl (e1_ask hw) (by first | rfl | exact Nat.blt_eq.mpr (by omega)) rfl ?_
  repeat (first | refine es rfl rfl rfl ?_ | refine eg rfl (by assumption) rfl ?_ | refine ean rfl (by assumption) (by assumption) rfl ?_ | refine eal rfl (by assumption) (by assumption) rfl ?_ | refine eri rfl ?_ | refine erv rfl ?_ | refine erl rfl ?_ | refine era rfl ?_ | refine erz0 rfl ?_ | refine erz1 rfl ?_)
  try dsimp only [set1, set2, kilP, List.set_cons_zero, List.set_cons_succ, List.getElem?_cons_zero, List.getElem?_cons_succ, List.nil_append, List.cons_append, Option.toList_some, Option.toList_none]
  refine ecv rfl rfl (by assumption) rfl rfl rfl (x_ans hX1) (by first | rfl | exact Nat.blt_eq.mpr (by omega)) ?_
  rintro v M9 ⟨rfl, hX9, hF9⟩
  try dsimp only [set1, set2, kilP, List.set_cons_zero, List.set_cons_succ, List.getElem?_cons_zero, List.getElem?_cons_succ, List.nil_append, List.cons_append, Option.toList_some, Option.toList_none]
  repeat (first | refine es rfl rfl rfl ?_ | refine eg rfl (by assumption) rfl ?_ | refine ean rfl (by assumption) (by assumption) rfl ?_ | refine eal rfl (by assumption) (by assumption) rfl ?_ | refine eri rfl ?_ | refine erv rfl ?_ | refine erl rfl ?_ | refine era rfl ?_ | refine erz0 rfl ?_ | refine erz1 rfl ?_)
  try dsimp only [set1, set2, kilP, List.set_cons_zero, List.set_cons_succ, List.getElem?_cons_zero, List.getElem?_cons_succ, List.nil_append, List.cons_append, Option.toList_some, Option.toList_none]
  exact ⟨_, ⟨_, hcd, rfl, rfl⟩, hX9, hF.tr (hF9.wide (lo2 := b) (n2 := 73) (by omega) (by omega)) (by omega) (by omega)⟩
theorem askF_7 (ml : Nat → Int32) : ∀ n h a, h + n ≤ 7 → (∀ k, a = some k → k < 7) → ∀ k, askF ml n h a = some k → k < 7
  | 0, h, a, _, ha, k, e => ha k e
  | n + 1, h, a, hn, ha, k, e => by
    rw [askF] at e
    refine askF_7 ml n (h + 1) _ (by omega) (fun j hj => ?_) k e
    split at hj
    · cases hj; omega
    · exact ha j hj
theorem x_askLeaves (hX : XR M b σ) (hI : Inv σ C) : EvM ad 11 (iX11_askLeaves ad) [.ref b] M (Po b M (spFits σ (fun s => match askO s with | none => -2 | some k => mlF s.1 k 7))) := by
  have hn7 := hI.n7
  have hF := Fr.rf b 73 M
  obtain ⟨tb, sp, hts, h0, hRd, hT, hT2, hN, hTr, hPt, hWy, hFt, hSw, hRt⟩ := id hX
  unfold xTop at h0
  have t0 := hT.1.1
  have s0 := hT.2.1.1
  have s1 := hT.2.2.1.1
  have s2 := hT.2.2.2.1
  have n0 := hN.1
  unfold spFits
  refine ⟨Nat.le_of_ble_eq_true rfl, ?_⟩
  show Ev ad _ (rX11_askLeaves ad) (0, [some (.ref b), none], [], M) _
  repeat (first | refine es rfl rfl rfl ?_ | refine eg rfl (by assumption) rfl ?_ | refine ean rfl (by assumption) (by assumption) rfl ?_ | refine eal rfl (by assumption) (by assumption) rfl ?_ | refine eri rfl ?_ | refine erv rfl ?_ | refine erl rfl ?_ | refine era rfl ?_ | refine erz0 rfl ?_ | refine erz1 rfl ?_)
  try dsimp only [set1, set2, kilP, List.set_cons_zero, List.set_cons_succ, List.getElem?_cons_zero, List.getElem?_cons_succ, List.nil_append, List.cons_append, Option.toList_some, Option.toList_none]
  refine ecr rfl rfl (by assumption) rfl rfl rfl (x_noT hX (by omega)) (by first | rfl | exact Nat.blt_eq.mpr (by omega)) rfl ?_
  by_cases hno : σ.T.hs.n = 0
  · rw [if_pos hno, show bI (σ.T.hs.n = 0) = 1 from if_pos hno]
    repeat (first | refine es rfl rfl rfl ?_ | refine eg rfl (by assumption) rfl ?_ | refine ean rfl (by assumption) (by assumption) rfl ?_ | refine eal rfl (by assumption) (by assumption) rfl ?_ | refine eri rfl ?_ | refine erv rfl ?_ | refine erl rfl ?_ | refine era rfl ?_ | refine erz0 rfl ?_ | refine erz1 rfl ?_)
    try dsimp only [set1, set2, kilP, List.set_cons_zero, List.set_cons_succ, List.getElem?_cons_zero, List.getElem?_cons_succ, List.nil_append, List.cons_append, Option.toList_some, Option.toList_none]
    refine ecv rfl rfl (by assumption) rfl rfl rfl (x_ref hX) (by first | rfl | exact Nat.blt_eq.mpr (by omega)) ?_
    rintro v M9 ⟨rfl, hX9, hF9⟩
    try dsimp only [set1, set2, kilP, List.set_cons_zero, List.set_cons_succ, List.getElem?_cons_zero, List.getElem?_cons_succ, List.nil_append, List.cons_append, Option.toList_some, Option.toList_none]
    repeat (first | refine es rfl rfl rfl ?_ | refine eg rfl (by assumption) rfl ?_ | refine ean rfl (by assumption) (by assumption) rfl ?_ | refine eal rfl (by assumption) (by assumption) rfl ?_ | refine eri rfl ?_ | refine erv rfl ?_ | refine erl rfl ?_ | refine era rfl ?_ | refine erz0 rfl ?_ | refine erz1 rfl ?_)
    try dsimp only [set1, set2, kilP, List.set_cons_zero, List.set_cons_succ, List.getElem?_cons_zero, List.getElem?_cons_succ, List.nil_append, List.cons_append, Option.toList_some, Option.toList_none]
    exact ⟨_, ⟨rfl, rfl⟩, hX9, hF.tr (hF9.wide (lo2 := b) (n2 := 73) (by omega) (by omega)) (by omega) (by omega)⟩
  rw [if_neg hno, show bI (σ.T.hs.n = 0) = 0 from if_neg hno]
  repeat (first | refine es rfl rfl rfl ?_ | refine eg rfl (by assumption) rfl ?_ | refine ean rfl (by assumption) (by assumption) rfl ?_ | refine eal rfl (by assumption) (by assumption) rfl ?_ | refine eri rfl ?_ | refine erv rfl ?_ | refine erl rfl ?_ | refine era rfl ?_ | refine erz0 rfl ?_ | refine erz1 rfl ?_)
  try dsimp only [set1, set2, kilP, List.set_cons_zero, List.set_cons_succ, List.getElem?_cons_zero, List.getElem?_cons_succ, List.nil_append, List.cons_append, Option.toList_some, Option.toList_none]
  refine ecv rfl rfl (by assumption) rfl rfl rfl (x_fit1 hX hI (by omega)) (by first | rfl | exact Nat.blt_eq.mpr (by omega)) ?_
  rintro v M1 ⟨rfl, ⟨w, hw, hw1, hcd⟩, hX1, hF1⟩
  have w0 := hw.1
  have h01 : M1.1 b = _ := (hF1.1 _ (by omega)).trans h0
  have hF := hF.tr (hF1.wide (lo2 := b) (n2 := 73) (by omega) (by omega)) (by omega) (by omega)
  try dsimp only [set1, set2, kilP, List.set_cons_zero, List.set_cons_succ, List.getElem?_cons_zero, List.getElem?_cons_succ, List.nil_append, List.cons_append, Option.toList_some, Option.toList_none]
  refine ecr rfl rfl (by assumption) rfl rfl rfl (e1_ask hw) (by first | rfl | exact Nat.blt_eq.mpr (by omega)) rfl ?_
  repeat (first | refine es rfl rfl rfl ?_ | refine eg rfl (by assumption) rfl ?_ | refine ean rfl (by assumption) (by assumption) rfl ?_ | refine eal rfl (by assumption) (by assumption) rfl ?_ | refine eri rfl ?_ | refine erv rfl ?_ | refine erl rfl ?_ | refine era rfl ?_ | refine erz0 rfl ?_ | refine erz1 rfl ?_)
  try dsimp only [set1, set2, kilP, List.set_cons_zero, List.set_cons_succ, List.getElem?_cons_zero, List.getElem?_cons_succ, List.nil_append, List.cons_append, Option.toList_some, Option.toList_none]
  cases ha : askF (fun k => mlF w.2.1.1 k 7) 7 0 none with
  | none =>
    repeat (first | refine es rfl rfl rfl ?_ | refine eg rfl (by assumption) rfl ?_ | refine ean rfl (by assumption) (by assumption) rfl ?_ | refine eal rfl (by assumption) (by assumption) rfl ?_ | refine eri rfl ?_ | refine erv rfl ?_ | refine erl rfl ?_ | refine era rfl ?_ | refine erz0 rfl ?_ | refine erz1 rfl ?_)
    try dsimp only [set1, set2, kilP, List.set_cons_zero, List.set_cons_succ, List.getElem?_cons_zero, List.getElem?_cons_succ, List.nil_append, List.cons_append, Option.toList_some, Option.toList_none]
    refine ecv rfl rfl (by assumption) rfl rfl rfl (x_ans hX1) (by first | rfl | exact Nat.blt_eq.mpr (by omega)) ?_
    rintro v M9 ⟨rfl, hX9, hF9⟩
    try dsimp only [set1, set2, kilP, List.set_cons_zero, List.set_cons_succ, List.getElem?_cons_zero, List.getElem?_cons_succ, List.nil_append, List.cons_append, Option.toList_some, Option.toList_none]
    repeat (first | refine es rfl rfl rfl ?_ | refine eg rfl (by assumption) rfl ?_ | refine ean rfl (by assumption) (by assumption) rfl ?_ | refine eal rfl (by assumption) (by assumption) rfl ?_ | refine eri rfl ?_ | refine erv rfl ?_ | refine erl rfl ?_ | refine era rfl ?_ | refine erz0 rfl ?_ | refine erz1 rfl ?_)
    try dsimp only [set1, set2, kilP, List.set_cons_zero, List.set_cons_succ, List.getElem?_cons_zero, List.getElem?_cons_succ, List.nil_append, List.cons_append, Option.toList_some, Option.toList_none]
    exact ⟨_, ⟨_, hcd, by show some _ = some (Value.int (match askF (fun k => mlF w.2.1.1 k 7) 7 0 none with | none => -2 | some k => mlF w.2.1.1 k 7)); rw [ha], rfl⟩, hX9, hF.tr (hF9.wide (lo2 := b) (n2 := 73) (by omega) (by omega)) (by omega) (by omega)⟩
  | some k =>
    have hk7 : k < 7 := askF_7 _ 7 0 none (by omega) (fun _ h => by cases h) k ha
    refine ei _ rfl rfl (fun c => ?_) (fun c => ?_)
    rotate_left
    · exact absurd (nI_n2 (a := k) (by omega)) c
    repeat (first | refine es rfl rfl rfl ?_ | refine eg rfl (by assumption) rfl ?_ | refine ean rfl (by assumption) (by assumption) rfl ?_ | refine eal rfl (by assumption) (by assumption) rfl ?_ | refine eri rfl ?_ | refine erv rfl ?_ | refine erl rfl ?_ | refine era rfl ?_ | refine erz0 rfl ?_ | refine erz1 rfl ?_)
    try dsimp only [set1, set2, kilP, List.set_cons_zero, List.set_cons_succ, List.getElem?_cons_zero, List.getElem?_cons_succ, List.nil_append, List.cons_append, Option.toList_some, Option.toList_none]
    refine ecv rfl rfl (by assumption) rfl rfl rfl (x_fit2 hX1 hI (by omega) hw hw1 hcd) (by first | rfl | exact Nat.blt_eq.mpr (by omega)) ?_
    rintro v M2 ⟨rfl, hw2, hX2, hF2⟩
    have w2 := hw2.1
    have h02 : M2.1 b = _ := (hF2.1 _ (by omega)).trans h01
    have hF := hF.tr (hF2.wide (lo2 := b) (n2 := 73) (by omega) (by omega)) (by omega) (by omega)
    try dsimp only [set1, set2, kilP, List.set_cons_zero, List.set_cons_succ, List.getElem?_cons_zero, List.getElem?_cons_succ, List.nil_append, List.cons_append, Option.toList_some, Option.toList_none]
    repeat (first | refine es rfl rfl rfl ?_ | refine eg rfl (by assumption) rfl ?_ | refine ean rfl (by assumption) (by assumption) rfl ?_ | refine eal rfl (by assumption) (by assumption) rfl ?_ | refine eri rfl ?_ | refine erv rfl ?_ | refine erl rfl ?_ | refine era rfl ?_ | refine erz0 rfl ?_ | refine erz1 rfl ?_)
    try dsimp only [set1, set2, kilP, List.set_cons_zero, List.set_cons_succ, List.getElem?_cons_zero, List.getElem?_cons_succ, List.nil_append, List.cons_append, Option.toList_some, Option.toList_none]
    refine ecr rfl rfl (by assumption) rfl rfl rfl (e1_ml hw2 hk7) (by first | rfl | exact Nat.blt_eq.mpr (by omega)) rfl ?_
    repeat (first | refine es rfl rfl rfl ?_ | refine eg rfl (by assumption) rfl ?_ | refine ean rfl (by assumption) (by assumption) rfl ?_ | refine eal rfl (by assumption) (by assumption) rfl ?_ | refine eri rfl ?_ | refine erv rfl ?_ | refine erl rfl ?_ | refine era rfl ?_ | refine erz0 rfl ?_ | refine erz1 rfl ?_)
    try dsimp only [set1, set2, kilP, List.set_cons_zero, List.set_cons_succ, List.getElem?_cons_zero, List.getElem?_cons_succ, List.nil_append, List.cons_append, Option.toList_some, Option.toList_none]
    refine ecv rfl rfl (by assumption) rfl rfl rfl (x_ans hX2) (by first | rfl | exact Nat.blt_eq.mpr (by omega)) ?_
    rintro v M9 ⟨rfl, hX9, hF9⟩
    try dsimp only [set1, set2, kilP, List.set_cons_zero, List.set_cons_succ, List.getElem?_cons_zero, List.getElem?_cons_succ, List.nil_append, List.cons_append, Option.toList_some, Option.toList_none]
    repeat (first | refine es rfl rfl rfl ?_ | refine eg rfl (by assumption) rfl ?_ | refine ean rfl (by assumption) (by assumption) rfl ?_ | refine eal rfl (by assumption) (by assumption) rfl ?_ | refine eri rfl ?_ | refine erv rfl ?_ | refine erl rfl ?_ | refine era rfl ?_ | refine erz0 rfl ?_ | refine erz1 rfl ?_)
    try dsimp only [set1, set2, kilP, List.set_cons_zero, List.set_cons_succ, List.getElem?_cons_zero, List.getElem?_cons_succ, List.nil_append, List.cons_append, Option.toList_some, Option.toList_none]
    exact ⟨_, ⟨_, hcd, by show some _ = some (Value.int (match askF (fun k => mlF w.2.1.1 k 7) 7 0 none with | none => -2 | some k => mlF w.2.1.1 k 7)); rw [ha], rfl⟩, hX9, hF.tr (hF9.wide (lo2 := b) (n2 := 73) (by omega) (by omega)) (by omega) (by omega)⟩
def couG (σ : Sg) (k : Nat) (s : Fs4) : Int32 := if σ.f k = -2 then pbF s.1 k 7 else if 0 < s.2.2.2 then (1 : Int32) <<< (σ.f k &&& 31) else 0
def surG (σ : Sg) (k : Nat) (s : Fs4) : Int32 := if σ.f k = -2 then saF (pbF s.1 k 7) 7 0 else if 0 < s.2.2.2 then σ.f k else -2
def firG (σ : Sg) (k : Nat) (s : Fs4) : Int32 := if s.2.2.2 = 0 then -2 else if σ.f k = -2 then s.2.2.1 k else σ.f k
theorem x_could {x : Int32} (hX : XR M b σ) (hI : Inv σ C) : EvM ad 11 (iX11_could ad) [.ref b, .int x] M (Po b M (spFitsH σ x (couG σ))) := by
  have hn7 := hI.n7
  have hF := Fr.rf b 73 M
  obtain ⟨tb, sp, hts, h0, hRd, hT, hT2, hN, hTr, hPt, hWy, hFt, hSw, hRt⟩ := id hX
  unfold xTop at h0
  have t0 := hT.1.1
  have s0 := hT.2.1.1
  have s1 := hT.2.2.1.1
  have s2 := hT.2.2.2.1
  have n0 := hN.1
  unfold spFitsH
  refine ⟨Nat.le_of_ble_eq_true rfl, ?_⟩
  show Ev ad _ (rX11_could ad) (0, [some (.ref b), some (.int x), none], [], M) _
  repeat (first | refine es rfl rfl rfl ?_ | refine eg rfl (by assumption) rfl ?_ | refine ean rfl (by assumption) (by assumption) rfl ?_ | refine eal rfl (by assumption) (by assumption) rfl ?_ | refine eri rfl ?_ | refine erv rfl ?_ | refine erl rfl ?_ | refine era rfl ?_ | refine erz0 rfl ?_ | refine erz1 rfl ?_)
  try dsimp only [set1, set2, kilP, List.set_cons_zero, List.set_cons_succ, List.getElem?_cons_zero, List.getElem?_cons_succ, List.nil_append, List.cons_append, Option.toList_some, Option.toList_none]
  refine ecr rfl rfl (by assumption) rfl rfl rfl (x_isH hX) (by first | rfl | exact Nat.blt_eq.mpr (by omega)) rfl ?_
  by_cases c : isH σ x
  rotate_left
  · rw [if_neg c, show bI (isH σ x) = 0 from if_neg c]
    repeat (first | refine es rfl rfl rfl ?_ | refine eg rfl (by assumption) rfl ?_ | refine ean rfl (by assumption) (by assumption) rfl ?_ | refine eal rfl (by assumption) (by assumption) rfl ?_ | refine eri rfl ?_ | refine erv rfl ?_ | refine erl rfl ?_ | refine era rfl ?_ | refine erz0 rfl ?_ | refine erz1 rfl ?_)
    try dsimp only [set1, set2, kilP, List.set_cons_zero, List.set_cons_succ, List.getElem?_cons_zero, List.getElem?_cons_succ, List.nil_append, List.cons_append, Option.toList_some, Option.toList_none]
    refine ecv rfl rfl (by assumption) rfl rfl rfl (x_ref hX) (by first | rfl | exact Nat.blt_eq.mpr (by omega)) ?_
    rintro v M9 ⟨rfl, hX9, hF9⟩
    try dsimp only [set1, set2, kilP, List.set_cons_zero, List.set_cons_succ, List.getElem?_cons_zero, List.getElem?_cons_succ, List.nil_append, List.cons_append, Option.toList_some, Option.toList_none]
    repeat (first | refine es rfl rfl rfl ?_ | refine eg rfl (by assumption) rfl ?_ | refine ean rfl (by assumption) (by assumption) rfl ?_ | refine eal rfl (by assumption) (by assumption) rfl ?_ | refine eri rfl ?_ | refine erv rfl ?_ | refine erl rfl ?_ | refine era rfl ?_ | refine erz0 rfl ?_ | refine erz1 rfl ?_)
    try dsimp only [set1, set2, kilP, List.set_cons_zero, List.set_cons_succ, List.getElem?_cons_zero, List.getElem?_cons_succ, List.nil_append, List.cons_append, Option.toList_some, Option.toList_none]
    exact ⟨_, ⟨rfl, rfl⟩, hX9, hF.tr (hF9.wide (lo2 := b) (n2 := 73) (by omega) (by omega)) (by omega) (by omega)⟩
  rw [if_pos c, show bI (isH σ x) = 1 from if_pos c]
  obtain ⟨k, hk, rfl⟩ := isH_k hn7 c
  have hk7 : k < 7 := by omega
  rw [nI_clamp (by omega)]
  unfold couG
  repeat (first | refine es rfl rfl rfl ?_ | refine eg rfl (by assumption) rfl ?_ | refine ean rfl (by assumption) (by assumption) rfl ?_ | refine eal rfl (by assumption) (by assumption) rfl ?_ | refine eri rfl ?_ | refine erv rfl ?_ | refine erl rfl ?_ | refine era rfl ?_ | refine erz0 rfl ?_ | refine erz1 rfl ?_)
  try dsimp only [set1, set2, kilP, List.set_cons_zero, List.set_cons_succ, List.getElem?_cons_zero, List.getElem?_cons_succ, List.nil_append, List.cons_append, Option.toList_some, Option.toList_none]
  refine ecr rfl rfl (by assumption) rfl rfl rfl (e3_roomOf hN (by omega)) (by first | rfl | exact Nat.blt_eq.mpr (by omega)) rfl ?_
  repeat (first | refine es rfl rfl rfl ?_ | refine eg rfl (by assumption) rfl ?_ | refine ean rfl (by assumption) (by assumption) rfl ?_ | refine eal rfl (by assumption) (by assumption) rfl ?_ | refine eri rfl ?_ | refine erv rfl ?_ | refine erl rfl ?_ | refine era rfl ?_ | refine erz0 rfl ?_ | refine erz1 rfl ?_)
  try dsimp only [set1, set2, kilP, List.set_cons_zero, List.set_cons_succ, List.getElem?_cons_zero, List.getElem?_cons_succ, List.nil_append, List.cons_append, Option.toList_some, Option.toList_none]
  by_cases c1 : σ.f k = -2
  · refine ei _ rfl rfl (fun c2 => ?_) (fun c2 => ?_)
    · exact absurd c1 c2
    repeat (first | refine es rfl rfl rfl ?_ | refine eg rfl (by assumption) rfl ?_ | refine ean rfl (by assumption) (by assumption) rfl ?_ | refine eal rfl (by assumption) (by assumption) rfl ?_ | refine eri rfl ?_ | refine erv rfl ?_ | refine erl rfl ?_ | refine era rfl ?_ | refine erz0 rfl ?_ | refine erz1 rfl ?_)
    try dsimp only [set1, set2, kilP, List.set_cons_zero, List.set_cons_succ, List.getElem?_cons_zero, List.getElem?_cons_succ, List.nil_append, List.cons_append, Option.toList_some, Option.toList_none]
    refine ecv rfl rfl (by assumption) rfl rfl rfl (x_fit1 hX hI (by omega)) (by first | rfl | exact Nat.blt_eq.mpr (by omega)) ?_
    rintro v M1 ⟨rfl, ⟨w, hw, hw1, hcd⟩, hX1, hF1⟩
    have w0 := hw.1
    have h01 : M1.1 b = _ := (hF1.1 _ (by omega)).trans h0
    have hF := hF.tr (hF1.wide (lo2 := b) (n2 := 73) (by omega) (by omega)) (by omega) (by omega)
    try dsimp only [set1, set2, kilP, List.set_cons_zero, List.set_cons_succ, List.getElem?_cons_zero, List.getElem?_cons_succ, List.nil_append, List.cons_append, Option.toList_some, Option.toList_none]
    repeat (first | refine es rfl rfl rfl ?_ | refine eg rfl (by assumption) rfl ?_ | refine ean rfl (by assumption) (by assumption) rfl ?_ | refine eal rfl (by assumption) (by assumption) rfl ?_ | refine eri rfl ?_ | refine erv rfl ?_ | refine erl rfl ?_ | refine era rfl ?_ | refine erz0 rfl ?_ | refine erz1 rfl ?_)
    try dsimp only [set1, set2, kilP, List.set_cons_zero, List.set_cons_succ, List.getElem?_cons_zero, List.getElem?_cons_succ, List.nil_append, List.cons_append, Option.toList_some, Option.toList_none]
    refine ecr rfl rfl (by assumption) rfl rfl rfl (e1_pb hw hk7) (by first | rfl | exact Nat.blt_eq.mpr (by omega)) rfl ?_
    repeat (first | refine es rfl rfl rfl ?_ | refine eg rfl (by assumption) rfl ?_ | refine ean rfl (by assumption) (by assumption) rfl ?_ | refine eal rfl (by assumption) (by assumption) rfl ?_ | refine eri rfl ?_ | refine erv rfl ?_ | refine erl rfl ?_ | refine era rfl ?_ | refine erz0 rfl ?_ | refine erz1 rfl ?_)
    try dsimp only [set1, set2, kilP, List.set_cons_zero, List.set_cons_succ, List.getElem?_cons_zero, List.getElem?_cons_succ, List.nil_append, List.cons_append, Option.toList_some, Option.toList_none]
    refine ecv rfl rfl (by assumption) rfl rfl rfl (x_ans hX1) (by first | rfl | exact Nat.blt_eq.mpr (by omega)) ?_
    rintro v M9 ⟨rfl, hX9, hF9⟩
    try dsimp only [set1, set2, kilP, List.set_cons_zero, List.set_cons_succ, List.getElem?_cons_zero, List.getElem?_cons_succ, List.nil_append, List.cons_append, Option.toList_some, Option.toList_none]
    repeat (first | refine es rfl rfl rfl ?_ | refine eg rfl (by assumption) rfl ?_ | refine ean rfl (by assumption) (by assumption) rfl ?_ | refine eal rfl (by assumption) (by assumption) rfl ?_ | refine eri rfl ?_ | refine erv rfl ?_ | refine erl rfl ?_ | refine era rfl ?_ | refine erz0 rfl ?_ | refine erz1 rfl ?_)
    try dsimp only [set1, set2, kilP, List.set_cons_zero, List.set_cons_succ, List.getElem?_cons_zero, List.getElem?_cons_succ, List.nil_append, List.cons_append, Option.toList_some, Option.toList_none]
    exact ⟨_, ⟨_, hcd, by rw [if_pos c1], rfl⟩, hX9, hF.tr (hF9.wide (lo2 := b) (n2 := 73) (by omega) (by omega)) (by omega) (by omega)⟩
  · refine ei _ rfl rfl (fun c2 => ?_) (fun c2 => ?_)
    rotate_left
    · exact absurd c1 c2
    repeat (first | refine es rfl rfl rfl ?_ | refine eg rfl (by assumption) rfl ?_ | refine ean rfl (by assumption) (by assumption) rfl ?_ | refine eal rfl (by assumption) (by assumption) rfl ?_ | refine eri rfl ?_ | refine erv rfl ?_ | refine erl rfl ?_ | refine era rfl ?_ | refine erz0 rfl ?_ | refine erz1 rfl ?_)
    try dsimp only [set1, set2, kilP, List.set_cons_zero, List.set_cons_succ, List.getElem?_cons_zero, List.getElem?_cons_succ, List.nil_append, List.cons_append, Option.toList_some, Option.toList_none]
    refine ecv rfl rfl (by assumption) rfl rfl rfl (x_fit1 hX hI (by omega)) (by first | rfl | exact Nat.blt_eq.mpr (by omega)) ?_
    rintro v M1 ⟨rfl, ⟨w, hw, hw1, hcd⟩, hX1, hF1⟩
    have w0 := hw.1
    have h01 : M1.1 b = _ := (hF1.1 _ (by omega)).trans h0
    have hF := hF.tr (hF1.wide (lo2 := b) (n2 := 73) (by omega) (by omega)) (by omega) (by omega)
    try dsimp only [set1, set2, kilP, List.set_cons_zero, List.set_cons_succ, List.getElem?_cons_zero, List.getElem?_cons_succ, List.nil_append, List.cons_append, Option.toList_some, Option.toList_none]
    repeat (first | refine es rfl rfl rfl ?_ | refine eg rfl (by assumption) rfl ?_ | refine ean rfl (by assumption) (by assumption) rfl ?_ | refine eal rfl (by assumption) (by assumption) rfl ?_ | refine eri rfl ?_ | refine erv rfl ?_ | refine erl rfl ?_ | refine era rfl ?_ | refine erz0 rfl ?_ | refine erz1 rfl ?_)
    try dsimp only [set1, set2, kilP, List.set_cons_zero, List.set_cons_succ, List.getElem?_cons_zero, List.getElem?_cons_succ, List.nil_append, List.cons_append, Option.toList_some, Option.toList_none]
    refine ecr rfl rfl (by assumption) rfl rfl rfl (e1_rowCount hw) (by first | rfl | exact Nat.blt_eq.mpr (by omega)) rfl ?_
    repeat (first | refine es rfl rfl rfl ?_ | refine eg rfl (by assumption) rfl ?_ | refine ean rfl (by assumption) (by assumption) rfl ?_ | refine eal rfl (by assumption) (by assumption) rfl ?_ | refine eri rfl ?_ | refine erv rfl ?_ | refine erl rfl ?_ | refine era rfl ?_ | refine erz0 rfl ?_ | refine erz1 rfl ?_)
    try dsimp only [set1, set2, kilP, List.set_cons_zero, List.set_cons_succ, List.getElem?_cons_zero, List.getElem?_cons_succ, List.nil_append, List.cons_append, Option.toList_some, Option.toList_none]
    refine ei _ rfl rfl (fun c3 => ?_) (fun c3 => ?_)
    · repeat (first | refine es rfl rfl rfl ?_ | refine eg rfl (by assumption) rfl ?_ | refine ean rfl (by assumption) (by assumption) rfl ?_ | refine eal rfl (by assumption) (by assumption) rfl ?_ | refine eri rfl ?_ | refine erv rfl ?_ | refine erl rfl ?_ | refine era rfl ?_ | refine erz0 rfl ?_ | refine erz1 rfl ?_)
      try dsimp only [set1, set2, kilP, List.set_cons_zero, List.set_cons_succ, List.getElem?_cons_zero, List.getElem?_cons_succ, List.nil_append, List.cons_append, Option.toList_some, Option.toList_none]
      refine ecv rfl rfl (by assumption) rfl rfl rfl (x_ans hX1) (by first | rfl | exact Nat.blt_eq.mpr (by omega)) ?_
      rintro v M9 ⟨rfl, hX9, hF9⟩
      try dsimp only [set1, set2, kilP, List.set_cons_zero, List.set_cons_succ, List.getElem?_cons_zero, List.getElem?_cons_succ, List.nil_append, List.cons_append, Option.toList_some, Option.toList_none]
      repeat (first | refine es rfl rfl rfl ?_ | refine eg rfl (by assumption) rfl ?_ | refine ean rfl (by assumption) (by assumption) rfl ?_ | refine eal rfl (by assumption) (by assumption) rfl ?_ | refine eri rfl ?_ | refine erv rfl ?_ | refine erl rfl ?_ | refine era rfl ?_ | refine erz0 rfl ?_ | refine erz1 rfl ?_)
      try dsimp only [set1, set2, kilP, List.set_cons_zero, List.set_cons_succ, List.getElem?_cons_zero, List.getElem?_cons_succ, List.nil_append, List.cons_append, Option.toList_some, Option.toList_none]
      exact ⟨_, ⟨_, hcd, by rw [if_neg c1, if_neg (Int32.not_lt.mpr c3)], rfl⟩, hX9, hF.tr (hF9.wide (lo2 := b) (n2 := 73) (by omega) (by omega)) (by omega) (by omega)⟩
    · repeat (first | refine es rfl rfl rfl ?_ | refine eg rfl (by assumption) rfl ?_ | refine ean rfl (by assumption) (by assumption) rfl ?_ | refine eal rfl (by assumption) (by assumption) rfl ?_ | refine eri rfl ?_ | refine erv rfl ?_ | refine erl rfl ?_ | refine era rfl ?_ | refine erz0 rfl ?_ | refine erz1 rfl ?_)
      try dsimp only [set1, set2, kilP, List.set_cons_zero, List.set_cons_succ, List.getElem?_cons_zero, List.getElem?_cons_succ, List.nil_append, List.cons_append, Option.toList_some, Option.toList_none]
      refine ecv rfl rfl (by assumption) rfl rfl rfl (x_ans hX1) (by first | rfl | exact Nat.blt_eq.mpr (by omega)) ?_
      rintro v M9 ⟨rfl, hX9, hF9⟩
      try dsimp only [set1, set2, kilP, List.set_cons_zero, List.set_cons_succ, List.getElem?_cons_zero, List.getElem?_cons_succ, List.nil_append, List.cons_append, Option.toList_some, Option.toList_none]
      repeat (first | refine es rfl rfl rfl ?_ | refine eg rfl (by assumption) rfl ?_ | refine ean rfl (by assumption) (by assumption) rfl ?_ | refine eal rfl (by assumption) (by assumption) rfl ?_ | refine eri rfl ?_ | refine erv rfl ?_ | refine erl rfl ?_ | refine era rfl ?_ | refine erz0 rfl ?_ | refine erz1 rfl ?_)
      try dsimp only [set1, set2, kilP, List.set_cons_zero, List.set_cons_succ, List.getElem?_cons_zero, List.getElem?_cons_succ, List.nil_append, List.cons_append, Option.toList_some, Option.toList_none]
      exact ⟨_, ⟨_, hcd, by rw [if_neg c1, if_pos (Int32.not_le.mp c3)], rfl⟩, hX9, hF.tr (hF9.wide (lo2 := b) (n2 := 73) (by omega) (by omega)) (by omega) (by omega)⟩
theorem x_surely {x : Int32} (hX : XR M b σ) (hI : Inv σ C) : EvM ad 11 (iX11_surely ad) [.ref b, .int x] M (Po b M (spFitsH σ x (surG σ))) := by
  have hn7 := hI.n7
  have hF := Fr.rf b 73 M
  obtain ⟨tb, sp, hts, h0, hRd, hT, hT2, hN, hTr, hPt, hWy, hFt, hSw, hRt⟩ := id hX
  unfold xTop at h0
  have t0 := hT.1.1
  have s0 := hT.2.1.1
  have s1 := hT.2.2.1.1
  have s2 := hT.2.2.2.1
  have n0 := hN.1
  unfold spFitsH
  refine ⟨Nat.le_of_ble_eq_true rfl, ?_⟩
  show Ev ad _ (rX11_surely ad) (0, [some (.ref b), some (.int x), none], [], M) _
  repeat (first | refine es rfl rfl rfl ?_ | refine eg rfl (by assumption) rfl ?_ | refine ean rfl (by assumption) (by assumption) rfl ?_ | refine eal rfl (by assumption) (by assumption) rfl ?_ | refine eri rfl ?_ | refine erv rfl ?_ | refine erl rfl ?_ | refine era rfl ?_ | refine erz0 rfl ?_ | refine erz1 rfl ?_)
  try dsimp only [set1, set2, kilP, List.set_cons_zero, List.set_cons_succ, List.getElem?_cons_zero, List.getElem?_cons_succ, List.nil_append, List.cons_append, Option.toList_some, Option.toList_none]
  refine ecr rfl rfl (by assumption) rfl rfl rfl (x_isH hX) (by first | rfl | exact Nat.blt_eq.mpr (by omega)) rfl ?_
  by_cases c : isH σ x
  rotate_left
  · rw [if_neg c, show bI (isH σ x) = 0 from if_neg c]
    repeat (first | refine es rfl rfl rfl ?_ | refine eg rfl (by assumption) rfl ?_ | refine ean rfl (by assumption) (by assumption) rfl ?_ | refine eal rfl (by assumption) (by assumption) rfl ?_ | refine eri rfl ?_ | refine erv rfl ?_ | refine erl rfl ?_ | refine era rfl ?_ | refine erz0 rfl ?_ | refine erz1 rfl ?_)
    try dsimp only [set1, set2, kilP, List.set_cons_zero, List.set_cons_succ, List.getElem?_cons_zero, List.getElem?_cons_succ, List.nil_append, List.cons_append, Option.toList_some, Option.toList_none]
    refine ecv rfl rfl (by assumption) rfl rfl rfl (x_ref hX) (by first | rfl | exact Nat.blt_eq.mpr (by omega)) ?_
    rintro v M9 ⟨rfl, hX9, hF9⟩
    try dsimp only [set1, set2, kilP, List.set_cons_zero, List.set_cons_succ, List.getElem?_cons_zero, List.getElem?_cons_succ, List.nil_append, List.cons_append, Option.toList_some, Option.toList_none]
    repeat (first | refine es rfl rfl rfl ?_ | refine eg rfl (by assumption) rfl ?_ | refine ean rfl (by assumption) (by assumption) rfl ?_ | refine eal rfl (by assumption) (by assumption) rfl ?_ | refine eri rfl ?_ | refine erv rfl ?_ | refine erl rfl ?_ | refine era rfl ?_ | refine erz0 rfl ?_ | refine erz1 rfl ?_)
    try dsimp only [set1, set2, kilP, List.set_cons_zero, List.set_cons_succ, List.getElem?_cons_zero, List.getElem?_cons_succ, List.nil_append, List.cons_append, Option.toList_some, Option.toList_none]
    exact ⟨_, ⟨rfl, rfl⟩, hX9, hF.tr (hF9.wide (lo2 := b) (n2 := 73) (by omega) (by omega)) (by omega) (by omega)⟩
  rw [if_pos c, show bI (isH σ x) = 1 from if_pos c]
  obtain ⟨k, hk, rfl⟩ := isH_k hn7 c
  have hk7 : k < 7 := by omega
  rw [nI_clamp (by omega)]
  unfold surG
  repeat (first | refine es rfl rfl rfl ?_ | refine eg rfl (by assumption) rfl ?_ | refine ean rfl (by assumption) (by assumption) rfl ?_ | refine eal rfl (by assumption) (by assumption) rfl ?_ | refine eri rfl ?_ | refine erv rfl ?_ | refine erl rfl ?_ | refine era rfl ?_ | refine erz0 rfl ?_ | refine erz1 rfl ?_)
  try dsimp only [set1, set2, kilP, List.set_cons_zero, List.set_cons_succ, List.getElem?_cons_zero, List.getElem?_cons_succ, List.nil_append, List.cons_append, Option.toList_some, Option.toList_none]
  refine ecr rfl rfl (by assumption) rfl rfl rfl (e3_roomOf hN (by omega)) (by first | rfl | exact Nat.blt_eq.mpr (by omega)) rfl ?_
  repeat (first | refine es rfl rfl rfl ?_ | refine eg rfl (by assumption) rfl ?_ | refine ean rfl (by assumption) (by assumption) rfl ?_ | refine eal rfl (by assumption) (by assumption) rfl ?_ | refine eri rfl ?_ | refine erv rfl ?_ | refine erl rfl ?_ | refine era rfl ?_ | refine erz0 rfl ?_ | refine erz1 rfl ?_)
  try dsimp only [set1, set2, kilP, List.set_cons_zero, List.set_cons_succ, List.getElem?_cons_zero, List.getElem?_cons_succ, List.nil_append, List.cons_append, Option.toList_some, Option.toList_none]
  by_cases c1 : σ.f k = -2
  · refine ei _ rfl rfl (fun c2 => ?_) (fun c2 => ?_)
    · exact absurd c1 c2
    repeat (first | refine es rfl rfl rfl ?_ | refine eg rfl (by assumption) rfl ?_ | refine ean rfl (by assumption) (by assumption) rfl ?_ | refine eal rfl (by assumption) (by assumption) rfl ?_ | refine eri rfl ?_ | refine erv rfl ?_ | refine erl rfl ?_ | refine era rfl ?_ | refine erz0 rfl ?_ | refine erz1 rfl ?_)
    try dsimp only [set1, set2, kilP, List.set_cons_zero, List.set_cons_succ, List.getElem?_cons_zero, List.getElem?_cons_succ, List.nil_append, List.cons_append, Option.toList_some, Option.toList_none]
    refine ecv rfl rfl (by assumption) rfl rfl rfl (x_fit1 hX hI (by omega)) (by first | rfl | exact Nat.blt_eq.mpr (by omega)) ?_
    rintro v M1 ⟨rfl, ⟨w, hw, hw1, hcd⟩, hX1, hF1⟩
    have w0 := hw.1
    have h01 : M1.1 b = _ := (hF1.1 _ (by omega)).trans h0
    have hF := hF.tr (hF1.wide (lo2 := b) (n2 := 73) (by omega) (by omega)) (by omega) (by omega)
    try dsimp only [set1, set2, kilP, List.set_cons_zero, List.set_cons_succ, List.getElem?_cons_zero, List.getElem?_cons_succ, List.nil_append, List.cons_append, Option.toList_some, Option.toList_none]
    repeat (first | refine es rfl rfl rfl ?_ | refine eg rfl (by assumption) rfl ?_ | refine ean rfl (by assumption) (by assumption) rfl ?_ | refine eal rfl (by assumption) (by assumption) rfl ?_ | refine eri rfl ?_ | refine erv rfl ?_ | refine erl rfl ?_ | refine era rfl ?_ | refine erz0 rfl ?_ | refine erz1 rfl ?_)
    try dsimp only [set1, set2, kilP, List.set_cons_zero, List.set_cons_succ, List.getElem?_cons_zero, List.getElem?_cons_succ, List.nil_append, List.cons_append, Option.toList_some, Option.toList_none]
    refine ecr rfl rfl (by assumption) rfl rfl rfl (e1_sa hw hk7) (by first | rfl | exact Nat.blt_eq.mpr (by omega)) rfl ?_
    repeat (first | refine es rfl rfl rfl ?_ | refine eg rfl (by assumption) rfl ?_ | refine ean rfl (by assumption) (by assumption) rfl ?_ | refine eal rfl (by assumption) (by assumption) rfl ?_ | refine eri rfl ?_ | refine erv rfl ?_ | refine erl rfl ?_ | refine era rfl ?_ | refine erz0 rfl ?_ | refine erz1 rfl ?_)
    try dsimp only [set1, set2, kilP, List.set_cons_zero, List.set_cons_succ, List.getElem?_cons_zero, List.getElem?_cons_succ, List.nil_append, List.cons_append, Option.toList_some, Option.toList_none]
    refine ecv rfl rfl (by assumption) rfl rfl rfl (x_ans hX1) (by first | rfl | exact Nat.blt_eq.mpr (by omega)) ?_
    rintro v M9 ⟨rfl, hX9, hF9⟩
    try dsimp only [set1, set2, kilP, List.set_cons_zero, List.set_cons_succ, List.getElem?_cons_zero, List.getElem?_cons_succ, List.nil_append, List.cons_append, Option.toList_some, Option.toList_none]
    repeat (first | refine es rfl rfl rfl ?_ | refine eg rfl (by assumption) rfl ?_ | refine ean rfl (by assumption) (by assumption) rfl ?_ | refine eal rfl (by assumption) (by assumption) rfl ?_ | refine eri rfl ?_ | refine erv rfl ?_ | refine erl rfl ?_ | refine era rfl ?_ | refine erz0 rfl ?_ | refine erz1 rfl ?_)
    try dsimp only [set1, set2, kilP, List.set_cons_zero, List.set_cons_succ, List.getElem?_cons_zero, List.getElem?_cons_succ, List.nil_append, List.cons_append, Option.toList_some, Option.toList_none]
    exact ⟨_, ⟨_, hcd, by rw [if_pos c1], rfl⟩, hX9, hF.tr (hF9.wide (lo2 := b) (n2 := 73) (by omega) (by omega)) (by omega) (by omega)⟩
  · refine ei _ rfl rfl (fun c2 => ?_) (fun c2 => ?_)
    rotate_left
    · exact absurd c1 c2
    repeat (first | refine es rfl rfl rfl ?_ | refine eg rfl (by assumption) rfl ?_ | refine ean rfl (by assumption) (by assumption) rfl ?_ | refine eal rfl (by assumption) (by assumption) rfl ?_ | refine eri rfl ?_ | refine erv rfl ?_ | refine erl rfl ?_ | refine era rfl ?_ | refine erz0 rfl ?_ | refine erz1 rfl ?_)
    try dsimp only [set1, set2, kilP, List.set_cons_zero, List.set_cons_succ, List.getElem?_cons_zero, List.getElem?_cons_succ, List.nil_append, List.cons_append, Option.toList_some, Option.toList_none]
    refine ecv rfl rfl (by assumption) rfl rfl rfl (x_fit1 hX hI (by omega)) (by first | rfl | exact Nat.blt_eq.mpr (by omega)) ?_
    rintro v M1 ⟨rfl, ⟨w, hw, hw1, hcd⟩, hX1, hF1⟩
    have w0 := hw.1
    have h01 : M1.1 b = _ := (hF1.1 _ (by omega)).trans h0
    have hF := hF.tr (hF1.wide (lo2 := b) (n2 := 73) (by omega) (by omega)) (by omega) (by omega)
    try dsimp only [set1, set2, kilP, List.set_cons_zero, List.set_cons_succ, List.getElem?_cons_zero, List.getElem?_cons_succ, List.nil_append, List.cons_append, Option.toList_some, Option.toList_none]
    repeat (first | refine es rfl rfl rfl ?_ | refine eg rfl (by assumption) rfl ?_ | refine ean rfl (by assumption) (by assumption) rfl ?_ | refine eal rfl (by assumption) (by assumption) rfl ?_ | refine eri rfl ?_ | refine erv rfl ?_ | refine erl rfl ?_ | refine era rfl ?_ | refine erz0 rfl ?_ | refine erz1 rfl ?_)
    try dsimp only [set1, set2, kilP, List.set_cons_zero, List.set_cons_succ, List.getElem?_cons_zero, List.getElem?_cons_succ, List.nil_append, List.cons_append, Option.toList_some, Option.toList_none]
    refine ecr rfl rfl (by assumption) rfl rfl rfl (e1_rowCount hw) (by first | rfl | exact Nat.blt_eq.mpr (by omega)) rfl ?_
    repeat (first | refine es rfl rfl rfl ?_ | refine eg rfl (by assumption) rfl ?_ | refine ean rfl (by assumption) (by assumption) rfl ?_ | refine eal rfl (by assumption) (by assumption) rfl ?_ | refine eri rfl ?_ | refine erv rfl ?_ | refine erl rfl ?_ | refine era rfl ?_ | refine erz0 rfl ?_ | refine erz1 rfl ?_)
    try dsimp only [set1, set2, kilP, List.set_cons_zero, List.set_cons_succ, List.getElem?_cons_zero, List.getElem?_cons_succ, List.nil_append, List.cons_append, Option.toList_some, Option.toList_none]
    refine ei _ rfl rfl (fun c3 => ?_) (fun c3 => ?_)
    · repeat (first | refine es rfl rfl rfl ?_ | refine eg rfl (by assumption) rfl ?_ | refine ean rfl (by assumption) (by assumption) rfl ?_ | refine eal rfl (by assumption) (by assumption) rfl ?_ | refine eri rfl ?_ | refine erv rfl ?_ | refine erl rfl ?_ | refine era rfl ?_ | refine erz0 rfl ?_ | refine erz1 rfl ?_)
      try dsimp only [set1, set2, kilP, List.set_cons_zero, List.set_cons_succ, List.getElem?_cons_zero, List.getElem?_cons_succ, List.nil_append, List.cons_append, Option.toList_some, Option.toList_none]
      refine ecv rfl rfl (by assumption) rfl rfl rfl (x_ans hX1) (by first | rfl | exact Nat.blt_eq.mpr (by omega)) ?_
      rintro v M9 ⟨rfl, hX9, hF9⟩
      try dsimp only [set1, set2, kilP, List.set_cons_zero, List.set_cons_succ, List.getElem?_cons_zero, List.getElem?_cons_succ, List.nil_append, List.cons_append, Option.toList_some, Option.toList_none]
      repeat (first | refine es rfl rfl rfl ?_ | refine eg rfl (by assumption) rfl ?_ | refine ean rfl (by assumption) (by assumption) rfl ?_ | refine eal rfl (by assumption) (by assumption) rfl ?_ | refine eri rfl ?_ | refine erv rfl ?_ | refine erl rfl ?_ | refine era rfl ?_ | refine erz0 rfl ?_ | refine erz1 rfl ?_)
      try dsimp only [set1, set2, kilP, List.set_cons_zero, List.set_cons_succ, List.getElem?_cons_zero, List.getElem?_cons_succ, List.nil_append, List.cons_append, Option.toList_some, Option.toList_none]
      exact ⟨_, ⟨_, hcd, by rw [if_neg c1, if_neg (Int32.not_lt.mpr c3)], rfl⟩, hX9, hF.tr (hF9.wide (lo2 := b) (n2 := 73) (by omega) (by omega)) (by omega) (by omega)⟩
    · repeat (first | refine es rfl rfl rfl ?_ | refine eg rfl (by assumption) rfl ?_ | refine ean rfl (by assumption) (by assumption) rfl ?_ | refine eal rfl (by assumption) (by assumption) rfl ?_ | refine eri rfl ?_ | refine erv rfl ?_ | refine erl rfl ?_ | refine era rfl ?_ | refine erz0 rfl ?_ | refine erz1 rfl ?_)
      try dsimp only [set1, set2, kilP, List.set_cons_zero, List.set_cons_succ, List.getElem?_cons_zero, List.getElem?_cons_succ, List.nil_append, List.cons_append, Option.toList_some, Option.toList_none]
      refine ecv rfl rfl (by assumption) rfl rfl rfl (x_ans hX1) (by first | rfl | exact Nat.blt_eq.mpr (by omega)) ?_
      rintro v M9 ⟨rfl, hX9, hF9⟩
      try dsimp only [set1, set2, kilP, List.set_cons_zero, List.set_cons_succ, List.getElem?_cons_zero, List.getElem?_cons_succ, List.nil_append, List.cons_append, Option.toList_some, Option.toList_none]
      repeat (first | refine es rfl rfl rfl ?_ | refine eg rfl (by assumption) rfl ?_ | refine ean rfl (by assumption) (by assumption) rfl ?_ | refine eal rfl (by assumption) (by assumption) rfl ?_ | refine eri rfl ?_ | refine erv rfl ?_ | refine erl rfl ?_ | refine era rfl ?_ | refine erz0 rfl ?_ | refine erz1 rfl ?_)
      try dsimp only [set1, set2, kilP, List.set_cons_zero, List.set_cons_succ, List.getElem?_cons_zero, List.getElem?_cons_succ, List.nil_append, List.cons_append, Option.toList_some, Option.toList_none]
      exact ⟨_, ⟨_, hcd, by rw [if_neg c1, if_pos (Int32.not_le.mp c3)], rfl⟩, hX9, hF.tr (hF9.wide (lo2 := b) (n2 := 73) (by omega) (by omega)) (by omega) (by omega)⟩
theorem x_firstOf {x : Int32} (hX : XR M b σ) (hI : Inv σ C) : EvM ad 11 (iX11_firstOf ad) [.ref b, .int x] M (Po b M (spFitsH σ x (firG σ))) := by
  have hn7 := hI.n7
  have hF := Fr.rf b 73 M
  obtain ⟨tb, sp, hts, h0, hRd, hT, hT2, hN, hTr, hPt, hWy, hFt, hSw, hRt⟩ := id hX
  unfold xTop at h0
  have t0 := hT.1.1
  have s0 := hT.2.1.1
  have s1 := hT.2.2.1.1
  have s2 := hT.2.2.2.1
  have n0 := hN.1
  unfold spFitsH
  refine ⟨Nat.le_of_ble_eq_true rfl, ?_⟩
  show Ev ad _ (rX11_firstOf ad) (0, [some (.ref b), some (.int x), none], [], M) _
  repeat (first | refine es rfl rfl rfl ?_ | refine eg rfl (by assumption) rfl ?_ | refine ean rfl (by assumption) (by assumption) rfl ?_ | refine eal rfl (by assumption) (by assumption) rfl ?_ | refine eri rfl ?_ | refine erv rfl ?_ | refine erl rfl ?_ | refine era rfl ?_ | refine erz0 rfl ?_ | refine erz1 rfl ?_)
  try dsimp only [set1, set2, kilP, List.set_cons_zero, List.set_cons_succ, List.getElem?_cons_zero, List.getElem?_cons_succ, List.nil_append, List.cons_append, Option.toList_some, Option.toList_none]
  refine ecr rfl rfl (by assumption) rfl rfl rfl (x_isH hX) (by first | rfl | exact Nat.blt_eq.mpr (by omega)) rfl ?_
  by_cases c : isH σ x
  rotate_left
  · rw [if_neg c, show bI (isH σ x) = 0 from if_neg c]
    repeat (first | refine es rfl rfl rfl ?_ | refine eg rfl (by assumption) rfl ?_ | refine ean rfl (by assumption) (by assumption) rfl ?_ | refine eal rfl (by assumption) (by assumption) rfl ?_ | refine eri rfl ?_ | refine erv rfl ?_ | refine erl rfl ?_ | refine era rfl ?_ | refine erz0 rfl ?_ | refine erz1 rfl ?_)
    try dsimp only [set1, set2, kilP, List.set_cons_zero, List.set_cons_succ, List.getElem?_cons_zero, List.getElem?_cons_succ, List.nil_append, List.cons_append, Option.toList_some, Option.toList_none]
    refine ecv rfl rfl (by assumption) rfl rfl rfl (x_ref hX) (by first | rfl | exact Nat.blt_eq.mpr (by omega)) ?_
    rintro v M9 ⟨rfl, hX9, hF9⟩
    try dsimp only [set1, set2, kilP, List.set_cons_zero, List.set_cons_succ, List.getElem?_cons_zero, List.getElem?_cons_succ, List.nil_append, List.cons_append, Option.toList_some, Option.toList_none]
    repeat (first | refine es rfl rfl rfl ?_ | refine eg rfl (by assumption) rfl ?_ | refine ean rfl (by assumption) (by assumption) rfl ?_ | refine eal rfl (by assumption) (by assumption) rfl ?_ | refine eri rfl ?_ | refine erv rfl ?_ | refine erl rfl ?_ | refine era rfl ?_ | refine erz0 rfl ?_ | refine erz1 rfl ?_)
    try dsimp only [set1, set2, kilP, List.set_cons_zero, List.set_cons_succ, List.getElem?_cons_zero, List.getElem?_cons_succ, List.nil_append, List.cons_append, Option.toList_some, Option.toList_none]
    exact ⟨_, ⟨rfl, rfl⟩, hX9, hF.tr (hF9.wide (lo2 := b) (n2 := 73) (by omega) (by omega)) (by omega) (by omega)⟩
  rw [if_pos c, show bI (isH σ x) = 1 from if_pos c]
  obtain ⟨k, hk, rfl⟩ := isH_k hn7 c
  have hk7 : k < 7 := by omega
  rw [nI_clamp (by omega)]
  unfold firG
  repeat (first | refine es rfl rfl rfl ?_ | refine eg rfl (by assumption) rfl ?_ | refine ean rfl (by assumption) (by assumption) rfl ?_ | refine eal rfl (by assumption) (by assumption) rfl ?_ | refine eri rfl ?_ | refine erv rfl ?_ | refine erl rfl ?_ | refine era rfl ?_ | refine erz0 rfl ?_ | refine erz1 rfl ?_)
  try dsimp only [set1, set2, kilP, List.set_cons_zero, List.set_cons_succ, List.getElem?_cons_zero, List.getElem?_cons_succ, List.nil_append, List.cons_append, Option.toList_some, Option.toList_none]
  refine ecv rfl rfl (by assumption) rfl rfl rfl (x_fit1 hX hI (by omega)) (by first | rfl | exact Nat.blt_eq.mpr (by omega)) ?_
  rintro v M1 ⟨rfl, ⟨w, hw, hw1, hcd⟩, hX1, hF1⟩
  have w0 := hw.1
  have h01 : M1.1 b = _ := (hF1.1 _ (by omega)).trans h0
  have hN1 := hN.fr hF1 (by omega)
  have n1 := hN1.1
  have hF := hF.tr (hF1.wide (lo2 := b) (n2 := 73) (by omega) (by omega)) (by omega) (by omega)
  try dsimp only [set1, set2, kilP, List.set_cons_zero, List.set_cons_succ, List.getElem?_cons_zero, List.getElem?_cons_succ, List.nil_append, List.cons_append, Option.toList_some, Option.toList_none]
  refine ecr rfl rfl (by assumption) rfl rfl rfl (e1_rowCount hw) (by first | rfl | exact Nat.blt_eq.mpr (by omega)) rfl ?_
  refine ei _ rfl rfl (fun c2 => ?_) (fun c2 => ?_)
  rotate_left
  · repeat (first | refine es rfl rfl rfl ?_ | refine eg rfl (by assumption) rfl ?_ | refine ean rfl (by assumption) (by assumption) rfl ?_ | refine eal rfl (by assumption) (by assumption) rfl ?_ | refine eri rfl ?_ | refine erv rfl ?_ | refine erl rfl ?_ | refine era rfl ?_ | refine erz0 rfl ?_ | refine erz1 rfl ?_)
    try dsimp only [set1, set2, kilP, List.set_cons_zero, List.set_cons_succ, List.getElem?_cons_zero, List.getElem?_cons_succ, List.nil_append, List.cons_append, Option.toList_some, Option.toList_none]
    refine ecv rfl rfl (by assumption) rfl rfl rfl (x_ans hX1) (by first | rfl | exact Nat.blt_eq.mpr (by omega)) ?_
    rintro v M9 ⟨rfl, hX9, hF9⟩
    try dsimp only [set1, set2, kilP, List.set_cons_zero, List.set_cons_succ, List.getElem?_cons_zero, List.getElem?_cons_succ, List.nil_append, List.cons_append, Option.toList_some, Option.toList_none]
    repeat (first | refine es rfl rfl rfl ?_ | refine eg rfl (by assumption) rfl ?_ | refine ean rfl (by assumption) (by assumption) rfl ?_ | refine eal rfl (by assumption) (by assumption) rfl ?_ | refine eri rfl ?_ | refine erv rfl ?_ | refine erl rfl ?_ | refine era rfl ?_ | refine erz0 rfl ?_ | refine erz1 rfl ?_)
    try dsimp only [set1, set2, kilP, List.set_cons_zero, List.set_cons_succ, List.getElem?_cons_zero, List.getElem?_cons_succ, List.nil_append, List.cons_append, Option.toList_some, Option.toList_none]
    exact ⟨_, ⟨_, hcd, by rw [if_pos (Decidable.byContradiction c2)], rfl⟩, hX9, hF.tr (hF9.wide (lo2 := b) (n2 := 73) (by omega) (by omega)) (by omega) (by omega)⟩
  repeat (first | refine es rfl rfl rfl ?_ | refine eg rfl (by assumption) rfl ?_ | refine ean rfl (by assumption) (by assumption) rfl ?_ | refine eal rfl (by assumption) (by assumption) rfl ?_ | refine eri rfl ?_ | refine erv rfl ?_ | refine erl rfl ?_ | refine era rfl ?_ | refine erz0 rfl ?_ | refine erz1 rfl ?_)
  try dsimp only [set1, set2, kilP, List.set_cons_zero, List.set_cons_succ, List.getElem?_cons_zero, List.getElem?_cons_succ, List.nil_append, List.cons_append, Option.toList_some, Option.toList_none]
  refine ecr rfl rfl (by assumption) rfl rfl rfl (e3_roomOf hN1 (by omega)) (by first | rfl | exact Nat.blt_eq.mpr (by omega)) rfl ?_
  repeat (first | refine es rfl rfl rfl ?_ | refine eg rfl (by assumption) rfl ?_ | refine ean rfl (by assumption) (by assumption) rfl ?_ | refine eal rfl (by assumption) (by assumption) rfl ?_ | refine eri rfl ?_ | refine erv rfl ?_ | refine erl rfl ?_ | refine era rfl ?_ | refine erz0 rfl ?_ | refine erz1 rfl ?_)
  try dsimp only [set1, set2, kilP, List.set_cons_zero, List.set_cons_succ, List.getElem?_cons_zero, List.getElem?_cons_succ, List.nil_append, List.cons_append, Option.toList_some, Option.toList_none]
  by_cases c1 : σ.f k = -2
  · refine ei _ rfl rfl (fun c3 => ?_) (fun c3 => ?_)
    · exact absurd c1 c3
    repeat (first | refine es rfl rfl rfl ?_ | refine eg rfl (by assumption) rfl ?_ | refine ean rfl (by assumption) (by assumption) rfl ?_ | refine eal rfl (by assumption) (by assumption) rfl ?_ | refine eri rfl ?_ | refine erv rfl ?_ | refine erl rfl ?_ | refine era rfl ?_ | refine erz0 rfl ?_ | refine erz1 rfl ?_)
    try dsimp only [set1, set2, kilP, List.set_cons_zero, List.set_cons_succ, List.getElem?_cons_zero, List.getElem?_cons_succ, List.nil_append, List.cons_append, Option.toList_some, Option.toList_none]
    refine ecv rfl rfl (by assumption) rfl rfl rfl (x_fit2 hX1 hI (by omega) hw hw1 hcd) (by first | rfl | exact Nat.blt_eq.mpr (by omega)) ?_
    rintro v M2 ⟨rfl, hw2, hX2, hF2⟩
    have w2 := hw2.1
    have h02 : M2.1 b = _ := (hF2.1 _ (by omega)).trans h01
    have hF := hF.tr (hF2.wide (lo2 := b) (n2 := 73) (by omega) (by omega)) (by omega) (by omega)
    try dsimp only [set1, set2, kilP, List.set_cons_zero, List.set_cons_succ, List.getElem?_cons_zero, List.getElem?_cons_succ, List.nil_append, List.cons_append, Option.toList_some, Option.toList_none]
    repeat (first | refine es rfl rfl rfl ?_ | refine eg rfl (by assumption) rfl ?_ | refine ean rfl (by assumption) (by assumption) rfl ?_ | refine eal rfl (by assumption) (by assumption) rfl ?_ | refine eri rfl ?_ | refine erv rfl ?_ | refine erl rfl ?_ | refine era rfl ?_ | refine erz0 rfl ?_ | refine erz1 rfl ?_)
    try dsimp only [set1, set2, kilP, List.set_cons_zero, List.set_cons_succ, List.getElem?_cons_zero, List.getElem?_cons_succ, List.nil_append, List.cons_append, Option.toList_some, Option.toList_none]
    refine ecr rfl rfl (by assumption) rfl rfl rfl (e1_inFirst hw2 hk7) (by first | rfl | exact Nat.blt_eq.mpr (by omega)) rfl ?_
    repeat (first | refine es rfl rfl rfl ?_ | refine eg rfl (by assumption) rfl ?_ | refine ean rfl (by assumption) (by assumption) rfl ?_ | refine eal rfl (by assumption) (by assumption) rfl ?_ | refine eri rfl ?_ | refine erv rfl ?_ | refine erl rfl ?_ | refine era rfl ?_ | refine erz0 rfl ?_ | refine erz1 rfl ?_)
    try dsimp only [set1, set2, kilP, List.set_cons_zero, List.set_cons_succ, List.getElem?_cons_zero, List.getElem?_cons_succ, List.nil_append, List.cons_append, Option.toList_some, Option.toList_none]
    refine ecv rfl rfl (by assumption) rfl rfl rfl (x_ans hX2) (by first | rfl | exact Nat.blt_eq.mpr (by omega)) ?_
    rintro v M9 ⟨rfl, hX9, hF9⟩
    try dsimp only [set1, set2, kilP, List.set_cons_zero, List.set_cons_succ, List.getElem?_cons_zero, List.getElem?_cons_succ, List.nil_append, List.cons_append, Option.toList_some, Option.toList_none]
    repeat (first | refine es rfl rfl rfl ?_ | refine eg rfl (by assumption) rfl ?_ | refine ean rfl (by assumption) (by assumption) rfl ?_ | refine eal rfl (by assumption) (by assumption) rfl ?_ | refine eri rfl ?_ | refine erv rfl ?_ | refine erl rfl ?_ | refine era rfl ?_ | refine erz0 rfl ?_ | refine erz1 rfl ?_)
    try dsimp only [set1, set2, kilP, List.set_cons_zero, List.set_cons_succ, List.getElem?_cons_zero, List.getElem?_cons_succ, List.nil_append, List.cons_append, Option.toList_some, Option.toList_none]
    exact ⟨_, ⟨_, hcd, by rw [if_neg c2, if_pos c1], rfl⟩, hX9, hF.tr (hF9.wide (lo2 := b) (n2 := 73) (by omega) (by omega)) (by omega) (by omega)⟩
  · refine ei _ rfl rfl (fun c3 => ?_) (fun c3 => ?_)
    rotate_left
    · exact absurd c1 c3
    repeat (first | refine es rfl rfl rfl ?_ | refine eg rfl (by assumption) rfl ?_ | refine ean rfl (by assumption) (by assumption) rfl ?_ | refine eal rfl (by assumption) (by assumption) rfl ?_ | refine eri rfl ?_ | refine erv rfl ?_ | refine erl rfl ?_ | refine era rfl ?_ | refine erz0 rfl ?_ | refine erz1 rfl ?_)
    try dsimp only [set1, set2, kilP, List.set_cons_zero, List.set_cons_succ, List.getElem?_cons_zero, List.getElem?_cons_succ, List.nil_append, List.cons_append, Option.toList_some, Option.toList_none]
    refine ecv rfl rfl (by assumption) rfl rfl rfl (x_ans hX1) (by first | rfl | exact Nat.blt_eq.mpr (by omega)) ?_
    rintro v M9 ⟨rfl, hX9, hF9⟩
    try dsimp only [set1, set2, kilP, List.set_cons_zero, List.set_cons_succ, List.getElem?_cons_zero, List.getElem?_cons_succ, List.nil_append, List.cons_append, Option.toList_some, Option.toList_none]
    repeat (first | refine es rfl rfl rfl ?_ | refine eg rfl (by assumption) rfl ?_ | refine ean rfl (by assumption) (by assumption) rfl ?_ | refine eal rfl (by assumption) (by assumption) rfl ?_ | refine eri rfl ?_ | refine erv rfl ?_ | refine erl rfl ?_ | refine era rfl ?_ | refine erz0 rfl ?_ | refine erz1 rfl ?_)
    try dsimp only [set1, set2, kilP, List.set_cons_zero, List.set_cons_succ, List.getElem?_cons_zero, List.getElem?_cons_succ, List.nil_append, List.cons_append, Option.toList_some, Option.toList_none]
    exact ⟨_, ⟨_, hcd, by rw [if_neg c2, if_neg c1], rfl⟩, hX9, hF.tr (hF9.wide (lo2 := b) (n2 := 73) (by omega) (by omega)) (by omega) (by omega)⟩
end FITS
