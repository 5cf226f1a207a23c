/-! The reference's town -/
section RTWNB
variable {ad : Nat → Nat} {b : Nat} {M : Mm} {σ : Sg} {C : Nat}
theorem aY.lo {M M' : Mm} {b a : Nat} {o : Yo} {A : Ar} (h : aY M b o A) (hq : ∀ q, q < a → M'.1 q = M.1 q) (ha : b + 16 ≤ a) : aY M' b o A := ⟨(hq _ (by omega)).trans h.1, fun j j1 j2 => (hq _ (by omega)).trans (h.2 j j1 j2)⟩
theorem FY.aY {M M' : Mm} {a : Nat} (h : FY b a M M') (ha : b + 16 ≤ a) : ∀ j, 1 ≤ j → j < 16 → M'.1 (b + j) = M.1 (b + j) := fun j j1 j2 => h.1 _ (by omega) (Or.inl (by omega))
theorem rowB_eq {T : Tw} {f g : Nat → Int32} (hf : rowB T f) (hg : rowB T g) (hp : T.np ≤ 4) : ∀ j, j < 16 → f j = g j := by
  intro j hj
  by_cases c : j < 7
  · rw [hf.1 j c, hg.1 j c]
  by_cases c2 : j = 7
  · rw [c2, hf.2.1, hg.2.1]
  by_cases c3 : j < 12
  · have h1 := (hf.2.2 (j - 8) (by omega)).1
    have h2 := (hg.2.2 (j - 8) (by omega)).1
    rw [show 8 + (j - 8) = j by omega] at h1 h2
    rw [h1, h2]
  · have h1 := (hf.2.2 (j - 12) (by omega)).2
    have h2 := (hg.2.2 (j - 12) (by omega)).2
    rw [show 12 + (j - 12) = j by omega] at h1 h2
    rw [h1, h2]
def twQ (σ : Sg) (sc : Nat → Int64) (T0 : Tw) (k : Nat) (v : Option Value) (σ' : Sg) : Prop := match pTown σ.tp sc k T0 with
  | .error e => v = some (.int (-1)) ∧ σ' = (σ.tp, 0, σ.T, σ.f, σ.ac, σ.mk, 4, nI e.1, nI e.2)
  | .ok T => v = some (.int (nI T.hs.n)) ∧ ∃ f', rowB T f' ∧ σ' = (σ.tp, 0, T, f', [], [], 0, 0, -1)
def Pt (b : Nat) (M : Mm) (S : Option Value → Sg → Prop) : Option Value → Mm → Prop := fun v' M' => (∀ v σ', S v σ' → v = v' ∧ YR M' b σ') ∧ (∀ q, q < M.2.1 → (q < b ∨ b + 16 ≤ q) → M'.1 q = M.1 q) ∧ (M'.2 = M.2 ∨ M'.2 = (M.2.1 + 18, M.2.2.1 + 18, M.2.2.2 + 190))
theorem y_town1 {k : Nat} {sc : Nat → Int64} {T0 : Tw} (hY : YR M b σ) (hI : Inv σ C) (hS : aSt ad b M) (hk : k ≤ σ.ts) (hc : ∀ j, j < 8 → sc j = sC j) (hT : twE T0) : EvM ad 9 (iX13_town ad) [.ref b, .int (nI k)] M (Pt b M (twQ σ sc T0 k)) := by
  have hts := hI.2.2.1
  refine ⟨Nat.le_of_ble_eq_true rfl, ?_⟩
  show Ev ad _ (rX13_town ad) (0, [some (.ref b), some (.int (nI k)), none], [], M) _
  refine yEn rfl rfl rfl hY (fun M1 hY1 hF1 _ => ?_)
  obtain ⟨⟨⟨th, tr, wh⟩, ⟨tw, rd⟩, ⟨ta, sz, sp, so, pl, nu, fa, wa, wo⟩, oq⟩, A, hR⟩ := id hY1
  have ea : ta = nI σ.ts := hR.2.2.2.2.2.1
  subst ea
  have hA : tpR A σ.tp := hR.2.2.2.2.2.2.2.2.1
  have hbM := hR.2.1
  have hy := hR.1
  have h0 := hy.1
  repeat (first | refine es rfl rfl rfl ?_ | refine eg rfl (by assumption) rfl ?_ | refine eanE rfl (by assumption) (by with_reducible first | exact rfl | exact Int32.zero_add _ | exact ix8 _ | exact ix12 _ | exact ix7r _ _ | exact n7 | exact n0 | exact n1) (by assumption) rfl ?_ | refine eal rfl (by assumption) (by assumption) rfl ?_ | refine eri rfl ?_ | refine erv rfl ?_ | refine erl rfl ?_ | refine era rfl ?_ | refine erz0 rfl ?_ | refine erz1 rfl ?_)
  try dsimp only [set1, set2, kilP, List.set_cons_zero, List.set_cons_succ, List.getElem?_cons_zero, List.getElem?_cons_succ, List.nil_append, List.cons_append, Option.toList_some, Option.toList_none]
  refine ei _ rfl rfl (fun c => ?_) (fun c => ?_)
  · exact absurd c (nI_pos (by omega))
  repeat (first | refine es rfl rfl rfl ?_ | refine eg rfl (by assumption) rfl ?_ | refine eanE rfl (by assumption) (by with_reducible first | exact rfl | exact Int32.zero_add _ | exact ix8 _ | exact ix12 _ | exact ix7r _ _ | exact n7 | exact n0 | exact n1) (by assumption) rfl ?_ | refine eal rfl (by assumption) (by assumption) rfl ?_ | refine eri rfl ?_ | refine erv rfl ?_ | refine erl rfl ?_ | refine era rfl ?_ | refine erz0 rfl ?_ | refine erz1 rfl ?_)
  try dsimp only [set1, set2, kilP, List.set_cons_zero, List.set_cons_succ, List.getElem?_cons_zero, List.getElem?_cons_succ, List.nil_append, List.cons_append, Option.toList_some, Option.toList_none]
  refine ei _ rfl rfl (fun c2 => ?_) (fun c2 => ?_)
  rotate_left
  · exact absurd (nI_le (by omega) (by omega)) c2
  repeat (first | refine es rfl rfl rfl ?_ | refine eg rfl (by assumption) rfl ?_ | refine eanE rfl (by assumption) (by with_reducible first | exact rfl | exact Int32.zero_add _ | exact ix8 _ | exact ix12 _ | exact ix7r _ _ | exact n7 | exact n0 | exact n1) (by assumption) rfl ?_ | refine eal rfl (by assumption) (by assumption) rfl ?_ | refine eri rfl ?_ | refine erv rfl ?_ | refine erl rfl ?_ | refine era rfl ?_ | refine erz0 rfl ?_ | refine erz1 rfl ?_)
  try dsimp only [set1, set2, kilP, List.set_cons_zero, List.set_cons_succ, List.getElem?_cons_zero, List.getElem?_cons_succ, List.nil_append, List.cons_append, Option.toList_some, Option.toList_none]
  refine epM (fs' := yF b ((th, tr, wh), (tw, rd), (nI σ.ts, nI k, sp, so, pl, nu, fa, wa, wo), oq)) rfl h0 rfl rfl rfl (fun M2 e2 => ?_)
  replace hy := hy.ob e2
  have hF2 := hF1.up e2 (by omega) (by omega)
  have g2 := hy.1
  repeat (first | refine es rfl rfl rfl ?_ | refine eg rfl (by assumption) rfl ?_ | refine eanE rfl (by assumption) (by with_reducible first | exact rfl | exact Int32.zero_add _ | exact ix8 _ | exact ix12 _ | exact ix7r _ _ | exact n7 | exact n0 | exact n1) (by assumption) rfl ?_ | refine eal rfl (by assumption) (by assumption) rfl ?_ | refine eri rfl ?_ | refine erv rfl ?_ | refine erl rfl ?_ | refine era rfl ?_ | refine erz0 rfl ?_ | refine erz1 rfl ?_)
  try dsimp only [set1, set2, kilP, List.set_cons_zero, List.set_cons_succ, List.getElem?_cons_zero, List.getElem?_cons_succ, List.nil_append, List.cons_append, Option.toList_some, Option.toList_none]
  refine epM (fs' := yF b ((th, tr, wh), (tw, rd), (0, nI k, sp, so, pl, nu, fa, wa, wo), oq)) rfl g2 rfl rfl rfl (fun M3 e3 => ?_)
  replace hy := hy.ob e3
  have hF3 := hF2.up e3 (by omega) (by omega)
  have g3 := hy.1
  repeat (first | refine es rfl rfl rfl ?_ | refine eg rfl (by assumption) rfl ?_ | refine eanE rfl (by assumption) (by with_reducible first | exact rfl | exact Int32.zero_add _ | exact ix8 _ | exact ix12 _ | exact ix7r _ _ | exact n7 | exact n0 | exact n1) (by assumption) rfl ?_ | refine eal rfl (by assumption) (by assumption) rfl ?_ | refine eri rfl ?_ | refine erv rfl ?_ | refine erl rfl ?_ | refine era rfl ?_ | refine erz0 rfl ?_ | refine erz1 rfl ?_)
  try dsimp only [set1, set2, kilP, List.set_cons_zero, List.set_cons_succ, List.getElem?_cons_zero, List.getElem?_cons_succ, List.nil_append, List.cons_append, Option.toList_some, Option.toList_none]
  refine epM (fs' := yF b ((th, tr, wh), (tw, rd), (0, nI k, 0, so, pl, nu, fa, wa, wo), oq)) rfl g3 rfl rfl rfl (fun M4 e4 => ?_)
  replace hy := hy.ob e4
  have hF4 := hF3.up e4 (by omega) (by omega)
  have g4 := hy.1
  repeat (first | refine es rfl rfl rfl ?_ | refine eg rfl (by assumption) rfl ?_ | refine eanE rfl (by assumption) (by with_reducible first | exact rfl | exact Int32.zero_add _ | exact ix8 _ | exact ix12 _ | exact ix7r _ _ | exact n7 | exact n0 | exact n1) (by assumption) rfl ?_ | refine eal rfl (by assumption) (by assumption) rfl ?_ | refine eri rfl ?_ | refine erv rfl ?_ | refine erl rfl ?_ | refine era rfl ?_ | refine erz0 rfl ?_ | refine erz1 rfl ?_)
  try dsimp only [set1, set2, kilP, List.set_cons_zero, List.set_cons_succ, List.getElem?_cons_zero, List.getElem?_cons_succ, List.nil_append, List.cons_append, Option.toList_some, Option.toList_none]
  refine epM (fs' := yF b ((th, tr, wh), (tw, rd), (0, nI k, 0, so, pl, nu, 0, wa, wo), oq)) rfl g4 rfl rfl rfl (fun M5 e5 => ?_)
  replace hy := hy.ob e5
  have hF5 := hF4.up e5 (by omega) (by omega)
  have g5 := hy.1
  repeat (first | refine es rfl rfl rfl ?_ | refine eg rfl (by assumption) rfl ?_ | refine eanE rfl (by assumption) (by with_reducible first | exact rfl | exact Int32.zero_add _ | exact ix8 _ | exact ix12 _ | exact ix7r _ _ | exact n7 | exact n0 | exact n1) (by assumption) rfl ?_ | refine eal rfl (by assumption) (by assumption) rfl ?_ | refine eri rfl ?_ | refine erv rfl ?_ | refine erl rfl ?_ | refine era rfl ?_ | refine erz0 rfl ?_ | refine erz1 rfl ?_)
  try dsimp only [set1, set2, kilP, List.set_cons_zero, List.set_cons_succ, List.getElem?_cons_zero, List.getElem?_cons_succ, List.nil_append, List.cons_append, Option.toList_some, Option.toList_none]
  have hab : b + 16 ≤ M5.2.1 := by rw [hF5.2, ← hF1.2]; exact hbM
  generalize hM5 : M5.2.1 = a at hab
  refine enwM rfl (fun M6 e6 => ?_)
  rw [hM5]
  have ob : M6.1 a = some (.inr (12, [.int 0, .int 0, .int 0, .int 0, .int 0, .int 0, .int 0, .int 0, .int 0, .int 0, .null, .null, .null, .null, .null, .null, .null, .null, .null, .null, .null, .null, .null, .null, .null, .null, .null])) := mk_w e6 hM5
  have hq6 : ∀ q, q < a → M6.1 q = M5.1 q := fun q hq => mk_k e6 rfl (by omega)
  have hm6 : M6.2 = (a + 1, M5.2.2.1 + 1, M5.2.2.2 + 27) := by rw [e6, ← hM5]; rfl
  replace hy := hy.lo hq6 hab
  have g6 := hy.1
  repeat (first | refine es rfl rfl rfl ?_ | refine eg rfl (by assumption) rfl ?_ | refine eanE rfl (by assumption) (by with_reducible first | exact rfl | exact Int32.zero_add _ | exact ix8 _ | exact ix12 _ | exact ix7r _ _ | exact n7 | exact n0 | exact n1) (by assumption) rfl ?_ | refine eal rfl (by assumption) (by assumption) rfl ?_ | refine eri rfl ?_ | refine erv rfl ?_ | refine erl rfl ?_ | refine era rfl ?_ | refine erz0 rfl ?_ | refine erz1 rfl ?_)
  try dsimp only [set1, set2, kilP, List.set_cons_zero, List.set_cons_succ, List.getElem?_cons_zero, List.getElem?_cons_succ, List.nil_append, List.cons_append, Option.toList_some, Option.toList_none]
  refine eci rfl rfl rfl rfl rfl (i_X12 ob (by rw [hm6])) (by first | rfl | exact Nat.blt_eq.mpr (by omega)) ?_
  rintro v M7 ⟨rfl, ⟨m0, mc⟩, hG7⟩
  replace hy := hy.lo hG7.1 hab
  have g7 := hy.1
  have hM7 : aMt M7 a T0 := aMt.nw hT m0 mc
  try dsimp only [set1, set2, kilP, List.set_cons_zero, List.set_cons_succ, List.getElem?_cons_zero, List.getElem?_cons_succ, List.nil_append, List.cons_append, Option.toList_some, Option.toList_none]
  repeat (first | refine es rfl rfl rfl ?_ | refine eg rfl (by assumption) rfl ?_ | refine eanE rfl (by assumption) (by with_reducible first | exact rfl | exact Int32.zero_add _ | exact ix8 _ | exact ix12 _ | exact ix7r _ _ | exact n7 | exact n0 | exact n1) (by assumption) rfl ?_ | refine eal rfl (by assumption) (by assumption) rfl ?_ | refine eri rfl ?_ | refine erv rfl ?_ | refine erl rfl ?_ | refine era rfl ?_ | refine erz0 rfl ?_ | refine erz1 rfl ?_)
  try dsimp only [set1, set2, kilP, List.set_cons_zero, List.set_cons_succ, List.getElem?_cons_zero, List.getElem?_cons_succ, List.nil_append, List.cons_append, Option.toList_some, Option.toList_none]
  refine epM (fs' := yF b ((th, tr, wh), (tw, .ref a), (0, nI k, 0, so, pl, nu, 0, wa, wo), oq)) rfl g7 rfl rfl rfl (fun M8 e8 => ?_)
  replace hy := hy.ob e8
  have hF8 := (Fr.rf b 1 M7).up e8 (by omega) (by omega)
  have g8 := hy.1
  repeat (first | refine es rfl rfl rfl ?_ | refine eg rfl (by assumption) rfl ?_ | refine eanE rfl (by assumption) (by with_reducible first | exact rfl | exact Int32.zero_add _ | exact ix8 _ | exact ix12 _ | exact ix7r _ _ | exact n7 | exact n0 | exact n1) (by assumption) rfl ?_ | refine eal rfl (by assumption) (by assumption) rfl ?_ | refine eri rfl ?_ | refine erv rfl ?_ | refine erl rfl ?_ | refine era rfl ?_ | refine erz0 rfl ?_ | refine erz1 rfl ?_)
  try dsimp only [set1, set2, kilP, List.set_cons_zero, List.set_cons_succ, List.getElem?_cons_zero, List.getElem?_cons_succ, List.nil_append, List.cons_append, Option.toList_some, Option.toList_none]
  refine epM (fs' := yF b ((th, tr, wh), (tw, .ref a), (0, nI k, 0, 0, pl, nu, 0, wa, wo), oq)) rfl g8 rfl rfl rfl (fun M9 e9 => ?_)
  replace hy := hy.ob e9
  have hF9 := hF8.up e9 (by omega) (by omega)
  have g9 := hy.1
  have hM9 := hM7.fr hF9 (by omega)
  have low9 : ∀ q, q < a → (q < b ∨ b + 16 ≤ q) → M9.1 q = M.1 q := fun q q1 q2 => (hF9.1 q (by omega)).trans ((hG7.1 q q1).trans ((hq6 q q1).trans (hF5.1 q (by omega))))
  have siz9 : M9.2 = (M.2.1 + 18, M.2.2.1 + 18, M.2.2.2 + 190) := by
    rw [hF9.2, hG7.2, hm6, ← hM5, hF5.2]
  have hS9 : aSt ad b M9 := fun i hi => ⟨(hS i hi).1, (low9 _ (by have := (hS i hi).1; omega) (Or.inl (hS i hi).1)).trans (hS i hi).2⟩
  have hN9 : yN M9 b (th, tr, wh) tw (.ref a) oq A k (.ok 0) := ⟨_, hy, rfl, rfl, Nat.zero_le _, (by decide : ¬ (0 : Int32) = 5), rfl, rfl⟩
  repeat (first | refine es rfl rfl rfl ?_ | refine eg rfl (by assumption) rfl ?_ | refine eanE rfl (by assumption) (by with_reducible first | exact rfl | exact Int32.zero_add _ | exact ix8 _ | exact ix12 _ | exact ix7r _ _ | exact n7 | exact n0 | exact n1) (by assumption) rfl ?_ | refine eal rfl (by assumption) (by assumption) rfl ?_ | refine eri rfl ?_ | refine erv rfl ?_ | refine erl rfl ?_ | refine era rfl ?_ | refine erz0 rfl ?_ | refine erz1 rfl ?_)
  try dsimp only [set1, set2, kilP, List.set_cons_zero, List.set_cons_succ, List.getElem?_cons_zero, List.getElem?_cons_succ, List.nil_append, List.cons_append, Option.toList_some, Option.toList_none]
  refine ecv rfl rfl (by assumption) rfl rfl rfl (y_goesOn hA (by omega) hN9) (by first | rfl | exact Nat.blt_eq.mpr (by omega)) ?_
  rintro v M10 ⟨rfl, hF10, h10⟩
  obtain ⟨r10, hy10, _⟩ := id h10
  have g10 := hy10.1
  try dsimp only [set1, set2, kilP, List.set_cons_zero, List.set_cons_succ, List.getElem?_cons_zero, List.getElem?_cons_succ, List.nil_append, List.cons_append, Option.toList_some, Option.toList_none]
  repeat (first | refine es rfl rfl rfl ?_ | refine eg rfl (by assumption) rfl ?_ | refine eanE rfl (by assumption) (by with_reducible first | exact rfl | exact Int32.zero_add _ | exact ix8 _ | exact ix12 _ | exact ix7r _ _ | exact n7 | exact n0 | exact n1) (by assumption) rfl ?_ | refine eal rfl (by assumption) (by assumption) rfl ?_ | refine eri rfl ?_ | refine erv rfl ?_ | refine erl rfl ?_ | refine era rfl ?_ | refine erz0 rfl ?_ | refine erz1 rfl ?_)
  try dsimp only [set1, set2, kilP, List.set_cons_zero, List.set_cons_succ, List.getElem?_cons_zero, List.getElem?_cons_succ, List.nil_append, List.cons_append, Option.toList_some, Option.toList_none]
  refine ecv rfl rfl (by assumption) rfl rfl rfl (y_all h10 (hM9.fr hF10 (by omega)) (twE_tI hT) (hS9.fr hF10 (Nat.le_refl b)) hab hA (by omega) (Nat.le_refl b) hc) (by first | rfl | exact Nat.blt_eq.mpr (by omega)) ?_
  rintro v M11 ⟨rfl, hG11, hq⟩
  have low11 : ∀ q, q < a → (q < b ∨ b + 16 ≤ q) → M11.1 q = M.1 q := fun q q1 q2 => (hG11.1 q (by omega) (Or.inl q1)).trans ((hF10.1 q (by omega)).trans (low9 q q1 q2))
  have siz11 : M11.2 = (M.2.1 + 18, M.2.2.1 + 18, M.2.2.2 + 190) := hG11.2.trans (hF10.2.trans siz9)
  obtain ⟨_, _, y1, y2, y3, y4, y5, y6, y7, y8⟩ := hR
  have hmt : ∀ a', a' + 18 ≤ M1.2.1 → b + 16 ≤ a' → aMt M1 a' σ.T → ∀ M', (∀ q, q < a → (q < b ∨ b + 16 ≤ q) → M'.1 q = M.1 q) → aMt M' a' σ.T := by
    intro a' q1 q2 h M' hl
    refine h.kept (fun q w1 w2 => ?_)
    have hla : a' + 18 ≤ a := by rw [← hM5, hF5.2, ← hF1.2]; exact q1
    rw [hl q (by omega) (by omega)]
    exact (hF1.1 q (by omega)).symm
  unfold twQ
  rcases c3 : pTown σ.tp sc k T0 with e | T
  · rw [c3] at hq
    obtain ⟨⟨tb, sb, pb, ob2, lb, nb, fb, wb, vb⟩, hy11, f1, f2, f3, f4, f5⟩ := hq
    replace f1 : tb = 0 := f1
    replace f4 : fb = nI e.1 := f4
    replace f5 : wb = nI e.2 := f5
    subst f1 f4 f5
    have hok := pTown_e c3
    unfold okE at hok
    have g11 := hy11.1
    try dsimp only [set1, set2, kilP, List.set_cons_zero, List.set_cons_succ, List.getElem?_cons_zero, List.getElem?_cons_succ, List.nil_append, List.cons_append, Option.toList_some, Option.toList_none]
    repeat (first | refine es rfl rfl rfl ?_ | refine eg rfl (by assumption) rfl ?_ | refine eanE rfl (by assumption) (by with_reducible first | exact rfl | exact Int32.zero_add _ | exact ix8 _ | exact ix12 _ | exact ix7r _ _ | exact n7 | exact n0 | exact n1) (by assumption) rfl ?_ | refine eal rfl (by assumption) (by assumption) rfl ?_ | refine eri rfl ?_ | refine erv rfl ?_ | refine erl rfl ?_ | refine era rfl ?_ | refine erz0 rfl ?_ | refine erz1 rfl ?_)
    try dsimp only [set1, set2, kilP, List.set_cons_zero, List.set_cons_succ, List.getElem?_cons_zero, List.getElem?_cons_succ, List.nil_append, List.cons_append, Option.toList_some, Option.toList_none]
    refine ei _ rfl rfl (fun c4 => ?_) (fun c4 => ?_)
    · exact absurd c4 (Int32.not_le.mpr (show (0 : Int32) < nI e.1 from nI_lt (a := 0) (by omega) (by omega)))
    repeat (first | refine es rfl rfl rfl ?_ | refine eg rfl (by assumption) rfl ?_ | refine eanE rfl (by assumption) (by with_reducible first | exact rfl | exact Int32.zero_add _ | exact ix8 _ | exact ix12 _ | exact ix7r _ _ | exact n7 | exact n0 | exact n1) (by assumption) rfl ?_ | refine eal rfl (by assumption) (by assumption) rfl ?_ | refine eri rfl ?_ | refine erv rfl ?_ | refine erl rfl ?_ | refine era rfl ?_ | refine erz0 rfl ?_ | refine erz1 rfl ?_)
    try dsimp only [set1, set2, kilP, List.set_cons_zero, List.set_cons_succ, List.getElem?_cons_zero, List.getElem?_cons_succ, List.nil_append, List.cons_append, Option.toList_some, Option.toList_none]
    refine epM (fs' := yF b ((th, 4, wh), (tw, .ref a), (0, sb, pb, ob2, lb, nb, nI e.1, nI e.2, vb), oq)) rfl g11 rfl rfl rfl (fun M12 e12 => ?_)
    have hy12 := hy11.ob e12
    have g12 := hy12.1
    repeat (first | refine es rfl rfl rfl ?_ | refine eg rfl (by assumption) rfl ?_ | refine eanE rfl (by assumption) (by with_reducible first | exact rfl | exact Int32.zero_add _ | exact ix8 _ | exact ix12 _ | exact ix7r _ _ | exact n7 | exact n0 | exact n1) (by assumption) rfl ?_ | refine eal rfl (by assumption) (by assumption) rfl ?_ | refine eri rfl ?_ | refine erv rfl ?_ | refine erl rfl ?_ | refine era rfl ?_ | refine erz0 rfl ?_ | refine erz1 rfl ?_)
    try dsimp only [set1, set2, kilP, List.set_cons_zero, List.set_cons_succ, List.getElem?_cons_zero, List.getElem?_cons_succ, List.nil_append, List.cons_append, Option.toList_some, Option.toList_none]
    refine epM (fs' := yF b ((th, 4, nI e.2), (tw, .ref a), (0, sb, pb, ob2, lb, nb, nI e.1, nI e.2, vb), oq)) rfl g12 rfl rfl rfl (fun M13 e13 => ?_)
    have hy13 := hy12.ob e13
    repeat (first | refine es rfl rfl rfl ?_ | refine eg rfl (by assumption) rfl ?_ | refine eanE rfl (by assumption) (by with_reducible first | exact rfl | exact Int32.zero_add _ | exact ix8 _ | exact ix12 _ | exact ix7r _ _ | exact n7 | exact n0 | exact n1) (by assumption) rfl ?_ | refine eal rfl (by assumption) (by assumption) rfl ?_ | refine eri rfl ?_ | refine erv rfl ?_ | refine erl rfl ?_ | refine era rfl ?_ | refine erz0 rfl ?_ | refine erz1 rfl ?_)
    try dsimp only [set1, set2, kilP, List.set_cons_zero, List.set_cons_succ, List.getElem?_cons_zero, List.getElem?_cons_succ, List.nil_append, List.cons_append, Option.toList_some, Option.toList_none]
    have hF13 := ((Fr.rf b 1 M11).up e12 (by omega) (by omega)).up e13 (by omega) (by omega)
    have low13 : ∀ q, q < a → (q < b ∨ b + 16 ≤ q) → M13.1 q = M.1 q := fun q q1 q2 => (hF13.1 q (by omega)).trans (low11 q q1 q2)
    have siz13 : M13.2 = (M.2.1 + 18, M.2.2.1 + 18, M.2.2.2 + 190) := hF13.2.trans siz11
    have ha9 : M.2.1 = a := by rw [← hM5, hF5.2]
    refine ⟨fun v σ' h => ?_, fun q h1 h2 => low13 q (by rw [← ha9]; exact h1) h2, Or.inr siz13⟩
    obtain ⟨rfl, rfl⟩ := h
    refine ⟨rfl, _, A, hy13, by rw [siz13]; show b + 16 ≤ M.2.1 + 18; rw [← hF1.2]; omega, rfl, rfl, rfl, rfl, y5, y6, y7, ?_⟩
    rcases y8 with q | ⟨n1, a', t1, a1, a2, r⟩
    · exact Or.inl q
    · have a3 : a' + 18 ≤ M1.2.1 := a2
      rw [hF1.2] at a3
      exact Or.inr ⟨n1, a', t1, a1, by rw [siz13]; exact Nat.le_trans a3 (Nat.le_add_right _ _), hmt a' a2 a1 r.1 M13 low13, r.2⟩
  · rw [c3] at hq
    obtain ⟨⟨q0, ⟨tb, sb, pb, ob2, lb, nb, fb, wb, vb⟩, hy11, f1, f2, f3, f4, f5, f6, f7, f8, f9⟩, hM11⟩ := hq
    replace f1 : tb = 0 := f1
    replace f9 : fb = 0 := f9
    subst f1 f9
    obtain ⟨hti, hdr, hn2, _⟩ := tI_town hT c3
    have hrd := hti.1.1
    unfold rdW at hrd
    have g11 := hy11.1
    try dsimp only [set1, set2, kilP, List.set_cons_zero, List.set_cons_succ, List.getElem?_cons_zero, List.getElem?_cons_succ, List.nil_append, List.cons_append, Option.toList_some, Option.toList_none]
    repeat (first | refine es rfl rfl rfl ?_ | refine eg rfl (by assumption) rfl ?_ | refine eanE rfl (by assumption) (by with_reducible first | exact rfl | exact Int32.zero_add _ | exact ix8 _ | exact ix12 _ | exact ix7r _ _ | exact n7 | exact n0 | exact n1) (by assumption) rfl ?_ | refine eal rfl (by assumption) (by assumption) rfl ?_ | refine eri rfl ?_ | refine erv rfl ?_ | refine erl rfl ?_ | refine era rfl ?_ | refine erz0 rfl ?_ | refine erz1 rfl ?_)
    try dsimp only [set1, set2, kilP, List.set_cons_zero, List.set_cons_succ, List.getElem?_cons_zero, List.getElem?_cons_succ, List.nil_append, List.cons_append, Option.toList_some, Option.toList_none]
    refine epM (fs' := yF b ((th, tr, wh), (.ref a, .ref a), (0, sb, pb, ob2, lb, nb, 0, wb, vb), oq)) rfl g11 rfl rfl rfl (fun M12 e12 => ?_)
    have hy12 := hy11.ob e12
    have hF12 := (Fr.rf b 16 M11).up e12 (by omega) (by omega)
    have hM12 := hM11.fr hF12 (by omega)
    repeat (refine ng 99 rfl ?_; first | refine es rfl rfl rfl ?_ | refine eg rfl (by assumption) rfl ?_ | refine eanE rfl (by assumption) (by with_reducible first | exact rfl | exact Int32.zero_add _ | exact ix8 _ | exact ix12 _ | exact ix7r _ _ | exact n7 | exact n0 | exact n1) (by assumption) rfl ?_ | refine eal rfl (by assumption) (by assumption) rfl ?_ | refine eri rfl ?_ | refine erv rfl ?_ | refine erl rfl ?_ | refine era rfl ?_ | refine erz0 rfl ?_ | refine erz1 rfl ?_)
    try dsimp only [set1, set2, kilP, List.set_cons_zero, List.set_cons_succ, List.getElem?_cons_zero, List.getElem?_cons_succ, List.nil_append, List.cons_append, Option.toList_some, Option.toList_none]
    refine y_tw1 (A := A) (M0 := M12) (fun M13 p hy13 hF13 hp L => ?_) 16 0 M12 (A 2) (by rw [sA_id]; exact hy12) (Fr.rf b 16 M12) rfl (fun j hj => absurd hj (by omega))
    repeat (refine ng 120 rfl ?_; first | refine es rfl rfl rfl ?_ | refine eg rfl (by assumption) rfl ?_ | refine eanE rfl (by assumption) (by with_reducible first | exact rfl | exact Int32.zero_add _ | exact ix8 _ | exact ix12 _ | exact ix7r _ _ | exact n7 | exact n0 | exact n1) (by assumption) rfl ?_ | refine eal rfl (by assumption) (by assumption) rfl ?_ | refine eri rfl ?_ | refine erv rfl ?_ | refine erl rfl ?_ | refine era rfl ?_ | refine erz0 rfl ?_ | refine erz1 rfl ?_)
    try dsimp only [set1, set2, kilP, List.set_cons_zero, List.set_cons_succ, List.getElem?_cons_zero, List.getElem?_cons_succ, List.nil_append, List.cons_append, Option.toList_some, Option.toList_none]
    refine y_tw2 (A := A) (M0 := M12) hab hM12 (by omega) hti.2.2.1 (fun M14 p2 hy14 hF14 hp2 hp3 L2 => ?_) 7 0 M13 p hy13 hF13 rfl (fun j hj => absurd hj (by omega)) (fun j _ hj => hp j hj)
    repeat (refine ng 167 rfl ?_; first | refine es rfl rfl rfl ?_ | refine eg rfl (by assumption) rfl ?_ | refine eanE rfl (by assumption) (by with_reducible first | exact rfl | exact Int32.zero_add _ | exact ix8 _ | exact ix12 _ | exact ix7r _ _ | exact n7 | exact n0 | exact n1) (by assumption) rfl ?_ | refine eal rfl (by assumption) (by assumption) rfl ?_ | refine eri rfl ?_ | refine erv rfl ?_ | refine erl rfl ?_ | refine era rfl ?_ | refine erz0 rfl ?_ | refine erz1 rfl ?_)
    try dsimp only [set1, set2, kilP, List.set_cons_zero, List.set_cons_succ, List.getElem?_cons_zero, List.getElem?_cons_succ, List.nil_append, List.cons_append, Option.toList_some, Option.toList_none]
    refine y_tw3 (A := A) (M0 := M12) hab hM12 (by omega) (fun M15 p4 hy15 hF15 hrow L3 => ?_) T.np 0 M14 p2 hy14 hF14 (by omega) hp2 (hp3 7 (by omega) (by omega)) (fun j hj => absurd hj (by omega)) (fun j j1 j2 => hp3 j (by omega) j2)
    have g15 := hy15.1
    have hM15 := hM12.fr hF15 (by omega)
    repeat (first | refine es rfl rfl rfl ?_ | refine eg rfl (by assumption) rfl ?_ | refine eanE rfl (by assumption) (by with_reducible first | exact rfl | exact Int32.zero_add _ | exact ix8 _ | exact ix12 _ | exact ix7r _ _ | exact n7 | exact n0 | exact n1) (by assumption) rfl ?_ | refine eal rfl (by assumption) (by assumption) rfl ?_ | refine eri rfl ?_ | refine erv rfl ?_ | refine erl rfl ?_ | refine era rfl ?_ | refine erz0 rfl ?_ | refine erz1 rfl ?_)
    try dsimp only [set1, set2, kilP, List.set_cons_zero, List.set_cons_succ, List.getElem?_cons_zero, List.getElem?_cons_succ, List.nil_append, List.cons_append, Option.toList_some, Option.toList_none]
    refine ecv rfl rfl (by assumption) rfl rfl rfl (y_lay hy15 hab hM15 (by omega)) (by first | rfl | exact Nat.blt_eq.mpr (by omega)) ?_
    rintro v M16 ⟨rfl, fa16, hfar, e16⟩
    have hy16 := hy15.ar (k := 15) e16 (by omega)
    have hF16 := hF15.up e16 (by omega) (by omega)
    have g16 := hy16.1
    try dsimp only [set1, set2, kilP, List.set_cons_zero, List.set_cons_succ, List.getElem?_cons_zero, List.getElem?_cons_succ, List.nil_append, List.cons_append, Option.toList_some, Option.toList_none]
    obtain ⟨⟨qa, qm⟩, qr⟩ := oq
    repeat (first | refine es rfl rfl rfl ?_ | refine eg rfl (by assumption) rfl ?_ | refine eanE rfl (by assumption) (by with_reducible first | exact rfl | exact Int32.zero_add _ | exact ix8 _ | exact ix12 _ | exact ix7r _ _ | exact n7 | exact n0 | exact n1) (by assumption) rfl ?_ | refine eal rfl (by assumption) (by assumption) rfl ?_ | refine eri rfl ?_ | refine erv rfl ?_ | refine erl rfl ?_ | refine era rfl ?_ | refine erz0 rfl ?_ | refine erz1 rfl ?_)
    try dsimp only [set1, set2, kilP, List.set_cons_zero, List.set_cons_succ, List.getElem?_cons_zero, List.getElem?_cons_succ, List.nil_append, List.cons_append, Option.toList_some, Option.toList_none]
    refine epM (fs' := yF b ((th, tr, wh), (.ref a, .ref a), (0, sb, pb, ob2, lb, nb, 0, wb, vb), ((0, qm), qr))) rfl g16 rfl rfl rfl (fun M17 e17 => ?_)
    have hy17 := hy16.ob e17
    have hF17 := hF16.up e17 (by omega) (by omega)
    have g17 := hy17.1
    repeat (first | refine es rfl rfl rfl ?_ | refine eg rfl (by assumption) rfl ?_ | refine eanE rfl (by assumption) (by with_reducible first | exact rfl | exact Int32.zero_add _ | exact ix8 _ | exact ix12 _ | exact ix7r _ _ | exact n7 | exact n0 | exact n1) (by assumption) rfl ?_ | refine eal rfl (by assumption) (by assumption) rfl ?_ | refine eri rfl ?_ | refine erv rfl ?_ | refine erl rfl ?_ | refine era rfl ?_ | refine erz0 rfl ?_ | refine erz1 rfl ?_)
    try dsimp only [set1, set2, kilP, List.set_cons_zero, List.set_cons_succ, List.getElem?_cons_zero, List.getElem?_cons_succ, List.nil_append, List.cons_append, Option.toList_some, Option.toList_none]
    refine epM (fs' := yF b ((th, tr, wh), (.ref a, .ref a), (0, sb, pb, ob2, lb, nb, 0, wb, vb), ((0, 0), qr))) rfl g17 rfl rfl rfl (fun M18 e18 => ?_)
    have hy18 := hy17.ob e18
    have hF18 := hF17.up e18 (by omega) (by omega)
    have g18 := hy18.1
    have hM18 := hM12.fr hF18 (by omega)
    have siz18 : M18.2 = (M.2.1 + 18, M.2.2.1 + 18, M.2.2.2 + 190) := hF18.2.trans (hF12.2.trans siz11)
    have haM : a = M.2.1 := by rw [← hM5, hF5.2]
    have hY18 : YR M18 b (σ.tp, 0, T, p4, [], [], σ.tr, 0, σ.fp) := by
      refine ⟨_, _, hy18, by rw [siz18]; show b + 16 ≤ M.2.1 + 18; omega, y1, y2, rfl, rfl, rfl, rfl, y7, Or.inr ⟨show 0 < T.hs.n by omega, a, rfl, hab, by rw [siz18]; show a + 18 ≤ M.2.1 + 18; omega, hM18, fun j hj => rfl, ⟨Nat.zero_le _, fun i r0 hr => by have hr : ([] : List (Nat → Int32))[i]? = some r0 := hr; simp at hr⟩, ⟨Nat.zero_le _, fun i r0 hr => by have hr : ([] : List (Nat → Int32))[i]? = some r0 := hr; simp at hr⟩, hfar⟩⟩
    obtain ⟨kn, Am, Bm, m18, _⟩ := id hM18
    repeat (first | refine es rfl rfl rfl ?_ | refine eg rfl (by assumption) rfl ?_ | refine eanE rfl (by assumption) (by with_reducible first | exact rfl | exact Int32.zero_add _ | exact ix8 _ | exact ix12 _ | exact ix7r _ _ | exact n7 | exact n0 | exact n1) (by assumption) rfl ?_ | refine eal rfl (by assumption) (by assumption) rfl ?_ | refine eri rfl ?_ | refine erv rfl ?_ | refine erl rfl ?_ | refine era rfl ?_ | refine erz0 rfl ?_ | refine erz1 rfl ?_)
    try dsimp only [set1, set2, kilP, List.set_cons_zero, List.set_cons_succ, List.getElem?_cons_zero, List.getElem?_cons_succ, List.nil_append, List.cons_append, Option.toList_some, Option.toList_none]
    refine ecv rfl rfl (by assumption) rfl rfl rfl (y_good hY18) (by first | rfl | exact Nat.blt_eq.mpr (by omega)) ?_
    rintro v M19 ⟨rfl, hY19, hF19⟩
    try dsimp only [set1, set2, kilP, List.set_cons_zero, List.set_cons_succ, List.getElem?_cons_zero, List.getElem?_cons_succ, List.nil_append, List.cons_append, Option.toList_some, Option.toList_none]
    repeat (first | refine es rfl rfl rfl ?_ | refine eg rfl (by assumption) rfl ?_ | refine eanE rfl (by assumption) (by with_reducible first | exact rfl | exact Int32.zero_add _ | exact ix8 _ | exact ix12 _ | exact ix7r _ _ | exact n7 | exact n0 | exact n1) (by assumption) rfl ?_ | refine eal rfl (by assumption) (by assumption) rfl ?_ | refine eri rfl ?_ | refine erv rfl ?_ | refine erl rfl ?_ | refine era rfl ?_ | refine erz0 rfl ?_ | refine erz1 rfl ?_)
    try dsimp only [set1, set2, kilP, List.set_cons_zero, List.set_cons_succ, List.getElem?_cons_zero, List.getElem?_cons_succ, List.nil_append, List.cons_append, Option.toList_some, Option.toList_none]
    have ha9 : M.2.1 = a := by rw [← hM5, hF5.2]
    have low19 : ∀ q, q < M.2.1 → (q < b ∨ b + 16 ≤ q) → M19.1 q = M.1 q := fun q h1 h2 => (hF19.1 q (by omega)).trans ((hF18.1 q (by omega)).trans ((hF12.1 q (by omega)).trans (low11 q (by rw [← ha9]; exact h1) h2)))
    refine ⟨fun v σ' h => ?_, low19, Or.inr (hF19.2.trans siz18)⟩
    obtain ⟨rfl, f', hf', rfl⟩ := h
    refine ⟨rfl, ?_⟩
    have hY20 := hY19.cf (f' := f') (fun j hj => rowB_eq hrow hf' (by omega) j hj)
    obtain ⟨o20, A20, hR20⟩ := hY20
    exact ⟨o20, A20, hR20⟩
end RTWNB
