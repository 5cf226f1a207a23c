/-! The reference: stands, what doors save -/
def nrN (sh : Nat → Int32) (z : Int32) (h : Nat) : Nat → Nat
  | 0 => 0
  | g + 1 => if ¬ sh (h * 7 + g) = -2 ∧ sh (h * 7 + g) ≤ z then nrN sh z h g ||| 2 ^ g else nrN sh z h g
theorem nrF_N {sh : Nat → Int32} {z : Int32} {h : Nat} : ∀ g, g ≤ 7 → nrF sh z h g = nI (nrN sh z h g)
  | 0, _ => rfl
  | g + 1, hg => by
    rw [nrF, nrN, nrF_N g (by omega), shl_n g (by omega), fmx_or]
    split <;> rfl
theorem or_bit {x g j : Nat} : (x ||| 2 ^ g).testBit j = true ↔ x.testBit j = true ∨ j = g := by
  rw [Nat.testBit_or, Bool.or_eq_true]
  by_cases e : j = g
  · subst e; simp [Nat.testBit_two_pow_self]
  · rw [Nat.testBit_two_pow_of_ne (fun q => e q.symm)]; simp [e]
theorem nrN_bit {sh : Nat → Int32} {z : Int32} {h j : Nat} : ∀ g, (nrN sh z h g).testBit j = true ↔ j < g ∧ ¬ sh (h * 7 + j) = -2 ∧ sh (h * 7 + j) ≤ z
  | 0 => by rw [nrN, Nat.zero_testBit]; exact ⟨fun q => (by cases q), fun q => absurd q.1 (by omega)⟩
  | g + 1 => by
    rw [nrN]
    split
    · rename_i c
      rw [or_bit, nrN_bit g]
      constructor
      · rintro (⟨a, d⟩ | rfl)
        · exact ⟨by omega, d⟩
        · exact ⟨by omega, c⟩
      · rintro ⟨a, d⟩
        by_cases e : j = g
        · exact Or.inr e
        · exact Or.inl ⟨by omega, d⟩
    · rename_i c
      rw [nrN_bit g]
      constructor
      · rintro ⟨a, d⟩; exact ⟨by omega, d⟩
      · rintro ⟨a, d⟩
        by_cases e : j = g
        · rw [e] at d; exact absurd d c
        · exact ⟨by omega, d⟩
def rcN (ne : Nat → Nat) (k : Nat) : Nat → Nat
  | 0 => 0
  | h + 1 => if k.testBit h then rcN ne k h ||| ne h else rcN ne k h
theorem rcF_N {ne : Nat → Nat} {k : Nat} (hk : k < 128) : ∀ n, n ≤ 7 → rcF (fun j => nI (ne j)) (nI k) n = nI (rcN ne k n)
  | 0, _ => rfl
  | n + 1, hn => by
    rw [rcF, rcN, rcF_N hk n (by omega), fmx_or]
    by_cases c : shutI (nI k) n = 1
    · rw [if_pos c, if_pos ((shutI_bit k hk n (by omega)).mp c)]
    · rw [if_neg c, if_neg (fun q => c ((shutI_bit k hk n (by omega)).mpr q))]
theorem rcN_bit {ne : Nat → Nat} {k j : Nat} : ∀ n, (rcN ne k n).testBit j = true ↔ ∃ h, h < n ∧ k.testBit h = true ∧ (ne h).testBit j = true
  | 0 => by rw [rcN, Nat.zero_testBit]; exact ⟨fun q => (by cases q), fun ⟨h, a, _⟩ => absurd a (by omega)⟩
  | n + 1 => by
    rw [rcN]
    split
    · rename_i c
      rw [Nat.testBit_or, Bool.or_eq_true, rcN_bit n]
      constructor
      · rintro (⟨h, a, d⟩ | d)
        · exact ⟨h, by omega, d⟩
        · exact ⟨n, by omega, c, d⟩
      · rintro ⟨h, a, d⟩
        by_cases e : h = n
        · rw [e] at d; exact Or.inr d.2
        · exact Or.inl ⟨h, by omega, d⟩
    · rename_i c
      rw [rcN_bit n]
      constructor
      · rintro ⟨h, a, d⟩; exact ⟨h, by omega, d⟩
      · rintro ⟨h, a, d⟩
        by_cases e : h = n
        · rw [e] at d; exact absurd d.1 c
        · exact ⟨h, by omega, d⟩
theorem rcN_lt {ne : Nat → Nat} {k : Nat} (h : ∀ j, ne j < 2 ^ 7) : ∀ n, rcN ne k n < 2 ^ 7
  | 0 => by rw [rcN]; omega
  | n + 1 => by
    rw [rcN]
    split
    · exact Nat.or_lt_two_pow (rcN_lt h n) (h n)
    · exact rcN_lt h n
theorem nrN_lt {sh : Nat → Int32} {z : Int32} {h : Nat} : ∀ g, g ≤ 7 → nrN sh z h g < 2 ^ 7
  | 0, _ => by rw [nrN]; omega
  | g + 1, hg => by
    rw [nrN]
    split
    · exact Nat.or_lt_two_pow (nrN_lt g (by omega)) (Nat.pow_lt_pow_right (by omega) (by omega))
    · exact nrN_lt g (by omega)
theorem stOk_i {sh : Nat → Int32} {z : Int32} {N k : Nat} (hN : N ≤ 7) (hk : k < 2 ^ N) : stOk sh z N k ↔ ∀ j, j < N → ∃ h, h < N ∧ k.testBit h = true ∧ ¬ sh (h * 7 + j) = -2 ∧ sh (h * 7 + j) ≤ z := by
  have hp : 2 ^ N ≤ 128 := p2_le hN
  unfold stOk
  rw [show (fun j => nrF sh z j N) = fun j => nI (nrN sh z j N) from funext (fun j => nrF_N N hN), rcF_N (by omega) 7 (Nat.le_refl _)]
  have hl := rcN_lt (k := k) (fun j => nrN_lt (sh := sh) (z := z) (h := j) N hN) 7
  rw [nI_eq (by omega) (by omega)]
  have hkb : ∀ h, k.testBit h = true → h < N := by
    intro h q
    apply Classical.byContradiction
    intro c
    rw [Nat.testBit_lt_two_pow (Nat.lt_of_lt_of_le hk (Nat.pow_le_pow_right (by omega) (by omega)))] at q
    cases q
  constructor
  · intro e j hj
    have h1 : (rcN (fun j => nrN sh z j N) k 7).testBit j = true := by rw [e, Nat.testBit_two_pow_sub_one]; simp [hj]
    obtain ⟨h, a, c, d⟩ := (rcN_bit 7).mp h1
    have d2 := (nrN_bit N).mp d
    exact ⟨h, hkb h c, c, d2.2⟩
  · intro hq
    apply Nat.eq_of_testBit_eq
    intro j
    rw [Nat.testBit_two_pow_sub_one]
    apply Bool.eq_iff_iff.mpr
    rw [rcN_bit, decide_eq_true_eq]
    constructor
    · rintro ⟨h, _, _, d⟩; exact ((nrN_bit N).mp d).1
    · intro hj
      obtain ⟨h, a, c, d⟩ := hq j hj
      exact ⟨h, by omega, c, (nrN_bit N).mpr ⟨hj, d⟩⟩
section RSAVE
variable {ad : Nat → Nat} {M : Mm} {b : Nat} {σ : Sg} {C : Nat} {a : Nat}
theorem Inv.miz (h : Inv σ C) (hn : 0 < σ.T.hs.n) : ∀ x y, x < 7 → y < 7 → 0 < miN σ.T.ss.mi x y → x < σ.T.hs.n ∧ y < σ.T.hs.n := by
  intro x y hx hy h0
  obtain ⟨k, hk, ek, hz⟩ := (h.tI hn).2.2.2.2.2.1 x y hx hy
  unfold miN at h0
  rw [ek, nI_clamp (by omega)] at h0
  have := hz (by omega)
  exact ⟨this.1, this.2.1⟩
theorem Inv.sh_fw (h : Inv σ C) (hn : 0 < σ.T.hs.n) {x y : Nat} (hx : x < 7) (hy : y < 7) : σ.T.ss.sh (x * 7 + y) = oI (fwD σ.T.ss.mi 7 x y) := by
  obtain ⟨s0, e⟩ := (h.1 hn).2.2.2.1
  rw [e]
  exact mes_fw (h.wf hn) hx hy
theorem st_eq {fa : Nat → Int32} {z k : Nat} (hI : Inv σ C) (hn : 0 < σ.T.hs.n) (hfa : farR fa σ.T) (hz : z ≤ 999) (hk : k < 2 ^ σ.T.hs.n) : allN (fun h => anyN (stP fa k (nI z) h) σ.T.hs.n) σ.T.hs.n = true ↔ stOk σ.T.ss.sh (nI z) σ.T.hs.n k := by
  have hn7 := hI.n7
  have wf := hI.wf hn
  rw [stOk_i hn7 hk, allN_i]
  have key : ∀ h g, h < σ.T.hs.n → g < σ.T.hs.n → (fa (7 * g + h) ≤ nI z ↔ ¬ σ.T.ss.sh (g * 7 + h) = -2 ∧ σ.T.ss.sh (g * 7 + h) ≤ nI z) := by
    intro h g hh hg
    rw [far_fw wf (hI.miz hn) hfa hg hh, hI.sh_fw hn (by omega) (by omega)]
    cases q : fwD σ.T.ss.mi 7 g h with
    | none => exact ⟨fun w => absurd w (show ¬ nI 99999 ≤ nI z from nI_ge (by omega) (by omega)), fun w => absurd rfl w.1⟩
    | some x =>
      have hx := fwD_28 wf (Nat.le_refl _) (by omega) (by omega) x q
      exact ⟨fun w => ⟨nI_n2 (by omega), w⟩, fun w => w.2⟩
  constructor
  · intro w j hj
    obtain ⟨g, hg, e⟩ := (anyN_i _).mp (w j hj)
    rw [Bool.and_eq_true, decide_eq_true_eq] at e
    exact ⟨g, hg, e.1, (key j g hj hg).mp e.2⟩
  · intro w j hj
    obtain ⟨g, hg, e1, e2⟩ := w j hj
    refine (anyN_i _).mpr ⟨g, hg, ?_⟩
    rw [Bool.and_eq_true, decide_eq_true_eq]
    exact ⟨e1, (key j g hj hg).mpr e2⟩
theorem YR.wn {ne : Nat → Int32} (hY : YR M b σ) : YR M b (σ.wn ne) := hY
theorem y_stands {z : Int32} (hY : YR M b σ) (hI : Inv σ C) : EvM ad 3 (iX13_stands ad) [.ref b, .int z] M (Pq b M (spStands σ z)) := by
  have hn7 := hI.n7
  unfold spStands
  refine ⟨Nat.le_of_ble_eq_true rfl, ?_⟩
  show Ev ad _ (rX13_stands ad) (0, [some (.ref b), some (.int z), none, none], [], M) _
  refine yEn rfl rfl rfl hY (fun M1 hY hF _ => ?_)
  obtain ⟨⟨oa, ⟨tw, rd⟩, oq⟩, A, hR⟩ := id hY
  have h0 := hR.1.1
  have h2 := hR.1.c.2.1
  by_cases hno : σ.T.hs.n = 0
  · obtain ⟨_, t0⟩ := hR.2.2.2.2.2.2.2.2.2.resolve_right (fun q => by have := q.1; omega)
    replace t0 : tw = .null := t0
    subst t0
    rw [if_pos hno]
    repeat (first | refine es rfl rfl rfl ?_ | refine eg rfl (by assumption) rfl ?_ | refine eanE rfl (by assumption) (by with_reducible first | exact rfl | exact Int32.zero_add _ | exact ix8 _ | exact ix12 _ | exact ix7r _ _ | exact n7 | exact n0 | exact n1) (by assumption) rfl ?_ | refine eal rfl (by assumption) (by assumption) rfl ?_ | refine eri rfl ?_ | refine erv rfl ?_ | refine erl rfl ?_ | refine era rfl ?_ | refine erz0 rfl ?_ | refine erz1 rfl ?_)
    try dsimp only [set1, set2, kilP, List.set_cons_zero, List.set_cons_succ, List.getElem?_cons_zero, List.getElem?_cons_succ, List.nil_append, List.cons_append, Option.toList_some, Option.toList_none]
    refine ecv rfl rfl (by assumption) rfl rfl rfl (y_ref hY (by decide)) (by first | rfl | exact Nat.blt_eq.mpr (by omega)) ?_
    rintro v M9 ⟨rfl, hY9, hF9⟩
    try dsimp only [set1, set2, kilP, List.set_cons_zero, List.set_cons_succ, List.getElem?_cons_zero, List.getElem?_cons_succ, List.nil_append, List.cons_append, Option.toList_some, Option.toList_none]
    repeat (first | refine es rfl rfl rfl ?_ | refine eg rfl (by assumption) rfl ?_ | refine eanE rfl (by assumption) (by with_reducible first | exact rfl | exact Int32.zero_add _ | exact ix8 _ | exact ix12 _ | exact ix7r _ _ | exact n7 | exact n0 | exact n1) (by assumption) rfl ?_ | refine eal rfl (by assumption) (by assumption) rfl ?_ | refine eri rfl ?_ | refine erv rfl ?_ | refine erl rfl ?_ | refine era rfl ?_ | refine erz0 rfl ?_ | refine erz1 rfl ?_)
    try dsimp only [set1, set2, kilP, List.set_cons_zero, List.set_cons_succ, List.getElem?_cons_zero, List.getElem?_cons_succ, List.nil_append, List.cons_append, Option.toList_some, Option.toList_none]
    exact Pq.rf hY9 (hF.tr (hF9.wide (lo2 := b) (n2 := 16) (by omega) (by omega)) (by omega) (by omega))
  rw [if_neg hno]
  obtain ⟨n1, a, t0, a1, a2, hM, hv, hpa, hmk, hfa⟩ := hR.2.2.2.2.2.2.2.2.2.resolve_left (fun q => by have := q.1; omega)
  replace t0 : tw = .ref a := t0
  subst t0
  obtain ⟨kn, Am, Bm, m0, mc, mH, mS, mP, mC, mN⟩ := id hM
  obtain ⟨m1, m2, m3, m4, m5, m6, m7, m8, m9, m10, m11, m12, m13, m14, m15, m16, m17⟩ := id mc
  repeat (first | refine es rfl rfl rfl ?_ | refine eg rfl (by assumption) rfl ?_ | refine eanE rfl (by assumption) (by with_reducible first | exact rfl | exact Int32.zero_add _ | exact ix8 _ | exact ix12 _ | exact ix7r _ _ | exact n7 | exact n0 | exact n1) (by assumption) rfl ?_ | refine eal rfl (by assumption) (by assumption) rfl ?_ | refine eri rfl ?_ | refine erv rfl ?_ | refine erl rfl ?_ | refine era rfl ?_ | refine erz0 rfl ?_ | refine erz1 rfl ?_)
  try dsimp only [set1, set2, kilP, List.set_cons_zero, List.set_cons_succ, List.getElem?_cons_zero, List.getElem?_cons_succ, List.nil_append, List.cons_append, Option.toList_some, Option.toList_none]
  refine ecsr rfl rfl rfl rfl rfl rfl (y_in) (by first | rfl | exact Nat.blt_eq.mpr (by omega)) rfl ?_
  by_cases c2 : (0 : Int32) ≤ z ∧ z ≤ 999
  rotate_left
  · rw [if_neg c2, show bI ((0 : Int32) ≤ z ∧ z ≤ 999) = 0 from if_neg c2]
    repeat (first | refine es rfl rfl rfl ?_ | refine eg rfl (by assumption) rfl ?_ | refine eanE rfl (by assumption) (by with_reducible first | exact rfl | exact Int32.zero_add _ | exact ix8 _ | exact ix12 _ | exact ix7r _ _ | exact n7 | exact n0 | exact n1) (by assumption) rfl ?_ | refine eal rfl (by assumption) (by assumption) rfl ?_ | refine eri rfl ?_ | refine erv rfl ?_ | refine erl rfl ?_ | refine era rfl ?_ | refine erz0 rfl ?_ | refine erz1 rfl ?_)
    try dsimp only [set1, set2, kilP, List.set_cons_zero, List.set_cons_succ, List.getElem?_cons_zero, List.getElem?_cons_succ, List.nil_append, List.cons_append, Option.toList_some, Option.toList_none]
    refine ecv rfl rfl (by assumption) rfl rfl rfl (y_ref hY (by decide)) (by first | rfl | exact Nat.blt_eq.mpr (by omega)) ?_
    rintro v M9 ⟨rfl, hY9, hF9⟩
    try dsimp only [set1, set2, kilP, List.set_cons_zero, List.set_cons_succ, List.getElem?_cons_zero, List.getElem?_cons_succ, List.nil_append, List.cons_append, Option.toList_some, Option.toList_none]
    repeat (first | refine es rfl rfl rfl ?_ | refine eg rfl (by assumption) rfl ?_ | refine eanE rfl (by assumption) (by with_reducible first | exact rfl | exact Int32.zero_add _ | exact ix8 _ | exact ix12 _ | exact ix7r _ _ | exact n7 | exact n0 | exact n1) (by assumption) rfl ?_ | refine eal rfl (by assumption) (by assumption) rfl ?_ | refine eri rfl ?_ | refine erv rfl ?_ | refine erl rfl ?_ | refine era rfl ?_ | refine erz0 rfl ?_ | refine erz1 rfl ?_)
    try dsimp only [set1, set2, kilP, List.set_cons_zero, List.set_cons_succ, List.getElem?_cons_zero, List.getElem?_cons_succ, List.nil_append, List.cons_append, Option.toList_some, Option.toList_none]
    exact Pq.rf hY9 (hF.tr (hF9.wide (lo2 := b) (n2 := 16) (by omega) (by omega)) (by omega) (by omega))
  rw [if_pos c2, show bI ((0 : Int32) ≤ z ∧ z ≤ 999) = 1 from if_pos c2]
  obtain ⟨z, hz, rfl⟩ := nI_0k (n := 1000) (by omega) ((in5 (N := 999) (by omega)).mp c2)
  have hn2 := (hI.1 n1).2.2.1
  have hp : 2 ^ σ.T.hs.n ≤ 128 := p2_le hn7
  have hp4 : 4 ≤ 2 ^ σ.T.hs.n := Nat.pow_le_pow_right (n := 2) (by omega) hn2
  repeat (refine ng 39 rfl ?_; first | refine es rfl rfl rfl ?_ | refine eg rfl (by assumption) rfl ?_ | refine eanE rfl (by assumption) (by with_reducible first | exact rfl | exact Int32.zero_add _ | exact ix8 _ | exact ix12 _ | exact ix7r _ _ | exact n7 | exact n0 | exact n1) (by assumption) rfl ?_ | refine eal rfl (by assumption) (by assumption) rfl ?_ | refine eri rfl ?_ | refine erv rfl ?_ | refine erl rfl ?_ | refine era rfl ?_ | refine erz0 rfl ?_ | refine erz1 rfl ?_)
  try dsimp only [set1, set2, kilP, List.set_cons_zero, List.set_cons_succ, List.getElem?_cons_zero, List.getElem?_cons_succ, List.nil_append, List.cons_append, Option.toList_some, Option.toList_none]
  have hl := y_std_loop (ad := ad) (z := nI z) hY ⟨hR.1, a1, hM, hv⟩ hn7 hF (2 ^ σ.T.hs.n - 2 + 1) 1 none (Nat.le_refl _) (by omega) (fun q e => by cases e)
  rw [rsd_std (okP := stOk σ.T.ss.sh (nI z) σ.T.hs.n) hn7 n1 (fun k hk => st_eq hI n1 hfa (by omega) hk) ((st_eq hI n1 hfa (by omega) (by omega)).mpr ((stOk_i hn7 (by omega)).mpr (fun j hj => ⟨j, hj, by rw [Nat.testBit_two_pow_sub_one]; simp [hj], by rw [hI.sh_fw n1 (by omega) (by omega), fwD_diag]; exact nI_n2 (by omega), by rw [hI.sh_fw n1 (by omega) (by omega), fwD_diag]; exact nI_le (a := 0) (by omega) (by omega)⟩))) (2 ^ σ.T.hs.n - 2) 1 none (by omega) (fun q e => by cases e)] at hl
  refine hl.im (fun v M' q => ⟨fun v' σ' h => ?_, q.2⟩)
  obtain ⟨rfl, ne, rfl⟩ := h
  rw [show max 1 (2 ^ σ.T.hs.n - 1) - 1 = 2 ^ σ.T.hs.n - 2 by omega]
  obtain ⟨q1, q2⟩ := q.1 _ _ ⟨rfl, rfl⟩
  exact ⟨q1, q2⟩
theorem wayS {h g m : Nat} (hI : Inv σ C) (hn : 0 < σ.T.hs.n) (hh : h < σ.T.hs.n) (hg : g < σ.T.hs.n) : wayM (wayB σ false h g m) m = σ.T.ss.sh (h * 7 + g) := by
  have hn7 := hI.n7
  have wf := hI.wf hn
  rw [hI.sh_fw hn (by omega) (by omega)]
  unfold wayM
  cases e : wayB σ false h g m with
  | none =>
    cases q : fwD σ.T.ss.mi 7 h g with
    | none => rfl
    | some x =>
      obtain ⟨t, q', e2, _⟩ := df_opt (f := σ.f) (go := g) wf (by omega) (hI.miz hn) 7 [h] h m none x rfl (List.nodup_cons.mpr ⟨by simp, List.nodup_nil⟩) (fun y hy => by rcases List.mem_cons.mp hy with w | w; (rw [w]; exact hh); cases w) List.mem_cons_self q (fun y hy hne => by rcases List.mem_cons.mp hy with w | w; (exact absurd w hne); cases w)
      rw [show dfB (tauF σ.T σ.f false) σ.T.hs.n g 7 [h] h m none = none from e] at e2
      cases e2
  | some tq =>
    obtain ⟨t, q'⟩ := tq
    rcases df_snd (f := σ.f) (go := g) wf (by omega) 7 [h] h m none t q' (by omega) e with ⟨_, w⟩ | ⟨x, x1, x2⟩
    · cases w
    · obtain ⟨t2, q2, e2, l2⟩ := df_opt (f := σ.f) (go := g) wf (by omega) (hI.miz hn) 7 [h] h m none x rfl (List.nodup_cons.mpr ⟨by simp, List.nodup_nil⟩) (fun y hy => by rcases List.mem_cons.mp hy with w | w; (rw [w]; exact hh); cases w) List.mem_cons_self x1 (fun y hy hne => by rcases List.mem_cons.mp hy with w | w; (exact absurd w hne); cases w)
      rw [show dfB (tauF σ.T σ.f false) σ.T.hs.n g 7 [h] h m none = some (t, q') from e] at e2
      injection e2 with e2
      injection e2 with e2 _
      rw [x1]
      show nI (t - m) = nI x
      congr 1
      omega
theorem y_saves {x y z : Int32} (hY : YR M b σ) (hI : Inv σ C) : EvM ad 12 (iX13_saves ad) [.ref b, .int x, .int y, .int z] M (Pq b M (spSaves σ x y z)) := by
  have hn7 := hI.n7
  unfold spSaves
  refine ⟨Nat.le_of_ble_eq_true rfl, ?_⟩
  show Ev ad _ (rX13_saves ad) (0, [some (.ref b), some (.int x), some (.int y), some (.int z), none, none], [], M) _
  refine yEn rfl rfl rfl hY (fun M1 hY hF _ => ?_)
  obtain ⟨⟨oa, ⟨tw, rd⟩, oq⟩, A, hR⟩ := id hY
  have h0 := hR.1.1
  have h2 := hR.1.c.2.1
  repeat (first | refine es rfl rfl rfl ?_ | refine eg rfl (by assumption) rfl ?_ | refine eanE rfl (by assumption) (by with_reducible first | exact rfl | exact Int32.zero_add _ | exact ix8 _ | exact ix12 _ | exact ix7r _ _ | exact n7 | exact n0 | exact n1) (by assumption) rfl ?_ | refine eal rfl (by assumption) (by assumption) rfl ?_ | refine eri rfl ?_ | refine erv rfl ?_ | refine erl rfl ?_ | refine era rfl ?_ | refine erz0 rfl ?_ | refine erz1 rfl ?_)
  try dsimp only [set1, set2, kilP, List.set_cons_zero, List.set_cons_succ, List.getElem?_cons_zero, List.getElem?_cons_succ, List.nil_append, List.cons_append, Option.toList_some, Option.toList_none]
  refine ecr rfl rfl (by assumption) rfl rfl rfl (y_isH hY) (by first | rfl | exact Nat.blt_eq.mpr (by omega)) rfl ?_
  by_cases c : isH σ x
  rotate_left
  · rw [if_neg c, show bI (isH σ x) = 0 from if_neg c]
    repeat (first | refine es rfl rfl rfl ?_ | refine eg rfl (by assumption) rfl ?_ | refine eanE rfl (by assumption) (by with_reducible first | exact rfl | exact Int32.zero_add _ | exact ix8 _ | exact ix12 _ | exact ix7r _ _ | exact n7 | exact n0 | exact n1) (by assumption) rfl ?_ | refine eal rfl (by assumption) (by assumption) rfl ?_ | refine eri rfl ?_ | refine erv rfl ?_ | refine erl rfl ?_ | refine era rfl ?_ | refine erz0 rfl ?_ | refine erz1 rfl ?_)
    try dsimp only [set1, set2, kilP, List.set_cons_zero, List.set_cons_succ, List.getElem?_cons_zero, List.getElem?_cons_succ, List.nil_append, List.cons_append, Option.toList_some, Option.toList_none]
    refine ecr rfl rfl (by assumption) rfl rfl rfl (y_refW) (by first | rfl | exact Nat.blt_eq.mpr (by omega)) rfl ?_
    rw [if_pos (rfl : (0 : Int32) = 0)]
    repeat (first | refine es rfl rfl rfl ?_ | refine eg rfl (by assumption) rfl ?_ | refine eanE rfl (by assumption) (by with_reducible first | exact rfl | exact Int32.zero_add _ | exact ix8 _ | exact ix12 _ | exact ix7r _ _ | exact n7 | exact n0 | exact n1) (by assumption) rfl ?_ | refine eal rfl (by assumption) (by assumption) rfl ?_ | refine eri rfl ?_ | refine erv rfl ?_ | refine erl rfl ?_ | refine era rfl ?_ | refine erz0 rfl ?_ | refine erz1 rfl ?_)
    try dsimp only [set1, set2, kilP, List.set_cons_zero, List.set_cons_succ, List.getElem?_cons_zero, List.getElem?_cons_succ, List.nil_append, List.cons_append, Option.toList_some, Option.toList_none]
    refine ecv rfl rfl (by assumption) rfl rfl rfl (y_ref hY (by decide)) (by first | rfl | exact Nat.blt_eq.mpr (by omega)) ?_
    rintro v M9 ⟨rfl, hY9, hF9⟩
    try dsimp only [set1, set2, kilP, List.set_cons_zero, List.set_cons_succ, List.getElem?_cons_zero, List.getElem?_cons_succ, List.nil_append, List.cons_append, Option.toList_some, Option.toList_none]
    repeat (first | refine es rfl rfl rfl ?_ | refine eg rfl (by assumption) rfl ?_ | refine eanE rfl (by assumption) (by with_reducible first | exact rfl | exact Int32.zero_add _ | exact ix8 _ | exact ix12 _ | exact ix7r _ _ | exact n7 | exact n0 | exact n1) (by assumption) rfl ?_ | refine eal rfl (by assumption) (by assumption) rfl ?_ | refine eri rfl ?_ | refine erv rfl ?_ | refine erl rfl ?_ | refine era rfl ?_ | refine erz0 rfl ?_ | refine erz1 rfl ?_)
    try dsimp only [set1, set2, kilP, List.set_cons_zero, List.set_cons_succ, List.getElem?_cons_zero, List.getElem?_cons_succ, List.nil_append, List.cons_append, Option.toList_some, Option.toList_none]
    exact Pq.rf hY9 (hF.tr (hF9.wide (lo2 := b) (n2 := 16) (by omega) (by omega)) (by omega) (by omega))
  rw [if_pos c, show bI (isH σ x) = 1 from if_pos c]
  repeat (first | refine es rfl rfl rfl ?_ | refine eg rfl (by assumption) rfl ?_ | refine eanE rfl (by assumption) (by with_reducible first | exact rfl | exact Int32.zero_add _ | exact ix8 _ | exact ix12 _ | exact ix7r _ _ | exact n7 | exact n0 | exact n1) (by assumption) rfl ?_ | refine eal rfl (by assumption) (by assumption) rfl ?_ | refine eri rfl ?_ | refine erv rfl ?_ | refine erl rfl ?_ | refine era rfl ?_ | refine erz0 rfl ?_ | refine erz1 rfl ?_)
  try dsimp only [set1, set2, kilP, List.set_cons_zero, List.set_cons_succ, List.getElem?_cons_zero, List.getElem?_cons_succ, List.nil_append, List.cons_append, Option.toList_some, Option.toList_none]
  refine ecr rfl rfl (by assumption) rfl rfl rfl (y_isH hY) (by first | rfl | exact Nat.blt_eq.mpr (by omega)) rfl ?_
  by_cases c1 : isH σ y
  rotate_left
  · rw [if_neg c1, show bI (isH σ y) = 0 from if_neg c1]
    repeat (first | refine es rfl rfl rfl ?_ | refine eg rfl (by assumption) rfl ?_ | refine eanE rfl (by assumption) (by with_reducible first | exact rfl | exact Int32.zero_add _ | exact ix8 _ | exact ix12 _ | exact ix7r _ _ | exact n7 | exact n0 | exact n1) (by assumption) rfl ?_ | refine eal rfl (by assumption) (by assumption) rfl ?_ | refine eri rfl ?_ | refine erv rfl ?_ | refine erl rfl ?_ | refine era rfl ?_ | refine erz0 rfl ?_ | refine erz1 rfl ?_)
    try dsimp only [set1, set2, kilP, List.set_cons_zero, List.set_cons_succ, List.getElem?_cons_zero, List.getElem?_cons_succ, List.nil_append, List.cons_append, Option.toList_some, Option.toList_none]
    refine ecr rfl rfl (by assumption) rfl rfl rfl (y_refW) (by first | rfl | exact Nat.blt_eq.mpr (by omega)) rfl ?_
    rw [if_pos (rfl : (0 : Int32) = 0)]
    repeat (first | refine es rfl rfl rfl ?_ | refine eg rfl (by assumption) rfl ?_ | refine eanE rfl (by assumption) (by with_reducible first | exact rfl | exact Int32.zero_add _ | exact ix8 _ | exact ix12 _ | exact ix7r _ _ | exact n7 | exact n0 | exact n1) (by assumption) rfl ?_ | refine eal rfl (by assumption) (by assumption) rfl ?_ | refine eri rfl ?_ | refine erv rfl ?_ | refine erl rfl ?_ | refine era rfl ?_ | refine erz0 rfl ?_ | refine erz1 rfl ?_)
    try dsimp only [set1, set2, kilP, List.set_cons_zero, List.set_cons_succ, List.getElem?_cons_zero, List.getElem?_cons_succ, List.nil_append, List.cons_append, Option.toList_some, Option.toList_none]
    refine ecv rfl rfl (by assumption) rfl rfl rfl (y_ref hY (by decide)) (by first | rfl | exact Nat.blt_eq.mpr (by omega)) ?_
    rintro v M9 ⟨rfl, hY9, hF9⟩
    try dsimp only [set1, set2, kilP, List.set_cons_zero, List.set_cons_succ, List.getElem?_cons_zero, List.getElem?_cons_succ, List.nil_append, List.cons_append, Option.toList_some, Option.toList_none]
    repeat (first | refine es rfl rfl rfl ?_ | refine eg rfl (by assumption) rfl ?_ | refine eanE rfl (by assumption) (by with_reducible first | exact rfl | exact Int32.zero_add _ | exact ix8 _ | exact ix12 _ | exact ix7r _ _ | exact n7 | exact n0 | exact n1) (by assumption) rfl ?_ | refine eal rfl (by assumption) (by assumption) rfl ?_ | refine eri rfl ?_ | refine erv rfl ?_ | refine erl rfl ?_ | refine era rfl ?_ | refine erz0 rfl ?_ | refine erz1 rfl ?_)
    try dsimp only [set1, set2, kilP, List.set_cons_zero, List.set_cons_succ, List.getElem?_cons_zero, List.getElem?_cons_succ, List.nil_append, List.cons_append, Option.toList_some, Option.toList_none]
    exact Pq.rf hY9 (hF.tr (hF9.wide (lo2 := b) (n2 := 16) (by omega) (by omega)) (by omega) (by omega))
  rw [if_pos c1, show bI (isH σ y) = 1 from if_pos c1]
  repeat (first | refine es rfl rfl rfl ?_ | refine eg rfl (by assumption) rfl ?_ | refine eanE rfl (by assumption) (by with_reducible first | exact rfl | exact Int32.zero_add _ | exact ix8 _ | exact ix12 _ | exact ix7r _ _ | exact n7 | exact n0 | exact n1) (by assumption) rfl ?_ | refine eal rfl (by assumption) (by assumption) rfl ?_ | refine eri rfl ?_ | refine erv rfl ?_ | refine erl rfl ?_ | refine era rfl ?_ | refine erz0 rfl ?_ | refine erz1 rfl ?_)
  try dsimp only [set1, set2, kilP, List.set_cons_zero, List.set_cons_succ, List.getElem?_cons_zero, List.getElem?_cons_succ, List.nil_append, List.cons_append, Option.toList_some, Option.toList_none]
  refine ecr rfl rfl (by assumption) rfl rfl rfl (y_refW) (by first | rfl | exact Nat.blt_eq.mpr (by omega)) rfl ?_
  rw [if_neg (show ¬ (1 : Int32) = 0 by decide)]
  by_cases c2 : isM z
  rotate_left
  · rw [if_neg c2, if_neg c2]
    repeat (first | refine es rfl rfl rfl ?_ | refine eg rfl (by assumption) rfl ?_ | refine eanE rfl (by assumption) (by with_reducible first | exact rfl | exact Int32.zero_add _ | exact ix8 _ | exact ix12 _ | exact ix7r _ _ | exact n7 | exact n0 | exact n1) (by assumption) rfl ?_ | refine eal rfl (by assumption) (by assumption) rfl ?_ | refine eri rfl ?_ | refine erv rfl ?_ | refine erl rfl ?_ | refine era rfl ?_ | refine erz0 rfl ?_ | refine erz1 rfl ?_)
    try dsimp only [set1, set2, kilP, List.set_cons_zero, List.set_cons_succ, List.getElem?_cons_zero, List.getElem?_cons_succ, List.nil_append, List.cons_append, Option.toList_some, Option.toList_none]
    refine ecv rfl rfl (by assumption) rfl rfl rfl (y_ref hY (by decide)) (by first | rfl | exact Nat.blt_eq.mpr (by omega)) ?_
    rintro v M9 ⟨rfl, hY9, hF9⟩
    try dsimp only [set1, set2, kilP, List.set_cons_zero, List.set_cons_succ, List.getElem?_cons_zero, List.getElem?_cons_succ, List.nil_append, List.cons_append, Option.toList_some, Option.toList_none]
    repeat (first | refine es rfl rfl rfl ?_ | refine eg rfl (by assumption) rfl ?_ | refine eanE rfl (by assumption) (by with_reducible first | exact rfl | exact Int32.zero_add _ | exact ix8 _ | exact ix12 _ | exact ix7r _ _ | exact n7 | exact n0 | exact n1) (by assumption) rfl ?_ | refine eal rfl (by assumption) (by assumption) rfl ?_ | refine eri rfl ?_ | refine erv rfl ?_ | refine erl rfl ?_ | refine era rfl ?_ | refine erz0 rfl ?_ | refine erz1 rfl ?_)
    try dsimp only [set1, set2, kilP, List.set_cons_zero, List.set_cons_succ, List.getElem?_cons_zero, List.getElem?_cons_succ, List.nil_append, List.cons_append, Option.toList_some, Option.toList_none]
    exact Pq.rf hY9 (hF.tr (hF9.wide (lo2 := b) (n2 := 16) (by omega) (by omega)) (by omega) (by omega))
  rw [if_pos c2, if_pos c2]
  obtain ⟨k, hk, rfl⟩ := isH_k hn7 c
  obtain ⟨j, hj, rfl⟩ := isH_k hn7 c1
  obtain ⟨m, hm, rfl⟩ := isM_k c2
  obtain ⟨n1, a, t0, a1, a2, hM, hv, hpa, hmk, hfa⟩ := hR.2.2.2.2.2.2.2.2.2.resolve_left (fun q => by have := q.1; omega)
  replace t0 : tw = .ref a := t0
  subst t0
  obtain ⟨kn, Am, Bm, m0, mc, mH, mS, mP, mC, mN⟩ := id hM
  obtain ⟨m1, m2, m3, m4, m5, m6, m7, m8, m9, m10, m11, m12, m13, m14, m15, m16, m17⟩ := id mc
  rw [nI_clamp (by omega), nI_clamp (by omega)]
  obtain ⟨r, p1, ⟨bz, bt⟩, q3⟩ := oq
  have hV : yV M1 b a σ oa rd r p1 q3 M1 A bz bt A := ⟨⟨hR.1, a1, hM, hv⟩, fun _ _ _ _ => rfl, Fr.rf b 16 M1⟩
  repeat (first | refine es rfl rfl rfl ?_ | refine eg rfl (by assumption) rfl ?_ | refine eanE rfl (by assumption) (by with_reducible first | exact rfl | exact Int32.zero_add _ | exact ix8 _ | exact ix12 _ | exact ix7r _ _ | exact n7 | exact n0 | exact n1) (by assumption) rfl ?_ | refine eal rfl (by assumption) (by assumption) rfl ?_ | refine eri rfl ?_ | refine erv rfl ?_ | refine erl rfl ?_ | refine era rfl ?_ | refine erz0 rfl ?_ | refine erz1 rfl ?_)
  try dsimp only [set1, set2, kilP, List.set_cons_zero, List.set_cons_succ, List.getElem?_cons_zero, List.getElem?_cons_succ, List.nil_append, List.cons_append, Option.toList_some, Option.toList_none]
  refine ecv rfl rfl (by assumption) rfl rfl rfl (y_soonest (ds := false) hV hI n1 hk hj hm) (by first | rfl | exact Nat.blt_eq.mpr (by omega)) ?_
  rintro v M2 ⟨rfl, bz2, bt2, A2, hV2, hac⟩
  have hR2 := hV2.R hR
  have hY : YR M2 b σ := ⟨_, _, hR2⟩
  have hF2 := hF.tr hV2.2.2 (by omega) (by omega)
  have k0 := hV2.1.1.1
  try dsimp only [set1, set2, kilP, List.set_cons_zero, List.set_cons_succ, List.getElem?_cons_zero, List.getElem?_cons_succ, List.nil_append, List.cons_append, Option.toList_some, Option.toList_none]
  rw [wayS hI n1 hk hj]
  repeat (first | refine es rfl rfl rfl ?_ | refine eg rfl (by assumption) rfl ?_ | refine eanE rfl (by assumption) (by with_reducible first | exact rfl | exact Int32.zero_add _ | exact ix8 _ | exact ix12 _ | exact ix7r _ _ | exact n7 | exact n0 | exact n1) (by assumption) rfl ?_ | refine eal rfl (by assumption) (by assumption) rfl ?_ | refine eri rfl ?_ | refine erv rfl ?_ | refine erl rfl ?_ | refine era rfl ?_ | refine erz0 rfl ?_ | refine erz1 rfl ?_)
  try dsimp only [set1, set2, kilP, List.set_cons_zero, List.set_cons_succ, List.getElem?_cons_zero, List.getElem?_cons_succ, List.nil_append, List.cons_append, Option.toList_some, Option.toList_none]
  refine ei _ rfl rfl (fun c3 => ?_) (fun c3 => ?_)
  rotate_left
  · rw [if_pos (Decidable.not_not.mp c3)]
    have hF := hF2
    repeat (first | refine es rfl rfl rfl ?_ | refine eg rfl (by assumption) rfl ?_ | refine eanE rfl (by assumption) (by with_reducible first | exact rfl | exact Int32.zero_add _ | exact ix8 _ | exact ix12 _ | exact ix7r _ _ | exact n7 | exact n0 | exact n1) (by assumption) rfl ?_ | refine eal rfl (by assumption) (by assumption) rfl ?_ | refine eri rfl ?_ | refine erv rfl ?_ | refine erl rfl ?_ | refine era rfl ?_ | refine erz0 rfl ?_ | refine erz1 rfl ?_)
    try dsimp only [set1, set2, kilP, List.set_cons_zero, List.set_cons_succ, List.getElem?_cons_zero, List.getElem?_cons_succ, List.nil_append, List.cons_append, Option.toList_some, Option.toList_none]
    refine ecv rfl rfl (by assumption) rfl rfl rfl (y_good hY) (by first | rfl | exact Nat.blt_eq.mpr (by omega)) ?_
    rintro v M9 ⟨rfl, hY9, hF9⟩
    try dsimp only [set1, set2, kilP, List.set_cons_zero, List.set_cons_succ, List.getElem?_cons_zero, List.getElem?_cons_succ, List.nil_append, List.cons_append, Option.toList_some, Option.toList_none]
    repeat (first | refine es rfl rfl rfl ?_ | refine eg rfl (by assumption) rfl ?_ | refine eanE rfl (by assumption) (by with_reducible first | exact rfl | exact Int32.zero_add _ | exact ix8 _ | exact ix12 _ | exact ix7r _ _ | exact n7 | exact n0 | exact n1) (by assumption) rfl ?_ | refine eal rfl (by assumption) (by assumption) rfl ?_ | refine eri rfl ?_ | refine erv rfl ?_ | refine erl rfl ?_ | refine era rfl ?_ | refine erz0 rfl ?_ | refine erz1 rfl ?_)
    try dsimp only [set1, set2, kilP, List.set_cons_zero, List.set_cons_succ, List.getElem?_cons_zero, List.getElem?_cons_succ, List.nil_append, List.cons_append, Option.toList_some, Option.toList_none]
    exact Pq.an hY9 (hF.tr (hF9.wide (lo2 := b) (n2 := 16) (by omega) (by omega)) (by omega) (by omega))
  rw [if_neg c3]
  repeat (first | refine es rfl rfl rfl ?_ | refine eg rfl (by assumption) rfl ?_ | refine eanE rfl (by assumption) (by with_reducible first | exact rfl | exact Int32.zero_add _ | exact ix8 _ | exact ix12 _ | exact ix7r _ _ | exact n7 | exact n0 | exact n1) (by assumption) rfl ?_ | refine eal rfl (by assumption) (by assumption) rfl ?_ | refine eri rfl ?_ | refine erv rfl ?_ | refine erl rfl ?_ | refine era rfl ?_ | refine erz0 rfl ?_ | refine erz1 rfl ?_)
  try dsimp only [set1, set2, kilP, List.set_cons_zero, List.set_cons_succ, List.getElem?_cons_zero, List.getElem?_cons_succ, List.nil_append, List.cons_append, Option.toList_some, Option.toList_none]
  refine ecv rfl rfl (by assumption) rfl rfl rfl (y_soonest (ds := true) hV2 hI n1 hk hj hm) (by first | rfl | exact Nat.blt_eq.mpr (by omega)) ?_
  rintro v M3 ⟨rfl, bz3, bt3, A3, hV3, hac3⟩
  have hR3 := hV3.R hR
  have hY : YR M3 b σ := ⟨_, _, hR3⟩
  have hF := hF.tr hV3.2.2 (by omega) (by omega)
  have w0 := hV3.1.1.1
  try dsimp only [set1, set2, kilP, List.set_cons_zero, List.set_cons_succ, List.getElem?_cons_zero, List.getElem?_cons_succ, List.nil_append, List.cons_append, Option.toList_some, Option.toList_none]
  repeat (first | refine es rfl rfl rfl ?_ | refine eg rfl (by assumption) rfl ?_ | refine eanE rfl (by assumption) (by with_reducible first | exact rfl | exact Int32.zero_add _ | exact ix8 _ | exact ix12 _ | exact ix7r _ _ | exact n7 | exact n0 | exact n1) (by assumption) rfl ?_ | refine eal rfl (by assumption) (by assumption) rfl ?_ | refine eri rfl ?_ | refine erv rfl ?_ | refine erl rfl ?_ | refine era rfl ?_ | refine erz0 rfl ?_ | refine erz1 rfl ?_)
  try dsimp only [set1, set2, kilP, List.set_cons_zero, List.set_cons_succ, List.getElem?_cons_zero, List.getElem?_cons_succ, List.nil_append, List.cons_append, Option.toList_some, Option.toList_none]
  refine ecv rfl rfl (by assumption) rfl rfl rfl (y_good hY) (by first | rfl | exact Nat.blt_eq.mpr (by omega)) ?_
  rintro v M9 ⟨rfl, hY9, hF9⟩
  try dsimp only [set1, set2, kilP, List.set_cons_zero, List.set_cons_succ, List.getElem?_cons_zero, List.getElem?_cons_succ, List.nil_append, List.cons_append, Option.toList_some, Option.toList_none]
  repeat (first | refine es rfl rfl rfl ?_ | refine eg rfl (by assumption) rfl ?_ | refine eanE rfl (by assumption) (by with_reducible first | exact rfl | exact Int32.zero_add _ | exact ix8 _ | exact ix12 _ | exact ix7r _ _ | exact n7 | exact n0 | exact n1) (by assumption) rfl ?_ | refine eal rfl (by assumption) (by assumption) rfl ?_ | refine eri rfl ?_ | refine erv rfl ?_ | refine erl rfl ?_ | refine era rfl ?_ | refine erz0 rfl ?_ | refine erz1 rfl ?_)
  try dsimp only [set1, set2, kilP, List.set_cons_zero, List.set_cons_succ, List.getElem?_cons_zero, List.getElem?_cons_succ, List.nil_append, List.cons_append, Option.toList_some, Option.toList_none]
  refine ⟨fun v' σ' h => ?_, hF.tr (hF9.wide (lo2 := b) (n2 := 16) (by omega) (by omega)) (by omega) (by omega)⟩
  obtain ⟨W, hw, rfl, rfl⟩ := h
  rw [nI_clamp (show m < 2 ^ 31 by omega)] at hw
  rw [wayM_cls hI n1 hk (by omega) hm hw]
  exact ⟨rfl, hY9⟩
end RSAVE
