/-! The reference's town, whole -/
section RTWNC
variable {ad : Nat → Nat} {b : Nat} {M : Mm} {σ : Sg} {C : Nat}
abbrev Z2 : Nat → Int32 := fun _ => -2
def twZ : Tw := ((0, 0, 0, Z6, Z3, Z3), (0, Z6, Z3, Z3, Z3, Z6, Z2, Z2, Z2), (0, Z3, Z3, Z3), (0, Z3, Z6, 0, Z3, Z3))
theorem twZ_E : twE twZ := ⟨rfl, rfl, rfl, rfl, fun _ _ => ⟨rfl, rfl, rfl⟩, rfl, fun _ _ => rfl, rfl, rfl⟩
theorem y_town {n : Int32} (hY : YR M b σ) (hI : Inv σ C) (hS : aSt ad b M) : EvM ad 9 (iX13_town ad) [.ref b, .int n] M (Pt b M (spTown σ n)) := by
  have hts := hI.2.2.1
  unfold spTown
  by_cases c : 0 ≤ n ∧ n ≤ nI σ.ts
  · rw [if_pos c]
    obtain ⟨k, hk, rfl⟩ : ∃ k, k ≤ σ.ts ∧ n = nI k := ⟨n.toNatClampNeg, (nI_bt (lo := 0) (by omega) (by omega) c.1 c.2).2.2, (nI_bt (lo := 0) (by omega) (by omega) c.1 c.2).1.symm⟩
    rw [nI_clamp (by omega)]
    have h := EvM.one (ι := { x : (Nat → Int64) × Tw // (∀ j, j < 8 → x.1 j = sC j) ∧ twE x.2 }) ⟨(scZ, twZ), scZ_ok, twZ_E⟩ (fun x => y_town1 (ad := ad) hY hI hS hk x.2.1 x.2.2)
    refine h.im (fun v M' hp => ⟨fun v2 σ' hs => ?_, (hp ⟨(scZ, twZ), scZ_ok, twZ_E⟩).2⟩)
    obtain ⟨sc, T0, h1, h2, h3⟩ := hs
    exact (hp ⟨(sc, T0), h1, h2⟩).1 v2 σ' h3
  · rw [if_neg c]
    refine ⟨Nat.le_of_ble_eq_true rfl, ?_⟩
    show Ev ad _ (rX13_town ad) (0, [some (.ref b), some (.int n), none], [], M) _
    refine yEn rfl rfl rfl hY (fun M1 hY1 hF1 _ => ?_)
    obtain ⟨⟨⟨th, tr, wh⟩, ⟨tw, rd⟩, ⟨ta, sz, sp, so, pl, nu, fa, wa, wo⟩, oq⟩, A, hR⟩ := id hY1
    have ea : ta = nI σ.ts := hR.2.2.2.2.2.1
    subst ea
    have h0 := hR.1.1
    have fin : Ev ad 9 (rX13_town ad) (17, [some (.ref b), some (.int n), none], [], M1) (Pt b M (rf σ 2)) := by
      repeat (first | refine es rfl rfl rfl ?_ | refine eg rfl (by assumption) rfl ?_ | refine eanE rfl (by assumption) (by with_reducible first | exact rfl | exact Int32.zero_add _ | exact ix8 _ | exact ix12 _ | exact ix7r _ _ | exact n7 | exact n0 | exact n1) (by assumption) rfl ?_ | refine eal rfl (by assumption) (by assumption) rfl ?_ | refine eri rfl ?_ | refine erv rfl ?_ | refine erl rfl ?_ | refine era rfl ?_ | refine erz0 rfl ?_ | refine erz1 rfl ?_)
      try dsimp only [set1, set2, kilP, List.set_cons_zero, List.set_cons_succ, List.getElem?_cons_zero, List.getElem?_cons_succ, List.nil_append, List.cons_append, Option.toList_some, Option.toList_none]
      refine ecv rfl rfl (by assumption) rfl rfl rfl (y_ref hY1 (x := 2) (by decide)) (by first | rfl | exact Nat.blt_eq.mpr (by omega)) ?_
      rintro v M2 ⟨rfl, hY2, hF2⟩
      try dsimp only [set1, set2, kilP, List.set_cons_zero, List.set_cons_succ, List.getElem?_cons_zero, List.getElem?_cons_succ, List.nil_append, List.cons_append, Option.toList_some, Option.toList_none]
      repeat (first | refine es rfl rfl rfl ?_ | refine eg rfl (by assumption) rfl ?_ | refine eanE rfl (by assumption) (by with_reducible first | exact rfl | exact Int32.zero_add _ | exact ix8 _ | exact ix12 _ | exact ix7r _ _ | exact n7 | exact n0 | exact n1) (by assumption) rfl ?_ | refine eal rfl (by assumption) (by assumption) rfl ?_ | refine eri rfl ?_ | refine erv rfl ?_ | refine erl rfl ?_ | refine era rfl ?_ | refine erz0 rfl ?_ | refine erz1 rfl ?_)
      try dsimp only [set1, set2, kilP, List.set_cons_zero, List.set_cons_succ, List.getElem?_cons_zero, List.getElem?_cons_succ, List.nil_append, List.cons_append, Option.toList_some, Option.toList_none]
      refine ⟨fun v σ' h => ?_, fun q _ hq => (hF2.1 q (by omega)).trans (hF1.1 q (by omega)), Or.inl (hF2.2.trans hF1.2)⟩
      obtain ⟨rfl, rfl⟩ := h
      exact ⟨rfl, hY2⟩
    repeat (first | refine es rfl rfl rfl ?_ | refine eg rfl (by assumption) rfl ?_ | refine eanE rfl (by assumption) (by with_reducible first | exact rfl | exact Int32.zero_add _ | exact ix8 _ | exact ix12 _ | exact ix7r _ _ | exact n7 | exact n0 | exact n1) (by assumption) rfl ?_ | refine eal rfl (by assumption) (by assumption) rfl ?_ | refine eri rfl ?_ | refine erv rfl ?_ | refine erl rfl ?_ | refine era rfl ?_ | refine erz0 rfl ?_ | refine erz1 rfl ?_)
    try dsimp only [set1, set2, kilP, List.set_cons_zero, List.set_cons_succ, List.getElem?_cons_zero, List.getElem?_cons_succ, List.nil_append, List.cons_append, Option.toList_some, Option.toList_none]
    refine ei _ rfl rfl (fun c1 => ?_) (fun c1 => ?_)
    · exact fin
    repeat (first | refine es rfl rfl rfl ?_ | refine eg rfl (by assumption) rfl ?_ | refine eanE rfl (by assumption) (by with_reducible first | exact rfl | exact Int32.zero_add _ | exact ix8 _ | exact ix12 _ | exact ix7r _ _ | exact n7 | exact n0 | exact n1) (by assumption) rfl ?_ | refine eal rfl (by assumption) (by assumption) rfl ?_ | refine eri rfl ?_ | refine erv rfl ?_ | refine erl rfl ?_ | refine era rfl ?_ | refine erz0 rfl ?_ | refine erz1 rfl ?_)
    try dsimp only [set1, set2, kilP, List.set_cons_zero, List.set_cons_succ, List.getElem?_cons_zero, List.getElem?_cons_succ, List.nil_append, List.cons_append, Option.toList_some, Option.toList_none]
    refine ei _ rfl rfl (fun c2 => ?_) (fun c2 => ?_)
    · exact absurd ⟨Int32.not_lt.mp c1, c2⟩ c
    · exact fin
end RTWNC
