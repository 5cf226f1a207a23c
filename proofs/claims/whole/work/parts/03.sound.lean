theorem pmAt_some {rows : List (Nat × Ins)} {fr : Fm} {r : Rs} (h : pmAt rows fr = some r) : ∃ q ∈ rows, fr.1 = q.1 ∧ q.2 (q.1, fr.2.1, fr.2.2.1, fr.2.2.2) = some r := by
  unfold pmAt at h
  cases hf : rows.find? (fun q => q.1 == fr.1) with
  | none => rw [hf] at h; cases h
  | some q =>
    rw [hf] at h
    have h1 := List.find?_some hf
    have h2 := List.mem_of_find?_eq_some hf
    have h3 : q.1 = fr.1 := by simpa using h1
    refine ⟨q, h2, h3.symm, ?_⟩
    rw [h3]
    exact h
theorem pm_mono {mt : List Mi} (hall : ∀ i ∈ mt, ∀ q ∈ i.rows, pmN q) : ∀ (n d : Nat) (rows : List (Nat × Ins)) (fr : Fm) (v : Option Value) (M' : Mm), (∀ q ∈ rows, pmN q) → pmRun mt n d rows fr = some (v, M') → pmLe fr.2.2.2 M' := by
  intro n
  induction n with
  | zero => intro d rows fr v M' _ h; simp [pmRun] at h
  | succ n ih =>
    intro d rows fr v M' hr h
    unfold pmRun at h
    cases ha : pmAt rows fr with
    | none => rw [ha] at h; cases h
    | some r =>
      rw [ha] at h
      obtain ⟨q, hq, hpc, hs⟩ := pmAt_some ha
      rcases r with fr' | ⟨j, as, fr'⟩ | r
      · exact ((hr q hq _ _ _).1 fr' hs).tr (ih d rows fr' v M' hr h)
      · have hM := (hr q hq _ _ _).2.1 j as fr' hs
        dsimp only at h
        cases d with
        | zero => simp at h
        | succ d =>
          cases hj : mt[j]? with
          | none => rw [hj] at h; simp at h
          | some i =>
            rw [hj] at h
            dsimp only at h
            split at h
            · cases hc : pmRun mt n d i.rows (pmEn i.nL as fr'.2.2.2) with
              | none => rw [hc] at h; cases h
              | some w =>
                obtain ⟨v1, M1⟩ := w
                rw [hc] at h
                have h1 := ih d i.rows _ v1 M1 (hall i (List.mem_of_getElem? hj)) hc
                have h2 := ih (d + 1) rows _ v M' hr h
                rw [← hM]
                exact h1.tr h2
            · cases h
      · obtain ⟨v1, M1⟩ := r
        have h2 := (hr q hq _ _ _).2.2 v1 M1 hs
        cases h
        rw [h2]
        exact pmLe.rf _
theorem pmIn_len : ∀ as : List Value, (pmIn as).length = (lg_sl as).length
  | [] => rfl
  | v :: vs => by
    have h := pmIn_len vs
    cases v <;> simp_all [pmIn, lg_sl, Value.category]
theorem pmIn_at : ∀ (as : List Value) (k i : Nat) (v : Value), (pmIn as)[i]? = some (some v) → (k + i, v) ∈ lv_args k as
  | [], k, i, v, h => by simp [pmIn] at h
  | w :: vs, k, i, v, h => by
    have ih := pmIn_at vs
    unfold pmIn at h
    unfold lv_args
    by_cases hc : w.category = 2
    · rw [if_pos hc] at h
      match i, h with
      | 0, h =>
        simp at h; subst h
        simp
      | 1, h => simp at h
      | i + 2, h =>
        have h2 := ih (k + w.category) i v (by simpa using h)
        rw [hc] at h2
        refine List.mem_cons_of_mem _ ?_
        rw [show k + (i + 2) = k + 2 + i by omega]
        first | exact h2 | (rw [hc]; exact h2)
    · have hc1 : w.category = 1 := by rcases lv_cat w with h | h; exact h; exact absurd h hc
      rw [if_neg hc] at h
      match i, h with
      | 0, h =>
        simp at h; subst h
        simp
      | i + 1, h =>
        have h2 := ih (k + w.category) i v (by simpa using h)
        rw [hc1] at h2
        refine List.mem_cons_of_mem _ ?_
        rw [show k + (i + 1) = k + 1 + i by omega]
        first | exact h2 | (rw [hc1]; exact h2)
