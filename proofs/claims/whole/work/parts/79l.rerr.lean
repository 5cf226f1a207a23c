/-! Kinds of flaws -/
section RERR
variable {tp : Nat → Int32} {sc : Nat → Int64} {le a i lo hi : Nat} {T : Tw} {e : Er}
def okE (e : Er) : Prop := 1 ≤ e.1 ∧ e.1 ≤ 6
theorem pAny_e (h : pAny tp le a = .error e) : okE e := by
  unfold pAny at h
  repeat' split at h
  all_goals (cases h <;> exact ⟨Nat.le_of_ble_eq_true rfl, Nat.le_of_ble_eq_true rfl⟩)
theorem pThis_e (h : pThis tp le i a = .error e) : okE e := by
  unfold pThis at h
  repeat' split at h
  all_goals (cases h <;> exact ⟨Nat.le_of_ble_eq_true rfl, Nat.le_of_ble_eq_true rfl⟩)
theorem pWh_e (h : pWh tp le lo hi a = .error e) : okE e := by
  unfold pWh at h
  repeat' split at h
  all_goals (cases h <;> exact ⟨Nat.le_of_ble_eq_true rfl, Nat.le_of_ble_eq_true rfl⟩)
theorem pNew_e (h : pNew tp sc le T a = .error e) : okE e := by
  unfold pNew at h
  repeat' split at h
  all_goals (cases h <;> exact ⟨Nat.le_of_ble_eq_true rfl, Nat.le_of_ble_eq_true rfl⟩)
theorem pHou_e (h : pHou tp sc le T a = .error e) : okE e := by
  unfold pHou at h
  repeat' split at h
  all_goals (cases h <;> exact ⟨Nat.le_of_ble_eq_true rfl, Nat.le_of_ble_eq_true rfl⟩)
theorem lnTown_e (h : lnTown tp sc le T a = .error e) : okE e := by
  unfold lnTown at h
  repeat' split at h
  all_goals (cases h <;> first | exact pThis_e (by assumption) | exact pWh_e (by assumption) | exact pHou_e (by assumption) | exact pNew_e (by assumption) | exact pAny_e (by assumption) | exact ⟨Nat.le_of_ble_eq_true rfl, Nat.le_of_ble_eq_true rfl⟩)
theorem lnHouse_e (h : lnHouse tp sc le T a = .error e) : okE e := by
  unfold lnHouse at h
  repeat' split at h
  all_goals (cases h <;> first | exact pThis_e (by assumption) | exact pWh_e (by assumption) | exact pHou_e (by assumption) | exact pNew_e (by assumption) | exact pAny_e (by assumption) | exact ⟨Nat.le_of_ble_eq_true rfl, Nat.le_of_ble_eq_true rfl⟩)
theorem lnWrong_e (h : lnWrong tp sc le T a = .error e) : okE e := by
  unfold lnWrong at h
  repeat' split at h
  all_goals (cases h <;> first | exact pThis_e (by assumption) | exact pWh_e (by assumption) | exact pHou_e (by assumption) | exact pNew_e (by assumption) | exact pAny_e (by assumption) | exact ⟨Nat.le_of_ble_eq_true rfl, Nat.le_of_ble_eq_true rfl⟩)
theorem lnOpen_e (h : lnOpen tp sc le T a = .error e) : okE e := by
  unfold lnOpen at h
  repeat' split at h
  all_goals (cases h <;> first | exact pThis_e (by assumption) | exact pWh_e (by assumption) | exact pHou_e (by assumption) | exact pNew_e (by assumption) | exact pAny_e (by assumption) | exact ⟨Nat.le_of_ble_eq_true rfl, Nat.le_of_ble_eq_true rfl⟩)
theorem lnStreet_e (h : lnStreet tp sc le T a = .error e) : okE e := by
  unfold lnStreet at h
  repeat' split at h
  all_goals (cases h <;> first | exact pThis_e (by assumption) | exact pWh_e (by assumption) | exact pHou_e (by assumption) | exact pNew_e (by assumption) | exact pAny_e (by assumption) | exact ⟨Nat.le_of_ble_eq_true rfl, Nat.le_of_ble_eq_true rfl⟩)
theorem lnPerson_e (h : lnPerson tp sc le T a = .error e) : okE e := by
  unfold lnPerson at h
  repeat' split at h
  all_goals (cases h <;> first | exact pThis_e (by assumption) | exact pWh_e (by assumption) | exact pHou_e (by assumption) | exact pNew_e (by assumption) | exact pAny_e (by assumption) | exact ⟨Nat.le_of_ble_eq_true rfl, Nat.le_of_ble_eq_true rfl⟩)
theorem lnSign_e (h : lnSign tp sc le T a = .error e) : okE e := by
  unfold lnSign at h
  repeat' split at h
  all_goals (cases h <;> first | exact pThis_e (by assumption) | exact pWh_e (by assumption) | exact pHou_e (by assumption) | exact pNew_e (by assumption) | exact pAny_e (by assumption) | exact ⟨Nat.le_of_ble_eq_true rfl, Nat.le_of_ble_eq_true rfl⟩)
theorem lnNoise_e (h : lnNoise tp sc le T a = .error e) : okE e := by
  unfold lnNoise at h
  repeat' split at h
  all_goals (cases h <;> first | exact pThis_e (by assumption) | exact pWh_e (by assumption) | exact pHou_e (by assumption) | exact pNew_e (by assumption) | exact pAny_e (by assumption) | exact ⟨Nat.le_of_ble_eq_true rfl, Nat.le_of_ble_eq_true rfl⟩)
theorem lnOf_e (h : lnOf tp sc le T a i = .error e) : okE e := by
  unfold lnOf at h
  split at h
  · exact lnTown_e h
  · exact lnHouse_e h
  · exact lnWrong_e h
  · exact lnOpen_e h
  · exact lnStreet_e h
  · exact lnPerson_e h
  · exact lnSign_e h
  · exact lnNoise_e h
theorem pLn_e (h : pLn tp sc le T a = .error e) : okE e := by
  unfold pLn at h
  rcases c : pAny tp le a with e1 | ⟨w, a1⟩
  · rw [c] at h
    cases h
    exact pAny_e c
  rw [c] at h
  dsimp only at h
  split at h
  · cases h; exact ⟨Nat.le_of_ble_eq_true rfl, Nat.le_of_ble_eq_true rfl⟩
  split at h
  · cases h; exact ⟨Nat.le_of_ble_eq_true rfl, Nat.le_of_ble_eq_true rfl⟩
  split at h
  · cases h; exact ⟨Nat.le_of_ble_eq_true rfl, Nat.le_of_ble_eq_true rfl⟩
  split at h
  · cases h; exact ⟨Nat.le_of_ble_eq_true rfl, Nat.le_of_ble_eq_true rfl⟩
  exact lnOf_e h
theorem pLoop_e : ∀ (n : Nat) (T : Tw) (k a p : Nat), pLoop tp sc le n T k a p = .error e → okE e
  | 0, T, k, a, p, h => by rw [pLoop] at h; cases h
  | n + 1, T, k, a, p, h => by
    rw [pLoop] at h
    split at h
    · cases h
    split at h
    · cases h; exact ⟨Nat.le_of_ble_eq_true rfl, Nat.le_of_ble_eq_true rfl⟩
    rcases c : pLn tp sc le T a with e1 | ⟨T', a'⟩
    · rw [c] at h
      cases h
      exact pLn_e c
    · rw [c] at h
      exact pLoop_e n T' _ _ _ h
theorem pTown_e (h : pTown tp sc le T = .error e) : okE e := by
  unfold pTown at h
  rcases c : pLoop tp sc le (le + 1) T 3 0 0 with e1 | ⟨T', p⟩
  · rw [c] at h
    cases h
    exact pLoop_e _ _ _ _ _ c
  · rw [c] at h
    dsimp only at h
    split at h
    · cases h; exact ⟨Nat.le_of_ble_eq_true rfl, Nat.le_of_ble_eq_true rfl⟩
    · cases h
end RERR
