/-! What holds of the state is kept: questions -/
section KEEPB
variable {σ σ' : Sg} {C : Nat} {v : Option Value} {x y z w i l : Int32}
theorem spHouse_I (h : Inv σ C) (hc : C + 1 ≤ 600) (hs : spHouse σ x w v σ') : Inv σ' (C + 1) := by
  unfold spHouse at hs
  repeat' split at hs
  all_goals first | exact an_I h hc hs | exact rf_I h hc hs | exact dn_I h hc hs | (obtain ⟨_, _, hs⟩ := hs; exact an_I h hc hs) | (obtain ⟨_, _, hs⟩ := hs; split at hs <;> first | exact an_I h hc hs | exact rf_I h hc hs) | (obtain ⟨_, rfl⟩ := hs; exact h.wt1 hc)
theorem spOpen_I (h : Inv σ C) (hc : C + 1 ≤ 600) (hs : spOpen σ x w v σ') : Inv σ' (C + 1) := by
  unfold spOpen at hs
  repeat' split at hs
  all_goals first | exact an_I h hc hs | exact rf_I h hc hs | exact dn_I h hc hs | (obtain ⟨_, _, hs⟩ := hs; exact an_I h hc hs) | (obtain ⟨_, _, hs⟩ := hs; split at hs <;> first | exact an_I h hc hs | exact rf_I h hc hs) | (obtain ⟨_, rfl⟩ := hs; exact h.wt1 hc)
theorem spStreet_I (h : Inv σ C) (hc : C + 1 ≤ 600) (hs : spStreet σ x y v σ') : Inv σ' (C + 1) := by
  unfold spStreet at hs
  repeat' split at hs
  all_goals first | exact an_I h hc hs | exact rf_I h hc hs | exact dn_I h hc hs | (obtain ⟨_, _, hs⟩ := hs; exact an_I h hc hs) | (obtain ⟨_, _, hs⟩ := hs; split at hs <;> first | exact an_I h hc hs | exact rf_I h hc hs) | (obtain ⟨_, rfl⟩ := hs; exact h.wt1 hc)
theorem spPerson_I (h : Inv σ C) (hc : C + 1 ≤ 600) (hs : spPerson σ x w v σ') : Inv σ' (C + 1) := by
  unfold spPerson at hs
  repeat' split at hs
  all_goals first | exact an_I h hc hs | exact rf_I h hc hs | exact dn_I h hc hs | (obtain ⟨_, _, hs⟩ := hs; exact an_I h hc hs) | (obtain ⟨_, _, hs⟩ := hs; split at hs <;> first | exact an_I h hc hs | exact rf_I h hc hs) | (obtain ⟨_, rfl⟩ := hs; exact h.wt1 hc)
theorem spCandle_I (h : Inv σ C) (hc : C + 1 ≤ 600) (hs : spCandle σ x v σ') : Inv σ' (C + 1) := by
  unfold spCandle at hs
  repeat' split at hs
  all_goals first | exact an_I h hc hs | exact rf_I h hc hs | exact dn_I h hc hs | (obtain ⟨_, _, hs⟩ := hs; exact an_I h hc hs) | (obtain ⟨_, _, hs⟩ := hs; split at hs <;> first | exact an_I h hc hs | exact rf_I h hc hs) | (obtain ⟨_, rfl⟩ := hs; exact h.wt1 hc)
theorem spCandleAt_I (h : Inv σ C) (hc : C + 1 ≤ 600) (hs : spCandleAt σ x w v σ') : Inv σ' (C + 1) := by
  unfold spCandleAt at hs
  repeat' split at hs
  all_goals first | exact an_I h hc hs | exact rf_I h hc hs | exact dn_I h hc hs | (obtain ⟨_, _, hs⟩ := hs; exact an_I h hc hs) | (obtain ⟨_, _, hs⟩ := hs; split at hs <;> first | exact an_I h hc hs | exact rf_I h hc hs) | (obtain ⟨_, rfl⟩ := hs; exact h.wt1 hc)
theorem spMutual_I (h : Inv σ C) (hc : C + 1 ≤ 600) (hs : spMutual σ  v σ') : Inv σ' (C + 1) := by
  unfold spMutual at hs
  repeat' split at hs
  all_goals first | exact an_I h hc hs | exact rf_I h hc hs | exact dn_I h hc hs | (obtain ⟨_, _, hs⟩ := hs; exact an_I h hc hs) | (obtain ⟨_, _, hs⟩ := hs; split at hs <;> first | exact an_I h hc hs | exact rf_I h hc hs) | (obtain ⟨_, rfl⟩ := hs; exact h.wt1 hc)
theorem spJudge_I (h : Inv σ C) (hc : C + 1 ≤ 600) (hs : spJudge σ  v σ') : Inv σ' (C + 1) := by
  unfold spJudge at hs
  repeat' split at hs
  all_goals first | exact an_I h hc hs | exact rf_I h hc hs | exact dn_I h hc hs | (obtain ⟨_, _, hs⟩ := hs; exact an_I h hc hs) | (obtain ⟨_, _, hs⟩ := hs; split at hs <;> first | exact an_I h hc hs | exact rf_I h hc hs) | (obtain ⟨_, rfl⟩ := hs; exact h.wt1 hc)
theorem spWay_I (h : Inv σ C) (hc : C + 1 ≤ 600) (hs : spWay σ x y z v σ') : Inv σ' (C + 1) := by
  unfold spWay at hs
  repeat' split at hs
  all_goals first | exact an_I h hc hs | exact rf_I h hc hs | exact dn_I h hc hs | (obtain ⟨_, _, hs⟩ := hs; exact an_I h hc hs) | (obtain ⟨_, _, hs⟩ := hs; split at hs <;> first | exact an_I h hc hs | exact rf_I h hc hs) | (obtain ⟨_, rfl⟩ := hs; exact h.wt1 hc)
theorem spWayAt_I (h : Inv σ C) (hc : C + 1 ≤ 600) (hs : spWayAt σ x y z i v σ') : Inv σ' (C + 1) := by
  unfold spWayAt at hs
  repeat' split at hs
  all_goals first | exact an_I h hc hs | exact rf_I h hc hs | exact dn_I h hc hs | (obtain ⟨_, _, hs⟩ := hs; exact an_I h hc hs) | (obtain ⟨_, _, hs⟩ := hs; split at hs <;> first | exact an_I h hc hs | exact rf_I h hc hs) | (obtain ⟨_, rfl⟩ := hs; exact h.wt1 hc)
theorem spFarthest_I (h : Inv σ C) (hc : C + 1 ≤ 600) (hs : spFarthest σ x z v σ') : Inv σ' (C + 1) := by
  unfold spFarthest at hs
  repeat' split at hs
  all_goals first | exact an_I h hc hs | exact rf_I h hc hs | exact dn_I h hc hs | (obtain ⟨_, _, hs⟩ := hs; exact an_I h hc hs) | (obtain ⟨_, _, hs⟩ := hs; split at hs <;> first | exact an_I h hc hs | exact rf_I h hc hs) | (obtain ⟨_, rfl⟩ := hs; exact h.wt1 hc)
theorem spDebtor_I (h : Inv σ C) (hc : C + 1 ≤ 600) (hs : spDebtor σ  v σ') : Inv σ' (C + 1) := by
  unfold spDebtor at hs
  repeat' split at hs
  all_goals first | exact an_I h hc hs | exact rf_I h hc hs | exact dn_I h hc hs | (obtain ⟨_, _, hs⟩ := hs; exact an_I h hc hs) | (obtain ⟨_, _, hs⟩ := hs; split at hs <;> first | exact an_I h hc hs | exact rf_I h hc hs) | (obtain ⟨_, rfl⟩ := hs; exact h.wt1 hc)
theorem spOwes_I (h : Inv σ C) (hc : C + 1 ≤ 600) (hs : spOwes σ x l v σ') : Inv σ' (C + 1) := by
  unfold spOwes at hs
  repeat' split at hs
  all_goals first | exact an_I h hc hs | exact rf_I h hc hs | exact dn_I h hc hs | (obtain ⟨_, _, hs⟩ := hs; exact an_I h hc hs) | (obtain ⟨_, _, hs⟩ := hs; split at hs <;> first | exact an_I h hc hs | exact rf_I h hc hs) | (obtain ⟨_, rfl⟩ := hs; exact h.wt1 hc)
theorem spNet_I (h : Inv σ C) (hc : C + 1 ≤ 600) (hs : spNet σ x l v σ') : Inv σ' (C + 1) := by
  unfold spNet at hs
  repeat' split at hs
  all_goals first | exact an_I h hc hs | exact rf_I h hc hs | exact dn_I h hc hs | (obtain ⟨_, _, hs⟩ := hs; exact an_I h hc hs) | (obtain ⟨_, _, hs⟩ := hs; split at hs <;> first | exact an_I h hc hs | exact rf_I h hc hs) | (obtain ⟨_, rfl⟩ := hs; exact h.wt1 hc)
theorem spExAt_I (h : Inv σ C) (hc : C + 1 ≤ 600) (hs : spExAt σ i v σ') : Inv σ' (C + 1) := by
  unfold spExAt at hs
  repeat' split at hs
  all_goals first | exact an_I h hc hs | exact rf_I h hc hs | exact dn_I h hc hs | (obtain ⟨_, _, hs⟩ := hs; exact an_I h hc hs) | (obtain ⟨_, _, hs⟩ := hs; split at hs <;> first | exact an_I h hc hs | exact rf_I h hc hs) | (obtain ⟨_, rfl⟩ := hs; exact h.wt1 hc)
theorem spBuiltOf_I (h : Inv σ C) (hc : C + 1 ≤ 600) (hs : spBuiltOf σ x y z v σ') : Inv σ' (C + 1) := by
  unfold spBuiltOf at hs
  repeat' split at hs
  all_goals first | exact an_I h hc hs | exact rf_I h hc hs | exact dn_I h hc hs | (obtain ⟨_, _, hs⟩ := hs; exact an_I h hc hs) | (obtain ⟨_, _, hs⟩ := hs; split at hs <;> first | exact an_I h hc hs | exact rf_I h hc hs) | (obtain ⟨_, rfl⟩ := hs; exact h.wt1 hc)
end KEEPB
