/-! What holds of the state is kept: more questions, feed, mark -/
section KEEPC
variable {σ σ' : Sg} {C : Nat} {v : Option Value} {x y z w i l : Int32}
theorem spSaves_I (h : Inv σ C) (hc : C + 1 ≤ 600) (hs : spSaves σ x y z v σ') : Inv σ' (C + 1) := by
  unfold spSaves at hs
  repeat' split at hs
  all_goals first | exact an_I h hc hs | exact rf_I h hc hs | exact dn_I h hc hs | (obtain ⟨_, _, hs⟩ := hs; exact an_I h hc hs) | (obtain ⟨_, rfl⟩ := hs; exact h.wt1 hc)
theorem spHomeIn_I (h : Inv σ C) (hc : C + 1 ≤ 600) (hs : spHomeIn σ x v σ') : Inv σ' (C + 1) := by
  unfold spHomeIn at hs
  repeat' split at hs
  all_goals first | exact an_I h hc hs | exact rf_I h hc hs | exact dn_I h hc hs | (obtain ⟨_, _, hs⟩ := hs; exact an_I h hc hs) | (obtain ⟨_, rfl⟩ := hs; exact h.wt1 hc)
theorem spFits_I {g : Fs4 → Int32} (h : Inv σ C) (hc : C + 1 ≤ 600) (hs : spFits σ g v σ') : Inv σ' (C + 1) := by
  unfold spFits at hs
  repeat' split at hs
  all_goals first | exact an_I h hc hs | exact rf_I h hc hs | exact dn_I h hc hs | (obtain ⟨_, _, hs⟩ := hs; exact an_I h hc hs) | (obtain ⟨_, rfl⟩ := hs; exact h.wt1 hc)
theorem spFitsH_I {g : Nat → Fs4 → Int32} (h : Inv σ C) (hc : C + 1 ≤ 600) (hs : spFitsH σ x g v σ') : Inv σ' (C + 1) := by
  unfold spFitsH at hs
  repeat' split at hs
  all_goals first | exact an_I h hc hs | exact rf_I h hc hs | exact dn_I h hc hs | (obtain ⟨_, _, hs⟩ := hs; exact an_I h hc hs) | (obtain ⟨_, rfl⟩ := hs; exact h.wt1 hc)
theorem spSw_I {g : Sk → Int32} (h : Inv σ C) (hc : C + 1 ≤ 600) (hs : spSw σ g v σ') : Inv σ' (C + 1) := by
  unfold spSw at hs
  repeat' split at hs
  all_goals first | exact an_I h hc hs | exact rf_I h hc hs | exact dn_I h hc hs | (obtain ⟨_, _, hs⟩ := hs; exact an_I h hc hs) | (obtain ⟨_, rfl⟩ := hs; exact h.wt1 hc)
theorem spSame_I (h : Inv σ C) (hc : C + 1 ≤ 600) (hs : spSame σ x v σ') : Inv σ' (C + 1) := by
  obtain ⟨_, rfl⟩ := hs
  exact h.same hc
theorem spSize_I (h : Inv σ C) (hc : C + 1 ≤ 600) (hs : spSize σ x v σ') : Inv σ' (C + 1) := spSame_I h hc hs
theorem spFeed_I {y1 y2 y3 y4 y5 : Int32} (h : Inv σ C) (hc : C + 1 ≤ 600) (hs : spFeed σ y1 y2 y3 y4 y5 v σ') : Inv σ' (C + 1) := by
  unfold spFeed at hs
  split at hs
  · exact spSame_I h hc hs
  · rename_i c
    obtain ⟨_, rfl⟩ := hs
    exact ⟨fun hn => (h.same hc).1 hn, fun hn => h.2.1 hn, by show σ.ts + 20 ≤ 1100; omega, hc⟩
end KEEPC
