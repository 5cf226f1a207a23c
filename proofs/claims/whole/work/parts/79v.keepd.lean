/-! What holds of the state is kept: marks, town -/
section KEEPD
variable {σ σ' : Sg} {C : Nat} {v : Option Value} {x : Int32}
theorem spMark_I (h : Inv σ C) (hc : C + 1 ≤ 600) (hs : spMark σ v σ') : Inv σ' (C + 1) := by
  unfold spMark at hs
  split at hs
  · exact rf_I h hc hs
  rename_i hn
  split at hs
  · exact rf_I h hc hs
  obtain ⟨_, rfl⟩ := hs
  have h2 := h.same hc
  refine ⟨fun q => ?_, fun q => absurd q hn, h.2.2.1, hc⟩
  obtain ⟨h1, h2, h3, h4, h5, h6, h7⟩ := h2.1 q
  refine ⟨h1, h2, h3, h4, h5, h6, fun r hr => ?_⟩
  rcases List.mem_append.mp hr with hr | hr
  · exact h7 r hr
  · rw [List.mem_singleton.mp hr]
    exact h5
end KEEPD
