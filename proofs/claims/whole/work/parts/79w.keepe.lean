/-! What holds of the state is kept: a new town -/
section KEEPE
variable {σ σ' : Sg} {C : Nat} {v : Option Value} {n : Int32}
theorem rowB_I {T : Tw} {f : Nat → Int32} (hT : tI T) (h : rowB T f) : rowI T C f := by
  obtain ⟨hA, _, hC, hD, _, _, hG, _⟩ := hT
  have hn := hA.1
  unfold rdW at hn
  obtain ⟨h1, h2, h3⟩ := h
  refine ⟨fun k hk => ?_, fun j k hj hk e => ?_, ⟨0, Nat.two_pow_pos _, h2⟩, fun p hp => ?_, fun p hp => ?_, fun k hk => by rw [h1 k hk], fun g hg => ?_⟩
  · rw [h1 k hk]
    rcases hC k hk with q | ⟨q1, g, q2, q3, q4⟩
    · exact Or.inl q
    · exact Or.inr ⟨q1, g, q2, q4⟩
  · rw [h1 j hj, h1 k hk] at e
    rw [h1 j hj]
    exact hD j k hj hk e
  · obtain ⟨_, g, _, g2, _, g4⟩ := hG p hp
    exact ⟨g, g2, by rw [(h3 p (by omega)).1, if_pos hp]; exact g4⟩
  · exact ⟨0, Nat.zero_le _, (h3 p (by omega)).2⟩
  · constructor
    · rintro ⟨k, k1, k2⟩
      exact ⟨k, k1, by rw [← h1 k k1]; exact k2⟩
    · rintro ⟨k, k1, k2⟩
      exact ⟨k, k1, by rw [h1 k k1]; exact k2⟩
end KEEPE
section KEEPF
variable {σ σ' : Sg} {C : Nat} {v : Option Value} {n : Int32}
theorem spTown_I (h : Inv σ C) (hc : C + 1 ≤ 600) (hs : spTown σ n v σ') : Inv σ' (C + 1) := by
  unfold spTown at hs
  split at hs
  rotate_left
  · exact rf_I h hc hs
  obtain ⟨sc, T0, h1, h2, hs⟩ := hs
  rcases c : pTown σ.tp sc n.toNatClampNeg T0 with e | T
  · rw [c] at hs
    obtain ⟨_, rfl⟩ := hs
    exact ⟨fun hn => (h.same hc).1 hn, fun hn => h.2.1 hn, Nat.zero_le _, hc⟩
  · rw [c] at hs
    obtain ⟨_, f', hf, rfl⟩ := hs
    obtain ⟨t1, t2, t3, t4⟩ := tI_town h2 c
    refine ⟨fun _ => ⟨t1, t2, t3, t4, rowB_I t1 hf, fun r hr => ?_, fun r hr => ?_⟩, fun q => ?_, Nat.zero_le _, hc⟩
    · exact absurd hr (List.not_mem_nil)
    · exact absurd hr (List.not_mem_nil)
    · have q2 : T.hs.n = 0 := q
      omega
end KEEPF
