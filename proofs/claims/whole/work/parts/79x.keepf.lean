/-! What holds of the state is kept: rows that agree -/
theorem rowI.cf {T : Tw} {C : Nat} {f g : Nat → Int32} (h : rowI T C f) (hp : T.np ≤ 4) (e : ∀ j, j < 16 → g j = f j) : rowI T C g := by
  obtain ⟨h1, h2, h3, h4, h5, h6, h7⟩ := h
  refine ⟨fun k hk => by rw [e k (by omega)]; exact h1 k hk, fun j k hj hk q => ?_, by rw [e 7 (by omega)]; exact h3, fun p hq => by rw [e (8 + p) (by omega)]; exact h4 p hq, fun p hq => by rw [e (12 + p) (by omega)]; exact h5 p hq, fun k hk => by rw [e k (by omega)]; exact h6 k hk, fun k hk => ?_⟩
  · rw [e j (by omega), e k (by omega)] at q
    rw [e j (by omega)]
    exact h2 j k hj hk q
  · rw [← h7 k hk]
    constructor
    · rintro ⟨j, j1, j2⟩
      exact ⟨j, j1, by rw [← e j (by omega)]; exact j2⟩
    · rintro ⟨j, j1, j2⟩
      exact ⟨j, j1, by rw [e j (by omega)]; exact j2⟩
