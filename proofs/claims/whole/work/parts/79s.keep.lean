/-! What holds of the state is kept: answers that change nothing -/
section KEEP
variable {σ σ' : Sg} {C : Nat} {v : Option Value}
theorem rowI.mo {T : Tw} {C D : Nat} {f : Nat → Int32} (h : rowI T C f) (hc : C ≤ D) : rowI T D f := by
  obtain ⟨h1, h2, h3, h4, h5, h6⟩ := h
  refine ⟨h1, h2, h3, h4, fun p hp => ?_, h6⟩
  obtain ⟨m, m1, m2⟩ := h5 p hp
  exact ⟨m, by omega, m2⟩
theorem Inv.wt1 {t : Int32} (h : Inv σ C) (hc : C + 1 ≤ 600) : Inv (σ.wt t) (C + 1) := by
  refine ⟨fun hn => ?_, fun hn => h.2.1 hn, h.2.2.1, hc⟩
  obtain ⟨h1, h2, h3, h4, h5, h6, h7⟩ := h.1 hn
  exact ⟨h1, h2, h3, h4, h5.mo (by omega), fun r hr => (h6 r hr).mo (by omega), fun r hr => (h7 r hr).mo (by omega)⟩
theorem Inv.same (h : Inv σ C) (hc : C + 1 ≤ 600) : Inv σ (C + 1) := h.wt1 (t := σ.tr) hc
theorem an_I {x : Int32} (h : Inv σ C) (hc : C + 1 ≤ 600) (hs : an σ x v σ') : Inv σ' (C + 1) := by
  obtain ⟨rfl, rfl⟩ := hs
  exact h.wt1 hc
theorem rf_I {x : Int32} (h : Inv σ C) (hc : C + 1 ≤ 600) (hs : rf σ x v σ') : Inv σ' (C + 1) := by
  obtain ⟨rfl, rfl⟩ := hs
  exact h.wt1 hc
theorem dn_I {x : Int32} (h : Inv σ C) (hc : C + 1 ≤ 600) (hs : dn σ x v σ') : Inv σ' (C + 1) := by
  obtain ⟨rfl, rfl⟩ := hs
  exact h.wt1 hc
end KEEP
