/-! What holds of the state is kept: the last questions, and what acts -/
section KEEPG
variable {σ σ' : Sg} {C : Nat} {v : Option Value} {x y z w i l : Int32}
theorem spStands_I (h : Inv σ C) (hc : C + 1 ≤ 600) (hs : spStands σ z v σ') : Inv σ' (C + 1) := by
  unfold spStands at hs
  split at hs
  · exact rf_I h hc hs
  split at hs
  · obtain ⟨_, ne, rfl⟩ := hs
    have h2 := h.same hc
    exact ⟨fun q => h2.1 q, fun q => h2.2.1 q, h2.2.2.1, hc⟩
  · exact rf_I h hc hs
theorem spGain_I (h : Inv σ C) (hc : C + 1 ≤ 600) (hs : spGain σ x w y z l v σ') : Inv σ' (C + 1) := by
  unfold spGain at hs
  repeat' split at hs
  all_goals first | exact an_I h hc hs | exact rf_I h hc hs
theorem spRests_I (h : Inv σ C) (hc : C + 1 ≤ 600) (hs : spRests σ x y v σ') : Inv σ' (C + 1) := by
  unfold spRests at hs
  repeat' split at hs
  all_goals first | exact an_I h hc hs | exact rf_I h hc hs
theorem spRest_I (h : Inv σ C) (hc : C + 1 ≤ 600) (hs : spRest σ x y v σ') : Inv σ' (C + 1) := by
  unfold spRest at hs
  repeat' split at hs
  all_goals first | exact an_I h hc hs | exact rf_I h hc hs
theorem spBuilders_I (h : Inv σ C) (hc : C + 1 ≤ 600) (hs : spBuilders σ x y v σ') : Inv σ' (C + 1) := by
  unfold spBuilders at hs
  repeat' split at hs
  all_goals first | exact an_I h hc hs | exact rf_I h hc hs | (obtain ⟨_, _, hs⟩ := hs; exact an_I h hc hs)
theorem act_I {f' : Nat → Int32} (h : Inv σ C) (hc : C + 1 ≤ 600) (hn : 0 < σ.T.hs.n) (hf : rowI σ.T (C + 1) f') : Inv (σ.act f') (C + 1) := by
  have h2 := h.same hc
  refine ⟨fun q => ?_, fun q => absurd (show σ.T.hs.n = 0 from q) (by omega), h2.2.2.1, hc⟩
  obtain ⟨h1, h2, h3, h4, h5, h6, h7⟩ := h2.1 hn
  refine ⟨h1, h2, h3, h4, hf, fun r hr => ?_, h7⟩
  rcases List.mem_cons.mp (List.mem_of_mem_take hr) with e | hr
  · rw [e]; exact h5
  · exact h6 r hr
/-- two of a row changed for each other -/
def trp (h g j : Nat) : Nat := if j = h then g else if j = g then h else j
theorem trp_t {h g j : Nat} : trp h g (trp h g j) = j := by
  unfold trp
  by_cases e1 : j = h
  · rw [if_pos e1]
    by_cases e2 : g = h
    · rw [if_pos e2]; omega
    · rw [if_neg e2, if_pos rfl, e1]
  · rw [if_neg e1]
    by_cases e2 : j = g
    · rw [if_pos e2, if_pos rfl, e2]
    · rw [if_neg e2, if_neg e1, if_neg e2]
theorem trp_l {h g j : Nat} (hh : h < 7) (hg : g < 7) (hj : j < 7) : trp h g j < 7 := by
  unfold trp
  split
  · exact hg
  split
  · exact hh
  · exact hj
theorem trp_s {f : Nat → Int32} {h g j : Nat} : swpF f h g j = f (trp h g j) := by
  unfold swpF trp
  by_cases e2 : j = g
  · rw [e2, pk_us]
    by_cases e1 : g = h
    · rw [if_pos e1, e1]
    · rw [if_neg e1, if_pos rfl]
  · rw [pk_un e2]
    by_cases e1 : j = h
    · rw [e1, pk_us, if_pos rfl]
    · rw [pk_un e1, if_neg e1, if_neg e2]
theorem rowI.swp {T : Tw} {f : Nat → Int32} {h g : Nat} (H : rowI T C f) (hn : T.hs.n ≤ 7) (hp : T.np ≤ 4) (hh : h < T.hs.n) (hg : g < T.hs.n) (h2 : ¬ f h = -2) (g2 : ¬ f g = -2) : rowI T C (swpF f h g) := by
  obtain ⟨h1, hi, h3, h4, h5, h6, h7⟩ := H
  have e9 : ∀ j, 7 ≤ j → swpF f h g j = f j := fun j hj => by rw [trp_s]; unfold trp; rw [if_neg (by omega), if_neg (by omega)]
  have hl : ∀ {j}, j < 7 → trp h g j < 7 := fun hj => trp_l (by omega) (by omega) hj
  refine ⟨fun j hj => ?_, fun j k hj hk q => ?_, by rw [e9 7 (by omega)]; exact h3, fun p q => by rw [e9 _ (by omega)]; exact h4 p q, fun p q => by rw [e9 _ (by omega)]; exact h5 p q, fun j hj => ?_, fun k hk => ?_⟩
  · rw [trp_s]
    rcases h1 _ (hl hj) with q | ⟨q1, q2⟩
    · exact Or.inl q
    · refine Or.inr ⟨?_, q2⟩
      unfold trp at q1
      by_cases e1 : j = h
      · omega
      · rw [if_neg e1] at q1
        by_cases e2 : j = g
        · omega
        · rw [if_neg e2] at q1; exact q1
  · rw [trp_s, trp_s] at q
    rw [trp_s]
    rcases hi _ _ (hl hj) (hl hk) q with q | q
    · exact Or.inl q
    · right
      have := congrArg (trp h g) q
      rw [trp_t, trp_t] at this
      exact this
  · rw [trp_s]
    unfold trp
    by_cases e1 : j = h
    · rw [if_pos e1]
      refine ⟨fun q => absurd q g2, fun q => absurd ((h6 h (by omega)).mpr (by rw [← e1]; exact q)) h2⟩
    · rw [if_neg e1]
      by_cases e2 : j = g
      · rw [if_pos e2]
        refine ⟨fun q => absurd q h2, fun q => absurd ((h6 g (by omega)).mpr (by rw [← e2]; exact q)) g2⟩
      · rw [if_neg e2]; exact h6 j hj
  · rw [← h7 k hk]
    constructor
    · rintro ⟨j, j1, j2⟩
      rw [trp_s] at j2
      exact ⟨_, hl j1, j2⟩
    · rintro ⟨j, j1, j2⟩
      refine ⟨_, hl j1, ?_⟩
      rw [trp_s, trp_t]
      exact j2
theorem spExchange_I (h : Inv σ C) (hc : C + 1 ≤ 600) (hs : spExchange σ x y v σ') : Inv σ' (C + 1) := by
  unfold spExchange at hs
  split at hs
  rotate_left
  · exact dn_I h hc hs
  rename_i c
  split at hs
  rotate_left
  · exact dn_I h hc hs
  rename_i c2
  obtain ⟨_, rfl⟩ := hs
  have hn7 := h.n7
  obtain ⟨k, j, hk, hj, hkj, rfl, rfl⟩ := isU_k hn7 c
  rw [nI_clamp (by omega), nI_clamp (by omega)] at c2 ⊢
  have hn : 0 < σ.T.hs.n := by omega
  exact act_I h hc hn (((h.same hc).1 hn).2.2.2.2.1.swp hn7 h.p4 hk hj c2.2.1 c2.2.2.1)
theorem spShut_I (h : Inv σ C) (hc : C + 1 ≤ 600) (hs : spShut σ x y v σ') : Inv σ' (C + 1) := by
  unfold spShut at hs
  split at hs
  rotate_left
  · exact dn_I h hc hs
  rename_i c
  split at hs
  · exact dn_I h hc hs
  obtain ⟨_, rfl⟩ := hs
  have hn7 := h.n7
  have hp4 := h.p4
  obtain ⟨k, hk, rfl⟩ := isH_k hn7 c
  rw [nI_clamp (by omega)]
  have hn : 0 < σ.T.hs.n := by omega
  obtain ⟨h1, hi, ⟨s, hs1, hs2⟩, h4, h5, h6, h7⟩ := ((h.same hc).1 hn).2.2.2.2.1
  have e9 : ∀ {w : Int32} {j : Nat}, ¬ j = 7 → upd σ.f 7 w j = σ.f j := fun hj => pk_un hj
  refine act_I h hc hn ⟨fun j hj => by rw [e9 (by omega)]; exact h1 j hj, fun j k hj hk q => ?_, ⟨s ^^^ 2 ^ k, Nat.xor_lt_two_pow hs1 (Nat.pow_lt_pow_right (by omega) hk), ?_⟩, fun p q => by rw [e9 (by omega)]; exact h4 p q, fun p q => by rw [e9 (by omega)]; exact h5 p q, fun j hj => by rw [e9 (by omega)]; exact h6 j hj, fun k hk => ?_⟩
  · rw [e9 (by omega), e9 (by omega)] at q
    rw [e9 (by omega)]
    exact hi j k hj hk q
  · rw [pk_us, hs2, shl_n k (by omega), fmx_xor]
  · rw [← h7 k hk]
    constructor
    · rintro ⟨j, j1, j2⟩
      exact ⟨j, j1, by rw [← j2, e9 (by omega)]⟩
    · rintro ⟨j, j1, j2⟩
      exact ⟨j, j1, by rw [e9 (by omega)]; exact j2⟩
theorem rowI.mov {T : Tw} {f : Nat → Int32} {p j m : Nat} (H : rowI T C f) (hp : T.np ≤ 4) (hq : p < T.np) (hj : j < T.hs.n) (hm : m ≤ 1000) : rowI T (C + 1) (movF f p (nI j) (nI m)) := by
  obtain ⟨h1, hi, h3, h4, h5, h6, h7⟩ := H.mo (D := C + 1) (by omega)
  obtain ⟨m0, hm0, em0⟩ := H.2.2.2.2.1 p hq
  have e9 : ∀ {k : Nat}, ¬ k = 8 + p → ¬ k = 12 + p → movF f p (nI j) (nI m) k = f k := fun a c => by unfold movF; rw [pk_un c, pk_un a]
  refine ⟨fun k hk => by rw [e9 (by omega) (by omega)]; exact h1 k hk, fun k l hk hl q => ?_, by rw [e9 (by omega) (by omega)]; exact h3, fun q hq => ?_, fun q hq => ?_, fun k hk => by rw [e9 (by omega) (by omega)]; exact h6 k hk, fun k hk => ?_⟩
  · rw [e9 (by omega) (by omega), e9 (by omega) (by omega)] at q
    rw [e9 (by omega) (by omega)]
    exact hi k l hk hl q
  · by_cases e : q = p
    · rw [e]
      refine ⟨j, hj, ?_⟩
      unfold movF
      rw [pk_un (by omega), pk_us]
    · rw [e9 (by omega) (by omega)]
      exact h4 q hq
  · by_cases e : q = p
    · rw [e, movF_m]
      refine ⟨m0 + m, by omega, ?_⟩
      rw [em0, nI_add]
    · rw [e9 (by omega) (by omega)]
      exact h5 q hq
  · rw [← h7 k hk]
    constructor
    · rintro ⟨j, j1, j2⟩
      exact ⟨j, j1, by rw [← j2, e9 (by omega) (by omega)]⟩
    · rintro ⟨j, j1, j2⟩
      exact ⟨j, j1, by rw [e9 (by omega) (by omega)]; exact j2⟩
theorem spWaits_I (h : Inv σ C) (hc : C + 1 ≤ 600) (hs : spWaits σ x y v σ') : Inv σ' (C + 1) := by
  unfold spWaits at hs
  split at hs
  rotate_left
  · exact rf_I h hc hs
  rename_i c
  split at hs
  rotate_left
  · exact rf_I h hc hs
  rename_i c2
  obtain ⟨_, rfl⟩ := hs
  have hn7 := h.n7
  have hp4 := h.p4
  obtain ⟨k, hk, rfl⟩ := isP_k hp4 c
  obtain ⟨m, g, hm, em, hg, eg9⟩ := h.mn hk
  have hn : 0 < σ.T.hs.n := by omega
  obtain ⟨n, hn9, rfl⟩ := nI_0k (x := y) (n := 1000) (by omega) ⟨Int32.le_trans (by decide) c2.1, Int32.lt_of_le_of_lt c2.2 (by decide)⟩
  rw [nI_clamp (by omega), eg9]
  exact act_I h hc hn ((h.1 hn).2.2.2.2.1.mov hp4 hk hg (by omega))
theorem spGo_I (h : Inv σ C) (hc : C + 1 ≤ 600) (hs : spGo σ x y v σ') : Inv σ' (C + 1) := by
  unfold spGo at hs
  split at hs
  rotate_left
  · exact rf_I h hc hs
  rename_i c
  split at hs
  rotate_left
  · exact rf_I h hc hs
  rename_i c2
  have hn7 := h.n7
  have hp4 := h.p4
  obtain ⟨k, hk, rfl⟩ := isP_k hp4 c
  obtain ⟨j, hj, rfl⟩ := isH_k hn7 c2
  obtain ⟨m, g, hm, em, hg, eg9⟩ := h.mn hk
  have hn : 0 < σ.T.hs.n := by omega
  rw [nI_clamp (by omega), nI_clamp (by omega)] at hs
  dsimp only at hs
  rw [eg9, em, nI_clamp (by omega), nI_clamp (by omega)] at hs
  have key : ∀ z : Int32, z = (if nI g = nI j then -2 else mtgF σ g j (m % 1440)) → z = -2 ∨ ∃ w, w ≤ 1000 ∧ z = nI w := by
    intro z hz
    by_cases e1 : nI g = nI j
    · rw [if_pos e1] at hz; exact Or.inl hz
    rw [if_neg e1] at hz
    unfold mtgF at hz
    split at hz
    · exact Or.inr ⟨σ.T.dr, by have : σ.T.dr ≤ 9 := (h.tI hn).1.1.2.2.2.2.2; omega, hz⟩
    split at hz
    · obtain ⟨q, hq, ez, _⟩ := (h.tI hn).2.2.2.2.2.1 g j (by omega) (by omega)
      exact Or.inr ⟨q, by omega, by rw [hz, ez]⟩
    · exact Or.inl hz
  have key2 := key _ rfl
  revert hs
  generalize (if nI g = nI j then -2 else mtgF σ g j (m % 1440)) = z at key2 ⊢
  intro hs
  split at hs
  · exact rf_I h hc hs
  rename_i c3
  obtain ⟨_, rfl⟩ := hs
  rcases key2 with e | ⟨w, hw, rfl⟩
  · exact absurd e c3
  · exact act_I h hc hn ((h.1 hn).2.2.2.2.1.mov hp4 hk hj hw)
theorem spUndo_I (h : Inv σ C) (hc : C + 1 ≤ 600) (hs : spUndo σ v σ') : Inv σ' (C + 1) := by
  unfold spUndo at hs
  cases hac : σ.ac with
  | nil => rw [hac] at hs; exact dn_I h hc hs
  | cons r ac =>
  rw [hac] at hs
  obtain ⟨_, f', ef, rfl⟩ := hs
  have h2 := h.same hc
  have hn : 0 < σ.T.hs.n := by
    by_cases q : σ.T.hs.n = 0
    · have := (h.2.1 q).2.2.2.1
      rw [hac] at this
      cases this
    · omega
  refine ⟨fun q => ?_, fun q => absurd (show σ.T.hs.n = 0 from q) (by omega), h2.2.2.1, hc⟩
  obtain ⟨h1, h2, h3, h4, h5, h6, h7⟩ := h2.1 hn
  rw [hac] at h6
  exact ⟨h1, h2, h3, h4, (h6 r (List.mem_cons_self ..)).cf h.p4 ef, fun r hr => h6 r (List.mem_cons_of_mem _ hr), h7⟩
theorem spBack_I (h : Inv σ C) (hc : C + 1 ≤ 600) (hs : spBack σ x v σ') : Inv σ' (C + 1) := by
  unfold spBack at hs
  split at hs
  rotate_left
  · exact dn_I h hc hs
  obtain ⟨_, r, f', hr, ef, rfl⟩ := hs
  have h2 := h.same hc
  have hm := List.mem_of_getElem? hr
  have hn : 0 < σ.T.hs.n := by
    by_cases q : σ.T.hs.n = 0
    · have := (h.2.1 q).2.2.2.2
      rw [this] at hm
      cases hm
    · omega
  refine ⟨fun q => ?_, fun q => absurd (show σ.T.hs.n = 0 from q) (by omega), h2.2.2.1, hc⟩
  obtain ⟨h1, h2, h3, h4, h5, h6, h7⟩ := h2.1 hn
  exact ⟨h1, h2, h3, h4, (h7 r hm).cf h.p4 ef, fun r hr => absurd (show r ∈ ([] : List (Nat → Int32)) from hr) List.not_mem_nil, h7⟩
end KEEPG
