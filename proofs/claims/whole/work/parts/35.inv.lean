/-! What is known of a line that was read -/
theorem tk_b (tp : Nat → Int32) {le a : Nat} (h : a ≤ le) : a ≤ (tk tp le a).1 ∧ (tk tp le a).1 ≤ (tk tp le a).2.1 ∧ (tk tp le a).2.1 ≤ le ∧ ((tk tp le a).2.2.1 = 1 → a < (tk tp le a).2.1) ∧ (tk tp le a).2.2.1 ≤ 4 := by
  have h1 := spF_b tp (le - a) a
  unfold tk tokF tokS
  generalize hs : spF tp (le - a) a = s at *
  split
  · refine ⟨?_, ?_, ?_, fun h => absurd (show (0 : Nat) = 1 from h) (by decide), ?_⟩ <;> (dsimp only; omega)
  · rename_i hlt
    split
    · rename_i hL
      have h2 := wdF_b tp (le - s - 1) (s + 1) (wlF 0 (tp s))
      have h3 : wdF tp (le - s) s 0 = wdF tp (le - s - 1) (s + 1) (wlF 0 (tp s)) := by
        rw [show le - s = (le - s - 1) + 1 by omega, wdF, if_pos hL]
        rfl
      rw [h3]
      refine ⟨?_, ?_, ?_, fun _ => ?_, ?_⟩
      · dsimp only; omega
      · dsimp only; omega
      · dsimp only; omega
      · dsimp only; omega
      · dsimp only; split <;> omega
    · split
      · have h2 := whF_b tp (le - s) s 0
        refine ⟨?_, ?_, ?_, fun h => ?_, ?_⟩
        · dsimp only; omega
        · dsimp only; omega
        · dsimp only; omega
        · exfalso; revert h; dsimp only; split <;> decide
        · dsimp only; split <;> omega
      · refine ⟨?_, ?_, ?_, fun h => ?_, ?_⟩
        · dsimp only; omega
        · dsimp only; omega
        · dsimp only; omega
        · exfalso; revert h; dsimp only; split <;> decide
        · dsimp only; split <;> omega
theorem pAny_b {tp : Nat → Int32} {le a a' : Nat} {w : Int64} (hl : a ≤ le) (h : pAny tp le a = .ok (w, a')) : a < a' ∧ a' ≤ le := by
  have := tk_b tp hl
  unfold pAny at h
  split at h
  · rename_i hk; cases h; have := this.2.2.2.1 hk; omega
  · cases h
theorem pThis_b {tp : Nat → Int32} {le i a a' : Nat} (hl : a ≤ le) (h : pThis tp le i a = .ok a') : a ≤ a' ∧ a' ≤ le := by
  have := tk_b tp hl
  unfold pThis at h
  split at h
  · cases h; omega
  · cases h
theorem pWh_b {tp : Nat → Int32} {le lo hi a a' x : Nat} (h1 : lo < 2 ^ 31) (h2 : hi < 2 ^ 31) (hl : a ≤ le) (h : pWh tp le lo hi a = .ok (x, a')) : (a ≤ a' ∧ a' ≤ le) ∧ lo ≤ x ∧ x ≤ hi := by
  have := tk_b tp hl
  unfold pWh at h
  split at h
  · split at h
    · rename_i h3
      cases h
      have h4 := nI_bt h1 h2 h3.1 h3.2
      omega
    · cases h
  · cases h
theorem pNew_b {tp : Nat → Int32} {sc : Nat → Int64} {le a a' : Nat} {T : Tw} {w : Int64} (hl : a ≤ le) (h : pNew tp sc le T a = .ok (w, a')) : (a ≤ a' ∧ a' ≤ le) ∧ ¬ tldP T w ∧ sorF sc w 8 0 = -1 := by
  have := tk_b tp hl
  unfold pNew at h
  split at h
  · split at h
    · cases h
    · rename_i h3 h4
      cases h
      exact ⟨by omega, h4, h3.2⟩
  · cases h
theorem pHou_b {tp : Nat → Int32} {sc : Nat → Int64} {le a a' x : Nat} {T : Tw} (hn : T.hs.n ≤ 7) (hl : a ≤ le) (h : pHou tp sc le T a = .ok (x, a')) : (a ≤ a' ∧ a' ≤ le) ∧ x < T.hs.n := by
  have := tk_b tp hl
  unfold pHou at h
  split at h
  · split at h
    · cases h
    · rename_i h3 h4
      cases h
      rcases calF_or T.hs.nm (tk tp le a).2.2.2.1 T.hs.n 0 with h9 | ⟨k, _, k2, k3, _⟩
      · exact absurd h9 h4
      · rw [k3, nI_clamp (by omega)]
        exact ⟨by omega, by omega⟩
  · cases h
theorem lnTown_inv {tp : Nat → Int32} {sc : Nat → Int64} {le a a' : Nat} {T T' : Tw} (H9 : lnTown tp sc le T a = .ok (T', a')) : ∃ (a1 : Nat) (d : Nat) (a2 : Nat) (a3 : Nat) (l : Nat) (a4 : Nat), pThis tp le 8 a = .ok a1 ∧ pWh tp le 1 9 a1 = .ok (d, a2) ∧ pThis tp le 9 a2 = .ok a3 ∧ pWh tp le 0 9 a3 = .ok (l, a4) ∧ T' = ((d, l, T.np, T.pn, T.hm, T.pl), T.hs, T.ss, T.cs) ∧ a' = a4 := by
  unfold lnTown at H9
  rcases hc1 : pThis tp le 8 a with e | a1
  · rw [hc1] at H9; cases H9
  rw [hc1] at H9
  dsimp only at H9
  rcases hc2 : pWh tp le 1 9 a1 with e | ⟨d, a2⟩
  · rw [hc2] at H9; cases H9
  rw [hc2] at H9
  dsimp only at H9
  rcases hc3 : pThis tp le 9 a2 with e | a3
  · rw [hc3] at H9; cases H9
  rw [hc3] at H9
  dsimp only at H9
  rcases hc4 : pWh tp le 0 9 a3 with e | ⟨l, a4⟩
  · rw [hc4] at H9; cases H9
  rw [hc4] at H9
  dsimp only at H9
  cases H9
  exact ⟨_, _, _, _, _, _, (by first | exact hc1 | rfl), (by first | exact hc2 | rfl), (by first | exact hc3 | rfl), (by first | exact hc4 | rfl), rfl, rfl⟩
theorem lnHouse_inv {tp : Nat → Int32} {sc : Nat → Int64} {le a a' : Nat} {T T' : Tw} (H9 : lnHouse tp sc le T a = .ok (T', a')) : ∃ (w : Int64) (a1 : Nat) (a2 : Nat) (r : Nat) (a3 : Nat) (a4 : Nat) (e : Nat) (a5 : Nat) (a6 : Nat) (c : Nat) (a7 : Nat) (a8 : Nat) (s : Int64) (a9 : Nat), pNew tp sc le T a = .ok (w, a1) ∧ pThis tp le 10 a1 = .ok a2 ∧ pWh tp le 1 9 a2 = .ok (r, a3) ∧ pThis tp le 11 a3 = .ok a4 ∧ pWh tp le 1 99 a4 = .ok (e, a5) ∧ pThis tp le 12 a5 = .ok a6 ∧ pWh tp le 0 999 a6 = .ok (c, a7) ∧ pThis tp le 13 a7 = .ok a8 ∧ pAny tp le a8 = .ok (s, a9) ∧ T' = (T.1, (T.hs.n + 1, vp_updL T.hs.nm T.hs.n w, upd T.hs.ro T.hs.n (nI r), upd T.hs.re T.hs.n (nI e), upd T.hs.bi T.hs.n (nI c), vp_updL T.hs.sm T.hs.n s, T.hs.to, T.hs.fr, T.hs.tt), T.ss, T.cs) ∧ a' = a9 := by
  unfold lnHouse at H9
  rcases hc1 : pNew tp sc le T a with e | ⟨w, a1⟩
  · rw [hc1] at H9; cases H9
  rw [hc1] at H9
  dsimp only at H9
  rcases hc2 : pThis tp le 10 a1 with e | a2
  · rw [hc2] at H9; cases H9
  rw [hc2] at H9
  dsimp only at H9
  rcases hc3 : pWh tp le 1 9 a2 with e | ⟨r, a3⟩
  · rw [hc3] at H9; cases H9
  rw [hc3] at H9
  dsimp only at H9
  rcases hc4 : pThis tp le 11 a3 with e | a4
  · rw [hc4] at H9; cases H9
  rw [hc4] at H9
  dsimp only at H9
  rcases hc5 : pWh tp le 1 99 a4 with e | ⟨e, a5⟩
  · rw [hc5] at H9; cases H9
  rw [hc5] at H9
  dsimp only at H9
  rcases hc6 : pThis tp le 12 a5 with e | a6
  · rw [hc6] at H9; cases H9
  rw [hc6] at H9
  dsimp only at H9
  rcases hc7 : pWh tp le 0 999 a6 with e | ⟨c, a7⟩
  · rw [hc7] at H9; cases H9
  rw [hc7] at H9
  dsimp only at H9
  rcases hc8 : pThis tp le 13 a7 with e | a8
  · rw [hc8] at H9; cases H9
  rw [hc8] at H9
  dsimp only at H9
  rcases hc9 : pAny tp le a8 with e | ⟨s, a9⟩
  · rw [hc9] at H9; cases H9
  rw [hc9] at H9
  dsimp only at H9
  cases H9
  exact ⟨_, _, _, _, _, _, _, _, _, _, _, _, _, _, (by first | exact hc1 | rfl), (by first | exact hc2 | rfl), (by first | exact hc3 | rfl), (by first | exact hc4 | rfl), (by first | exact hc5 | rfl), (by first | exact hc6 | rfl), (by first | exact hc7 | rfl), (by first | exact hc8 | rfl), (by first | exact hc9 | rfl), rfl, rfl⟩
theorem lnWrong_inv {tp : Nat → Int32} {sc : Nat → Int64} {le a a' : Nat} {T T' : Tw} (H9 : lnWrong tp sc le T a = .ok (T', a')) : ∃ (f : Nat) (a1 : Nat) (a2 : Nat) (g : Nat) (a3 : Nat), pHou tp sc le T a = .ok (f, a1) ∧ ¬ (¬ T.hs.to f = -2) ∧ pThis tp le 14 a1 = .ok a2 ∧ pHou tp sc le T a2 = .ok (g, a3) ∧ ¬ (g = f ∨ isoF T.hs.to (nI g) T.hs.n 0 = 1) ∧ T' = (T.1, (T.hs.n, T.hs.nm, T.hs.ro, T.hs.re, T.hs.bi, T.hs.sm, upd T.hs.to f (nI g), T.hs.fr, T.hs.tt), T.ss, T.cs) ∧ a' = a3 := by
  unfold lnWrong at H9
  rcases hc1 : pHou tp sc le T a with e | ⟨f, a1⟩
  · rw [hc1] at H9; cases H9
  rw [hc1] at H9
  dsimp only at H9
  by_cases hc2 : ¬ T.hs.to f = -2
  · rw [if_pos hc2] at H9; cases H9
  rw [if_neg hc2] at H9
  rcases hc3 : pThis tp le 14 a1 with e | a2
  · rw [hc3] at H9; cases H9
  rw [hc3] at H9
  dsimp only at H9
  rcases hc4 : pHou tp sc le T a2 with e | ⟨g, a3⟩
  · rw [hc4] at H9; cases H9
  rw [hc4] at H9
  dsimp only at H9
  by_cases hc5 : g = f ∨ isoF T.hs.to (nI g) T.hs.n 0 = 1
  · rw [if_pos hc5] at H9; cases H9
  rw [if_neg hc5] at H9
  cases H9
  exact ⟨_, _, _, _, _, (by first | exact hc1 | rfl), (by first | exact hc2 | rfl), (by first | exact hc3 | rfl), (by first | exact hc4 | rfl), (by first | exact hc5 | rfl), rfl, rfl⟩
theorem lnOpen_inv {tp : Nat → Int32} {sc : Nat → Int64} {le a a' : Nat} {T T' : Tw} (H9 : lnOpen tp sc le T a = .ok (T', a')) : ∃ (h : Nat) (a1 : Nat) (a2 : Nat) (f : Nat) (a3 : Nat) (a4 : Nat) (c : Nat) (a5 : Nat), pHou tp sc le T a = .ok (h, a1) ∧ ¬ (¬ T.hs.fr h = -2) ∧ pThis tp le 15 a1 = .ok a2 ∧ pWh tp le 0 23 a2 = .ok (f, a3) ∧ pThis tp le 16 a3 = .ok a4 ∧ pWh tp le f 23 a4 = .ok (c, a5) ∧ T' = (T.1, (T.hs.n, T.hs.nm, T.hs.ro, T.hs.re, T.hs.bi, T.hs.sm, T.hs.to, upd T.hs.fr h (nI f), upd T.hs.tt h (nI c)), T.ss, T.cs) ∧ a' = a5 := by
  unfold lnOpen at H9
  rcases hc1 : pHou tp sc le T a with e | ⟨h, a1⟩
  · rw [hc1] at H9; cases H9
  rw [hc1] at H9
  dsimp only at H9
  by_cases hc2 : ¬ T.hs.fr h = -2
  · rw [if_pos hc2] at H9; cases H9
  rw [if_neg hc2] at H9
  rcases hc3 : pThis tp le 15 a1 with e | a2
  · rw [hc3] at H9; cases H9
  rw [hc3] at H9
  dsimp only at H9
  rcases hc4 : pWh tp le 0 23 a2 with e | ⟨f, a3⟩
  · rw [hc4] at H9; cases H9
  rw [hc4] at H9
  dsimp only at H9
  rcases hc5 : pThis tp le 16 a3 with e | a4
  · rw [hc5] at H9; cases H9
  rw [hc5] at H9
  dsimp only at H9
  rcases hc6 : pWh tp le f 23 a4 with e | ⟨c, a5⟩
  · rw [hc6] at H9; cases H9
  rw [hc6] at H9
  dsimp only at H9
  cases H9
  exact ⟨_, _, _, _, _, _, _, _, (by first | exact hc1 | rfl), (by first | exact hc2 | rfl), (by first | exact hc3 | rfl), (by first | exact hc4 | rfl), (by first | exact hc5 | rfl), (by first | exact hc6 | rfl), rfl, rfl⟩
theorem lnStreet_inv {tp : Nat → Int32} {sc : Nat → Int64} {le a a' : Nat} {T T' : Tw} (H9 : lnStreet tp sc le T a = .ok (T', a')) : ∃ (f : Nat) (a1 : Nat) (g : Nat) (a2 : Nat) (a3 : Nat) (m : Nat) (a4 : Nat), pHou tp sc le T a = .ok (f, a1) ∧ pHou tp sc le T a1 = .ok (g, a2) ∧ ¬ (g = f ∨ 0 < T.ss.mi (f * 7 + g)) ∧ pThis tp le 17 a2 = .ok a3 ∧ pWh tp le 1 99 a3 = .ok (m, a4) ∧ T' = (T.1, T.hs, (T.ss.n + 1, upd (upd T.ss.mi (f * 7 + g) (nI m)) (g * 7 + f) (nI m), T.ss.sh, T.ss.ne), T.cs) ∧ a' = a4 := by
  unfold lnStreet at H9
  rcases hc1 : pHou tp sc le T a with e | ⟨f, a1⟩
  · rw [hc1] at H9; cases H9
  rw [hc1] at H9
  dsimp only at H9
  rcases hc2 : pHou tp sc le T a1 with e | ⟨g, a2⟩
  · rw [hc2] at H9; cases H9
  rw [hc2] at H9
  dsimp only at H9
  by_cases hc3 : g = f ∨ 0 < T.ss.mi (f * 7 + g)
  · rw [if_pos hc3] at H9; cases H9
  rw [if_neg hc3] at H9
  rcases hc4 : pThis tp le 17 a2 with e | a3
  · rw [hc4] at H9; cases H9
  rw [hc4] at H9
  dsimp only at H9
  rcases hc5 : pWh tp le 1 99 a3 with e | ⟨m, a4⟩
  · rw [hc5] at H9; cases H9
  rw [hc5] at H9
  dsimp only at H9
  cases H9
  exact ⟨_, _, _, _, _, _, _, (by first | exact hc1 | rfl), (by first | exact hc2 | rfl), (by first | exact hc3 | rfl), (by first | exact hc4 | rfl), (by first | exact hc5 | rfl), rfl, rfl⟩
theorem lnPerson_inv {tp : Nat → Int32} {sc : Nat → Int64} {le a a' : Nat} {T T' : Tw} (H9 : lnPerson tp sc le T a = .ok (T', a')) : ∃ (w : Int64) (a1 : Nat) (a2 : Nat) (h : Nat) (a3 : Nat) (a4 : Nat) (p : Nat) (a5 : Nat), pNew tp sc le T a = .ok (w, a1) ∧ pThis tp le 18 a1 = .ok a2 ∧ pHou tp sc le T a2 = .ok (h, a3) ∧ pThis tp le 19 a3 = .ok a4 ∧ pHou tp sc le T a4 = .ok (p, a5) ∧ T' = ((T.dr, T.lk, T.np + 1, vp_updL T.pn T.np w, upd T.hm T.np (nI h), upd T.pl T.np (nI p)), T.hs, T.ss, T.cs) ∧ a' = a5 := by
  unfold lnPerson at H9
  rcases hc1 : pNew tp sc le T a with e | ⟨w, a1⟩
  · rw [hc1] at H9; cases H9
  rw [hc1] at H9
  dsimp only at H9
  rcases hc2 : pThis tp le 18 a1 with e | a2
  · rw [hc2] at H9; cases H9
  rw [hc2] at H9
  dsimp only at H9
  rcases hc3 : pHou tp sc le T a2 with e | ⟨h, a3⟩
  · rw [hc3] at H9; cases H9
  rw [hc3] at H9
  dsimp only at H9
  rcases hc4 : pThis tp le 19 a3 with e | a4
  · rw [hc4] at H9; cases H9
  rw [hc4] at H9
  dsimp only at H9
  rcases hc5 : pHou tp sc le T a4 with e | ⟨p, a5⟩
  · rw [hc5] at H9; cases H9
  rw [hc5] at H9
  dsimp only at H9
  cases H9
  exact ⟨_, _, _, _, _, _, _, _, (by first | exact hc1 | rfl), (by first | exact hc2 | rfl), (by first | exact hc3 | rfl), (by first | exact hc4 | rfl), (by first | exact hc5 | rfl), rfl, rfl⟩
theorem lnSign_inv {tp : Nat → Int32} {sc : Nat → Int64} {le a a' : Nat} {T T' : Tw} (H9 : lnSign tp sc le T a = .ok (T', a')) : ∃ (h : Nat) (a1 : Nat) (w : Int64) (a2 : Nat), pHou tp sc le T a = .ok (h, a1) ∧ pAny tp le a1 = .ok (w, a2) ∧ T' = (T.1, T.hs, T.ss, (T.cs.sg + 1, upd T.cs.sh T.cs.sg (nI h), vp_updL T.cs.ss T.cs.sg w, T.cs.nz, T.cs.nh, T.cs.nr)) ∧ a' = a2 := by
  unfold lnSign at H9
  rcases hc1 : pHou tp sc le T a with e | ⟨h, a1⟩
  · rw [hc1] at H9; cases H9
  rw [hc1] at H9
  dsimp only at H9
  rcases hc2 : pAny tp le a1 with e | ⟨w, a2⟩
  · rw [hc2] at H9; cases H9
  rw [hc2] at H9
  dsimp only at H9
  cases H9
  exact ⟨_, _, _, _, (by first | exact hc1 | rfl), (by first | exact hc2 | rfl), rfl, rfl⟩
theorem lnNoise_inv {tp : Nat → Int32} {sc : Nat → Int64} {le a a' : Nat} {T T' : Tw} (H9 : lnNoise tp sc le T a = .ok (T', a')) : ∃ (h : Nat) (a1 : Nat) (k : Nat) (a2 : Nat), pHou tp sc le T a = .ok (h, a1) ∧ pWh tp le 1 9 a1 = .ok (k, a2) ∧ T' = (T.1, T.hs, T.ss, (T.cs.sg, T.cs.sh, T.cs.ss, T.cs.nz + 1, upd T.cs.nh T.cs.nz (nI h), upd T.cs.nr T.cs.nz (nI k))) ∧ a' = a2 := by
  unfold lnNoise at H9
  rcases hc1 : pHou tp sc le T a with e | ⟨h, a1⟩
  · rw [hc1] at H9; cases H9
  rw [hc1] at H9
  dsimp only at H9
  rcases hc2 : pWh tp le 1 9 a1 with e | ⟨k, a2⟩
  · rw [hc2] at H9; cases H9
  rw [hc2] at H9
  dsimp only at H9
  cases H9
  exact ⟨_, _, _, _, (by first | exact hc1 | rfl), (by first | exact hc2 | rfl), rfl, rfl⟩
theorem pLn_inv {tp : Nat → Int32} {sc : Nat → Int64} {le a a' : Nat} {T T' : Tw} (h : pLn tp sc le T a = .ok (T', a')) : ∃ (w : Int64) (a1 k : Nat), pAny tp le a = .ok (w, a1) ∧ k < 8 ∧ sorF sc w 8 0 = nI k ∧ (k = 0 → T.dr = 0) ∧ (¬ k = 0 → 0 < T.dr) ∧ ¬ fulP T k ∧ lnOf tp sc le T a1 k = .ok (T', a') := by
  unfold pLn at h
  rcases h1 : pAny tp le a with e | ⟨w, a1⟩
  · rw [h1] at h; cases h
  rw [h1] at h
  dsimp only at h
  rcases sorF_or sc w 8 0 with hs | ⟨k, _, hk, hs⟩
  · rw [if_pos hs] at h; cases h
  have hcl : (sorF sc w 8 0).toNatClampNeg = k := by rw [hs, nI_clamp (by omega)]
  rw [hcl] at h
  split at h
  · cases h
  split at h
  · cases h
  split at h
  · cases h
  split at h
  · cases h
  rename_i c1 c2 c3
  exact ⟨w, a1, k, rfl, by omega, hs, fun e => by omega, fun e => by omega, c3, h⟩
