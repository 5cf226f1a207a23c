/-! What holds of a town while it is read -/
def tA (T : Tw) : Prop := rdW T ∧ T.lk ≤ 9 ∧ (T.dr = 0 → T.hs.n = 0 ∧ T.np = 0 ∧ T.ss.n = 0 ∧ T.cs.sg = 0 ∧ T.cs.nz = 0)
def tB (T : Tw) : Prop := ∀ k, k < T.hs.n → ∃ r e c, (1 ≤ r ∧ r ≤ 9) ∧ (1 ≤ e ∧ e ≤ 99) ∧ c ≤ 999 ∧ T.hs.ro k = nI r ∧ T.hs.re k = nI e ∧ T.hs.bi k = nI c
def tC (T : Tw) : Prop := ∀ k, k < 7 → T.hs.to k = -2 ∨ (k < T.hs.n ∧ ∃ g, g < T.hs.n ∧ g ≠ k ∧ T.hs.to k = nI g)
def tD (T : Tw) : Prop := ∀ j k, j < 7 → k < 7 → T.hs.to j = T.hs.to k → T.hs.to j = -2 ∨ j = k
def tE (T : Tw) : Prop := ∀ k, k < 7 → T.hs.fr k = -2 ∨ (k < T.hs.n ∧ ∃ a c, a ≤ c ∧ c ≤ 23 ∧ T.hs.fr k = nI a ∧ T.hs.tt k = nI c)
def tF (T : Tw) : Prop := ∀ f g, f < 7 → g < 7 → ∃ k, k ≤ 99 ∧ T.ss.mi (f * 7 + g) = nI k ∧ (¬ k = 0 → f < T.hs.n ∧ g < T.hs.n ∧ f ≠ g)
def tG (T : Tw) : Prop := ∀ p, p < T.np → ∃ h g, h < T.hs.n ∧ g < T.hs.n ∧ T.hm p = nI h ∧ T.pl p = nI g
def tH (T : Tw) : Prop := ∀ j, j < T.cs.sg → ∃ k, k < T.hs.n ∧ T.cs.sh j = nI k
def tJ (T : Tw) : Prop := ∀ j, j < T.cs.nz → ∃ k r, k < T.hs.n ∧ 1 ≤ r ∧ r ≤ 9 ∧ T.cs.nh j = nI k ∧ T.cs.nr j = nI r
def tK (T : Tw) : Prop := (∀ j k, j < T.hs.n → k < T.hs.n → T.hs.nm j = T.hs.nm k → j = k) ∧ (∀ j k, j < T.np → k < T.np → T.pn j = T.pn k → j = k) ∧ ∀ p h, p < T.np → h < T.hs.n → T.pn p ≠ T.hs.nm h
def tI (T : Tw) : Prop := tA T ∧ tB T ∧ tC T ∧ tD T ∧ tE T ∧ tF T ∧ tG T ∧ tH T ∧ tJ T ∧ tK T
theorem nmtF_f (pn : Nat → Int64) (w : Int64) : ∀ n i, nmtF pn w n i = true ↔ ∃ k, i ≤ k ∧ k < i + n ∧ pn k = w
  | 0, i => by rw [nmtF]; constructor; (intro h; cases h); (rintro ⟨k, h1, h2, _⟩; omega)
  | n + 1, i => by
    rw [nmtF]
    split
    · rename_i h; exact ⟨fun _ => ⟨i, by omega, by omega, h⟩, fun _ => rfl⟩
    · rename_i h
      rw [nmtF_f pn w n (i + 1)]
      constructor
      · rintro ⟨k, h1, h2, h3⟩; exact ⟨k, by omega, by omega, h3⟩
      · rintro ⟨k, h1, h2, h3⟩
        by_cases e : k = i
        · rw [e] at h3; exact absurd h3 h
        · exact ⟨k, by omega, by omega, h3⟩
theorem nI_n1 {k : Nat} (hk : k < 2 ^ 31) : ¬ nI k = -1 := by
  intro h
  have h9 := congrArg Int32.toInt h
  rw [nI_toInt hk] at h9
  have h8 : (-1 : Int32).toInt = -1 := by decide
  omega
theorem calF_n (nm : Nat → Int64) (w : Int64) : ∀ n i, i + n < 2 ^ 31 → (calF nm w n i = -1 ↔ ∀ k, i ≤ k → k < i + n → ¬ nm k = w)
  | 0, i, _ => by rw [calF]; exact ⟨fun _ k h1 h2 => by omega, fun _ => rfl⟩
  | n + 1, i, hb => by
    rw [calF]
    split
    · rename_i h
      exact ⟨fun e => absurd e (nI_n1 (by omega)), fun e => absurd h (e i (by omega) (by omega))⟩
    · rename_i h
      rw [calF_n nm w n (i + 1) (by omega)]
      constructor
      · intro e k h1 h2
        by_cases e2 : k = i
        · rw [e2]; exact h
        · exact e k (by omega) (by omega)
      · intro e k h1 h2; exact e k (by omega) (by omega)
theorem isoF_1 (to : Nat → Int32) (x : Int32) : ∀ n i, isoF to x n i = 1 ↔ ∃ k, i ≤ k ∧ k < i + n ∧ to k = x
  | 0, i => by rw [isoF]; constructor; (intro h; exact absurd h (by decide)); (rintro ⟨k, h1, h2, _⟩; omega)
  | n + 1, i => by
    rw [isoF]
    split
    · rename_i h; exact ⟨fun _ => ⟨i, by omega, by omega, h⟩, fun _ => rfl⟩
    · rename_i h
      rw [isoF_1 to x n (i + 1)]
      constructor
      · rintro ⟨k, h1, h2, h3⟩; exact ⟨k, by omega, by omega, h3⟩
      · rintro ⟨k, h1, h2, h3⟩
        by_cases e : k = i
        · rw [e] at h3; exact absurd h3 h
        · exact ⟨k, by omega, by omega, h3⟩
/-- a name that isn't told -/
theorem ntld {T : Tw} {w : Int64} (hn : T.hs.n ≤ 7) (h : ¬ tldP T w) : (∀ p, p < T.np → ¬ T.pn p = w) ∧ ∀ k, k < T.hs.n → ¬ T.hs.nm k = w := by
  constructor
  · intro p hp e
    exact h (Or.inl ((nmtF_f _ _ _ _).mpr ⟨p, by omega, by omega, e⟩))
  · have h2 : calF T.hs.nm w T.hs.n 0 = -1 := Decidable.byContradiction fun q => h (Or.inr q)
    intro k hk e
    exact (calF_n _ _ _ _ (by omega)).mp h2 k (by omega) (by omega) e
theorem ix7_inj {f g f2 g2 : Nat} (hg : g < 7) (hg2 : g2 < 7) (h : f * 7 + g = f2 * 7 + g2) : f = f2 ∧ g = g2 := by omega
theorem twE_tI {T : Tw} (h : twE T) : tI T := by
  obtain ⟨h1, h2, h3, h4, h5, h6, h7, h8, h9⟩ := h
  refine ⟨⟨⟨by omega, by omega, by omega, by omega, by omega, by omega⟩, by omega, fun _ => ⟨h4, h3, h6, h8, h9⟩⟩, fun k hk => by omega, fun k hk => Or.inl (h5 k hk).1, fun j k hj hk _ => Or.inl (h5 j hj).1, fun k hk => Or.inl (h5 k hk).2.1, fun f g hf hg => ⟨0, by omega, h7 _ (by omega), fun q => absurd rfl q⟩, fun p hp => by omega, fun p hp => by omega, fun p hp => by omega, fun j k hj => by omega, fun j k hj => by omega, fun p h hp => by omega⟩
section TIL
variable {tp : Nat → Int32} {sc : Nat → Int64} {le a a' : Nat} {T T' : Tw}
theorem tI_Town (hT : tI T) (hd : T.dr = 0) (hl : a ≤ le) (h : lnTown tp sc le T a = .ok (T', a')) : tI T' ∧ (a ≤ a' ∧ a' ≤ le) := by
  obtain ⟨a1, d, a2, a3, l, a4, c1, c2, c3, c4, rfl, rfl⟩ := lnTown_inv h
  have b1 := pThis_b hl c1
  have b2 := pWh_b (by omega) (by omega) b1.2 c2
  have b3 := pThis_b b2.1.2 c3
  have b4 := pWh_b (by omega) (by omega) b3.2 c4
  obtain ⟨⟨⟨r1, r2, r3, r4, r5, r6⟩, r7, r8⟩, hB, hC, hD, hE, hF, hG, hH, hJ, hK⟩ := hT
  exact ⟨⟨⟨⟨r1, r2, r3, r4, r5, b2.2.2⟩, b4.2.2, fun (q : d = 0) => by have := b2.2.1; omega⟩, hB, hC, hD, hE, hF, hG, hH, hJ, hK⟩, by omega⟩
theorem tI_House (hT : tI T) (hd : 0 < T.dr) (hf : T.hs.n < 7) (hl : a ≤ le) (h : lnHouse tp sc le T a = .ok (T', a')) : tI T' ∧ (a ≤ a' ∧ a' ≤ le) := by
  obtain ⟨w, a1, a2, r, a3, a4, e, a5, a6, c, a7, a8, s, a9, c1, c2, c3, c4, c5, c6, c7, c8, c9, rfl, rfl⟩ := lnHouse_inv h
  have b1 := pNew_b hl c1
  have b2 := pThis_b b1.1.2 c2
  have b3 := pWh_b (by omega) (by omega) b2.2 c3
  have b4 := pThis_b b3.1.2 c4
  have b5 := pWh_b (by omega) (by omega) b4.2 c5
  have b6 := pThis_b b5.1.2 c6
  have b7 := pWh_b (by omega) (by omega) b6.2 c7
  have b8 := pThis_b b7.1.2 c8
  have b9 := pAny_b b8.2 c9
  obtain ⟨⟨⟨r1, r2, r3, r4, r5, r6⟩, r7, r8⟩, hB, hC, hD, hE, hF, hG, hH, hJ, hK⟩ := hT
  have hnt := ntld (by omega) b1.2.1
  refine ⟨⟨⟨⟨(show T.hs.n + 1 ≤ 7 by omega), r2, r3, r4, r5, r6⟩, r7, fun q => absurd (show T.dr = 0 from q) (by omega)⟩, ?_, ?_, hD, ?_, ?_, ?_, ?_, ?_, ?_⟩, by omega⟩
  · intro k hk
    by_cases q : k = T.hs.n
    · subst q
      exact ⟨r, e, c, b3.2, b5.2, b7.2.2, pk_us, pk_us, pk_us⟩
    · obtain ⟨x, y, z, q1, q2, q3, q4, q5, q6⟩ := hB k (by have : k < T.hs.n + 1 := hk; omega)
      exact ⟨x, y, z, q1, q2, q3, (pk_un q).trans q4, (pk_un q).trans q5, (pk_un q).trans q6⟩
  · intro k hk
    rcases hC k hk with q | ⟨q, g, q2, q3, q4⟩
    · exact Or.inl q
    · exact Or.inr ⟨Nat.lt_succ_of_lt q, g, Nat.lt_succ_of_lt q2, q3, q4⟩
  · intro k hk
    rcases hE k hk with q | ⟨q, q2⟩
    · exact Or.inl q
    · exact Or.inr ⟨Nat.lt_succ_of_lt q, q2⟩
  · intro f g h1 h2
    obtain ⟨k, q1, q2, q3⟩ := hF f g h1 h2
    exact ⟨k, q1, q2, fun q => ⟨Nat.lt_succ_of_lt (q3 q).1, Nat.lt_succ_of_lt (q3 q).2.1, (q3 q).2.2⟩⟩
  · intro p hp
    obtain ⟨h, g, q1, q2, q3⟩ := hG p hp
    exact ⟨h, g, Nat.lt_succ_of_lt q1, Nat.lt_succ_of_lt q2, q3⟩
  · intro p hp
    obtain ⟨h, q1, q3⟩ := hH p hp
    exact ⟨h, Nat.lt_succ_of_lt q1, q3⟩
  · intro p hp
    obtain ⟨h, g, q1, q3⟩ := hJ p hp
    exact ⟨h, g, Nat.lt_succ_of_lt q1, q3⟩
  · refine ⟨fun j k hj hk q => ?_, hK.2.1, fun p h hp hh => ?_⟩
    · have hj : j < T.hs.n + 1 := hj
      have hk : k < T.hs.n + 1 := hk
      have q : vp_updL T.hs.nm T.hs.n w j = vp_updL T.hs.nm T.hs.n w k := q
      by_cases q1 : j = T.hs.n
      · by_cases q2 : k = T.hs.n
        · omega
        · rw [q1, pk_uLs, pk_uLn q2] at q
          exact absurd q.symm (hnt.2 k (by omega))
      · by_cases q2 : k = T.hs.n
        · rw [q2, pk_uLs, pk_uLn q1] at q
          exact absurd q (hnt.2 j (by omega))
        · rw [pk_uLn q1, pk_uLn q2] at q
          exact hK.1 j k (by omega) (by omega) q
    · have hh : h < T.hs.n + 1 := hh
      show T.pn p ≠ vp_updL T.hs.nm T.hs.n w h
      by_cases q : h = T.hs.n
      · rw [q, pk_uLs]; exact hnt.1 p hp
      · rw [pk_uLn q]; exact hK.2.2 p h hp (by omega)
theorem tI_Wrong (hT : tI T) (hl : a ≤ le) (h : lnWrong tp sc le T a = .ok (T', a')) : tI T' ∧ (a ≤ a' ∧ a' ≤ le) := by
  obtain ⟨f, a1, a2, g, a3, c1, c2, c3, c4, c5, rfl, rfl⟩ := lnWrong_inv h
  have hn : T.hs.n ≤ 7 := hT.1.1.1
  have b1 := pHou_b hn hl c1
  have b2 := pThis_b b1.1.2 c3
  have b3 := pHou_b hn b2.2 c4
  obtain ⟨hA, hB, hC, hD, hE, hF, hG, hH, hJ, hK⟩ := hT
  have c5a : ¬ g = f := fun q => c5 (Or.inl q)
  have c5b : ∀ k, k < T.hs.n → ¬ T.hs.to k = nI g := fun k hk q => c5 (Or.inr ((isoF_1 _ _ _ _).mpr ⟨k, by omega, by omega, q⟩))
  have c5c : ∀ k, k < 7 → ¬ T.hs.to k = nI g := fun k hk q => by
    rcases hC k hk with h1 | ⟨h1, _⟩
    · rw [h1] at q; exact nI_n2 (by omega) q.symm
    · exact c5b k h1 q
  refine ⟨⟨hA, hB, ?_, ?_, hE, hF, hG, hH, hJ, hK⟩, by omega⟩
  · intro k hk
    show upd T.hs.to f (nI g) k = -2 ∨ _
    by_cases q : k = f
    · right
      rw [q]
      exact ⟨b1.2, g, b3.2, c5a, pk_us⟩
    · have e : upd T.hs.to f (nI g) k = T.hs.to k := pk_un q
      rcases hC k hk with h1 | ⟨h1, g2, h2, h3, h4⟩
      · left; rw [e]; exact h1
      · right; exact ⟨h1, g2, h2, h3, e.trans h4⟩
  · intro j k hj hk (q : upd T.hs.to f (nI g) j = upd T.hs.to f (nI g) k)
    show upd T.hs.to f (nI g) j = -2 ∨ _
    by_cases q1 : j = f
    · by_cases q2 : k = f
      · right; omega
      · rw [q1, pk_us, pk_un q2] at q
        exact absurd q.symm (c5c k hk)
    · by_cases q2 : k = f
      · rw [q2, pk_us, pk_un q1] at q
        exact absurd q (c5c j hj)
      · rw [pk_un q1, pk_un q2] at q
        rw [pk_un q1]
        exact hD j k hj hk q
theorem tI_Open (hT : tI T) (hl : a ≤ le) (h : lnOpen tp sc le T a = .ok (T', a')) : tI T' ∧ (a ≤ a' ∧ a' ≤ le) := by
  obtain ⟨h', a1, a2, f, a3, a4, c, a5, c1, c2, c3, c4, c5, c6, rfl, rfl⟩ := lnOpen_inv h
  have hn : T.hs.n ≤ 7 := hT.1.1.1
  have b1 := pHou_b hn hl c1
  have b2 := pThis_b b1.1.2 c3
  have b3 := pWh_b (by omega) (by omega) b2.2 c4
  have b4 := pThis_b b3.1.2 c5
  have b5 := pWh_b (by omega) (by omega) b4.2 c6
  obtain ⟨hA, hB, hC, hD, hE, hF, hG, hH, hJ, hK⟩ := hT
  refine ⟨⟨hA, hB, hC, hD, ?_, hF, hG, hH, hJ, hK⟩, by omega⟩
  intro k hk
  show upd T.hs.fr h' (nI f) k = -2 ∨ _
  by_cases q : k = h'
  · right
    rw [q]
    exact ⟨b1.2, f, c, b5.2.1, b5.2.2, pk_us, pk_us⟩
  · have e : upd T.hs.fr h' (nI f) k = T.hs.fr k := pk_un q
    have e2 : upd T.hs.tt h' (nI c) k = T.hs.tt k := pk_un q
    rcases hE k hk with h1 | ⟨h1, g2, h2, h3, h4, h5, h6⟩
    · left; rw [e]; exact h1
    · right; exact ⟨h1, g2, h2, h3, h4, e.trans h5, e2.trans h6⟩
theorem tI_Street (hT : tI T) (hd : 0 < T.dr) (hf : T.ss.n < 10) (hl : a ≤ le) (h : lnStreet tp sc le T a = .ok (T', a')) : tI T' ∧ (a ≤ a' ∧ a' ≤ le) := by
  obtain ⟨f, a1, g, a2, a3, m, a4, c1, c2, c3, c4, c5, rfl, rfl⟩ := lnStreet_inv h
  have hn : T.hs.n ≤ 7 := hT.1.1.1
  have b1 := pHou_b hn hl c1
  have b2 := pHou_b hn b1.1.2 c2
  have b3 := pThis_b b2.1.2 c4
  have b4 := pWh_b (by omega) (by omega) b3.2 c5
  obtain ⟨⟨⟨r1, r2, r3, r4, r5, r6⟩, r7, r8⟩, hB, hC, hD, hE, hF, hG, hH, hJ, hK⟩ := hT
  refine ⟨⟨⟨⟨r1, r2, (show T.ss.n + 1 ≤ 10 by omega), r4, r5, r6⟩, r7, fun q => absurd (show T.dr = 0 from q) (by omega)⟩, hB, hC, hD, hE, ?_, hG, hH, hJ, hK⟩, by omega⟩
  intro x y hx hy
  show ∃ k, k ≤ 99 ∧ upd (upd T.ss.mi (f * 7 + g) (nI m)) (g * 7 + f) (nI m) (x * 7 + y) = nI k ∧ _
  have hfg : ¬ g = f := fun q => c3 (Or.inl q)
  by_cases q1 : x * 7 + y = g * 7 + f
  · obtain ⟨e1, e2⟩ := ix7_inj hy (by omega) q1
    rw [q1, pk_us]
    exact ⟨m, b4.2.2, rfl, fun _ => by subst e1; subst e2; exact ⟨b2.2, b1.2, hfg⟩⟩
  · rw [pk_un q1]
    by_cases q2 : x * 7 + y = f * 7 + g
    · obtain ⟨e1, e2⟩ := ix7_inj hy (by omega) q2
      rw [q2, pk_us]
      exact ⟨m, b4.2.2, rfl, fun _ => by subst e1; subst e2; exact ⟨b1.2, b2.2, fun q => hfg q.symm⟩⟩
    · rw [pk_un q2]
      exact hF x y hx hy
theorem tI_Person (hT : tI T) (hd : 0 < T.dr) (hf : T.np < 4) (hl : a ≤ le) (h : lnPerson tp sc le T a = .ok (T', a')) : tI T' ∧ (a ≤ a' ∧ a' ≤ le) := by
  obtain ⟨w, a1, a2, h', a3, a4, p, a5, c1, c2, c3, c4, c5, rfl, rfl⟩ := lnPerson_inv h
  have hn : T.hs.n ≤ 7 := hT.1.1.1
  have b1 := pNew_b hl c1
  have b2 := pThis_b b1.1.2 c2
  have b3 := pHou_b hn b2.2 c3
  have b4 := pThis_b b3.1.2 c4
  have b5 := pHou_b hn b4.2 c5
  obtain ⟨⟨⟨r1, r2, r3, r4, r5, r6⟩, r7, r8⟩, hB, hC, hD, hE, hF, hG, hH, hJ, hK⟩ := hT
  have hnt := ntld (by omega) b1.2.1
  refine ⟨⟨⟨⟨r1, (show T.np + 1 ≤ 4 by omega), r3, r4, r5, r6⟩, r7, fun q => absurd (show T.dr = 0 from q) (by omega)⟩, hB, hC, hD, hE, hF, ?_, hH, hJ, hK.1, ?_, ?_⟩, by omega⟩
  · intro k (hk : k < T.np + 1)
    by_cases q : k = T.np
    · subst q
      exact ⟨h', p, b3.2, b5.2, pk_us, pk_us⟩
    · obtain ⟨x, y, q1, q2, q3, q4⟩ := hG k (by omega)
      exact ⟨x, y, q1, q2, (pk_un q).trans q3, (pk_un q).trans q4⟩
  · intro j k (hj : j < T.np + 1) (hk : k < T.np + 1) (q : vp_updL T.pn T.np w j = vp_updL T.pn T.np w k)
    by_cases q1 : j = T.np
    · by_cases q2 : k = T.np
      · omega
      · rw [q1, pk_uLs, pk_uLn q2] at q
        exact absurd q.symm (hnt.1 k (by omega))
    · by_cases q2 : k = T.np
      · rw [q2, pk_uLs, pk_uLn q1] at q
        exact absurd q (hnt.1 j (by omega))
      · rw [pk_uLn q1, pk_uLn q2] at q
        exact hK.2.1 j k (by omega) (by omega) q
  · intro k h (hk : k < T.np + 1) hh
    show vp_updL T.pn T.np w k ≠ T.hs.nm h
    by_cases q : k = T.np
    · rw [q, pk_uLs]; exact fun e => hnt.2 h hh e.symm
    · rw [pk_uLn q]; exact hK.2.2 k h (by omega) hh
theorem tI_Sign (hT : tI T) (hd : 0 < T.dr) (hf : T.cs.sg < 8) (hl : a ≤ le) (h : lnSign tp sc le T a = .ok (T', a')) : tI T' ∧ (a ≤ a' ∧ a' ≤ le) := by
  obtain ⟨h', a1, w, a2, c1, c2, rfl, rfl⟩ := lnSign_inv h
  have hn : T.hs.n ≤ 7 := hT.1.1.1
  have b1 := pHou_b hn hl c1
  have b2 := pAny_b b1.1.2 c2
  obtain ⟨⟨⟨r1, r2, r3, r4, r5, r6⟩, r7, r8⟩, hB, hC, hD, hE, hF, hG, hH, hJ, hK⟩ := hT
  refine ⟨⟨⟨⟨r1, r2, r3, (show T.cs.sg + 1 ≤ 8 by omega), r5, r6⟩, r7, fun q => absurd (show T.dr = 0 from q) (by omega)⟩, hB, hC, hD, hE, hF, hG, ?_, hJ, hK⟩, by omega⟩
  intro k (hk : k < T.cs.sg + 1)
  by_cases q : k = T.cs.sg
  · subst q
    exact ⟨h', b1.2, pk_us⟩
  · obtain ⟨x, q1, q2⟩ := hH k (by omega)
    exact ⟨x, q1, (pk_un q).trans q2⟩
theorem tI_Noise (hT : tI T) (hd : 0 < T.dr) (hf : T.cs.nz < 4) (hl : a ≤ le) (h : lnNoise tp sc le T a = .ok (T', a')) : tI T' ∧ (a ≤ a' ∧ a' ≤ le) := by
  obtain ⟨h', a1, w, a2, c1, c2, rfl, rfl⟩ := lnNoise_inv h
  have hn : T.hs.n ≤ 7 := hT.1.1.1
  have b1 := pHou_b hn hl c1
  have b2 := pWh_b (by omega) (by omega) b1.1.2 c2
  obtain ⟨⟨⟨r1, r2, r3, r4, r5, r6⟩, r7, r8⟩, hB, hC, hD, hE, hF, hG, hH, hJ, hK⟩ := hT
  refine ⟨⟨⟨⟨r1, r2, r3, r4, (show T.cs.nz + 1 ≤ 4 by omega), r6⟩, r7, fun q => absurd (show T.dr = 0 from q) (by omega)⟩, hB, hC, hD, hE, hF, hG, hH, ?_, hK⟩, by omega⟩
  intro k (hk : k < T.cs.nz + 1)
  by_cases q : k = T.cs.nz
  · subst q
    exact ⟨h', w, b1.2, b2.2.1, b2.2.2, pk_us, pk_us⟩
  · obtain ⟨x, y, q1, q2, q3, q4, q5⟩ := hJ k (by omega)
    exact ⟨x, y, q1, q2, q3, (pk_un q).trans q4, (pk_un q).trans q5⟩
theorem tI_Ln (hT : tI T) (hl : a ≤ le) (h : pLn tp sc le T a = .ok (T', a')) : tI T' ∧ (a < a' ∧ a' ≤ le) := by
  obtain ⟨w, a1, k, h1, h2, h3, h4, h5, h6, h7⟩ := pLn_inv h
  have b1 := pAny_b hl h1
  have hw := hT.1.1
  unfold rdW at hw
  match k, h2, h4, h5, h6, h7 with
  | 0, _, h4, _, _, h7 => have := tI_Town (sc := sc) hT (h4 rfl) b1.2 h7; exact ⟨this.1, by omega⟩
  | 1, _, _, h5, h6, h7 => have := tI_House hT (h5 (by omega)) (by unfold fulP at h6; omega) b1.2 h7; exact ⟨this.1, by omega⟩
  | 2, _, _, h5, h6, h7 => have := tI_Wrong hT b1.2 h7; exact ⟨this.1, by omega⟩
  | 3, _, _, h5, h6, h7 => have := tI_Open hT b1.2 h7; exact ⟨this.1, by omega⟩
  | 4, _, _, h5, h6, h7 => have := tI_Street hT (h5 (by omega)) (by unfold fulP at h6; omega) b1.2 h7; exact ⟨this.1, by omega⟩
  | 5, _, _, h5, h6, h7 => have := tI_Person hT (h5 (by omega)) (by unfold fulP at h6; omega) b1.2 h7; exact ⟨this.1, by omega⟩
  | 6, _, _, h5, h6, h7 => have := tI_Sign hT (h5 (by omega)) (by unfold fulP at h6; omega) b1.2 h7; exact ⟨this.1, by omega⟩
  | 7, _, _, h5, h6, h7 => have := tI_Noise hT (h5 (by omega)) (by unfold fulP at h6; omega) b1.2 h7; exact ⟨this.1, by omega⟩
  | n + 8, h2, _, _, _, _ => exact absurd h2 (by omega)
end TIL
