/-! How far houses are apart by streets -/
def oAdd : Option Nat → Option Nat → Option Nat
  | some x, some y => some (x + y)
  | _, _ => none
def miN (mi : Nat → Int32) (h g : Nat) : Nat := (mi (h * 7 + g)).toNatClampNeg
def fwD (mi : Nat → Int32) : Nat → Nat → Nat → Option Nat
  | 0, h, g => if h = g then some 0 else if 0 < miN mi h g then some (miN mi h g) else none
  | t + 1, h, g => oMin (fwD mi t h g) (oAdd (fwD mi t h t) (fwD mi t t g))
/-- ways through houses below t, of this length -/
def fwR (mi : Nat → Int32) : Nat → Nat → Nat → Nat → Prop
  | 0, h, g, L => (h = g ∧ L = 0) ∨ (¬ h = g ∧ 0 < miN mi h g ∧ L = miN mi h g)
  | t + 1, h, g, L => fwR mi t h g L ∨ ∃ L1 L2, fwR mi t h t L1 ∧ fwR mi t t g L2 ∧ L = L1 + L2
section FLOYD
variable {mi : Nat → Int32}
theorem fw_R : ∀ t h g, (∀ L, fwD mi t h g = some L → fwR mi t h g L) ∧ ∀ L, fwR mi t h g L → ∃ L', L' ≤ L ∧ fwD mi t h g = some L'
  | 0, h, g => by
    rw [fwD]
    unfold fwR
    by_cases e : h = g
    · rw [if_pos e]
      exact ⟨fun L q => by injection q with q; exact Or.inl ⟨e, q.symm⟩, fun L _ => ⟨0, by omega, rfl⟩⟩
    · rw [if_neg e]
      by_cases c : 0 < miN mi h g
      · rw [if_pos c]
        exact ⟨fun L q => by injection q with q; exact Or.inr ⟨e, c, q.symm⟩, fun L q => ⟨_, by rcases q with q | q; (exact absurd q.1 e); omega, rfl⟩⟩
      · rw [if_neg c]
        exact ⟨fun L q => (by cases q), fun L q => by rcases q with q | q; (exact absurd q.1 e); exact absurd q.2.1 c⟩
  | t + 1, h, g => by
    obtain ⟨a1, a2⟩ := fw_R t h g
    obtain ⟨b1, b2⟩ := fw_R t h t
    obtain ⟨c1, c2⟩ := fw_R t t g
    rw [fwD]
    constructor
    · intro L q
      rcases oMin_or q with q | q
      · exact Or.inl (a1 L q)
      · cases hb : fwD mi t h t with
        | none => rw [hb] at q; cases q
        | some x =>
          cases hc : fwD mi t t g with
          | none => rw [hb, hc] at q; cases q
          | some y =>
            rw [hb, hc] at q
            injection q with q
            exact Or.inr ⟨x, y, b1 x hb, c1 y hc, q.symm⟩
    · intro L q
      rcases q with q | ⟨L1, L2, q1, q2, q3⟩
      · obtain ⟨L', h1, h2⟩ := a2 L q
        rw [h2]
        cases oAdd (fwD mi t h t) (fwD mi t t g) with
        | none => exact ⟨L', h1, rfl⟩
        | some z => exact ⟨min L' z, by omega, rfl⟩
      · obtain ⟨x, x1, x2⟩ := b2 L1 q1
        obtain ⟨y, y1, y2⟩ := c2 L2 q2
        rw [x2, y2]
        cases fwD mi t h g with
        | none => exact ⟨x + y, by omega, rfl⟩
        | some z => exact ⟨min z (x + y), by omega, rfl⟩
theorem fwR_up {t h g L : Nat} (q : fwR mi t h g L) : ∀ d, fwR mi (t + d) h g L
  | 0 => q
  | d + 1 => Or.inl (fwR_up q d)
theorem fwR_c : ∀ t h k g L1 L2, k < t → fwR mi t h k L1 → fwR mi t k g L2 → ∃ L, L ≤ L1 + L2 ∧ fwR mi t h g L
  | 0, h, k, g, L1, L2, hk, _, _ => absurd hk (by omega)
  | t + 1, h, k, g, L1, L2, hk, q1, q2 => by
    by_cases e : k = t
    · subst e
      have s1 : ∃ L, L ≤ L1 ∧ fwR mi k h k L := by
        rcases q1 with q | ⟨x, y, a1, a2, a3⟩
        · exact ⟨L1, by omega, q⟩
        · exact ⟨x, by omega, a1⟩
      have s2 : ∃ L, L ≤ L2 ∧ fwR mi k k g L := by
        rcases q2 with q | ⟨x, y, a1, a2, a3⟩
        · exact ⟨L2, by omega, q⟩
        · exact ⟨y, by omega, a2⟩
      obtain ⟨x, x1, x2⟩ := s1
      obtain ⟨y, y1, y2⟩ := s2
      exact ⟨x + y, by omega, Or.inr ⟨x, y, x2, y2, rfl⟩⟩
    · have hk' : k < t := by omega
      rcases q1 with q1 | ⟨x, y, a1, a2, a3⟩
      · rcases q2 with q2 | ⟨u, v, b1, b2, b3⟩
        · obtain ⟨L, l1, l2⟩ := fwR_c t h k g L1 L2 hk' q1 q2
          exact ⟨L, l1, Or.inl l2⟩
        · obtain ⟨L, l1, l2⟩ := fwR_c t h k t L1 u hk' q1 b1
          exact ⟨L + v, by omega, Or.inr ⟨L, v, l2, b2, rfl⟩⟩
      · rcases q2 with q2 | ⟨u, v, b1, b2, b3⟩
        · obtain ⟨L, l1, l2⟩ := fwR_c t t k g y L2 hk' a2 q2
          exact ⟨x + L, by omega, Or.inr ⟨x, L, a1, l2, rfl⟩⟩
        · exact ⟨x + v, by omega, Or.inr ⟨x, v, a1, b2, rfl⟩⟩
theorem fwR_tri {h k g L1 L2 : Nat} (hk : k < 7) (q1 : fwR mi 7 h k L1) (q2 : fwR mi 7 k g L2) : ∃ L, L ≤ L1 + L2 ∧ fwR mi 7 h g L := fwR_c 7 h k g L1 L2 hk q1 q2
/-- a way begins with a street -/
theorem fwR_e : ∀ t h g L, t ≤ 7 → g < 7 → fwR mi t h g L → (h = g ∧ L = 0) ∨ ∃ k L1, k < 7 ∧ ¬ h = k ∧ 0 < miN mi h k ∧ L = miN mi h k + L1 ∧ ∃ L2, L2 ≤ L1 ∧ fwR mi 7 k g L2
  | 0, h, g, L, _, hg, q => by
    rcases q with q | ⟨a, c, d⟩
    · exact Or.inl q
    · exact Or.inr ⟨g, 0, hg, a, c, d, 0, by omega, fwR_up (t := 0) (Or.inl ⟨rfl, rfl⟩) 7⟩
  | t + 1, h, g, L, ht, hg, q => by
    rcases q with q | ⟨L1, L2, q1, q2, q3⟩
    · exact fwR_e t h g L (by omega) hg q
    · rcases fwR_e t h t L1 (by omega) (by omega) q1 with ⟨e1, e2⟩ | ⟨k, L3, k1, k2, k3, k4, L4, k5, k6⟩
      · subst e1
        rw [show L = L2 by omega]
        exact fwR_e h h g L2 (by omega) hg q2
      · have q4 : fwR mi 7 t g L2 := by
          have := fwR_up q2 (7 - t)
          rw [show t + (7 - t) = 7 by omega] at this
          exact this
        obtain ⟨L5, l1, l2⟩ := fwR_tri (by omega) k6 q4
        exact Or.inr ⟨k, L3 + L2, k1, k2, k3, by omega, L5, by omega, l2⟩
/-- distances are a way's, and no way is shorter -/
theorem fwD_bell {h g L : Nat} (hg : g < 7) (hne : ¬ h = g) (q : fwD mi 7 h g = some L) : ∃ k L', k < 7 ∧ ¬ h = k ∧ 0 < miN mi h k ∧ fwD mi 7 k g = some L' ∧ L = miN mi h k + L' := by
  rcases fwR_e 7 h g L (Nat.le_refl _) hg ((fw_R 7 h g).1 L q) with ⟨e, _⟩ | ⟨k, L1, k1, k2, k3, k4, L2, k5, k6⟩
  · exact absurd e hne
  · obtain ⟨L3, l1, l2⟩ := (fw_R 7 k g).2 L2 k6
    have r1 : fwR mi 7 h k (miN mi h k) := fwR_up (t := 0) (Or.inr ⟨k2, k3, rfl⟩) 7
    obtain ⟨L5, m1, m2⟩ := fwR_tri k1 r1 ((fw_R 7 k g).1 L3 l2)
    obtain ⟨L6, n1, n2⟩ := (fw_R 7 h g).2 L5 m2
    rw [q] at n2
    injection n2 with n2
    exact ⟨k, L3, k1, k2, k3, l2, by omega⟩
theorem fwD_tri {h k g L : Nat} (hk : k < 7) (hne : ¬ h = k) (h0 : 0 < miN mi h k) (q : fwD mi 7 k g = some L) : ∃ L', L' ≤ miN mi h k + L ∧ fwD mi 7 h g = some L' := by
  have r1 : fwR mi 7 h k (miN mi h k) := fwR_up (t := 0) (Or.inr ⟨hne, h0, rfl⟩) 7
  obtain ⟨L5, m1, m2⟩ := fwR_tri hk r1 ((fw_R 7 k g).1 L q)
  obtain ⟨L6, n1, n2⟩ := (fw_R 7 h g).2 L5 m2
  exact ⟨L6, by omega, n2⟩
theorem fwD_diag : ∀ t h, fwD mi t h h = some 0
  | 0, h => by rw [fwD, if_pos rfl]
  | t + 1, h => by
    rw [fwD, fwD_diag t h]
    cases oAdd (fwD mi t h t) (fwD mi t t h) with
    | none => rfl
    | some z => show some (min 0 z) = some 0; rw [Nat.zero_min]
theorem fwD_b (hb : ∀ h g, h < 7 → g < 7 → miN mi h g ≤ 99) : ∀ t h g L, h < 7 → g < 7 → t ≤ 7 → fwD mi t h g = some L → L ≤ 99 * 2 ^ t
  | 0, h, g, L, hh, hg, _, q => by
    rw [fwD] at q
    have := hb h g hh hg
    split at q
    · injection q with q; omega
    · split at q
      · injection q with q; omega
      · cases q
  | t + 1, h, g, L, hh, hg, ht, q => by
    rw [fwD] at q
    have e : 2 ^ (t + 1) = 2 * 2 ^ t := by rw [Nat.pow_succ, Nat.mul_comm]
    rcases oMin_or q with q | q
    · have := fwD_b hb t h g L hh hg (by omega) q
      omega
    · cases hb1 : fwD mi t h t with
      | none => rw [hb1] at q; cases q
      | some x =>
        cases hc : fwD mi t t g with
        | none => rw [hb1, hc] at q; cases q
        | some y =>
          rw [hb1, hc] at q
          injection q with q
          have u1 := fwD_b hb t h t x hh (by omega) (by omega) hb1
          have u2 := fwD_b hb t t g y (by omega) hg (by omega) hc
          omega
theorem fwD_N {N : Nat} (hz : ∀ h g, h < 7 → g < 7 → 0 < miN mi h g → h < N ∧ g < N) : ∀ t h g, h < 7 → g < 7 → t ≤ 7 → ¬ fwD mi t h g = none → h = g ∨ (h < N ∧ g < N)
  | 0, h, g, hh, hg, _, q => by
    rw [fwD] at q
    by_cases e : h = g
    · exact Or.inl e
    · rw [if_neg e] at q
      by_cases c : 0 < miN mi h g
      · exact Or.inr (hz h g hh hg c)
      · rw [if_neg c] at q; exact absurd rfl q
  | t + 1, h, g, hh, hg, ht, q => by
    rw [fwD] at q
    by_cases a : fwD mi t h g = none
    · rw [a] at q
      have b1 : ¬ fwD mi t h t = none := fun z => q (by rw [z]; rfl)
      have b2 : ¬ fwD mi t t g = none := fun z => q (by rw [z]; cases fwD mi t h t <;> rfl)
      have c1 := fwD_N hz t h t hh (by omega) (by omega) b1
      have c2 := fwD_N hz t t g (by omega) hg (by omega) b2
      omega
    · exact fwD_N hz t h g hh hg (by omega) a
theorem fwD_stop {N : Nat} (hz : ∀ h g, h < 7 → g < 7 → 0 < miN mi h g → h < N ∧ g < N) {h g : Nat} (hh : h < N) (hg : g < N) (hN : N ≤ 7) : ∀ d, N + d ≤ 7 → fwD mi (N + d) h g = fwD mi N h g
  | 0, _ => rfl
  | d + 1, hd => by
    rw [show N + (d + 1) = (N + d) + 1 by omega, fwD, fwD_stop hz hh hg hN d (by omega)]
    have e : fwD mi (N + d) h (N + d) = none := by
      apply Classical.byContradiction
      intro q
      have := fwD_N hz (N + d) h (N + d) (by omega) (by omega) (by omega) q
      omega
    rw [e]
    cases fwD mi N h g <;> rfl
end FLOYD
/-! the search by streets alone finds them -/
section FLDF
variable {T : Tw} {f : Nat → Int32} {go : Nat}
theorem tau_s {h g m : Nat} : tauF T f false h g m = if 0 < T.ss.mi (h * 7 + g) then some (m + miN T.ss.mi h g) else none := by
  unfold tauF
  rw [if_neg (show ¬ (false = true ∧ f h = nI g ∧ ¬ shutI (f 7) h = 1) from fun q => by cases q.1)]
  split <;> rfl
theorem mi_pos (ht : wfT T) {h g : Nat} (hh : h < 7) (hg : g < 7) : (0 : Int32) < T.ss.mi (h * 7 + g) ↔ 0 < miN T.ss.mi h g := by
  obtain ⟨k, hk, ek⟩ := ht.2.2.2.2.2.1 (h * 7 + g) (by omega)
  unfold miN
  rw [ek, nI_clamp (by omega)]
  exact nI_ltI (a := 0) (by omega) (by omega)
theorem acU_le {m : Nat} {p : List Nat} {ac : Ac} {t : Nat} {q : List Nat} (e : ac = some (t, q)) : ∃ t' q', acU m p ac = some (t', q') ∧ t' ≤ t := by
  rw [e, acU]
  split
  · exact ⟨_, _, rfl, by omega⟩
  · exact ⟨_, _, rfl, Nat.le_refl _⟩
/-- what is found is never lost -/
theorem df_mono {τ : Nat → Nat → Nat → Option Nat} {N : Nat} : ∀ n p h m ac t q, ac = some (t, q) → ∃ t' q', dfB τ N go n p h m ac = some (t', q') ∧ t' ≤ t := by
  intro n
  induction n with
  | zero => intro p h m ac t q e; exact ⟨t, q, e, Nat.le_refl _⟩
  | succ n ih =>
    intro p h m ac t q e
    rw [dfB]
    split
    · exact acU_le e
    · have hl : ∀ c g ac t q, ac = some (t, q) → ∃ t' q', lqF (dfB τ N go n) τ p h m c g ac = some (t', q') ∧ t' ≤ t := by
        intro c
        induction c with
        | zero => intro g ac t q e; exact ⟨t, q, e, Nat.le_refl _⟩
        | succ c ihc =>
          intro g ac t q e
          rw [lqF]
          have h1 : ∃ t' q', (if g ∈ p then ac else match τ h g m with
            | some m' => dfB τ N go n (g :: p) g m' ac
            | none => ac) = some (t', q') ∧ t' ≤ t := by
            split
            · exact ⟨t, q, e, Nat.le_refl _⟩
            · split
              · exact ih _ _ _ _ t q e
              · exact ⟨t, q, e, Nat.le_refl _⟩
          obtain ⟨t1, q1, e1, l1⟩ := h1
          obtain ⟨t2, q2, e2, l2⟩ := ihc (g + 1) _ t1 q1 e1
          exact ⟨t2, q2, e2, by omega⟩
      exact hl N 0 ac t q e
theorem lq_mono {τ : Nat → Nat → Nat → Option Nat} {N n : Nat} {p : List Nat} {h m : Nat} : ∀ c g ac t q, ac = some (t, q) → ∃ t' q', lqF (dfB τ N go n) τ p h m c g ac = some (t', q') ∧ t' ≤ t
  | 0, g, ac, t, q, e => ⟨t, q, e, Nat.le_refl _⟩
  | c + 1, g, ac, t, q, e => by
    rw [lqF]
    have h1 : ∃ t' q', (if g ∈ p then ac else match τ h g m with
      | some m' => dfB τ N go n (g :: p) g m' ac
      | none => ac) = some (t', q') ∧ t' ≤ t := by
      split
      · exact ⟨t, q, e, Nat.le_refl _⟩
      · split
        · exact df_mono _ _ _ _ _ t q e
        · exact ⟨t, q, e, Nat.le_refl _⟩
    obtain ⟨t1, q1, e1, l1⟩ := h1
    obtain ⟨t2, q2, e2, l2⟩ := lq_mono c (g + 1) _ t1 q1 e1
    exact ⟨t2, q2, e2, by omega⟩
theorem df_snd (ht : wfT T) (hgo : go < 7) : ∀ n p h m ac t q, h < 7 → dfB (tauF T f false) T.hs.n go n p h m ac = some (t, q) → (∃ q', ac = some (t, q')) ∨ ∃ x, fwD T.ss.mi 7 h go = some x ∧ m + x ≤ t := by
  have hn7 := ht.2.2.2.1
  intro n
  induction n with
  | zero => intro p h m ac t q _ e; exact Or.inl ⟨q, e⟩
  | succ n ih =>
    intro p h m ac t q hh e
    rw [dfB] at e
    by_cases c : h = go
    · rw [if_pos c] at e
      rw [c, fwD_diag]
      cases ac with
      | none => injection e with e; injection e with e _; exact Or.inr ⟨0, rfl, by omega⟩
      | some tq =>
        obtain ⟨t2, q2⟩ := tq
        rw [acU] at e
        split at e
        · injection e with e; injection e with e _; exact Or.inr ⟨0, rfl, by omega⟩
        · injection e with e; injection e with e _; exact Or.inl ⟨q2, by rw [e]⟩
    · rw [if_neg c] at e
      have hl : ∀ c g ac, g + c = T.hs.n → lqF (dfB (tauF T f false) T.hs.n go n) (tauF T f false) p h m c g ac = some (t, q) → (∃ q', ac = some (t, q')) ∨ ∃ x, fwD T.ss.mi 7 h go = some x ∧ m + x ≤ t := by
        intro c
        induction c with
        | zero => intro g ac _ e; exact Or.inl ⟨q, e⟩
        | succ c ihc =>
          intro g ac hg e
          rw [lqF] at e
          rcases ihc (g + 1) _ (by omega) e with ⟨q', e2⟩ | e2
          · split at e2
            · exact Or.inl ⟨q', e2⟩
            · split at e2
              · rename_i m' hm'
                rw [tau_s] at hm'
                split at hm'
                · rename_i hpos
                  injection hm' with hm'
                  rcases ih _ g m' ac t q' (by omega) e2 with e3 | ⟨x, x1, x2⟩
                  · exact Or.inl e3
                  · right
                    by_cases hne : h = g
                    · rw [hne]; exact ⟨x, x1, by omega⟩
                    · obtain ⟨y, y1, y2⟩ := fwD_tri (by omega) hne ((mi_pos ht hh (by omega)).mp hpos) x1
                      exact ⟨y, y2, by omega⟩
                · cases hm'
              · exact Or.inl ⟨q', e2⟩
          · exact Or.inr e2
      exact hl T.hs.n 0 ac (by omega) e
theorem df_opt (ht : wfT T) (hgo : go < 7) (hz : ∀ h g, h < 7 → g < 7 → 0 < miN T.ss.mi h g → h < T.hs.n ∧ g < T.hs.n) : ∀ n p h m ac x, p.length + n = 8 → p.Nodup → (∀ y, y ∈ p → y < T.hs.n) → h ∈ p → fwD T.ss.mi 7 h go = some x → (∀ y, y ∈ p → ¬ y = h → ∃ z, fwD T.ss.mi 7 y go = some z ∧ x < z) → ∃ t q, dfB (tauF T f false) T.hs.n go n p h m ac = some (t, q) ∧ t ≤ m + x := by
  have hn7 := ht.2.2.2.1
  intro n
  induction n with
  | zero =>
    intro p h m ac x hl hnd hall _ _ _
    have := nodup_le hnd hall
    omega
  | succ n ih =>
    intro p h m ac x hl hnd hall hp hx hlt
    have hh := hall h hp
    rw [dfB]
    by_cases c : h = go
    · rw [if_pos c]
      cases ac with
      | none => exact ⟨_, _, rfl, by omega⟩
      | some tq =>
        obtain ⟨t2, q2⟩ := tq
        rw [acU]
        split
        · exact ⟨_, _, rfl, by omega⟩
        · exact ⟨_, _, rfl, by omega⟩
    · rw [if_neg c]
      obtain ⟨k, L', k1, k2, k3, k4, k5⟩ := fwD_bell hgo c hx
      have hkn := (hz h k (by omega) k1 k3).2
      have hkp : k ∉ p := by
        intro q
        obtain ⟨z, z1, z2⟩ := hlt k q (fun e => k2 e.symm)
        rw [k4] at z1
        injection z1 with z1
        omega
      have hl2 : ∀ c g ac, g + c = T.hs.n → g ≤ k → ∃ t q, lqF (dfB (tauF T f false) T.hs.n go n) (tauF T f false) p h m c g ac = some (t, q) ∧ t ≤ m + x := by
        intro c
        induction c with
        | zero => intro g ac hg hk; omega
        | succ c ihc =>
          intro g ac hg hk
          rw [lqF]
          by_cases e : g = k
          · subst e
            rw [if_neg hkp, tau_s, if_pos ((mi_pos ht (by omega) k1).mpr k3)]
            obtain ⟨t, q, e1, e2⟩ := ih (g :: p) g (m + miN T.ss.mi h g) ac L' (by rw [List.length_cons]; omega) (List.nodup_cons.mpr ⟨hkp, hnd⟩) (fun y hy => by rcases List.mem_cons.mp hy with w | w; (rw [w]; exact hkn); exact hall y w) List.mem_cons_self k4 (fun y hy hne => by
              rcases List.mem_cons.mp hy with w | w
              · exact absurd w hne
              · by_cases e3 : y = h
                · rw [e3]; exact ⟨x, hx, by omega⟩
                · obtain ⟨z, z1, z2⟩ := hlt y w e3
                  exact ⟨z, z1, by omega⟩)
            obtain ⟨t', q', e3, e4⟩ := lq_mono (go := go) (τ := tauF T f false) (N := T.hs.n) (n := n) (p := p) (h := h) (m := m) c (g + 1) _ t q e1
            exact ⟨t', q', e3, by omega⟩
          · exact ihc (g + 1) _ (by omega) (by omega)
      exact hl2 T.hs.n 0 ac (by omega) (by omega)
end FLDF
