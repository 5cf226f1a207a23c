/-! Exchanges: what both searches find -/
abbrev Sa : Type := Option (Nat × Nat × Fo)
abbrev gdS (N : Nat) (tr : Nat → Int32) (q : Nat) : Prop := q / 7 < q % 7 ∧ q % 7 < N ∧ canS tr (q / 7) (q % 7)
noncomputable def pcN (tr : Nat → Int32) : Nat := popc (mbN tr 7)
def lfU (m d : Nat) (c : Fo) : Sa → Sa
  | none => some (m, d, c)
  | some (m', l, e) => if m' < m then some (m, d, c) else some (m', l, e)
def swL (rc : (Nat → Int32) → Fo → Sa → Sa) (N : Nat) (tr : Nat → Int32) (d : Nat) (c : Fo) : Nat → Nat → Sa → Sa
  | 0, _, a => a
  | n + 1, q, a => swL rc N tr d c n (q + 1) (if gdS N tr q then rc (swpF tr (q / 7) (q % 7)) (updN c d q) a else a)
noncomputable def swU (N : Nat) : Nat → Nat → (Nat → Int32) → Fo → Sa → Sa
  | 0, d, tr, c, a => lfU (pcN tr) d c a
  | n + 1, d, tr, c, a => swL (swU N n (d + 1)) N tr d c 49 0 a
theorem swL_add {rc : (Nat → Int32) → Fo → Sa → Sa} {N : Nat} {tr : Nat → Int32} {d : Nat} {c : Fo} : ∀ n m q a, swL rc N tr d c (n + m) q a = swL rc N tr d c m (q + n) (swL rc N tr d c n q a)
  | 0, m, q, a => by rw [Nat.zero_add]; rfl
  | n + 1, m, q, a => by rw [show n + 1 + m = (n + m) + 1 by omega, swL, swL, swL_add n m (q + 1), show q + 1 + n = q + (n + 1) by omega]
theorem swL_skip {rc : (Nat → Int32) → Fo → Sa → Sa} {N : Nat} {tr : Nat → Int32} {d : Nat} {c : Fo} : ∀ n q a, (∀ j, q ≤ j → j < q + n → ¬ gdS N tr j) → swL rc N tr d c n q a = a
  | 0, q, a, _ => rfl
  | n + 1, q, a, h => by rw [swL, if_neg (h q (by omega) (by omega))]; exact swL_skip n (q + 1) a (fun j a c => h j (by omega) (by omega))
/-! one exchange pairs at most four more -/
abbrev i1F (x n : Nat) : Nat := if x < n then 1 else 0
abbrev e1F (x n : Nat) : Nat := if n = x then 1 else 0
theorem i1F_s (x n : Nat) : i1F x (n + 1) = i1F x n + e1F x n := by
  unfold i1F e1F
  split <;> split <;> split <;> omega
theorem ct_le {p q : Nat → Bool} {x y z w : Nat} : ∀ n, (∀ j, j < n → p j = true → q j = true ∨ j = x ∨ j = y ∨ j = z ∨ j = w) → fb_ct0 p n ≤ fb_ct0 q n + (i1F x n + i1F y n + i1F z n + i1F w n)
  | 0, _ => by rw [fb_ct0, fb_ct0]; omega
  | n + 1, h => by
    have ih := ct_le (p := p) (q := q) n (fun j hj => h j (by omega))
    have hq : fb_ct0 q n ≤ fb_ct0 q (n + 1) := by rw [fb_ct0]; omega
    have hq1 : q n = true → fb_ct0 q (n + 1) = fb_ct0 q n + 1 := fun c => by rw [fb_ct0, if_pos c]
    have hp1 : p n = true → fb_ct0 p (n + 1) = fb_ct0 p n + 1 := fun c => by rw [fb_ct0, if_pos c]
    have hp0 : ¬ p n = true → fb_ct0 p (n + 1) = fb_ct0 p n := fun c => by rw [fb_ct0, if_neg c]; rfl
    rw [i1F_s, i1F_s, i1F_s, i1F_s]
    generalize i1F x n = X at *
    generalize i1F y n = Y at *
    generalize i1F z n = Z at *
    generalize i1F w n = W at *
    by_cases c : p n = true
    · rw [hp1 c]
      rcases h n (by omega) c with w1 | w1 | w1 | w1 | w1
      · rw [hq1 w1]; omega
      · rw [show e1F x n = 1 from if_pos w1]; omega
      · rw [show e1F y n = 1 from if_pos w1]; omega
      · rw [show e1F z n = 1 from if_pos w1]; omega
      · rw [show e1F w n = 1 from if_pos w1]; omega
    · rw [hp0 c]; omega
theorem i1F_le (x n : Nat) : i1F x n ≤ 1 := by unfold i1F; split <;> omega
theorem pcN_ct (tr : Nat → Int32) : pcN tr = fb_ct0 (fun i => mutB tr i) 7 := by
  unfold pcN popc
  have : ∀ n, n ≤ 7 → fb_ct0 (fun i => (mbN tr 7).testBit i) n = fb_ct0 (fun i => mutB tr i) n := by
    intro n
    induction n with
    | zero => intro _; rfl
    | succ n ih =>
      intro hn
      rw [fb_ct0, fb_ct0, ih (by omega), mbN_bit]
      simp [show n < 7 by omega]
  exact this 7 (Nat.le_refl _)
theorem pcN_4 {tr : Nat → Int32} (hok : okR tr) {h g : Nat} (hh : h < 7) (hg : g < 7) (hc : canS tr h g) : pcN (swpF tr h g) ≤ pcN tr + 4 := by
  rw [pcN_ct, pcN_ct]
  obtain ⟨hne, h1, h2, _, _⟩ := hc
  obtain ⟨a, ha, ea⟩ := (hok h hh).resolve_left h1
  obtain ⟨c, hc', ec⟩ := (hok g hg).resolve_left h2
  have e1 : ∀ j, ¬ j = h → ¬ j = g → swpF tr h g j = tr j := by
    intro j q1 q2
    unfold swpF
    rw [pk_un q2, pk_un q1]
  have eh : swpF tr h g h = tr g := by unfold swpF; rw [pk_un hne, pk_us]
  have eg' : swpF tr h g g = tr h := by unfold swpF; rw [pk_us]
  have := ct_le (p := fun i => mutB (swpF tr h g) i) (q := fun i => mutB tr i) (x := h) (y := g) (z := a) (w := c) 7 (fun j hj q => by
    have q := mutB_i.mp q
    by_cases q1 : j = h
    · exact Or.inr (Or.inl q1)
    by_cases q2 : j = g
    · exact Or.inr (Or.inr (Or.inl q2))
    obtain ⟨m1, m2⟩ := q
    rw [e1 j q1 q2] at m1 m2
    obtain ⟨k, hk, ek⟩ := (hok j hj).resolve_left m1
    rw [ek, nI_clamp (by omega)] at m2
    by_cases q3 : k = h
    · rw [q3, eh, ec] at m2
      exact Or.inr (Or.inr (Or.inr (Or.inr ((nI_eq (by omega) (by omega)).mp m2).symm)))
    by_cases q4 : k = g
    · rw [q4, eg', ea] at m2
      exact Or.inr (Or.inr (Or.inr (Or.inl ((nI_eq (by omega) (by omega)).mp m2).symm)))
    · rw [e1 k q3 q4] at m2
      exact Or.inl (mutB_i.mpr ⟨m1, by rw [ek, nI_clamp (by omega)]; exact m2⟩))
  have b1 := i1F_le h 7
  have b2 := i1F_le g 7
  have b3 := i1F_le a 7
  have b4 := i1F_le c 7
  omega
/-- rows whose rooms are of houses below N -/
def rwN (N : Nat) (tr : Nat → Int32) : Prop := okR tr ∧ ∀ j, N ≤ j → j < 7 → tr j = -2
theorem rwN.swp {N : Nat} {tr : Nat → Int32} (h : rwN N tr) {x y : Nat} (hx : x < 7) (hy : y < 7) (hc : canS tr x y) : rwN N (swpF tr x y) := by
  refine ⟨okR_swp h.1 hx hy, fun j h1 h2 => ?_⟩
  have nx : ¬ j = x := fun q => hc.2.1 (by rw [← q]; exact h.2 j h1 h2)
  have ny : ¬ j = y := fun q => hc.2.2.1 (by rw [← q]; exact h.2 j h1 h2)
  unfold swpF
  rw [pk_un ny, pk_un nx]
  exact h.2 j h1 h2
theorem rwN.gd {N : Nat} {tr : Nat → Int32} (h : rwN N tr) {x y : Nat} (hy : y < 7) : gdS N tr (7 * x + y) ↔ x < y ∧ canS tr x y := by
  unfold gdS
  rw [show (7 * x + y) / 7 = x by omega, show (7 * x + y) % 7 = y by omega]
  constructor
  · rintro ⟨a, _, c⟩; exact ⟨a, c⟩
  · rintro ⟨a, c⟩
    refine ⟨a, ?_, c⟩
    rcases Nat.lt_or_ge y N with q | q
    · exact q
    · exact absurd (h.2 y q hy) c.2.2.1
theorem sw_id {N : Nat} : ∀ n d tr c m l e, rwN N tr → pcN tr + 4 * n ≤ m → swU N n d tr c (some (m, l, e)) = some (m, l, e)
  | 0, d, tr, c, m, l, e, hr, hm => by rw [swU, lfU, if_neg (by omega)]
  | n + 1, d, tr, c, m, l, e, hr, hm => by
    rw [swU]
    have main : ∀ k q, q + k = 49 → swL (swU N n (d + 1)) N tr d c k q (some (m, l, e)) = some (m, l, e) := by
      intro k
      induction k with
      | zero => intro q _; rfl
      | succ k ih =>
        intro q hq
        rw [swL]
        have hs : (if gdS N tr q then swU N n (d + 1) (swpF tr (q / 7) (q % 7)) (updN c d q) (some (m, l, e)) else some (m, l, e)) = some (m, l, e) := by
          split
          · rename_i g
            have := pcN_4 hr.1 (by omega) (by omega) g.2.2
            exact sw_id n (d + 1) _ _ m l e (hr.swp (by omega) (by omega) g.2.2) (by omega)
          · rfl
        rw [hs]
        exact ih (q + 1) (by omega)
    exact main 49 0 rfl
/-! the class's search -/
abbrev cdI (q : Nat) : Int32 := nI (10 * (q / 7) + q % 7)
def skR (s : Sk) (a : Sa) : Prop := match a with
  | none => s.2.2.2 = -1
  | some (m, l, e) => m ≤ 7 ∧ s.2.2.2 = nI m ∧ s.2.2.1 = l ∧ l ≤ 3 ∧ ∀ i, i < l → s.2.1 i = cdI (e i)
def rwP (row : Nat → Int32) (c : Fo) (d : Nat) : Prop := ∀ i, i < d → row i = cdI (c i)
theorem pcN_7 (tr : Nat → Int32) : pcN tr ≤ 7 := popc_7 _
section SEA
variable {N : Nat}
theorem sin_sw {n d h : Nat} {tr : Nat → Int32} {c : Fo} (hd : d + (n + 1) ≤ 3) (hr : rwN N tr) (hh : h < 7)
    (ih : ∀ tr c s a, rwN N tr → skR s a → rwP s.1 c (d + 1) → skR (seaF n (d + 1) tr s) (swU N n (d + 1) tr c a) ∧ ∀ i, i < d + 1 → (seaF n (d + 1) tr s).1 i = s.1 i) : ∀ k g s a, h < g → g + k = 7 → skR s a → rwP s.1 c d → skR (sinF (seaF n (d + 1)) tr d h k g s) (swL (swU N n (d + 1)) N tr d c k (7 * h + g) a) ∧ ∀ i, i < d → (sinF (seaF n (d + 1)) tr d h k g s).1 i = s.1 i
  | 0, g, s, a, _, _, hs, hp => ⟨hs, fun _ _ => rfl⟩
  | k + 1, g, s, a, hg, hk, hs, hp => by
    rw [sinF, swL]
    have hgd := hr.gd (x := h) (y := g) (by omega)
    by_cases q : canS tr h g
    · rw [if_pos q, if_pos (hgd.mpr ⟨hg, q⟩), show (7 * h + g) / 7 = h by omega, show (7 * h + g) % 7 = g by omega]
      obtain ⟨i1, i2⟩ := ih (swpF tr h g) (updN c d (7 * h + g)) (upd s.1 d (nI (10 * h + g)), s.2.1, s.2.2.1, s.2.2.2) a (hr.swp (by omega) (by omega) q) hs (fun i hi => by
        show upd s.1 d (nI (10 * h + g)) i = cdI (updN c d (7 * h + g) i)
        by_cases e : i = d
        · rw [e, pk_us, updN_s]; unfold cdI; rw [show (7 * h + g) / 7 = h by omega, show (7 * h + g) % 7 = g by omega]
        · rw [pk_un e, updN_n e]; exact hp i (by omega))
      have i3 : ∀ i, i < d → (seaF n (d + 1) (swpF tr h g) (upd s.1 d (nI (10 * h + g)), s.2.1, s.2.2.1, s.2.2.2)).1 i = s.1 i := fun i hi => by
        rw [i2 i (by omega)]
        exact pk_un (by omega)
      obtain ⟨j1, j2⟩ := sin_sw hd hr hh ih k (g + 1) _ _ (by omega) (by omega) i1 (fun i hi => by rw [i3 i hi]; exact hp i hi)
      exact ⟨j1, fun i hi => (j2 i hi).trans (i3 i hi)⟩
    · rw [if_neg q, if_neg (fun w => q (hgd.mp w).2)]
      exact sin_sw hd hr hh ih k (g + 1) s a (by omega) (by omega) hs hp
theorem sou_sw {n d : Nat} {tr : Nat → Int32} {c : Fo} (hd : d + (n + 1) ≤ 3) (hr : rwN N tr)
    (ih : ∀ tr c s a, rwN N tr → skR s a → rwP s.1 c (d + 1) → skR (seaF n (d + 1) tr s) (swU N n (d + 1) tr c a) ∧ ∀ i, i < d + 1 → (seaF n (d + 1) tr s).1 i = s.1 i) : ∀ k h s a, h + k = 7 → skR s a → rwP s.1 c d → skR (souF (seaF n (d + 1)) tr d k h s) (swL (swU N n (d + 1)) N tr d c (7 * k) (7 * h) a) ∧ ∀ i, i < d → (souF (seaF n (d + 1)) tr d k h s).1 i = s.1 i
  | 0, h, s, a, _, hs, hp => ⟨hs, fun _ _ => rfl⟩
  | k + 1, h, s, a, hk, hs, hp => by
    rw [souF, show 7 * (k + 1) = ((h + 1) + (6 - h)) + 7 * k by omega, swL_add, swL_add, swL_skip (h + 1) (7 * h) a (fun j j1 j2 w => by have := w.1; omega)]
    obtain ⟨i1, i2⟩ := sin_sw (c := c) (h := h) hd hr (by omega) ih (6 - h) (h + 1) s a (by omega) (by omega) hs hp
    rw [show 7 * h + (h + 1 + (6 - h)) = 7 * (h + 1) by omega]
    obtain ⟨j1, j2⟩ := sou_sw hd hr ih k (h + 1) _ _ (by omega) i1 (fun i hi => by rw [i2 i hi]; exact hp i hi)
    exact ⟨j1, fun i hi => (j2 i hi).trans (i2 i hi)⟩
theorem sea_sw : ∀ n d tr c s a, d + n ≤ 3 → rwN N tr → skR s a → rwP s.1 c d → skR (seaF n d tr s) (swU N n d tr c a) ∧ ∀ i, i < d → (seaF n d tr s).1 i = s.1 i := by
  intro n
  induction n with
  | zero =>
    intro d tr c s a hd hr hs hp
    rw [seaF, swU]
    have h7 := pcN_7 tr
    have hupd : ¬ nI (pcN tr) ≤ s.2.2.2 → lfU (pcN tr) d c a = some (pcN tr, d, c) → skR (if nI (popc (mbN tr 7)) ≤ s.2.2.2 then s else (s.1, va_cpy s.1 s.2.1 0 0 d, d, nI (popc (mbN tr 7)))) (lfU (pcN tr) d c a) ∧ ∀ i, i < d → (if nI (popc (mbN tr 7)) ≤ s.2.2.2 then s else (s.1, va_cpy s.1 s.2.1 0 0 d, d, nI (popc (mbN tr 7)))).1 i = s.1 i := by
      intro q e
      rw [if_neg (show ¬ nI (popc (mbN tr 7)) ≤ s.2.2.2 from q), e]
      refine ⟨⟨h7, rfl, rfl, by omega, fun i hi => ?_⟩, fun i _ => rfl⟩
      show va_cpy s.1 s.2.1 0 0 d i = cdI (c i)
      rw [cpy_in (by omega) (by omega), show 0 + (i - 0) = i by omega]
      exact hp i hi
    cases a with
    | none =>
      refine hupd ?_ rfl
      rw [show s.2.2.2 = -1 from hs]
      intro q
      exact nI_pos (n := pcN tr) (by omega) (Int32.lt_of_le_of_lt q (by decide))
    | some x =>
      obtain ⟨m, l, e⟩ := x
      obtain ⟨b1, b2, b3, b4, b5⟩ := id hs
      by_cases q : m < pcN tr
      · exact hupd (by rw [b2]; exact nI_ge q (by omega)) (if_pos q)
      · rw [lfU, if_neg q, if_pos (by rw [b2]; exact nI_le (by unfold pcN at q; omega) (by omega))]
        exact ⟨hs, fun i _ => rfl⟩
  | succ n ih =>
    intro d tr c s a hd hr hs hp
    rw [seaF]
    have h7 := pcN_7 tr
    by_cases q : nI (popc (mbN tr 7) + 4 * (n + 1)) ≤ s.2.2.2
    · rw [if_pos q]
      cases a with
      | none =>
        rw [show s.2.2.2 = -1 from hs] at q
        exact absurd (Int32.lt_of_le_of_lt q (by decide)) (nI_pos (n := popc (mbN tr 7) + 4 * (n + 1)) (by unfold pcN at h7; omega))
      | some x =>
        obtain ⟨m, l, e⟩ := x
        obtain ⟨b1, b2, b3, b4, b5⟩ := id hs
        rw [b2] at q
        have := (nI_leI (by unfold pcN at h7; omega) (by omega)).mp q
        rw [sw_id (n + 1) d tr c m l e hr this]
        exact ⟨hs, fun i _ => rfl⟩
    · rw [if_neg q, swU]
      exact sou_sw (c := c) hd hr (fun tr c s a h1 h2 h3 => ih (d + 1) tr c s a (by omega) h1 h2 h3) 7 0 s a rfl hs hp
noncomputable def swF (N : Nat) (tr : Nat → Int32) : Nat → Nat → Sa → Sa
  | 0, _, a => a
  | n + 1, k, a => swF N tr n (k + 1) (swU N k 0 tr (fun _ => 0) a)
theorem fb_sw {tr : Nat → Int32} (hr : rwN N tr) : ∀ n k s a, k + n ≤ 4 → skR s a → skR (fbF tr n k s) (swF N tr n k a)
  | 0, k, s, a, _, hs => hs
  | n + 1, k, s, a, hk, hs => by
    rw [fbF, swF]
    exact fb_sw hr n (k + 1) _ _ (by omega) (sea_sw k 0 tr (fun _ => 0) s a (by omega) hr hs (fun i hi => absurd hi (by omega))).1
end SEA
/-! the row counts below seven alone -/
theorem pcN_cg {f g : Nat → Int32} (hf : okR f) (h : ∀ j, j < 7 → f j = g j) : pcN f = pcN g := by unfold pcN; rw [mbN_cg hf h 7 (Nat.le_refl _)]
theorem sw_cg {N : Nat} : ∀ n d (f g : Nat → Int32) c a, okR f → (∀ j, j < 7 → f j = g j) → swU N n d f c a = swU N n d g c a := by
  intro n
  induction n with
  | zero => intro d f g c a hf h; rw [swU, swU, pcN_cg hf h]
  | succ n ih =>
    intro d f g c a hf h
    rw [swU, swU]
    have main : ∀ k q a, q + k = 49 → swL (swU N n (d + 1)) N f d c k q a = swL (swU N n (d + 1)) N g d c k q a := by
      intro k
      induction k with
      | zero => intro q a _; rfl
      | succ k ihk =>
        intro q a hq
        rw [swL, swL]
        have hc := canS_cg h (k := q / 7) (j := q % 7) (by omega) (by omega)
        by_cases w : gdS N f q
        · rw [if_pos w, if_pos ⟨w.1, w.2.1, hc.mp w.2.2⟩, ih (d + 1) (swpF f (q / 7) (q % 7)) (swpF g (q / 7) (q % 7)) _ _ (okR_swp hf (by omega) (by omega)) (swp_cg h (by omega) (by omega))]
          exact ihk (q + 1) _ (by omega)
        · rw [if_neg w, if_neg (fun z => w ⟨z.1, z.2.1, hc.mpr z.2.2⟩)]
          exact ihk (q + 1) _ (by omega)
    exact main 49 0 a rfl
theorem swF_cg {N : Nat} {f g : Nat → Int32} (hf : okR f) (h : ∀ j, j < 7 → f j = g j) : ∀ n k a, swF N f n k a = swF N g n k a
  | 0, k, a => rfl
  | n + 1, k, a => by rw [swF, swF, sw_cg k 0 f g _ a hf h, swF_cg hf h n (k + 1)]
theorem best_sw {σ : Sg} {C : Nat} {s : Sk} (hI : Inv σ C) (hn : 0 < σ.T.hs.n) (hs : bestR σ.f s) : skR s (swF σ.T.hs.n σ.f 4 0 none) := by
  obtain ⟨tr, r0, b0, n0, ht, rfl⟩ := hs
  have hok := okR_cp hI.ok ht
  rw [← swF_cg hok ht 4 0 none]
  refine fb_sw ⟨hok, fun j h1 h2 => ?_⟩ 4 0 _ none (by omega) rfl
  rw [ht j h2]
  rcases (hI.rowI hn).1 j h2 with q | q
  · exact q
  · omega
