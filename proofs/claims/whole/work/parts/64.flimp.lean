/-! How the class and the reference measure the streets -/
theorem ix49 {h g h' g' : Nat} (hg : g < 7) (hg' : g' < 7) : h * 7 + g = h' * 7 + g' ↔ h = h' ∧ g = g' := by omega
section FLCLS
theorem ms2_at {f : Nat → Int32} {h g : Nat} (hg : g < 7) : ∀ n, n ≤ 7 → ms2 n f (h * 7 + g) = if h = g ∧ h < n then 0 else f (h * 7 + g)
  | 0, _ => by rw [if_neg (by omega)]; rfl
  | n + 1, hn => by
    rw [ms2]
    by_cases e : h * 7 + g = n * 7 + n
    · rw [e, pk_us, if_pos (by omega)]
    · rw [pk_un e, ms2_at hg n (by omega)]
      by_cases c : h = g ∧ h < n
      · rw [if_pos c, if_pos (by omega)]
      · rw [if_neg c, if_neg (by omega)]
/-- the sooner through another house -/
def shU (first second before : Int32) : Int32 := if ¬ second = -2 ∧ (before = -2 ∨ first + second < before) then first + second else before
theorem sho_at {h t : Nat} {first : Int32} (hh : h < 7) (ht : t < 7) : ∀ n g (f : Nat → Int32), g + n = 7 → ∀ h' g', h' < 7 → g' < 7 → shoF h t first n g f (h' * 7 + g') = if h' = h ∧ g ≤ g' then shU first (f (t * 7 + g')) (f (h * 7 + g')) else f (h' * 7 + g')
  | 0, g, f, hg, h', g', hh', hg' => by rw [if_neg (by omega)]; rfl
  | n + 1, g, f, hg, h', g', hh', hg' => by
    have e : (if ¬ f (t * 7 + g) = -2 ∧ (f (h * 7 + g) = -2 ∨ first + f (t * 7 + g) < f (h * 7 + g)) then upd f (h * 7 + g) (first + f (t * 7 + g)) else f) = upd f (h * 7 + g) (shU first (f (t * 7 + g)) (f (h * 7 + g))) := by
      unfold shU
      split
      · rfl
      · funext q
        by_cases e : q = h * 7 + g
        · rw [e, pk_us]
        · rw [pk_un e]
    rw [shoF, e, sho_at hh ht n (g + 1) _ (by omega) h' g' hh' hg']
    by_cases c : h' = h ∧ g + 1 ≤ g'
    · rw [if_pos c, if_pos (by omega), pk_un (by omega), pk_un (by omega)]
    · rw [if_neg c]
      by_cases c2 : h' = h ∧ g' = g
      · rw [if_pos (by omega), c2.1, c2.2, pk_us]
      · rw [if_neg (by omega), pk_un (by omega)]
theorem shU_id (x : Int32) : shU 0 x x = x := by
  unfold shU
  rw [if_neg]
  rintro ⟨a, c | c⟩
  · exact a c
  · rw [Int32.zero_add] at c; exact Int32.lt_irrefl c
theorem sht_at {h t : Nat} (hh : h < 7) (ht : t < 7) (f : Nat → Int32) {h' g' : Nat} (hh' : h' < 7) (hg' : g' < 7) : shtF h t f (h' * 7 + g') = if h' = h ∧ ¬ f (h * 7 + t) = -2 then shU (f (h * 7 + t)) (f (t * 7 + g')) (f (h * 7 + g')) else f (h' * 7 + g') := by
  unfold shtF
  by_cases c : f (h * 7 + t) = -2
  · rw [if_pos c, if_neg (fun q => q.2 c)]
  · rw [if_neg c, sho_at hh ht 7 0 f rfl h' g' hh' hg']
    by_cases c2 : h' = h
    · rw [if_pos ⟨c2, by omega⟩, if_pos ⟨c2, c⟩]
    · rw [if_neg (fun q => c2 q.1), if_neg (fun q => c2 q.1)]
theorem ms3_at {t : Nat} (ht : t < 7) {f : Nat → Int32} (h0 : f (t * 7 + t) = 0) {h g : Nat} (hh : h < 7) (hg : g < 7) : ∀ n, n ≤ 7 → ms3 t n f (h * 7 + g) = if h < n ∧ ¬ f (h * 7 + t) = -2 then shU (f (h * 7 + t)) (f (t * 7 + g)) (f (h * 7 + g)) else f (h * 7 + g) := by
  have main : ∀ n, n ≤ 7 → ∀ h g, h < 7 → g < 7 → ms3 t n f (h * 7 + g) = if h < n ∧ ¬ f (h * 7 + t) = -2 then shU (f (h * 7 + t)) (f (t * 7 + g)) (f (h * 7 + g)) else f (h * 7 + g) := by
    intro n
    induction n with
    | zero => intro _ h g _ _; rw [if_neg (by omega)]; rfl
    | succ n ih =>
      intro hn h g hh hg
      have ih := ih (by omega)
      rw [ms3, sht_at (by omega) ht _ hh hg]
      have r1 : ms3 t n f (n * 7 + t) = f (n * 7 + t) := by rw [ih n t (by omega) ht, if_neg (by omega)]
      have r2 : ms3 t n f (t * 7 + g) = f (t * 7 + g) := by
        rw [ih t g ht hg]
        split
        · rw [h0, shU_id]
        · rfl
      have r3 : ms3 t n f (n * 7 + g) = f (n * 7 + g) := by rw [ih n g (by omega) hg, if_neg (by omega)]
      rw [r1, r2, r3, ih h g hh hg]
      by_cases c : h = n
      · subst c
        by_cases c2 : f (h * 7 + t) = -2
        · rw [if_neg (fun q => q.2 c2), if_neg (by omega), if_neg (fun q => q.2 c2)]
        · rw [if_pos ⟨rfl, c2⟩, if_pos ⟨by omega, c2⟩]
      · rw [if_neg (fun q => c q.1)]
        by_cases c3 : h < n ∧ ¬ f (h * 7 + t) = -2
        · rw [if_pos c3, if_pos ⟨by omega, c3.2⟩]
        · rw [if_neg c3, if_neg (fun q => c3 ⟨by omega, q.2⟩)]
  exact fun n hn => main n hn h g hh hg
theorem oI_n2 {x : Option Nat} (hx : ∀ k, x = some k → k < 2 ^ 30) : oI x = -2 ↔ x = none := by
  cases x with
  | none => exact ⟨fun _ => rfl, fun _ => rfl⟩
  | some k => exact ⟨fun q => absurd q (nI_n2 (by have := hx k rfl; omega)), fun q => by cases q⟩
theorem shU_o {x y z : Option Nat} (hx : ∀ k, x = some k → k < 2 ^ 28) (hy : ∀ k, y = some k → k < 2 ^ 28) (hz : ∀ k, z = some k → k < 2 ^ 28) : (if ¬ oI x = -2 then shU (oI x) (oI y) (oI z) else oI z) = oI (oMin z (oAdd x y)) := by
  cases x with
  | none =>
    rw [if_neg (fun q => q rfl)]
    cases z <;> rfl
  | some x =>
    have hx := hx x rfl
    rw [if_pos (nI_n2 (by omega))]
    unfold shU
    cases y with
    | none =>
      rw [if_neg (fun q => q.1 rfl)]
      cases z <;> rfl
    | some y =>
      have hy := hy y rfl
      show (if ¬ nI y = -2 ∧ (oI z = -2 ∨ nI x + nI y < oI z) then nI x + nI y else oI z) = _
      rw [nI_add]
      cases z with
      | none => rw [if_pos ⟨nI_n2 (by omega), Or.inl rfl⟩]; rfl
      | some z =>
        have hz := hz z rfl
        show (if ¬ nI y = -2 ∧ (nI z = -2 ∨ nI (x + y) < nI z) then nI (x + y) else nI z) = nI (min z (x + y))
        by_cases c : x + y < z
        · rw [if_pos ⟨nI_n2 (by omega), Or.inr (nI_lt c (by omega))⟩, Nat.min_eq_right (by omega)]
        · rw [if_neg (fun q => q.2.elim (nI_n2 (by omega)) (nI_nlt (by omega) (by omega))), Nat.min_eq_left (by omega)]
theorem miN_b {T : Tw} (ht : wfT T) : ∀ h g, h < 7 → g < 7 → miN T.ss.mi h g ≤ 99 := by
  intro h g hh hg
  obtain ⟨k, hk, ek⟩ := ht.2.2.2.2.2.1 (h * 7 + g) (by omega)
  unfold miN
  rw [ek, nI_clamp (by omega)]
  exact hk
theorem p7 {t : Nat} (h : t ≤ 7) : 99 * 2 ^ t ≤ 12672 := by
  have : 2 ^ t ≤ 2 ^ 7 := Nat.pow_le_pow_right (by omega) h
  omega
theorem fwD_28 {T : Tw} (ht : wfT T) {t h g : Nat} (htt : t ≤ 7) (hh : h < 7) (hg : g < 7) : ∀ k, fwD T.ss.mi t h g = some k → k ≤ 12672 := fun k q => Nat.le_trans (fwD_b (miN_b ht) t h g k hh hg htt q) (p7 htt)
theorem mes_fw {T : Tw} (ht : wfT T) {s0 : Nat → Int32} {h g : Nat} (hh : h < 7) (hg : g < 7) : mesF T.ss.mi s0 (h * 7 + g) = oI (fwD T.ss.mi 7 h g) := by
  have base : ∀ h g, h < 7 → g < 7 → ms2 7 (ms1 T.ss.mi 49 s0) (h * 7 + g) = oI (fwD T.ss.mi 0 h g) := by
    intro h g hh hg
    obtain ⟨k, hk, ek⟩ := ht.2.2.2.2.2.1 (h * 7 + g) (by omega)
    have e1 : miN T.ss.mi h g = k := by unfold miN; rw [ek, nI_clamp (by omega)]
    rw [ms2_at hg 7 (Nat.le_refl _), ms1_at _ _ 49 _ (by omega), fwD, e1, ek]
    by_cases c : h = g
    · rw [if_pos ⟨c, hh⟩, if_pos c]; rfl
    · rw [if_neg (fun q => c q.1), if_neg c]
      by_cases c2 : 0 < k
      · rw [if_pos c2, if_pos (show (0 : Int32) < nI k from nI_lt (a := 0) c2 (by omega))]
      · rw [if_neg c2, if_neg (show ¬ (0 : Int32) < nI k from nI_nlt (a := 0) (by omega) (by omega))]
  have main : ∀ t, t ≤ 7 → ∀ h g, h < 7 → g < 7 → ms4 t (ms2 7 (ms1 T.ss.mi 49 s0)) (h * 7 + g) = oI (fwD T.ss.mi t h g) := by
    intro t
    induction t with
    | zero => intro _; exact base
    | succ t ih =>
      intro htt h g hh hg
      have ih := ih (by omega)
      have z : ms4 t (ms2 7 (ms1 T.ss.mi 49 s0)) (t * 7 + t) = 0 := by rw [ih t t (by omega) (by omega), fwD_diag]; rfl
      rw [ms4, ms3_at (by omega) z hh hg 7 (Nat.le_refl _), ih h t hh (by omega), ih t g (by omega) hg, ih h g hh hg, fwD]
      rw [← shU_o (fun k q => by have := fwD_28 ht (by omega) hh (by omega) k q; omega) (fun k q => by have := fwD_28 ht (by omega) (by omega) hg k q; omega) (fun k q => by have := fwD_28 ht (by omega) hh hg k q; omega)]
      by_cases c : oI (fwD T.ss.mi t h t) = -2
      · rw [if_neg (fun q => q.2 c), if_neg (fun q => q c)]
      · rw [if_pos ⟨by omega, c⟩, if_pos c]
  exact main 7 (Nat.le_refl _) h g hh hg
end FLCLS
section FLREF
/-- the sooner through another house, as the reference has it -/
def flV (x y z : Int32) : Int32 := if x + y < z then x + y else z
theorem flS_u (a by' c : Nat) (f : Nat → Int32) : flS a by' c f = upd f (7 * a + c) (flV (f (7 * a + by')) (f (7 * by' + c)) (f (7 * a + c))) := by
  unfold flS flV
  split
  · rfl
  · funext q
    by_cases e : q = 7 * a + c
    · rw [e, pk_us]
    · rw [pk_un e]
theorem flB_at {a t : Nat} (ha : a < 7) (ht : t < 7) {f : Nat → Int32} (h0 : f (7 * t + t) = 0) (hx : ¬ f (7 * a + t) + 0 < f (7 * a + t)) : ∀ n, n ≤ 7 → ∀ a' c', a' < 7 → c' < 7 → flB a t n f (7 * a' + c') = if a' = a ∧ c' < n then flV (f (7 * a + t)) (f (7 * t + c')) (f (7 * a + c')) else f (7 * a' + c') := by
  intro n
  induction n with
  | zero => intro _ a' c' _ _; rw [if_neg (by omega)]; rfl
  | succ n ih =>
    intro hn a' c' ha' hc'
    have ih := ih (by omega)
    rw [flB, flS_u]
    have r1 : flB a t n f (7 * a + t) = f (7 * a + t) := by
      rw [ih a t ha ht]
      split
      · rw [h0]
        unfold flV
        rw [if_neg hx]
      · rfl
    have r3 : flB a t n f (7 * a + n) = f (7 * a + n) := by rw [ih a n ha (by omega), if_neg (by omega)]
    have r2 : flB a t n f (7 * t + n) = f (7 * t + n) := by
      rw [ih t n ht (by omega), if_neg (by omega)]
    rw [r1, r2, r3]
    by_cases e : 7 * a' + c' = 7 * a + n
    · rw [e, pk_us, if_pos (by omega), show c' = n by omega]
    · rw [pk_un e, ih a' c' ha' hc']
      by_cases c : a' = a ∧ c' < n
      · rw [if_pos c, if_pos (by omega)]
      · rw [if_neg c, if_neg (by omega)]
theorem flA_at {N t : Nat} (hN : N ≤ 7) (ht : t < N) {f : Nat → Int32} (h0 : f (7 * t + t) = 0) (hx : ∀ a, ¬ f (7 * a + t) + 0 < f (7 * a + t)) (hy : ∀ c, flV 0 (f (7 * t + c)) (f (7 * t + c)) = f (7 * t + c)) : ∀ n, n ≤ N → ∀ a' c', a' < 7 → c' < 7 → flA N t n f (7 * a' + c') = if a' < n ∧ c' < N then flV (f (7 * a' + t)) (f (7 * t + c')) (f (7 * a' + c')) else f (7 * a' + c') := by
  intro n
  induction n with
  | zero => intro _ a' c' _ _; rw [if_neg (by omega)]; rfl
  | succ n ih =>
    intro hn a' c' ha' hc'
    have ih := ih (by omega)
    rw [flA]
    have rt : ∀ c, c < 7 → flA N t n f (7 * t + c) = f (7 * t + c) := by
      intro c hc
      rw [ih t c (by omega) hc]
      split
      · rw [h0, hy]
      · rfl
    have rn : ∀ c, c < 7 → flA N t n f (7 * n + c) = f (7 * n + c) := by
      intro c hc
      rw [ih n c (by omega) hc, if_neg (by omega)]
    rw [flB_at (by omega) (by omega) (by rw [rt t (by omega)]; exact h0) (by rw [rn t (by omega)]; exact hx n) N hN a' c' ha' hc']
    rw [rn t (by omega), rt c' hc', rn c' hc', ih a' c' ha' hc']
    by_cases c : a' = n ∧ c' < N
    · rw [if_pos c, if_pos (by omega), c.1]
    · rw [if_neg c]
      by_cases c2 : a' < n ∧ c' < N
      · rw [if_pos c2, if_pos (by omega)]
      · rw [if_neg c2, if_neg (by omega)]
theorem flV_o {x y z : Option Nat} (hx : ∀ k, x = some k → k ≤ 12672) (hy : ∀ k, y = some k → k ≤ 12672) (hz : ∀ k, z = some k → k ≤ 12672) : flV (nI (x.getD 99999)) (nI (y.getD 99999)) (nI (z.getD 99999)) = nI ((oMin z (oAdd x y)).getD 99999) := by
  have bx : x.getD 99999 ≤ 99999 := by cases x with | none => exact Nat.le_refl _ | some k => have := hx k rfl; show k ≤ 99999; omega
  have by' : y.getD 99999 ≤ 99999 := by cases y with | none => exact Nat.le_refl _ | some k => have := hy k rfl; show k ≤ 99999; omega
  have bz : z.getD 99999 ≤ 99999 := by cases z with | none => exact Nat.le_refl _ | some k => have := hz k rfl; show k ≤ 99999; omega
  unfold flV
  rw [nI_add]
  have key : (oMin z (oAdd x y)).getD 99999 = if x.getD 99999 + y.getD 99999 < z.getD 99999 then x.getD 99999 + y.getD 99999 else z.getD 99999 := by
    cases x with
    | none =>
      rw [if_neg (by show ¬ 99999 + y.getD 99999 < z.getD 99999; omega)]
      cases z <;> rfl
    | some x =>
      cases y with
      | none =>
        rw [if_neg (by show ¬ x + 99999 < z.getD 99999; omega)]
        cases z <;> rfl
      | some y =>
        have := hx x rfl
        have := hy y rfl
        cases z with
        | none => rw [if_pos (by show x + y < 99999; omega)]; rfl
        | some z =>
          show min z (x + y) = if x + y < z then x + y else z
          split <;> omega
  rw [key]
  by_cases c : x.getD 99999 + y.getD 99999 < z.getD 99999
  · rw [if_pos c, if_pos (nI_lt c (by omega))]
  · rw [if_neg c, if_neg (nI_nlt (by omega) (by omega))]
theorem far_fw {T : Tw} (ht : wfT T) (hz : ∀ h g, h < 7 → g < 7 → 0 < miN T.ss.mi h g → h < T.hs.n ∧ g < T.hs.n) {fa : Nat → Int32} (hfa : farR fa T) {h g : Nat} (hh : h < T.hs.n) (hg : g < T.hs.n) : fa (7 * h + g) = nI ((fwD T.ss.mi 7 h g).getD 99999) := by
  have hN := ht.2.2.2.1
  obtain ⟨f, hf, rfl⟩ := hfa
  have main : ∀ t, t ≤ T.hs.n → ∀ h g, h < 7 → g < 7 → flY T.hs.n t f (7 * h + g) = nI ((fwD T.ss.mi t h g).getD 99999) := by
    intro t
    induction t with
    | zero =>
      intro _ h g hh hg
      obtain ⟨k, hk, ek⟩ := ht.2.2.2.2.2.1 (h * 7 + g) (by omega)
      have e1 : miN T.ss.mi h g = k := by unfold miN; rw [ek, nI_clamp (by omega)]
      rw [flY, hf _ (by omega), fwD, e1]
      unfold fl0
      rw [show (7 * h + g) / 7 = h by omega, show (7 * h + g) % 7 = g by omega, show 7 * h + g = h * 7 + g by omega, ek]
      by_cases c : h = g
      · rw [if_pos c, if_pos c]; rfl
      · rw [if_neg c, if_neg c]
        by_cases c2 : 0 < k
        · rw [if_pos c2, if_pos (show (0 : Int32) < nI k from nI_lt (a := 0) c2 (by omega))]; rfl
        · rw [if_neg c2, if_neg (show ¬ (0 : Int32) < nI k from nI_nlt (a := 0) (by omega) (by omega))]; rfl
    | succ t ih =>
      intro htt h g hh hg
      have ih := ih (by omega)
      have tb : ∀ h g, h < 7 → g < 7 → (fwD T.ss.mi t h g).getD 99999 ≤ 99999 := by
        intro h g hh hg
        cases q : fwD T.ss.mi t h g with
        | none => exact Nat.le_refl _
        | some k => have := fwD_28 ht (by omega) hh hg k q; show k ≤ 99999; omega
      rw [flY]
      by_cases c : h < T.hs.n ∧ g < T.hs.n
      · have e := flA_at (f := flY T.hs.n t f) hN (show t < T.hs.n by omega) (by rw [ih t t (by omega) (by omega), fwD_diag]; rfl) (fun a => by rw [Int32.add_zero]; exact fun q => Int32.lt_irrefl q) (fun q => by unfold flV; rw [Int32.zero_add, if_neg (fun q => Int32.lt_irrefl q)]) T.hs.n (Nat.le_refl _) h g hh hg
        rw [e, if_pos c, ih h t hh (by omega), ih t g (by omega) hg, ih h g hh hg, fwD]
        exact flV_o (fun k q => fwD_28 ht (by omega) hh (by omega) k q) (fun k q => fwD_28 ht (by omega) (by omega) hg k q) (fun k q => fwD_28 ht (by omega) hh hg k q)
      · have e := flA_at (f := flY T.hs.n t f) hN (show t < T.hs.n by omega) (by rw [ih t t (by omega) (by omega), fwD_diag]; rfl) (fun a => by rw [Int32.add_zero]; exact fun q => Int32.lt_irrefl q) (fun q => by unfold flV; rw [Int32.zero_add, if_neg (fun q => Int32.lt_irrefl q)]) T.hs.n (Nat.le_refl _) h g hh hg
        rw [e, if_neg c, ih h g hh hg, fwD]
        have en : oAdd (fwD T.ss.mi t h t) (fwD T.ss.mi t t g) = none := by
          by_cases q1 : fwD T.ss.mi t h t = none
          · rw [q1]; rfl
          · by_cases q2 : fwD T.ss.mi t t g = none
            · rw [q2]; cases fwD T.ss.mi t h t <;> rfl
            · have c1 := fwD_N hz t h t hh (by omega) (by omega) q1
              have c2 := fwD_N hz t t g (by omega) hg (by omega) q2
              omega
        rw [en]
        cases fwD T.ss.mi t h g <;> rfl
  rw [main T.hs.n (Nat.le_refl _) h g (by omega) (by omega)]
  have := fwD_stop hz hh hg hN (7 - T.hs.n) (by omega)
  rw [show T.hs.n + (7 - T.hs.n) = 7 by omega] at this
  rw [this]
end FLREF
