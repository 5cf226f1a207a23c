/-! Ways: what both searches find -/
theorem ix8 (k : Nat) : (8 : Int32) + nI k = nI (8 + k) := nI_add 8 k
theorem ix12 (k : Nat) : (12 : Int32) + nI k = nI (12 + k) := nI_add 12 k
theorem n7 : (7 : Int32) = nI 7 := rfl
theorem n0 : (0 : Int32) = nI 0 := rfl
theorem n1 : (1 : Int32) = nI 1 := rfl
theorem eanE {ad : Nat → Nat} {d : Nat} {rows : List (Nat × Ins)} {P : Option Value → Mm → Prop} {pc : Nat} {L : Lc} {st : List Value} {M : Mm} {t nx a n j : Nat} {f : Nat → Int32} {i : Int32} (hr : rows.find? (fun q => q.1 == pc) = some (pc, pmW (fAld t nx))) (hM : M.1 a = some (.inl (t, n, .inl f))) (hi : i = nI j) (hj : j < n) (hn : Nat.ble n 2000000 = true) (kk : Ev ad d rows (nx, L, .int (f j) :: st, M) P) : Ev ad d rows (pc, L, .int i :: .ref a :: st, M) P := by
  rw [hi]
  exact ean hr hM hj hn kk
def oMin : Option Nat → Option Nat → Option Nat
  | none, y => y
  | some x, none => some x
  | some x, some y => some (min x y)
def uwN (T : Tw) (h m : Nat) : Nat := (untF T.hs.fr T.hs.tt h m).toNatClampNeg
/-- the minute at the next house; with doors, or by streets alone -/
def tauF (T : Tw) (f : Nat → Int32) (ds : Bool) (h g m : Nat) : Option Nat :=
  oMin (if 0 < T.ss.mi (h * 7 + g) then some (m + (T.ss.mi (h * 7 + g)).toNatClampNeg) else none) (if ds = true ∧ f h = nI g ∧ ¬ shutI (f 7) h = 1 then some (m + uwN T h m + T.dr) else none)
theorem uwN_n {T : Tw} (ht : wfT T) {h m : Nat} (hh : h < 7) : uwN T h m ≤ 3000 ∧ untF T.hs.fr T.hs.tt h m = nI (uwN T h m) := by
  obtain ⟨u, h1, h2⟩ := untF_n ht (m := m) hh
  unfold uwN
  rw [h2, nI_clamp (by omega)]
  exact ⟨h1, rfl⟩
theorem oMin_or {x y : Option Nat} {z : Nat} (h : oMin x y = some z) : x = some z ∨ y = some z := by
  cases x with
  | none => exact Or.inr h
  | some x =>
    cases y with
    | none => exact Or.inl h
    | some y =>
      injection h with h
      rcases Nat.le_total x y with q | q
      · rw [Nat.min_eq_left q] at h; exact Or.inl (by rw [h])
      · rw [Nat.min_eq_right q] at h; exact Or.inr (by rw [h])
theorem tau_b {T : Tw} (ht : wfT T) {f : Nat → Int32} {ds : Bool} {h g m m' : Nat} (hh : h < 7) (hg : g < 7) (e : tauF T f ds h g m = some m') : m ≤ m' ∧ m' ≤ m + 4000 := by
  have hd := ht.2.1
  have hu := (uwN_n ht (m := m) hh).1
  obtain ⟨k, hk, ek⟩ := ht.2.2.2.2.2.1 (h * 7 + g) (by omega)
  rcases oMin_or e with q | q
  · rw [ek] at q
    split at q
    · injection q with q
      rw [nI_clamp (by omega)] at q
      omega
    · cases q
  · split at q
    · injection q with q
      omega
    · cases q
theorem tau_mt {T : Tw} (ht : wfT T) {f : Nat → Int32} {h g m : Nat} (hh : h < 7) (hg : g < 7) (hm : m < 2 ^ 29) : mtF T f h g m = oI (tauF T f true h g m) := by
  have hd := ht.2.1
  obtain ⟨hu, eu⟩ := uwN_n ht (m := m) hh
  obtain ⟨k, hk, ek⟩ := ht.2.2.2.2.2.1 (h * 7 + g) (by omega)
  unfold mtF tauF
  rw [ek, eu, nI_clamp (by omega), nI_add, nI_add, nI_add]
  have c1 : (f h = nI g ∧ (¬ f h = -2 ∧ ¬ shutI (f 7) h = 1)) ↔ (true = true ∧ f h = nI g ∧ ¬ shutI (f 7) h = 1) := by
    constructor
    · rintro ⟨a, _, c⟩; exact ⟨rfl, a, c⟩
    · rintro ⟨_, a, c⟩; exact ⟨a, by rw [a]; exact nI_n2 (by omega), c⟩
  dsimp only
  by_cases q1 : (0 : Int32) < nI k
  · rw [if_pos q1, if_pos q1]
    by_cases q2 : f h = nI g ∧ (¬ f h = -2 ∧ ¬ shutI (f 7) h = 1)
    · rw [if_pos q2, if_pos (c1.mp q2), if_neg (nI_n2 (by omega))]
      show minF (nI (m + k)) (nI (m + uwN T h m + T.dr)) = nI (min (m + k) (m + uwN T h m + T.dr))
      unfold minF
      by_cases q3 : m + uwN T h m + T.dr < m + k
      · rw [if_pos (nI_lt q3 (by omega)), Nat.min_eq_right (by omega)]
      · rw [if_neg (nI_nlt (by omega) (by omega)), Nat.min_eq_left (by omega)]
    · rw [if_neg q2, if_neg (fun z => q2 (c1.mpr z))]
      rfl
  · rw [if_neg q1, if_neg q1]
    by_cases q2 : f h = nI g ∧ (¬ f h = -2 ∧ ¬ shutI (f 7) h = 1)
    · rw [if_pos q2, if_pos (c1.mp q2), if_pos rfl]
      rfl
    · rw [if_neg q2, if_neg (fun z => q2 (c1.mpr z))]
      rfl
abbrev Ac : Type := Option (Nat × List Nat)
def acU (m : Nat) (p : List Nat) : Ac → Ac
  | none => some (m, p.reverse)
  | some (t, q) => if m < t then some (m, p.reverse) else some (t, q)
def lqF (rc : List Nat → Nat → Nat → Ac → Ac) (τ : Nat → Nat → Nat → Option Nat) (p : List Nat) (h m : Nat) : Nat → Nat → Ac → Ac
  | 0, _, a => a
  | c + 1, g, a => lqF rc τ p h m c (g + 1) (if g ∈ p then a else match τ h g m with
    | some m' => rc (g :: p) g m' a
    | none => a)
/-- the search without shortcuts: rows in their order, the first of the soonest stays -/
def dfB (τ : Nat → Nat → Nat → Option Nat) (N go : Nat) : Nat → List Nat → Nat → Nat → Ac → Ac
  | 0, _, _, _, a => a
  | n + 1, p, h, m, a => if h = go then acU m p a else lqF (dfB τ N go n) τ p h m N 0 a
theorem lq_id {rc : List Nat → Nat → Nat → Ac → Ac} {τ : Nat → Nat → Nat → Option Nat} {p : List Nat} {h m t N : Nat} {q : List Nat} (hτ : ∀ g m', g < N → τ h g m = some m' → m ≤ m') (ht : t ≤ m) (hr : ∀ p g m, g < N → t ≤ m → rc p g m (some (t, q)) = some (t, q)) : ∀ c g, g + c = N → lqF rc τ p h m c g (some (t, q)) = some (t, q)
  | 0, g, _ => rfl
  | c + 1, g, hg => by
    rw [lqF]
    have e : (if g ∈ p then some (t, q) else match τ h g m with
      | some m' => rc (g :: p) g m' (some (t, q))
      | none => some (t, q)) = some (t, q) := by
      split
      · rfl
      · split
        · rename_i m' hm'
          exact hr _ _ _ (by omega) (Nat.le_trans ht (hτ g m' (by omega) hm'))
        · rfl
    rw [e]
    exact lq_id hτ ht hr c (g + 1) (by omega)
theorem df_id {τ : Nat → Nat → Nat → Option Nat} {N go : Nat} (hτ : ∀ h g m m', h < N → g < N → τ h g m = some m' → m ≤ m') {t : Nat} {q : List Nat} : ∀ n p h m, h < N → t ≤ m → dfB τ N go n p h m (some (t, q)) = some (t, q)
  | 0, p, h, m, _, _ => rfl
  | n + 1, p, h, m, hh, ht => by
    rw [dfB]
    split
    · rw [acU, if_neg (by omega)]
    · exact lq_id (fun g m' hg e => hτ h g m m' hh hg e) ht (fun p g m hg hm => df_id hτ n p g m hg hm) N 0 (by omega)
/-! The class's search -/
theorem shutI_0 : ∀ k, k < 128 → ∀ j, j < 7 → (shutI (nI k) j = 0 ↔ k.testBit j = false) := by decide +kernel
def bnR (bn : Int32) (p : List Nat) : Prop := ∃ s, s < 128 ∧ bn = nI s ∧ ∀ g, g < 7 → (s.testBit g = true ↔ g ∈ p)
theorem bnR.in {bn : Int32} {p : List Nat} (h : bnR bn p) {g : Nat} (hg : g < 7) : shutI bn g = 0 ↔ g ∉ p := by
  obtain ⟨s, h1, rfl, h2⟩ := h
  rw [shutI_0 s h1 g hg, ← h2 g hg]
  simp
theorem bnR.in1 {bn : Int32} {p : List Nat} (h : bnR bn p) {g : Nat} (hg : g < 7) : shutI bn g = 1 ↔ g ∈ p := by
  obtain ⟨s, h1, rfl, h2⟩ := h
  rw [shutI_bit s h1 g hg, ← h2 g hg]
theorem bnR.or {bn : Int32} {p : List Nat} (h : bnR bn p) {k : Nat} (hk : k < 7) : bnR (bn ||| ((1 : Int32) <<< (nI k &&& 31))) (k :: p) := by
  obtain ⟨s, h1, rfl, h2⟩ := h
  refine ⟨s ||| 2 ^ k, Nat.or_lt_two_pow (n := 7) h1 (Nat.pow_lt_pow_right (by omega) hk), by rw [shl_n k (by omega), fmx_or], fun g hg => ?_⟩
  rw [Nat.testBit_or, Bool.or_eq_true, h2 g hg, List.mem_cons]
  by_cases e : g = k
  · subst e
    simp [Nat.testBit_two_pow_self]
  · rw [Nat.testBit_two_pow_of_ne (fun q => e q.symm)]
    simp [e]
theorem bnR.xor {bn : Int32} {p : List Nat} {k : Nat} (h : bnR bn (k :: p)) (hk : k < 7) (hp : k ∉ p) : bnR (bn ^^^ ((1 : Int32) <<< (nI k &&& 31))) p := by
  obtain ⟨s, h1, rfl, h2⟩ := h
  refine ⟨s ^^^ 2 ^ k, Nat.xor_lt_two_pow (n := 7) h1 (Nat.pow_lt_pow_right (by omega) hk), by rw [shl_n k (by omega), fmx_xor], fun g hg => ?_⟩
  rw [Nat.testBit_xor]
  have h3 := h2 g hg
  rw [List.mem_cons] at h3
  by_cases e : g = k
  · subst e
    rw [Nat.testBit_two_pow_self, h3.mpr (Or.inl rfl)]
    simp [hp]
  · rw [Nat.testBit_two_pow_of_ne (fun q => e q.symm), Bool.xor_false, h3]
    simp [e]
def wkR (wk : Nat → Int32) (p : List Nat) : Prop := ∀ i x, p.reverse[i]? = some x → wk i = nI x
theorem wkR.push {wk : Nat → Int32} {p : List Nat} (h : wkR wk p) (x : Nat) : wkR (upd wk p.length (nI x)) (x :: p) := by
  intro i y e
  rw [List.reverse_cons] at e
  rcases Nat.lt_or_ge i p.length with q | q
  · rw [List.getElem?_append_left (by rw [List.length_reverse]; exact q)] at e
    rw [pk_un (by omega)]
    exact h i y e
  · rw [List.getElem?_append_right (by rw [List.length_reverse]; exact q), List.length_reverse] at e
    have h0 : i - p.length = 0 := by have := (List.getElem?_eq_some_iff.mp e).1; rw [List.length_singleton] at this; omega
    rw [h0] at e
    injection e with e
    rw [show i = p.length by omega, pk_us, e]
theorem wkR.pop {wk : Nat → Int32} {p : List Nat} {x : Nat} (h : wkR wk (x :: p)) : wkR wk p := by
  intro i y e
  refine h i y ?_
  rw [List.reverse_cons, List.getElem?_append_left (List.getElem?_eq_some_iff.mp e).1]
  exact e
def wyR (go : Nat) (w : Wy) (a : Ac) : Prop := match a with
  | none => w.tm go = -2 ∧ w.bh = 0
  | some (t, q) => w.bg ≤ t ∧ t < 2 ^ 30 ∧ w.tm go = nI (t - w.bg) ∧ w.bh = q.length ∧ ∀ i x, q[i]? = some x → w.bs i = nI x
/-- what stays the same, and what the search has found -/
def wyS (go : Nat) (gl : Int32) (bg : Nat) (p : List Nat) (w : Wy) (a : Ac) : Prop := wyR go w a ∧ bnR w.bn p ∧ wkR w.wk p ∧ w.gl = gl ∧ w.bg = bg
section STPD
variable {T : Tw} {f : Nat → Int32} {go bg : Nat}
theorem lp_lq {n : Nat} {p : List Nat} {h m : Nat} (ht : wfT T) (hm : m + 4000 * (n + 1) < 2 ^ 29) (hbg : bg ≤ m) (hh : h < 7) (hn7 : T.hs.n ≤ 7)
    (ih : ∀ p w h m a, wyS go (nI go) bg p w a → p.length + n = 7 → h < T.hs.n → h ∉ p → bg ≤ m → m + 4000 * n < 2 ^ 29 → wyS go (nI go) bg p (stpF T f n w h m) (dfB (tauF T f true) T.hs.n go n (h :: p) h m a)) (hl : (h :: p).length + n = 7) : ∀ c g w a, g + c = T.hs.n → wyS go (nI go) bg (h :: p) w a → wyS go (nI go) bg (h :: p) (lpF (stpF T f n) T f h m c g w) (lqF (dfB (tauF T f true) T.hs.n go n) (tauF T f true) (h :: p) h m c g a)
  | 0, g, w, a, _, hw => hw
  | c + 1, g, w, a, hg, hw => by
    rw [lpF, lqF]
    refine lp_lq ht hm hbg hh hn7 ih hl c (g + 1) _ _ (by omega) ?_
    have hg7 : g < 7 := by omega
    have e1 := hw.2.1.in hg7
    have e2 := tau_mt ht (f := f) (h := h) (g := g) (m := m) hh hg7 (by omega)
    by_cases q1 : g ∈ h :: p
    · rw [if_neg (fun z => (e1.mp z.1) q1), if_pos q1]
      exact hw
    · rw [if_neg q1]
      cases e3 : tauF T f true h g m with
      | none =>
        rw [e3] at e2
        rw [if_neg (fun z => z.2 e2)]
        exact hw
      | some m' =>
        rw [e3] at e2
        have hb := tau_b ht hh hg7 e3
        rw [if_pos ⟨e1.mpr q1, by rw [e2]; exact nI_n2 (by omega)⟩, e2, show (oI (some m')).toNatClampNeg = m' from nI_clamp (by omega)]
        exact ih (h :: p) w g m' a hw hl (by omega) q1 (by omega) (by omega)
theorem stp_df (ht : wfT T) (hgo : go < 7) (hn7 : T.hs.n ≤ 7) : ∀ n p w h m a, wyS go (nI go) bg p w a → p.length + n = 7 → h < T.hs.n → h ∉ p → bg ≤ m → m + 4000 * n < 2 ^ 29 → wyS go (nI go) bg p (stpF T f n w h m) (dfB (tauF T f true) T.hs.n go n (h :: p) h m a) := by
  intro n
  induction n with
  | zero => intro p w h m a hw _ _ _ _ _; exact hw
  | succ n ih =>
    intro p w h m a hw hl hhn hp hbg hm
    obtain ⟨hR, hbn, hwk, hgl, ebg⟩ := id hw
    have hh : h < 7 := by omega
    have egz : ¬ (nI go : Int32) = -1 := nI_n1 (by omega)
    have ecl : (nI go).toNatClampNeg = go := nI_clamp (by omega)
    have ez : nI m - nI bg = nI (m - bg) := pk_sub hbg
    have ehg : nI h = nI go ↔ h = go := nI_eq (by omega) (by omega)
    rw [stpF, dfB]
    try dsimp only
    by_cases hlate : lateP w m
    · rw [if_pos hlate]
      obtain ⟨_, l2, l3⟩ := hlate
      rw [hgl, ecl] at l2 l3
      cases a with
      | none => exact absurd hR.1 l2
      | some tq =>
        obtain ⟨t, q⟩ := tq
        obtain ⟨r1, r2, r3, r4, r5⟩ := hR
        rw [r3, ebg, ez] at l3
        have hle := (nI_leI (by omega) (by omega)).mp l3
        have e := df_id (τ := tauF T f true) (N := T.hs.n) (go := go) (fun h g m m' h1 h2 e => (tau_b ht (f := f) (ds := true) (by omega) (by omega) e).1) (t := t) (q := q) (n + 1) (h :: p) h m hhn (by omega)
        rw [dfB] at e
        rw [e]
        exact hw
    · rw [if_neg hlate, hgl, ebg, ez]
      have hpl : 6 - n = p.length := by omega
      have h7n : 7 - n = (h :: p).length := by rw [List.length_cons]; omega
      rw [hpl, h7n]
      have hwk1 := hwk.push h
      by_cases e : h = go
      · rw [if_pos (ehg.mpr e), if_pos e]
        have hup : ¬ (¬ w.tm h = -2 ∧ w.tm h ≤ nI (m - bg)) := by
          intro q
          refine hlate ⟨by rw [hgl]; exact egz, ?_, ?_⟩
          · rw [hgl, ecl, ← e]; exact q.1
          · rw [hgl, ecl, ← e, ebg, ez]; exact q.2
        unfold arrF
        try dsimp only
        rw [if_neg hup, if_pos (ehg.mpr e)]
        have hac : acU m (h :: p) a = some (m, (h :: p).reverse) := by
          cases a with
          | none => rfl
          | some tq =>
            obtain ⟨t, q⟩ := tq
            obtain ⟨r1, r2, r3, r4, r5⟩ := hR
            rw [acU, if_pos]
            rcases Nat.lt_or_ge m t with q | q
            · exact q
            · refine absurd ⟨?_, ?_⟩ hup
              · rw [e, r3]; exact nI_n2 (by omega)
              · rw [e, r3, ebg]; exact nI_le (by omega) (by omega)
        rw [hac]
        refine ⟨⟨by show bg ≤ m; exact hbg, by omega, ?_, by rw [List.length_reverse], fun i x ei => ?_⟩, hbn, hwk1.pop, rfl, rfl⟩
        · show upd w.tm h (nI (m - bg)) go = nI (m - bg)
          rw [e, pk_us]
        · have hi : i < (h :: p).length := by have := (List.getElem?_eq_some_iff.mp ei).1; rw [List.length_reverse] at this; exact this
          show va_cpy (upd w.wk p.length (nI h)) w.bs 0 0 (h :: p).length i = nI x
          rw [cpy_in (by omega) (by omega), show 0 + (i - 0) = i by omega]
          exact hwk1 i x ei
      · rw [if_neg (fun z => e (ehg.mp z)), if_neg e]
        generalize hw2 : arrF (w.tm, upd w.wk p.length (nI h), w.bs, w.bh, w.bn, nI go, bg) h (nI (m - bg)) (h :: p).length = w2
        have h2 : w2.tm go = w.tm go ∧ w2.wk = upd w.wk p.length (nI h) ∧ w2.bs = w.bs ∧ w2.bh = w.bh ∧ w2.bn = w.bn ∧ w2.gl = nI go ∧ w2.bg = bg := by
          rw [← hw2]
          unfold arrF
          try dsimp only
          split
          · exact ⟨rfl, rfl, rfl, rfl, rfl, rfl, rfl⟩
          · rw [if_neg (fun z => e (ehg.mp z))]
            exact ⟨pk_un (fun z => e z.symm), rfl, rfl, rfl, rfl, rfl, rfl⟩
        obtain ⟨z1, z2, z3, z4, z5, z6, z7⟩ := h2
        have hw3 : wyS go (nI go) bg (h :: p) (w2.tm, w2.wk, w2.bs, w2.bh, w2.bn ||| ((1 : Int32) <<< (nI h &&& 31)), w2.gl, w2.bg) a := by
          refine ⟨?_, ?_, ?_, z6, z7⟩
          · cases a with
            | none => exact ⟨z1.trans hR.1, z4.trans hR.2⟩
            | some tq =>
              obtain ⟨t, q⟩ := tq
              obtain ⟨r1, r2, r3, r4, r5⟩ := hR
              exact ⟨by show w2.bg ≤ t; rw [z7, ← ebg]; exact r1, r2, by show w2.tm go = nI (t - w2.bg); rw [z1, z7, ← ebg]; exact r3, z4.trans r4, fun i x ei => by show w2.bs i = nI x; rw [z3]; exact r5 i x ei⟩
          · show bnR (w2.bn ||| _) _
            rw [z5]
            exact hbn.or hh
          · show wkR w2.wk _
            rw [z2]
            exact hwk1
        have hL := lp_lq (f := f) (go := go) (p := p) ht hm hbg hh hn7 ih (by rw [List.length_cons]; omega) T.hs.n 0 _ a (by omega) hw3
        obtain ⟨k1, k2, k3, k4, k5⟩ := hL
        exact ⟨k1, k2.xor hh hp, k3.pop, k4, k5⟩
/-! all houses at once -/
def tmR (go : Nat) (w : Wy) (a : Ac) : Prop := match a with
  | none => w.tm go = -2
  | some (t, _) => w.bg ≤ t ∧ t < 2 ^ 30 ∧ w.tm go = nI (t - w.bg)
def wyF (go : Nat) (bg : Nat) (p : List Nat) (w : Wy) (a : Ac) : Prop := (go ∉ p → tmR go w a) ∧ bnR w.bn p ∧ w.gl = -1 ∧ w.bg = bg
theorem lp_lf {n : Nat} {p : List Nat} {h m : Nat} (ht : wfT T) (hm : m + 4000 * (n + 1) < 2 ^ 29) (hbg : bg ≤ m) (hh : h < 7) (hn7 : T.hs.n ≤ 7)
    (ih : ∀ p w h m a, wyF go bg p w a → p.length + n = 7 → h < T.hs.n → h ∉ p → bg ≤ m → m + 4000 * n < 2 ^ 29 → wyF go bg p (stpF T f n w h m) (dfB (tauF T f true) T.hs.n go n (h :: p) h m a) ∧ (go ∈ p → (stpF T f n w h m).tm go = w.tm go)) (hl : (h :: p).length + n = 7) : ∀ c g w a, g + c = T.hs.n → wyF go bg (h :: p) w a → wyF go bg (h :: p) (lpF (stpF T f n) T f h m c g w) (lqF (dfB (tauF T f true) T.hs.n go n) (tauF T f true) (h :: p) h m c g a) ∧ (go ∈ h :: p → (lpF (stpF T f n) T f h m c g w).tm go = w.tm go)
  | 0, g, w, a, _, hw => ⟨hw, fun _ => rfl⟩
  | c + 1, g, w, a, hg, hw => by
    rw [lpF, lqF]
    have hg7 : g < 7 := by omega
    have e1 := hw.2.1.in hg7
    have e2 := tau_mt ht (f := f) (h := h) (g := g) (m := m) hh hg7 (by omega)
    by_cases q1 : g ∈ h :: p
    · rw [if_neg (fun z => (e1.mp z.1) q1), if_pos q1]
      exact lp_lf ht hm hbg hh hn7 ih hl c (g + 1) _ _ (by omega) hw
    · rw [if_neg q1]
      cases e3 : tauF T f true h g m with
      | none =>
        rw [e3] at e2
        rw [if_neg (fun z => z.2 e2)]
        exact lp_lf ht hm hbg hh hn7 ih hl c (g + 1) _ _ (by omega) hw
      | some m' =>
        rw [e3] at e2
        have hb := tau_b ht hh hg7 e3
        rw [if_pos ⟨e1.mpr q1, by rw [e2]; exact nI_n2 (by omega)⟩, e2, show (oI (some m')).toNatClampNeg = m' from nI_clamp (by omega)]
        obtain ⟨i1, i2⟩ := ih (h :: p) w g m' a hw hl (by omega) q1 (by omega) (by omega)
        obtain ⟨j1, j2⟩ := lp_lf ht hm hbg hh hn7 ih hl c (g + 1) _ _ (by omega) i1
        exact ⟨j1, fun q => (j2 q).trans (i2 q)⟩
theorem stp_far (ht : wfT T) (hgo : go < 7) (hn7 : T.hs.n ≤ 7) : ∀ n p w h m a, wyF go bg p w a → p.length + n = 7 → h < T.hs.n → h ∉ p → bg ≤ m → m + 4000 * n < 2 ^ 29 → wyF go bg p (stpF T f n w h m) (dfB (tauF T f true) T.hs.n go n (h :: p) h m a) ∧ (go ∈ p → (stpF T f n w h m).tm go = w.tm go) := by
  intro n
  induction n with
  | zero => intro p w h m a hw _ _ _ _ _; exact ⟨hw, fun _ => rfl⟩
  | succ n ih =>
    intro p w h m a hw hl hhn hp hbg hm
    obtain ⟨hR, hbn, hgl, ebg⟩ := id hw
    have hh : h < 7 := by omega
    have ez : nI m - nI bg = nI (m - bg) := pk_sub hbg
    have hlate : ¬ lateP w m := fun q => q.1 hgl
    have eh1 : ¬ nI h = (-1 : Int32) := nI_n1 (by omega)
    rw [stpF]
    try dsimp only
    rw [if_neg hlate, hgl, ebg, ez, if_neg eh1]
    generalize hw2 : arrF (w.tm, upd w.wk (6 - n) (nI h), w.bs, w.bh, w.bn, -1, bg) h (nI (m - bg)) (7 - n) = w2
    have h2 : w2.tm = (if ¬ w.tm h = -2 ∧ w.tm h ≤ nI (m - bg) then w.tm else upd w.tm h (nI (m - bg))) ∧ w2.bn = w.bn ∧ w2.gl = -1 ∧ w2.bg = bg := by
      rw [← hw2]
      unfold arrF
      by_cases q : ¬ w.tm h = -2 ∧ w.tm h ≤ nI (m - bg)
      · rw [if_pos q, if_pos q]
        exact ⟨rfl, rfl, rfl, rfl⟩
      · rw [if_neg q, if_neg q, if_neg eh1]
        exact ⟨rfl, rfl, rfl, rfl⟩
    obtain ⟨z1, z5, z6, z7⟩ := h2
    have hne : ¬ h = go → w2.tm go = w.tm go := by
      intro e
      rw [z1]
      split
      · rfl
      · exact pk_un (fun z => e z.symm)
    have hw3 : wyF go bg (h :: p) (w2.tm, w2.wk, w2.bs, w2.bh, w2.bn ||| ((1 : Int32) <<< (nI h &&& 31)), w2.gl, w2.bg) a := by
      refine ⟨fun q => ?_, ?_, z6, z7⟩
      · have q1 : ¬ h = go := fun z => q (by rw [z]; exact List.mem_cons_self)
        have q2 : go ∉ p := fun z => q (List.mem_cons_of_mem _ z)
        have hr := hR q2
        cases a with
        | none => exact (hne q1).trans hr
        | some tq =>
          obtain ⟨t, q'⟩ := tq
          obtain ⟨r1, r2, r3⟩ := hr
          exact ⟨by show w2.bg ≤ t; rw [z7, ← ebg]; exact r1, r2, by show w2.tm go = nI (t - w2.bg); rw [hne q1, z7, ← ebg]; exact r3⟩
      · show bnR (w2.bn ||| _) _
        rw [z5]
        exact hbn.or hh
    obtain ⟨hL, hK⟩ := lp_lf (f := f) (go := go) (p := p) ht hm hbg hh hn7 ih (by rw [List.length_cons]; omega) T.hs.n 0 _ a (by omega) hw3
    obtain ⟨k1, k2, k4, k5⟩ := hL
    refine ⟨⟨fun q => ?_, k2.xor hh hp, k4, k5⟩, fun q => ?_⟩
    · rw [dfB]
      by_cases e : h = go
      · rw [if_pos e]
        have hr := hR q
        have hkeep := hK (by rw [e]; exact List.mem_cons_self)
        have hz : tmR go w2 (acU m (h :: p) a) := by
          unfold tmR
          rw [e] at z1
          cases a with
          | none =>
            rw [acU]
            refine ⟨by rw [z7]; exact hbg, by omega, ?_⟩
            rw [z1, if_neg (fun z => z.1 hr), pk_us, z7]
          | some tq =>
            obtain ⟨t, q'⟩ := tq
            obtain ⟨r1, r2, r3⟩ := hr
            rw [ebg] at r1 r3
            rw [acU]
            by_cases c : m < t
            · rw [if_pos c]
              refine ⟨by rw [z7]; exact hbg, by omega, ?_⟩
              rw [z1, if_neg (fun z => by have := z.2; rw [r3] at this; have := (nI_leI (by omega) (by omega)).mp this; omega), pk_us, z7]
            · rw [if_neg c]
              refine ⟨by rw [z7]; exact r1, r2, ?_⟩
              rw [z1, if_pos ⟨by rw [r3]; exact nI_n2 (by omega), by rw [r3]; exact nI_le (by omega) (by omega)⟩, r3, z7]
        have e9 : ∀ w' : Wy, w'.tm go = w2.tm go → w'.bg = bg → tmR go w' (acU m (h :: p) a) := by
          intro w' a1 a2
          unfold tmR at hz ⊢
          cases hq : acU m (h :: p) a with
          | none => rw [hq] at hz; exact a1.trans hz
          | some tq => rw [hq] at hz; exact ⟨by rw [a2, ← z7]; exact hz.1, hz.2.1, by rw [a1, a2, ← z7]; exact hz.2.2⟩
        exact e9 _ hkeep k5
      · rw [if_neg e]
        exact k1 (fun z => by rcases List.mem_cons.mp z with y | y; exact e y.symm; exact q y)
    · have e : ¬ h = go := fun z => hp (by rw [z]; exact q)
      exact (hK (List.mem_cons_of_mem _ q)).trans (hne e)
end STPD
