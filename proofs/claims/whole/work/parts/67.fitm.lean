/-! Rows that fit: what both searches count -/
abbrev Fo : Type := Nat → Nat
def updN (r : Fo) (h g : Nat) : Fo := fun j => if j = h then g else r j
theorem updN_s {r : Fo} {h g : Nat} : updN r h g h = g := by unfold updN; rw [if_pos rfl]
theorem updN_n {r : Fo} {h g j : Nat} (e : ¬ j = h) : updN r h g j = r j := by unfold updN; rw [if_neg e]
def flG (rc : List Nat → Fo → List Fo) (al : Nat → Bool) (tk : List Nat) (r : Fo) (h : Nat) : Nat → Nat → List Fo
  | 0, _ => []
  | c + 1, g => (if al g = true ∧ g ∉ tk then rc (g :: tk) (updN r h g) else []) ++ flG rc al tk r h c (g + 1)
/-- the rows, in their order -/
def fitL (al : Nat → Nat → Bool) (uk : Nat → Bool) (n : Nat) : Nat → Nat → List Nat → Fo → List Fo
  | 0, _, _, r => [r]
  | k + 1, h, tk, r => if uk h = true then flG (fitL al uk n k (h + 1)) (al h) tk r h n 0 else fitL al uk n k (h + 1) tk r
def cntL (L : List Fo) (h g : Nat) : Nat := (L.filter (fun r => r h == g)).length
theorem cntL_app (A B : List Fo) (h g : Nat) : cntL (A ++ B) h g = cntL A h g + cntL B h g := by unfold cntL; rw [List.filter_append, List.length_append]
theorem cntL_nil (h g : Nat) : cntL [] h g = 0 := rfl
theorem cntL_all {L : List Fo} {h g g' : Nat} (hL : ∀ r, r ∈ L → r h = g) : cntL L h g' = if g' = g then L.length else 0 := by
  unfold cntL
  by_cases e : g' = g
  · rw [if_pos e, List.filter_eq_self.mpr (fun r hr => by simp [hL r hr, e])]
  · rw [if_neg e, List.filter_eq_nil_iff.mpr (fun r hr => by simp [hL r hr]; exact fun q => e q.symm)]
    rfl
theorem flG_mem {rc : List Nat → Fo → List Fo} {al : Nat → Bool} {tk : List Nat} {r r' : Fo} {h : Nat} : ∀ c g, r' ∈ flG rc al tk r h c g → ∃ g', g ≤ g' ∧ g' < g + c ∧ al g' = true ∧ g' ∉ tk ∧ r' ∈ rc (g' :: tk) (updN r h g')
  | 0, g, q => by cases q
  | c + 1, g, q => by
    rw [flG] at q
    rcases List.mem_append.mp q with q | q
    · split at q
      · rename_i w
        exact ⟨g, by omega, by omega, w.1, w.2, q⟩
      · cases q
    · obtain ⟨g', a1, a2, a3⟩ := flG_mem c (g + 1) q
      exact ⟨g', by omega, by omega, a3⟩
theorem fit_ag {al : Nat → Nat → Bool} {uk : Nat → Bool} {n : Nat} : ∀ k h tk (r r' : Fo), r' ∈ fitL al uk n k h tk r → ∀ j, j < h → r' j = r j
  | 0, h, tk, r, r', q, j, hj => by rw [fitL] at q; rw [List.mem_singleton.mp q]
  | k + 1, h, tk, r, r', q, j, hj => by
    rw [fitL] at q
    split at q
    · obtain ⟨g', _, _, _, _, a⟩ := flG_mem n 0 q
      rw [fit_ag k (h + 1) _ _ r' a j (by omega), updN_n (by omega)]
    · exact fit_ag k (h + 1) tk r r' q j (by omega)
theorem fit_at {al : Nat → Nat → Bool} {uk : Nat → Bool} {n k h g : Nat} {tk : List Nat} {r : Fo} : ∀ r', r' ∈ fitL al uk n k (h + 1) tk (updN r h g) → r' h = g := fun r' q => by rw [fit_ag k (h + 1) tk _ r' q h (by omega), updN_s]
theorem flG_len {rc : List Nat → Fo → List Fo} {al : Nat → Bool} {tk : List Nat} {r : Fo} {h B : Nat} (hB : ∀ tk r, (rc tk r).length ≤ B) : ∀ c g, (flG rc al tk r h c g).length ≤ c * B
  | 0, g => by rw [flG, Nat.zero_mul]; exact Nat.le_refl _
  | c + 1, g => by
    rw [flG, List.length_append, Nat.succ_mul, Nat.add_comm (c * B)]
    refine Nat.add_le_add ?_ (flG_len hB c (g + 1))
    split
    · exact hB _ _
    · exact Nat.zero_le _
theorem fit_len {al : Nat → Nat → Bool} {uk : Nat → Bool} {n : Nat} (hn : n ≤ 7) : ∀ k h tk (r : Fo), (fitL al uk n k h tk r).length ≤ 7 ^ k
  | 0, h, tk, r => Nat.le_refl _
  | k + 1, h, tk, r => by
    rw [fitL]
    have e : 7 ^ (k + 1) = 7 * 7 ^ k := by rw [Nat.pow_succ, Nat.mul_comm]
    split
    · refine Nat.le_trans (flG_len (fun tk r => fit_len hn k (h + 1) tk r) n 0) ?_
      rw [e]
      exact Nat.mul_le_mul_right _ hn
    · have := fit_len (al := al) (uk := uk) hn k (h + 1) tk r
      have : 0 < 7 ^ k := Nat.pow_pos (by omega)
      omega
theorem cntL_le (L : List Fo) (h g : Nat) : cntL L h g ≤ L.length := List.length_filter_le _ _
/-! The class's count -/
def plS (n lo : Nat) (uk : Nat → Bool) (L : List Fo) (al0 : Int32) (s : Fs4) (X : Int32 × Fs4) : Prop := X.1 = al0 + nI L.length ∧ (∀ h' g', h' < 7 → g' < 7 → X.2.1 (h' * 7 + g') = s.1 (h' * 7 + g') + nI (if lo ≤ h' ∧ h' < n ∧ uk h' = true then cntL L h' g' else 0)) ∧ (∀ j, j < lo → X.2.2.1 j = s.2.1 j) ∧ (¬ s.2.2.2 = 0 → X.2.2.2.1 = s.2.2.1 ∧ X.2.2.2.2 = s.2.2.2) ∧ (s.2.2.2 = 0 → (L = [] → X.2.2.2.1 = s.2.2.1 ∧ X.2.2.2.2 = 0) ∧ ∀ r0 L', L = r0 :: L' → X.2.2.2.2 = 1 ∧ ∀ j, j < n → uk j = true → X.2.2.2.1 j = nI (r0 j))
theorem bit_t1 : ∀ t, t < 128 → ∀ g, g < 7 → ((nI t ^^^ (-1)) &&& ((1 : Int32) <<< (nI g &&& 31))) = if t.testBit g then 0 else nI (2 ^ g) := by decide +kernel
theorem bit_s1 : ∀ s, s < 128 → ∀ g, g < 7 → (nI s &&& nI (2 ^ g) = 0 ↔ s.testBit g = false) := by decide +kernel
theorem bit_c {s t g : Nat} (hs : s < 128) (ht : t < 128) (hg : g < 7) : nI s &&& (nI t ^^^ (-1)) &&& ((1 : Int32) <<< (nI g &&& 31)) = 0 ↔ ¬ (s.testBit g = true ∧ t.testBit g = false) := by
  rw [Int32.and_assoc, bit_t1 t ht g hg]
  cases q : t.testBit g with
  | true => rw [if_pos rfl, Int32.and_zero]; simp
  | false => rw [if_neg (by simp), bit_s1 s hs g hg]; simp
theorem if_t_t {c : Prop} [Decidable c] {x : Nat} : (if c then x else x) = x := by split <;> rfl
section PLF
variable {H : Hs} {mb : Nat → Int32} {al : Nat → Nat → Bool}
abbrev ukF (H : Hs) (h : Nat) : Bool := decide (H.to h = -2)
theorem lpl_fit {k h : Nat} {tk : Int32} {tkl : List Nat} {r : Fo} (hn7 : H.n ≤ 7) (hk : h + (k + 1) = H.n) (hu : ukF H h = true) (hmb : ∃ s, s < 128 ∧ mb h = nI s ∧ ∀ g, g < H.n → (s.testBit g = true ↔ al h g = true)) (htk : bnR tk tkl)
    (ih : ∀ tk tkl s r, bnR tk tkl → (∀ j, j < h + 1 → ukF H j = true → s.2.1 j = nI (r j)) → plS H.n (h + 1) (ukF H) (fitL al (ukF H) H.n k (h + 1) tkl r) 0 s (plF H mb k (h + 1) tk s)) :
    ∀ c g al0 s, g + c = H.n → (∀ j, j < h → ukF H j = true → s.2.1 j = nI (r j)) → plS H.n h (ukF H) (flG (fitL al (ukF H) H.n k (h + 1)) (al h) tkl r h c g) al0 s (lplF (plF H mb k (h + 1)) (mb h) h tk c g al0 s)
  | 0, g, al0, s, hg, hp => by
    rw [lplF, flG]
    refine ⟨by rw [List.length_nil]; exact (Int32.add_zero _).symm, fun h' g' _ _ => ?_, fun j _ => rfl, fun _ => ⟨rfl, rfl⟩, fun q => ⟨fun _ => ⟨rfl, q⟩, fun r0 L' e => by cases e⟩⟩
    rw [cntL_nil, if_t_t]
    exact (Int32.add_zero _).symm
  | c + 1, g, al0, s, hg, hp => by
    obtain ⟨sb, s1, s2, s3⟩ := hmb
    obtain ⟨t, t1, t2, t3⟩ := id htk
    have hg7 : g < 7 := by omega
    rw [lplF, flG]
    have hc := bit_c (s := sb) (t := t) (g := g) s1 t1 hg7
    by_cases q : al h g = true ∧ g ∉ tkl
    · have hb : ¬ mb h &&& (tk ^^^ (-1)) &&& ((1 : Int32) <<< (nI g &&& 31)) = 0 := by
        rw [s2, t2, hc]
        intro w
        exact w ⟨(s3 g (by omega)).mpr q.1, Bool.eq_false_iff.mpr (fun z => q.2 ((t3 g hg7).mp z))⟩
      rw [if_neg hb, if_pos q]
      have i1 := ih (tk ||| ((1 : Int32) <<< (nI g &&& 31))) (g :: tkl) (s.1, upd s.2.1 h (nI g), s.2.2.1, s.2.2.2) (updN r h g) (htk.or hg7) (fun j hj huj => by
        show upd s.2.1 h (nI g) j = nI (updN r h g j)
        by_cases e : j = h
        · rw [e, pk_us, updN_s]
        · rw [pk_un e, updN_n e]; exact hp j (by omega) huj)
      dsimp only
      generalize hX : plF H mb k (h + 1) (tk ||| ((1 : Int32) <<< (nI g &&& 31))) (s.1, upd s.2.1 h (nI g), s.2.2.1, s.2.2.2) = X at i1 ⊢
      have hat := fit_at (al := al) (uk := ukF H) (n := H.n) (k := k) (h := h) (g := g) (tk := g :: tkl) (r := r)
      generalize fitL al (ukF H) H.n k (h + 1) (g :: tkl) (updN r h g) = A at i1 hat ⊢
      obtain ⟨a1, a2, a3, a4, a5⟩ := i1
      rw [Int32.zero_add] at a1
      have i2 := lpl_fit hn7 hk hu ⟨sb, s1, s2, s3⟩ htk ih c (g + 1) (al0 + X.1) (upd X.2.1 (h * 7 + g) (X.2.1 (h * 7 + g) + X.1), X.2.2.1, X.2.2.2.1, X.2.2.2.2) (by omega) (fun j hj huj => by
        show X.2.2.1 j = nI (r j)
        rw [a3 j (by omega)]
        show upd s.2.1 h (nI g) j = nI (r j)
        rw [pk_un (by omega)]
        exact hp j hj huj)
      generalize lplF (plF H mb k (h + 1)) (mb h) h tk c (g + 1) (al0 + X.1) (upd X.2.1 (h * 7 + g) (X.2.1 (h * 7 + g) + X.1), X.2.2.1, X.2.2.2.1, X.2.2.2.2) = Y at i2 ⊢
      generalize flG (fitL al (ukF H) H.n k (h + 1)) (al h) tkl r h c (g + 1) = B at i2 ⊢
      obtain ⟨b1, b2, b3, b4, b5⟩ := i2
      refine ⟨?_, fun h' g' hh' hg' => ?_, fun j hj => ?_, fun w => ?_, fun w => ⟨fun e => ?_, fun r0 L' e => ?_⟩⟩
      · rw [b1, a1, List.length_append, ← nI_add, Int32.add_assoc]
      · rw [b2 h' g' hh' hg']
        dsimp only
        have a2' := a2 h' g' hh' hg'
        rw [cntL_app]
        by_cases e1 : h' = h
        · subst e1
          rw [if_pos ⟨Nat.le_refl _, by omega, hu⟩, if_pos ⟨Nat.le_refl _, by omega, hu⟩, cntL_all hat]
          rw [if_neg (by omega), show nI 0 = 0 from rfl, Int32.add_zero] at a2'
          by_cases e2 : g' = g
          · rw [e2, pk_us, if_pos rfl, ← e2, a2', a1, ← nI_add, Int32.add_assoc]
          · rw [pk_un (by omega), if_neg e2, a2', Nat.zero_add]
        · rw [pk_un (by omega), a2']
          by_cases e2 : h ≤ h' ∧ h' < H.n ∧ ukF H h' = true
          · rw [if_pos e2, if_pos e2, if_pos ⟨by omega, e2.2⟩, ← nI_add, Int32.add_assoc]
          · rw [if_neg e2, if_neg e2, if_neg (fun z => e2 ⟨by omega, z.2⟩), show nI 0 = 0 from rfl, Int32.add_zero]
      · rw [b3 j hj]
        show X.2.2.1 j = s.2.1 j
        rw [a3 j (by omega)]
        exact pk_un (by omega)
      · obtain ⟨z1, z2⟩ := a4 w
        obtain ⟨z3, z4⟩ := b4 (by rw [show (upd X.2.1 (h * 7 + g) (X.2.1 (h * 7 + g) + X.1), X.2.2.1, X.2.2.2.1, X.2.2.2.2).2.2.2 = X.2.2.2.2 from rfl, z2]; exact w)
        exact ⟨z3.trans z1, z4.trans z2⟩
      · have eA : A = [] := (List.append_eq_nil_iff.mp e).1
        have eB : B = [] := (List.append_eq_nil_iff.mp e).2
        obtain ⟨z1, z2⟩ := (a5 w).1 eA
        obtain ⟨z3, z4⟩ := (b5 z2).1 eB
        exact ⟨z3.trans z1, z4⟩
      · cases eA : A with
        | nil =>
          obtain ⟨z1, z2⟩ := (a5 w).1 eA
          rw [eA, List.nil_append] at e
          exact (b5 z2).2 r0 L' e
        | cons x A' =>
          rw [eA, List.cons_append] at e
          injection e with e1 e2
          obtain ⟨z1, z2⟩ := (a5 w).2 x A' eA
          obtain ⟨z3, z4⟩ := b4 (by rw [show (upd X.2.1 (h * 7 + g) (X.2.1 (h * 7 + g) + X.1), X.2.2.1, X.2.2.2.1, X.2.2.2.2).2.2.2 = X.2.2.2.2 from rfl, z1]; decide)
          exact ⟨z4.trans z1, fun j hj huj => by rw [z3, ← e1]; exact z2 j hj huj⟩
    · have hb : mb h &&& (tk ^^^ (-1)) &&& ((1 : Int32) <<< (nI g &&& 31)) = 0 := by
        rw [s2, t2, hc]
        rintro ⟨w1, w2⟩
        exact q ⟨(s3 g (by omega)).mp w1, fun z => by rw [(t3 g hg7).mpr z] at w2; cases w2⟩
      rw [if_pos hb, if_neg q, List.nil_append]
      exact lpl_fit hn7 hk hu ⟨sb, s1, s2, s3⟩ htk ih c (g + 1) al0 s (by omega) hp
theorem pl_fit (hn7 : H.n ≤ 7) (hmb : ∀ h, h < H.n → ∃ s, s < 128 ∧ mb h = nI s ∧ ∀ g, g < H.n → (s.testBit g = true ↔ al h g = true)) : ∀ k h tk tkl s r, h + k = H.n → bnR tk tkl → (∀ j, j < h → ukF H j = true → s.2.1 j = nI (r j)) → plS H.n h (ukF H) (fitL al (ukF H) H.n k h tkl r) 0 s (plF H mb k h tk s) := by
  intro k
  induction k with
  | zero =>
    intro h tk tkl s r hh htk hp
    rw [plF, fitL]
    refine ⟨rfl, fun h' g' _ _ => ?_, fun j _ => ?_, fun w => ?_, fun w => ⟨fun e => (by cases e), fun r0 L1 e => ?_⟩⟩
    · rw [if_neg (show ¬ (h ≤ h' ∧ h' < H.n ∧ ukF H h' = true) from fun z => by omega), show nI 0 = 0 from rfl, Int32.add_zero]
      split <;> rfl
    · split <;> rfl
    · rw [if_neg w]; exact ⟨rfl, rfl⟩
    · rw [if_pos w]
      injection e with e1 _
      refine ⟨rfl, fun j hj huj => ?_⟩
      show va_cpy s.2.1 s.2.2.1 0 0 7 j = nI (r0 j)
      rw [cpy_in (by omega) (by omega), show 0 + (j - 0) = j by omega, ← e1]
      exact hp j (by omega) huj
  | succ k ih =>
    intro h tk tkl s r hh htk hp
    rw [plF, fitL]
    by_cases c : H.to h = -2
    · have hu : ukF H h = true := decide_eq_true c
      rw [if_pos c, if_pos hu]
      exact lpl_fit hn7 hh hu (hmb h (by omega)) htk (fun tk tkl s r a1 a2 => ih (h + 1) tk tkl s r (by omega) a1 a2) H.n 0 0 s (by omega) hp
    · have hu : ukF H h = false := decide_eq_false c
      rw [if_neg c, if_neg (by rw [hu]; simp)]
      obtain ⟨a1, a2, a3, a4, a5⟩ := ih (h + 1) tk tkl s r (by omega) htk (fun j hj huj => by
        by_cases e : j = h
        · rw [e, hu] at huj; cases huj
        · exact hp j (by omega) huj)
      refine ⟨a1, fun h' g' x1 x2 => ?_, fun j hj => a3 j (by omega), a4, a5⟩
      rw [a2 h' g' x1 x2]
      by_cases e : h + 1 ≤ h' ∧ h' < H.n ∧ ukF H h' = true
      · rw [if_pos e, if_pos ⟨by omega, e.2⟩]
      · rw [if_neg e, if_neg (fun z => e ⟨by
          by_cases e2 : h' = h
          · rw [e2, hu] at z; cases z.2.2
          · omega, z.2⟩)]
end PLF
/-! what the class has counted -/
def fitA (T : Tw) (h g : Nat) : Prop := ¬ g = h ∧ (∀ k, k < T.hs.n → ¬ T.hs.to k = nI g) ∧ alwB T.cs (nI h) (T.hs.sm g) (T.hs.ro g)
noncomputable def fitB (T : Tw) (h g : Nat) : Bool := @decide (fitA T h g) (Classical.propDecidable _)
theorem fitB_i {T : Tw} {h g : Nat} : fitB T h g = true ↔ fitA T h g := by unfold fitB; simp
noncomputable def abN (T : Tw) (h : Nat) : Nat → Nat
  | 0 => 0
  | g + 1 => if fitB T h g = true then abN T h g ||| 2 ^ g else abN T h g
theorem ab_c {T : Tw} {h g : Nat} : ((¬ g = h ∧ isoF T.hs.to (nI g) T.hs.n 0 = 0) ∧ ¬ alwI T.cs (nI h) (T.hs.sm g) (T.hs.ro g) = 0) ↔ fitB T h g = true := by
  rw [fitB_i]
  have e1 : isoF T.hs.to (nI g) T.hs.n 0 = 0 ↔ ∀ k, k < T.hs.n → ¬ T.hs.to k = nI g := by
    have h1 := isoF_1 T.hs.to (nI g) T.hs.n 0
    constructor
    · intro q k hk e
      have := h1.mpr ⟨k, by omega, by omega, e⟩
      rw [q] at this
      cases this
    · intro q
      rcases isoF_01 T.hs.to (nI g) T.hs.n 0 with w | w
      · exact w
      · obtain ⟨k, _, a2, a3⟩ := h1.mp w
        exact absurd a3 (q k (by omega))
  have e2 : ¬ alwI T.cs (nI h) (T.hs.sm g) (T.hs.ro g) = 0 ↔ alwB T.cs (nI h) (T.hs.sm g) (T.hs.ro g) := by
    unfold alwI
    split
    · rename_i q; exact ⟨fun _ => q, fun _ => by decide⟩
    · rename_i q; exact ⟨fun w => absurd rfl w, fun w => absurd w q⟩
  rw [e1, e2]
  exact ⟨fun q => ⟨q.1.1, q.1.2, q.2⟩, fun q => ⟨⟨q.1, q.2.1⟩, q.2.2⟩⟩
theorem abF_N {T : Tw} {h : Nat} : ∀ g, g ≤ 7 → abF T h g = nI (abN T h g)
  | 0, _ => rfl
  | g + 1, hg => by
    rw [abF, abN, abF_N g (by omega), shl_n g (by omega), fmx_or]
    by_cases c : fitB T h g = true
    · rw [if_pos (ab_c.mpr c), if_pos c]
    · rw [if_neg (fun q => c (ab_c.mp q)), if_neg c]
theorem abN_lt {T : Tw} {h : Nat} : ∀ g, g ≤ 7 → abN T h g < 2 ^ 7
  | 0, _ => by rw [abN]; omega
  | g + 1, hg => by
    rw [abN]
    split
    · exact Nat.or_lt_two_pow (abN_lt g (by omega)) (Nat.pow_lt_pow_right (by omega) (by omega))
    · exact abN_lt g (by omega)
theorem abN_bit {T : Tw} {h j : Nat} : ∀ g, (abN T h g).testBit j = true ↔ j < g ∧ fitB T h j = true
  | 0 => by rw [abN, Nat.zero_testBit]; exact ⟨fun q => (by cases q), fun q => absurd q.1 (by omega)⟩
  | g + 1 => by
    rw [abN]
    split
    · rename_i c
      rw [or_bit, abN_bit g]
      constructor
      · rintro (⟨a, d⟩ | rfl)
        · exact ⟨by omega, d⟩
        · exact ⟨by omega, c⟩
      · rintro ⟨a, d⟩
        by_cases e : j = g
        · exact Or.inr e
        · exact Or.inl ⟨by omega, d⟩
    · rename_i c
      rw [abN_bit g]
      constructor
      · rintro ⟨a, d⟩; exact ⟨by omega, d⟩
      · rintro ⟨a, d⟩
        by_cases e : j = g
        · rw [e] at d; exact absurd d c
        · exact ⟨by omega, d⟩
/-- all rows of a town -/
noncomputable def fitR (T : Tw) (r : Fo) : List Fo := fitL (fitB T) (ukF T.hs) T.hs.n T.hs.n 0 [] r
theorem ctd_fit {T : Tw} {s : Fs4} (hn : T.hs.n ≤ 7) (r : Fo) (h : ctd T s) : s.2.2.2 = nI (fitR T r).length ∧ (∀ h' g', h' < 7 → g' < 7 → s.1 (h' * 7 + g') = nI (if h' < T.hs.n ∧ ukF T.hs h' = true then cntL (fitR T r) h' g' else 0)) ∧ ∀ r0 L', fitR T r = r0 :: L' → ∀ j, j < T.hs.n → ukF T.hs j = true → s.2.2.1 j = nI (r0 j) := by
  obtain ⟨mb, ct, pl, fi, hmb, hct, rfl⟩ := h
  have hp := pl_fit (H := T.hs) (mb := mb) (al := fitB T) hn (fun h hh => ⟨abN T h T.hs.n, abN_lt _ hn, by rw [hmb h (by omega), abF_N _ hn], fun g hg => by rw [abN_bit]; exact ⟨fun q => q.2, fun q => ⟨hg, q⟩⟩⟩) T.hs.n 0 0 [] (ct, pl, fi, 0) r (by omega) ⟨0, by omega, rfl, fun g _ => by simp⟩ (fun j hj => absurd hj (by omega))
  obtain ⟨a1, a2, a3, a4, a5⟩ := hp
  refine ⟨by rw [Int32.zero_add] at a1; exact a1, fun h' g' x1 x2 => ?_, fun r0 L' e => ((a5 rfl).2 r0 L' e).2⟩
  have := a2 h' g' x1 x2
  rw [show (ct, pl, fi, (0 : Int32)).1 (h' * 7 + g') = 0 from hct (h' * 7 + g') (by omega), Int32.zero_add] at this
  refine this.trans ?_
  by_cases c : h' < T.hs.n ∧ ukF T.hs h' = true
  · rw [if_pos c, if_pos ⟨Nat.zero_le _, c⟩]; rfl
  · rw [if_neg c, if_neg (fun z => c z.2)]
/-! the unknown houses in a row -/
def ukL (uk : Nat → Bool) : Nat → Nat → List Nat
  | 0, _ => []
  | k + 1, h => if uk h = true then h :: ukL uk k (h + 1) else ukL uk k (h + 1)
theorem ukL_mem {uk : Nat → Bool} {x : Nat} : ∀ k h, x ∈ ukL uk k h ↔ h ≤ x ∧ x < h + k ∧ uk x = true
  | 0, h => by rw [ukL]; exact ⟨fun q => (by cases q), fun q => by omega⟩
  | k + 1, h => by
    rw [ukL]
    split
    · rename_i c
      rw [List.mem_cons, ukL_mem k (h + 1)]
      constructor
      · rintro (rfl | q)
        · exact ⟨by omega, by omega, c⟩
        · exact ⟨by omega, by omega, q.2.2⟩
      · rintro ⟨a, d, e⟩
        by_cases q : x = h
        · exact Or.inl q
        · exact Or.inr ⟨by omega, by omega, e⟩
    · rename_i c
      rw [ukL_mem k (h + 1)]
      constructor
      · rintro ⟨a, d, e⟩; exact ⟨by omega, by omega, e⟩
      · rintro ⟨a, d, e⟩
        by_cases q : x = h
        · rw [q] at e; exact absurd e c
        · exact ⟨by omega, by omega, e⟩
theorem ukL_nd {uk : Nat → Bool} : ∀ k h, (ukL uk k h).Nodup
  | 0, h => List.nodup_nil
  | k + 1, h => by
    rw [ukL]
    split
    · exact List.nodup_cons.mpr ⟨fun q => by have := ((ukL_mem k (h + 1)).mp q).1; omega, ukL_nd k (h + 1)⟩
    · exact ukL_nd k (h + 1)
theorem ukL_len {uk : Nat → Bool} : ∀ k h, (ukL uk k h).length ≤ k
  | 0, h => Nat.le_refl _
  | k + 1, h => by
    rw [ukL]
    have := ukL_len (uk := uk) k (h + 1)
    split
    · rw [List.length_cons]; omega
    · omega
def fitU (al : Nat → Nat → Bool) (n : Nat) : List Nat → List Nat → Fo → List Fo
  | [], _, r => [r]
  | h :: us, tk, r => flG (fitU al n us) (al h) tk r h n 0
theorem fitL_U {al : Nat → Nat → Bool} {uk : Nat → Bool} {n : Nat} : ∀ k h tk r, fitL al uk n k h tk r = fitU al n (ukL uk k h) tk r
  | 0, h, tk, r => rfl
  | k + 1, h, tk, r => by
    rw [fitL, ukL]
    split
    · rw [fitU]
      congr 1
      funext tk r
      exact fitL_U k (h + 1) tk r
    · exact fitL_U k (h + 1) tk r
theorem fitU_len {al : Nat → Nat → Bool} {n : Nat} (hn : n ≤ 7) : ∀ us tk r, (fitU al n us tk r).length ≤ 7 ^ us.length
  | [], tk, r => Nat.le_refl _
  | h :: us, tk, r => by
    rw [fitU, List.length_cons]
    refine Nat.le_trans (flG_len (fun tk r => fitU_len hn us tk r) n 0) ?_
    rw [Nat.pow_succ, Nat.mul_comm (7 ^ us.length)]
    exact Nat.mul_le_mul_right _ hn
