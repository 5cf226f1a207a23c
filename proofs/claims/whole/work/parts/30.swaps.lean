/-! Swaps -/
theorem fmx_or (a b : Nat) : nI a ||| nI b = nI (a ||| b) := by
  apply Int32.toBitVec_inj.mp
  show BitVec.ofNat 32 a ||| BitVec.ofNat 32 b = BitVec.ofNat 32 (a ||| b)
  apply BitVec.eq_of_toNat_eq
  simp
theorem shl_n : ∀ n, n < 8 → (1 : Int32) <<< (nI n &&& 31) = nI (2 ^ n) := by decide +kernel
/-- the bits of the houses whose rooms are each other's, as a number -/
noncomputable def mbN (f : Nat → Int32) : Nat → Nat
  | 0 => 0
  | n + 1 => if mutB f n then mbN f n ||| 2 ^ n else mbN f n
theorem mbN_lt (f : Nat → Int32) : ∀ n, mbN f n < 2 ^ n
  | 0 => by simp [mbN]
  | n + 1 => by
    have h := mbN_lt f n
    have h2 : 2 ^ n < 2 ^ (n + 1) := Nat.pow_lt_pow_right (by omega) (by omega)
    rw [mbN]
    split
    · exact Nat.or_lt_two_pow (by omega) h2
    · omega
theorem mbF_N (f : Nat → Int32) : ∀ n, n ≤ 7 → mbF f n = nI (mbN f n)
  | 0, _ => rfl
  | n + 1, h => by
    rw [mbF, mbN, mbF_N f n (by omega), shl_n n (by omega), fmx_or]
    split <;> rfl
theorem mbN_128 (f : Nat → Int32) : mbN f 7 < 128 := mbN_lt f 7
theorem okR_swp {f : Nat → Int32} (hf : okR f) {h g : Nat} (hh : h < 7) (hg : g < 7) : okR (swpF f h g) := by
  intro k hk
  unfold swpF
  by_cases e : k = g
  · rw [e, pk_us]; exact hf h hh
  · rw [pk_un e]
    by_cases e2 : k = h
    · rw [e2, pk_us]; exact hf g hg
    · rw [pk_un e2]; exact hf k hk
theorem swp_swp (f : Nat → Int32) {h g : Nat} (hne : ¬ h = g) : swpF (swpF f h g) h g = f := by
  funext q
  unfold swpF
  by_cases e : q = g
  · rw [e, pk_us, pk_un hne, pk_us]
  · rw [pk_un e]
    by_cases e2 : q = h
    · rw [e2, pk_us, pk_us]
    · rw [pk_un e2, pk_un e, pk_un e2]
abbrev Sk : Type := (Nat → Int32) × (Nat → Int32) × Nat × Int32
abbrev Sw : Type := (Nat → Int32) × Int32 × (Nat → Int32) × Sk
/-- foundFor, isFound; the row that is tried; row, best row, its length, most paired -/
def aSw (M : Mm) (b : Nat) (w : Sw) : Prop := M.1 b = some (.inr (8, [.ref (b + 1), .int w.2.1, .ref (b + 2), .ref (b + 4), .ref (b + 5), .int (nI w.2.2.2.2.2.1), .int w.2.2.2.2.2.2])) ∧ M.1 (b + 1) = ints 7 w.1 ∧ aNw M (b + 2) w.2.2.1 ∧ M.1 (b + 4) = ints 3 w.2.2.2.1 ∧ M.1 (b + 5) = ints 3 w.2.2.2.2.1
theorem aSw.kept {M M' : Mm} {b : Nat} {p : Sw} (hb : aSw M b p) (hq : ∀ q, b ≤ q → q < b + 6 → M'.1 q = M.1 q) : aSw M' b p := by
  obtain ⟨h0, h1, h2, h3, h4⟩ := hb
  exact ⟨(hq _ (by omega) (by omega)).trans h0, (hq _ (by omega) (by omega)).trans h1, h2.kept (fun q a1 a2 => hq q (by omega) (by omega)), (hq _ (by omega) (by omega)).trans h3, (hq _ (by omega) (by omega)).trans h4⟩
theorem e8_count {ad : Nat → Nat} {M : Mm} {b : Nat} {w : Sw} (hb : aSw M b w) : Rd ad 0 (iX8_bestCount ad) [.ref b] M (some (.int w.2.2.2.2.2.2)) := by
  obtain ⟨h0, h1, h2, h3, h4⟩ := hb
  refine ⟨Nat.le_of_ble_eq_true rfl, ?_⟩
  show Ev ad _ (rX8_bestCount ad) (0, [some (.ref b)], [], M) _
  repeat (first | refine es rfl rfl rfl ?_ | refine eg rfl (by assumption) rfl ?_ | refine ean rfl (by assumption) (by assumption) rfl ?_ | refine eal rfl (by assumption) (by assumption) rfl ?_ | refine eri rfl ?_ | refine erv rfl ?_ | refine erl rfl ?_ | refine era rfl ?_ | refine erz0 rfl ?_ | refine erz1 rfl ?_)
  try dsimp only [set1, set2, kilP, List.set_cons_zero, List.set_cons_succ, List.getElem?_cons_zero, List.getElem?_cons_succ, List.nil_append, List.cons_append, Option.toList_some, Option.toList_none]
  exact ⟨rfl, rfl⟩
theorem e8_length {ad : Nat → Nat} {M : Mm} {b : Nat} {w : Sw} (hb : aSw M b w) : Rd ad 0 (iX8_bestLength ad) [.ref b] M (some (.int (nI w.2.2.2.2.2.1))) := by
  obtain ⟨h0, h1, h2, h3, h4⟩ := hb
  refine ⟨Nat.le_of_ble_eq_true rfl, ?_⟩
  show Ev ad _ (rX8_bestLength ad) (0, [some (.ref b)], [], M) _
  repeat (first | refine es rfl rfl rfl ?_ | refine eg rfl (by assumption) rfl ?_ | refine ean rfl (by assumption) (by assumption) rfl ?_ | refine eal rfl (by assumption) (by assumption) rfl ?_ | refine eri rfl ?_ | refine erv rfl ?_ | refine erl rfl ?_ | refine era rfl ?_ | refine erz0 rfl ?_ | refine erz1 rfl ?_)
  try dsimp only [set1, set2, kilP, List.set_cons_zero, List.set_cons_succ, List.getElem?_cons_zero, List.getElem?_cons_succ, List.nil_append, List.cons_append, Option.toList_some, Option.toList_none]
  exact ⟨rfl, rfl⟩
theorem e8_at {ad : Nat → Nat} {M : Mm} {b k : Nat} {w : Sw} (hb : aSw M b w) (hk : k < 3) : Rd ad 0 (iX8_bestAt ad) [.ref b, .int (nI k)] M (some (.int (w.2.2.2.2.1 k))) := by
  obtain ⟨h0, h1, h2, h3, h4⟩ := hb
  refine ⟨Nat.le_of_ble_eq_true rfl, ?_⟩
  show Ev ad _ (rX8_bestAt ad) (0, [some (.ref b), some (.int (nI k))], [], M) _
  repeat (first | refine es rfl rfl rfl ?_ | refine eg rfl (by assumption) rfl ?_ | refine ean rfl (by assumption) (by assumption) rfl ?_ | refine eal rfl (by assumption) (by assumption) rfl ?_ | refine eri rfl ?_ | refine erv rfl ?_ | refine erl rfl ?_ | refine era rfl ?_ | refine erz0 rfl ?_ | refine erz1 rfl ?_)
  try dsimp only [set1, set2, kilP, List.set_cons_zero, List.set_cons_succ, List.getElem?_cons_zero, List.getElem?_cons_succ, List.nil_append, List.cons_append, Option.toList_some, Option.toList_none]
  exact ⟨rfl, rfl⟩
/-- the same rooms -/
def sameR (f g : Nat → Int32) : Prop := ∀ j, j < 7 → f j = g j
theorem e8_isf_loop {ad : Nat → Nat} {M : Mm} {b nb : Nat} {w : Sw} {f : Nat → Int32} (hb : aSw M b w) (hw : aNw M nb f) : ∀ (n i : Nat), i + n = 7 → (∀ j, j < i → w.1 j = f j) → Ev ad 1 (rX8_isFoundFor ad) (2, [some (.ref b), some (.ref nb), some (.int (nI i))], [], M) (fun v' M' => v' = some (.int (@ite _ (sameR w.1 f) (Classical.propDecidable _) 1 0)) ∧ M' = M) := by
  obtain ⟨h0, h1, h2, h3, h4⟩ := hb
  have w0 := hw.1
  intro n
  induction n with
  | zero =>
    intro i hn hz
    repeat (first | refine es rfl rfl rfl ?_ | refine eg rfl (by assumption) rfl ?_ | refine ean rfl (by assumption) (by assumption) rfl ?_ | refine eal rfl (by assumption) (by assumption) rfl ?_ | refine eri rfl ?_ | refine erv rfl ?_ | refine erl rfl ?_ | refine era rfl ?_ | refine erz0 rfl ?_ | refine erz1 rfl ?_)
    try dsimp only [set1, set2, kilP, List.set_cons_zero, List.set_cons_succ, List.getElem?_cons_zero, List.getElem?_cons_succ, List.nil_append, List.cons_append, Option.toList_some, Option.toList_none]
    refine ei _ rfl rfl (fun c => ?_) (fun c => ?_)
    · repeat (first | refine es rfl rfl rfl ?_ | refine eg rfl (by assumption) rfl ?_ | refine ean rfl (by assumption) (by assumption) rfl ?_ | refine eal rfl (by assumption) (by assumption) rfl ?_ | refine eri rfl ?_ | refine erv rfl ?_ | refine erl rfl ?_ | refine era rfl ?_ | refine erz0 rfl ?_ | refine erz1 rfl ?_)
      try dsimp only [set1, set2, kilP, List.set_cons_zero, List.set_cons_succ, List.getElem?_cons_zero, List.getElem?_cons_succ, List.nil_append, List.cons_append, Option.toList_some, Option.toList_none]
      rw [if_pos (show sameR w.1 f from fun j hj => hz j (by omega))]
      exact ⟨rfl, rfl⟩
    · exact absurd (nI_le (a := 7) (by omega) (by omega)) c
  | succ n ih =>
    intro i hn hz
    have hi : i < 7 := by omega
    repeat (first | refine es rfl rfl rfl ?_ | refine eg rfl (by assumption) rfl ?_ | refine ean rfl (by assumption) (by assumption) rfl ?_ | refine eal rfl (by assumption) (by assumption) rfl ?_ | refine eri rfl ?_ | refine erv rfl ?_ | refine erl rfl ?_ | refine era rfl ?_ | refine erz0 rfl ?_ | refine erz1 rfl ?_)
    try dsimp only [set1, set2, kilP, List.set_cons_zero, List.set_cons_succ, List.getElem?_cons_zero, List.getElem?_cons_succ, List.nil_append, List.cons_append, Option.toList_some, Option.toList_none]
    refine ei _ rfl rfl (fun c => ?_) (fun c => ?_)
    · exact absurd c (nI_ge (b := 7) (by omega) (by omega))
    · repeat (first | refine es rfl rfl rfl ?_ | refine eg rfl (by assumption) rfl ?_ | refine ean rfl (by assumption) (by assumption) rfl ?_ | refine eal rfl (by assumption) (by assumption) rfl ?_ | refine eri rfl ?_ | refine erv rfl ?_ | refine erl rfl ?_ | refine era rfl ?_ | refine erz0 rfl ?_ | refine erz1 rfl ?_)
      try dsimp only [set1, set2, kilP, List.set_cons_zero, List.set_cons_succ, List.getElem?_cons_zero, List.getElem?_cons_succ, List.nil_append, List.cons_append, Option.toList_some, Option.toList_none]
      refine ecr rfl rfl (by assumption) rfl rfl rfl (e3_roomOf hw (k := i) (by omega)) (by first | rfl | exact Nat.blt_eq.mpr (by omega)) rfl ?_
      refine ei _ rfl rfl (fun c1 => ?_) (fun c1 => ?_)
      · repeat (refine ng 2 rfl ?_; first | refine es rfl rfl rfl ?_ | refine eg rfl (by assumption) rfl ?_ | refine ean rfl (by assumption) (by assumption) rfl ?_ | refine eal rfl (by assumption) (by assumption) rfl ?_ | refine eri rfl ?_ | refine erv rfl ?_ | refine erl rfl ?_ | refine era rfl ?_ | refine erz0 rfl ?_ | refine erz1 rfl ?_)
        try dsimp only [set1, set2, kilP, List.set_cons_zero, List.set_cons_succ, List.getElem?_cons_zero, List.getElem?_cons_succ, List.nil_append, List.cons_append, Option.toList_some, Option.toList_none]
        rw [nI_1]
        refine ih (i + 1) (by omega) (fun j hj => ?_)
        by_cases e : j = i
        · rw [e]; exact c1
        · exact hz j (by omega)
      · repeat (first | refine es rfl rfl rfl ?_ | refine eg rfl (by assumption) rfl ?_ | refine ean rfl (by assumption) (by assumption) rfl ?_ | refine eal rfl (by assumption) (by assumption) rfl ?_ | refine eri rfl ?_ | refine erv rfl ?_ | refine erl rfl ?_ | refine era rfl ?_ | refine erz0 rfl ?_ | refine erz1 rfl ?_)
        try dsimp only [set1, set2, kilP, List.set_cons_zero, List.set_cons_succ, List.getElem?_cons_zero, List.getElem?_cons_succ, List.nil_append, List.cons_append, Option.toList_some, Option.toList_none]
        rw [if_neg (show ¬ sameR w.1 f from fun q => c1 (q i hi))]
        exact ⟨rfl, rfl⟩
theorem e8_isf {ad : Nat → Nat} {M : Mm} {b nb : Nat} {w : Sw} {f : Nat → Int32} (hb : aSw M b w) (hw : aNw M nb f) : Rd ad 1 (iX8_isFoundFor ad) [.ref b, .ref nb] M (some (.int (@ite _ (sameR w.1 f) (Classical.propDecidable _) 1 0))) := by
  refine ⟨Nat.le_of_ble_eq_true rfl, ?_⟩
  show Ev ad _ (rX8_isFoundFor ad) (0, [some (.ref b), some (.ref nb), none], [], M) _
  repeat (refine ng 2 rfl ?_; first | refine es rfl rfl rfl ?_ | refine eg rfl (by assumption) rfl ?_ | refine ean rfl (by assumption) (by assumption) rfl ?_ | refine eal rfl (by assumption) (by assumption) rfl ?_ | refine eri rfl ?_ | refine erv rfl ?_ | refine erl rfl ?_ | refine era rfl ?_ | refine erz0 rfl ?_ | refine erz1 rfl ?_)
  try dsimp only [set1, set2, kilP, List.set_cons_zero, List.set_cons_succ, List.getElem?_cons_zero, List.getElem?_cons_succ, List.nil_append, List.cons_append, Option.toList_some, Option.toList_none]
  exact e8_isf_loop hb hw 7 0 rfl (fun j hj => absurd hj (by omega))
abbrev canS (f : Nat → Int32) (h g : Nat) : Prop := ¬ h = g ∧ ¬ f h = -2 ∧ ¬ f g = -2 ∧ ¬ f h = nI g ∧ ¬ f g = nI h
/-- exchanges of h with houses from g on -/
def sinF (rc : (Nat → Int32) → Sk → Sk) (tr : Nat → Int32) (dp h : Nat) : Nat → Nat → Sk → Sk
  | 0, _, s => s
  | n + 1, g, s => sinF rc tr dp h n (g + 1) (if canS tr h g then rc (swpF tr h g) (upd s.1 dp (nI (10 * h + g)), s.2.1, s.2.2.1, s.2.2.2) else s)
def souF (rc : (Nat → Int32) → Sk → Sk) (tr : Nat → Int32) (dp : Nat) : Nat → Nat → Sk → Sk
  | 0, _, s => s
  | n + 1, h, s => souF rc tr dp n (h + 1) (sinF rc tr dp h (6 - h) (h + 1) s)
noncomputable def seaF : Nat → Nat → (Nat → Int32) → Sk → Sk
  | 0, dp, tr, s => if nI (popc (mbN tr 7)) ≤ s.2.2.2 then s else (s.1, va_cpy s.1 s.2.1 0 0 dp, dp, nI (popc (mbN tr 7)))
  | n + 1, dp, tr, s => if nI (popc (mbN tr 7) + 4 * (n + 1)) ≤ s.2.2.2 then s else souF (seaF n (dp + 1)) tr dp 7 0 s
def seaOk (ad : Nat → Nat) (b n : Nat) : Prop := ∀ (M : Mm) (w : Sw) (dp : Nat), aSw M b w → okR w.2.2.1 → dp + n ≤ 3 → EvM ad (n + 2) (iX8_search ad) [.ref b, .int (nI dp), .int (nI (dp + n))] M (fun v' M' => v' = none ∧ aSw M' b (w.1, w.2.1, w.2.2.1, seaF n dp w.2.2.1 w.2.2.2) ∧ Fr b 6 M M')
theorem e8_sin {ad : Nat → Nat} {b n dp h : Nat} (ih : seaOk ad b n) (hd : dp + (n + 1) ≤ 3) (hh : h < 7) {ff tr : Nat → Int32} {is : Int32} (htr : okR tr) {x3 : Int32} {P : Option Value → Mm → Prop} : ∀ (k g : Nat) (M0 M : Mm) (s : Sk), aSw M b (ff, is, tr, s) → Fr b 6 M0 M → h < g → g + k = 7 → (∀ L5 M', aSw M' b (ff, is, tr, sinF (seaF n (dp + 1)) tr dp h k g s) → Fr b 6 M0 M' → Ev ad (n + 3) (rX8_search ad) (148, [some (.ref b), some (.int (nI dp)), some (.int (nI (dp + (n + 1)))), some (.int x3), some (.int (nI h)), L5], [], M') P) → Ev ad (n + 3) (rX8_search ad) (77, [some (.ref b), some (.int (nI dp)), some (.int (nI (dp + (n + 1)))), some (.int x3), some (.int (nI h)), some (.int (nI g))], [], M) P := by
  intro k
  induction k with
  | zero =>
    intro g M0 M s hb hF hlt hn hk
    repeat (first | refine es rfl rfl rfl ?_ | refine eg rfl (by assumption) rfl ?_ | refine ean rfl (by assumption) (by assumption) rfl ?_ | refine eal rfl (by assumption) (by assumption) rfl ?_ | refine eri rfl ?_ | refine erv rfl ?_ | refine erl rfl ?_ | refine era rfl ?_ | refine erz0 rfl ?_ | refine erz1 rfl ?_)
    try dsimp only [set1, set2, kilP, List.set_cons_zero, List.set_cons_succ, List.getElem?_cons_zero, List.getElem?_cons_succ, List.nil_append, List.cons_append, Option.toList_some, Option.toList_none]
    refine ei _ rfl rfl (fun c => ?_) (fun c => ?_)
    · exact hk _ M hb hF
    · exact absurd (nI_le (a := 7) (by omega) (by omega)) c
  | succ k ihk =>
    intro g M0 M s hb hF hlt hn hk
    have hg : g < 7 := by omega
    have hne : ¬ h = g := by omega
    have hdp : dp < 3 := by omega
    obtain ⟨h0, h1, h2, h3, h4⟩ := hb
    have w0 := h2.1
    rw [sinF] at hk
    repeat (first | refine es rfl rfl rfl ?_ | refine eg rfl (by assumption) rfl ?_ | refine ean rfl (by assumption) (by assumption) rfl ?_ | refine eal rfl (by assumption) (by assumption) rfl ?_ | refine eri rfl ?_ | refine erv rfl ?_ | refine erl rfl ?_ | refine era rfl ?_ | refine erz0 rfl ?_ | refine erz1 rfl ?_)
    try dsimp only [set1, set2, kilP, List.set_cons_zero, List.set_cons_succ, List.getElem?_cons_zero, List.getElem?_cons_succ, List.nil_append, List.cons_append, Option.toList_some, Option.toList_none]
    refine ei _ rfl rfl (fun c => ?_) (fun c => ?_)
    · exact absurd c (nI_ge (b := 7) (by omega) (by omega))
    · repeat (first | refine es rfl rfl rfl ?_ | refine eg rfl (by assumption) rfl ?_ | refine ean rfl (by assumption) (by assumption) rfl ?_ | refine eal rfl (by assumption) (by assumption) rfl ?_ | refine eri rfl ?_ | refine erv rfl ?_ | refine erl rfl ?_ | refine era rfl ?_ | refine erz0 rfl ?_ | refine erz1 rfl ?_)
      try dsimp only [set1, set2, kilP, List.set_cons_zero, List.set_cons_succ, List.getElem?_cons_zero, List.getElem?_cons_succ, List.nil_append, List.cons_append, Option.toList_some, Option.toList_none]
      refine ecr rfl rfl (by assumption) rfl rfl rfl (e3_canSwap h2 hh hg) (by first | rfl | exact Nat.blt_eq.mpr (by omega)) rfl ?_
      by_cases hc : canS tr h g
      · rw [show bI (canS tr h g) = 1 from if_pos hc]
        rw [if_pos hc] at hk
        repeat (first | refine es rfl rfl rfl ?_ | refine eg rfl (by assumption) rfl ?_ | refine ean rfl (by assumption) (by assumption) rfl ?_ | refine eal rfl (by assumption) (by assumption) rfl ?_ | refine eri rfl ?_ | refine erv rfl ?_ | refine erl rfl ?_ | refine era rfl ?_ | refine erz0 rfl ?_ | refine erz1 rfl ?_)
        try dsimp only [set1, set2, kilP, List.set_cons_zero, List.set_cons_succ, List.getElem?_cons_zero, List.getElem?_cons_succ, List.nil_append, List.cons_append, Option.toList_some, Option.toList_none]
        rw [show (10 : Int32) * nI h + nI g = nI (10 * h + g) from by rw [show (10 : Int32) = nI 10 from rfl, pk_mul, nI_add]]
        refine etM rfl (by assumption) (by assumption) rfl (fun M2 eM => ?_)
        have k3 := up_w eM
        replace h0 := up_k eM h0 (by omega)
        replace h1 := up_k eM h1 (by omega)
        replace h4 := up_k eM h4 (by omega)
        replace h2 := h2.kept (M' := M2) (fun q a1 a2 => by rw [eM, up_n _ _ (by omega)])
        have w0 := h2.1
        replace hF := hF.up eM (by omega) (by omega)
        repeat (first | refine es rfl rfl rfl ?_ | refine eg rfl (by assumption) rfl ?_ | refine ean rfl (by assumption) (by assumption) rfl ?_ | refine eal rfl (by assumption) (by assumption) rfl ?_ | refine eri rfl ?_ | refine erv rfl ?_ | refine erl rfl ?_ | refine era rfl ?_ | refine erz0 rfl ?_ | refine erz1 rfl ?_)
        try dsimp only [set1, set2, kilP, List.set_cons_zero, List.set_cons_succ, List.getElem?_cons_zero, List.getElem?_cons_succ, List.nil_append, List.cons_append, Option.toList_some, Option.toList_none]
        refine ecv rfl rfl (by assumption) rfl rfl rfl (e3_swap h2 hh hg) (by first | rfl | exact Nat.blt_eq.mpr (by omega)) ?_
        rintro v M3 ⟨rfl, eM3⟩
        replace h0 := up_k eM3 h0 (by omega)
        replace h1 := up_k eM3 h1 (by omega)
        replace k3 := up_k eM3 k3 (by omega)
        replace h4 := up_k eM3 h4 (by omega)
        have h2' : aNw M3 (b + 2) (swpF tr h g) := by rw [eM3]; exact h2.put
        replace hF := hF.up eM3 (by omega) (by omega)
        try dsimp only [set1, set2, kilP, List.set_cons_zero, List.set_cons_succ, List.getElem?_cons_zero, List.getElem?_cons_succ, List.nil_append, List.cons_append, Option.toList_some, Option.toList_none]
        repeat (first | refine es rfl rfl rfl ?_ | refine eg rfl (by assumption) rfl ?_ | refine ean rfl (by assumption) (by assumption) rfl ?_ | refine eal rfl (by assumption) (by assumption) rfl ?_ | refine eri rfl ?_ | refine erv rfl ?_ | refine erl rfl ?_ | refine era rfl ?_ | refine erz0 rfl ?_ | refine erz1 rfl ?_)
        try dsimp only [set1, set2, kilP, List.set_cons_zero, List.set_cons_succ, List.getElem?_cons_zero, List.getElem?_cons_succ, List.nil_append, List.cons_append, Option.toList_some, Option.toList_none]
        rw [nI_1]
        refine ecv rfl rfl (by assumption) rfl rfl rfl ((show EvM ad (n + 2) (iX8_search ad) [.ref b, .int (nI (dp + 1)), .int (nI (dp + (n + 1)))] M3 _ from by have h9 := ih M3 (ff, is, swpF tr h g, (upd s.1 dp (nI (10 * h + g)), s.2.1, s.2.2.1, s.2.2.2)) (dp + 1) ⟨h0, h1, h2', k3, h4⟩ (okR_swp htr hh hg) (by omega); rw [show dp + 1 + n = dp + (n + 1) by omega] at h9; exact h9)) (by first | rfl | exact Nat.blt_eq.mpr (by omega)) ?_
        rintro v M4 ⟨rfl, hb4, hF4⟩
        replace hF := hF.tr hF4 (by omega) (by omega)
        obtain ⟨h0, h1, h2, h3, h4⟩ := hb4
        have w0 := h2.1
        try dsimp only [set1, set2, kilP, List.set_cons_zero, List.set_cons_succ, List.getElem?_cons_zero, List.getElem?_cons_succ, List.nil_append, List.cons_append, Option.toList_some, Option.toList_none]
        repeat (first | refine es rfl rfl rfl ?_ | refine eg rfl (by assumption) rfl ?_ | refine ean rfl (by assumption) (by assumption) rfl ?_ | refine eal rfl (by assumption) (by assumption) rfl ?_ | refine eri rfl ?_ | refine erv rfl ?_ | refine erl rfl ?_ | refine era rfl ?_ | refine erz0 rfl ?_ | refine erz1 rfl ?_)
        try dsimp only [set1, set2, kilP, List.set_cons_zero, List.set_cons_succ, List.getElem?_cons_zero, List.getElem?_cons_succ, List.nil_append, List.cons_append, Option.toList_some, Option.toList_none]
        refine ecv rfl rfl (by assumption) rfl rfl rfl (e3_swap h2 hh hg) (by first | rfl | exact Nat.blt_eq.mpr (by omega)) ?_
        rintro v M5 ⟨rfl, eM5⟩
        replace h0 := up_k eM5 h0 (by omega)
        replace h1 := up_k eM5 h1 (by omega)
        replace h3 := up_k eM5 h3 (by omega)
        replace h4 := up_k eM5 h4 (by omega)
        have h2' : aNw M5 (b + 2) tr := by
          have h9 : aNw M5 (b + 2) (swpF (swpF tr h g) h g) := by rw [eM5]; exact h2.put
          rw [swp_swp tr hne] at h9
          exact h9
        replace hF := hF.up eM5 (by omega) (by omega)
        try dsimp only [set1, set2, kilP, List.set_cons_zero, List.set_cons_succ, List.getElem?_cons_zero, List.getElem?_cons_succ, List.nil_append, List.cons_append, Option.toList_some, Option.toList_none]
        repeat (refine ng 77 rfl ?_; first | refine es rfl rfl rfl ?_ | refine eg rfl (by assumption) rfl ?_ | refine ean rfl (by assumption) (by assumption) rfl ?_ | refine eal rfl (by assumption) (by assumption) rfl ?_ | refine eri rfl ?_ | refine erv rfl ?_ | refine erl rfl ?_ | refine era rfl ?_ | refine erz0 rfl ?_ | refine erz1 rfl ?_)
        try dsimp only [set1, set2, kilP, List.set_cons_zero, List.set_cons_succ, List.getElem?_cons_zero, List.getElem?_cons_succ, List.nil_append, List.cons_append, Option.toList_some, Option.toList_none]
        rw [nI_1]
        exact ihk (g + 1) M0 M5 _ ⟨h0, h1, h2', h3, h4⟩ hF (by omega) (by omega) hk
      · rw [show bI (canS tr h g) = 0 from if_neg hc]
        rw [if_neg hc] at hk
        repeat (refine ng 77 rfl ?_; first | refine es rfl rfl rfl ?_ | refine eg rfl (by assumption) rfl ?_ | refine ean rfl (by assumption) (by assumption) rfl ?_ | refine eal rfl (by assumption) (by assumption) rfl ?_ | refine eri rfl ?_ | refine erv rfl ?_ | refine erl rfl ?_ | refine era rfl ?_ | refine erz0 rfl ?_ | refine erz1 rfl ?_)
        try dsimp only [set1, set2, kilP, List.set_cons_zero, List.set_cons_succ, List.getElem?_cons_zero, List.getElem?_cons_succ, List.nil_append, List.cons_append, Option.toList_some, Option.toList_none]
        rw [nI_1]
        exact ihk (g + 1) M0 M s ⟨h0, h1, h2, h3, h4⟩ hF (by omega) (by omega) hk
theorem e8_sou {ad : Nat → Nat} {b n dp : Nat} (ih : seaOk ad b n) (hd : dp + (n + 1) ≤ 3) {ff tr : Nat → Int32} {is : Int32} (htr : okR tr) {x3 : Int32} : ∀ (k h : Nat) (M0 M : Mm) (s : Sk) (L5 : Option Value), aSw M b (ff, is, tr, s) → Fr b 6 M0 M → h + k = 7 → Ev ad (n + 3) (rX8_search ad) (64, [some (.ref b), some (.int (nI dp)), some (.int (nI (dp + (n + 1)))), some (.int x3), some (.int (nI h)), L5], [], M) (fun v' M' => v' = none ∧ aSw M' b (ff, is, tr, souF (seaF n (dp + 1)) tr dp k h s) ∧ Fr b 6 M0 M') := by
  intro k
  induction k with
  | zero =>
    intro h M0 M s L5 hb hF hn
    repeat (first | refine es rfl rfl rfl ?_ | refine eg rfl (by assumption) rfl ?_ | refine ean rfl (by assumption) (by assumption) rfl ?_ | refine eal rfl (by assumption) (by assumption) rfl ?_ | refine eri rfl ?_ | refine erv rfl ?_ | refine erl rfl ?_ | refine era rfl ?_ | refine erz0 rfl ?_ | refine erz1 rfl ?_)
    try dsimp only [set1, set2, kilP, List.set_cons_zero, List.set_cons_succ, List.getElem?_cons_zero, List.getElem?_cons_succ, List.nil_append, List.cons_append, Option.toList_some, Option.toList_none]
    refine ei _ rfl rfl (fun c => ?_) (fun c => ?_)
    · repeat (first | refine es rfl rfl rfl ?_ | refine eg rfl (by assumption) rfl ?_ | refine ean rfl (by assumption) (by assumption) rfl ?_ | refine eal rfl (by assumption) (by assumption) rfl ?_ | refine eri rfl ?_ | refine erv rfl ?_ | refine erl rfl ?_ | refine era rfl ?_ | refine erz0 rfl ?_ | refine erz1 rfl ?_)
      try dsimp only [set1, set2, kilP, List.set_cons_zero, List.set_cons_succ, List.getElem?_cons_zero, List.getElem?_cons_succ, List.nil_append, List.cons_append, Option.toList_some, Option.toList_none]
      exact ⟨rfl, hb, hF⟩
    · exact absurd (nI_le (a := 7) (by omega) (by omega)) c
  | succ k ihk =>
    intro h M0 M s L5 hb hF hn
    have hh : h < 7 := by omega
    rw [souF]
    repeat (first | refine es rfl rfl rfl ?_ | refine eg rfl (by assumption) rfl ?_ | refine ean rfl (by assumption) (by assumption) rfl ?_ | refine eal rfl (by assumption) (by assumption) rfl ?_ | refine eri rfl ?_ | refine erv rfl ?_ | refine erl rfl ?_ | refine era rfl ?_ | refine erz0 rfl ?_ | refine erz1 rfl ?_)
    try dsimp only [set1, set2, kilP, List.set_cons_zero, List.set_cons_succ, List.getElem?_cons_zero, List.getElem?_cons_succ, List.nil_append, List.cons_append, Option.toList_some, Option.toList_none]
    refine ei _ rfl rfl (fun c => ?_) (fun c => ?_)
    · exact absurd c (nI_ge (b := 7) (by omega) (by omega))
    · repeat (refine ng 77 rfl ?_; first | refine es rfl rfl rfl ?_ | refine eg rfl (by assumption) rfl ?_ | refine ean rfl (by assumption) (by assumption) rfl ?_ | refine eal rfl (by assumption) (by assumption) rfl ?_ | refine eri rfl ?_ | refine erv rfl ?_ | refine erl rfl ?_ | refine era rfl ?_ | refine erz0 rfl ?_ | refine erz1 rfl ?_)
      try dsimp only [set1, set2, kilP, List.set_cons_zero, List.set_cons_succ, List.getElem?_cons_zero, List.getElem?_cons_succ, List.nil_append, List.cons_append, Option.toList_some, Option.toList_none]
      rw [nI_1]
      refine e8_sin ih hd hh htr (6 - h) (h + 1) M0 M s hb hF (by omega) (by omega) (fun L5 M2 hb2 hF2 => ?_)
      repeat (refine ng 64 rfl ?_; first | refine es rfl rfl rfl ?_ | refine eg rfl (by assumption) rfl ?_ | refine ean rfl (by assumption) (by assumption) rfl ?_ | refine eal rfl (by assumption) (by assumption) rfl ?_ | refine eri rfl ?_ | refine erv rfl ?_ | refine erl rfl ?_ | refine era rfl ?_ | refine erz0 rfl ?_ | refine erz1 rfl ?_)
      try dsimp only [set1, set2, kilP, List.set_cons_zero, List.set_cons_succ, List.getElem?_cons_zero, List.getElem?_cons_succ, List.nil_append, List.cons_append, Option.toList_some, Option.toList_none]
      rw [nI_1]
      exact ihk (h + 1) M0 M2 _ _ hb2 hF2 (by omega)
theorem e8_search {ad : Nat → Nat} {b : Nat} : ∀ n, seaOk ad b n := by
  intro n
  induction n with
  | zero =>
    intro M w dp hb hf hd
    have hb' := hb
    obtain ⟨h0, h1, h2, h3, h4⟩ := hb
    have w0 := h2.1
    have hF := Fr.rf b 6 M
    refine ⟨Nat.le_of_ble_eq_true rfl, ?_⟩
    show Ev ad _ (rX8_search ad) (0, [some (.ref b), some (.int (nI dp)), some (.int (nI (dp + 0))), none, none, none], [], M) _
    repeat (first | refine es rfl rfl rfl ?_ | refine eg rfl (by assumption) rfl ?_ | refine ean rfl (by assumption) (by assumption) rfl ?_ | refine eal rfl (by assumption) (by assumption) rfl ?_ | refine eri rfl ?_ | refine erv rfl ?_ | refine erl rfl ?_ | refine era rfl ?_ | refine erz0 rfl ?_ | refine erz1 rfl ?_)
    try dsimp only [set1, set2, kilP, List.set_cons_zero, List.set_cons_succ, List.getElem?_cons_zero, List.getElem?_cons_succ, List.nil_append, List.cons_append, Option.toList_some, Option.toList_none]
    refine ecr rfl rfl (by assumption) rfl rfl rfl (e3_mbits h2 hf) (by first | rfl | exact Nat.blt_eq.mpr (by omega)) rfl ?_
    rw [mbF_N _ 7 (Nat.le_refl _)]
    refine ecsr rfl rfl rfl rfl rfl rfl (ej_bits (mbN_128 _)) (by first | rfl | exact Nat.blt_eq.mpr (by omega)) rfl ?_
    repeat (first | refine es rfl rfl rfl ?_ | refine eg rfl (by assumption) rfl ?_ | refine ean rfl (by assumption) (by assumption) rfl ?_ | refine eal rfl (by assumption) (by assumption) rfl ?_ | refine eri rfl ?_ | refine erv rfl ?_ | refine erl rfl ?_ | refine era rfl ?_ | refine erz0 rfl ?_ | refine erz1 rfl ?_)
    try dsimp only [set1, set2, kilP, List.set_cons_zero, List.set_cons_succ, List.getElem?_cons_zero, List.getElem?_cons_succ, List.nil_append, List.cons_append, Option.toList_some, Option.toList_none]
    rw [show nI (popc (mbN w.2.2.1 7)) + 4 * (nI (dp + 0) - nI dp) = nI (popc (mbN w.2.2.1 7)) from by rw [Nat.add_zero, pk_sub (Nat.le_refl _), Nat.sub_self, show (4 : Int32) * nI 0 = nI (4 * 0) from pk_mul 4 0, nI_add, Nat.mul_zero, Nat.add_zero]]
    rw [seaF]
    refine ei _ rfl rfl (fun c => ?_) (fun c => ?_)
    · rw [if_neg (Int32.not_le.mpr c)]
      repeat (first | refine es rfl rfl rfl ?_ | refine eg rfl (by assumption) rfl ?_ | refine ean rfl (by assumption) (by assumption) rfl ?_ | refine eal rfl (by assumption) (by assumption) rfl ?_ | refine eri rfl ?_ | refine erv rfl ?_ | refine erl rfl ?_ | refine era rfl ?_ | refine erz0 rfl ?_ | refine erz1 rfl ?_)
      try dsimp only [set1, set2, kilP, List.set_cons_zero, List.set_cons_succ, List.getElem?_cons_zero, List.getElem?_cons_succ, List.nil_append, List.cons_append, Option.toList_some, Option.toList_none]
      refine ei _ rfl rfl (fun c1 => ?_) (fun c1 => ?_)
      · repeat (first | refine es rfl rfl rfl ?_ | refine eg rfl (by assumption) rfl ?_ | refine ean rfl (by assumption) (by assumption) rfl ?_ | refine eal rfl (by assumption) (by assumption) rfl ?_ | refine eri rfl ?_ | refine erv rfl ?_ | refine erl rfl ?_ | refine era rfl ?_ | refine erz0 rfl ?_ | refine erz1 rfl ?_)
        try dsimp only [set1, set2, kilP, List.set_cons_zero, List.set_cons_succ, List.getElem?_cons_zero, List.getElem?_cons_succ, List.nil_append, List.cons_append, Option.toList_some, Option.toList_none]
        refine epM rfl (by assumption) rfl rfl rfl (fun M2 eM => ?_)
        have k0 := up_w eM
        replace h1 := up_k eM h1 (by omega)
        replace h3 := up_k eM h3 (by omega)
        replace h4 := up_k eM h4 (by omega)
        replace h2 := h2.kept (M' := M2) (fun q a1 a2 => by rw [eM, up_n _ _ (by omega)])
        replace hF := hF.up eM (by omega) (by omega)
        repeat (first | refine es rfl rfl rfl ?_ | refine eg rfl (by assumption) rfl ?_ | refine ean rfl (by assumption) (by assumption) rfl ?_ | refine eal rfl (by assumption) (by assumption) rfl ?_ | refine eri rfl ?_ | refine erv rfl ?_ | refine erl rfl ?_ | refine era rfl ?_ | refine erz0 rfl ?_ | refine erz1 rfl ?_)
        try dsimp only [set1, set2, kilP, List.set_cons_zero, List.set_cons_succ, List.getElem?_cons_zero, List.getElem?_cons_succ, List.nil_append, List.cons_append, Option.toList_some, Option.toList_none]
        refine epM rfl (by assumption) rfl rfl rfl (fun M3 eM3 => ?_)
        have k1 := up_w eM3
        replace h1 := up_k eM3 h1 (by omega)
        replace h3 := up_k eM3 h3 (by omega)
        replace h4 := up_k eM3 h4 (by omega)
        replace h2 := h2.kept (M' := M3) (fun q a1 a2 => by rw [eM3, up_n _ _ (by omega)])
        replace hF := hF.up eM3 (by omega) (by omega)
        repeat (first | refine es rfl rfl rfl ?_ | refine eg rfl (by assumption) rfl ?_ | refine ean rfl (by assumption) (by assumption) rfl ?_ | refine eal rfl (by assumption) (by assumption) rfl ?_ | refine eri rfl ?_ | refine erv rfl ?_ | refine erl rfl ?_ | refine era rfl ?_ | refine erz0 rfl ?_ | refine erz1 rfl ?_)
        try dsimp only [set1, set2, kilP, List.set_cons_zero, List.set_cons_succ, List.getElem?_cons_zero, List.getElem?_cons_succ, List.nil_append, List.cons_append, Option.toList_some, Option.toList_none]
        refine ecp (sp := 0) (dp := 0) (n := dp) rfl h3 h4 (by omega) (by omega) rfl rfl rfl (fun M4 eM4 => ?_)
        have k4 := up_w eM4
        replace k1 := up_k eM4 k1 (by omega)
        replace h1 := up_k eM4 h1 (by omega)
        replace h3 := up_k eM4 h3 (by omega)
        replace h2 := h2.kept (M' := M4) (fun q a1 a2 => by rw [eM4, up_n _ _ (by omega)])
        replace hF := hF.up eM4 (by omega) (by omega)
        repeat (first | refine es rfl rfl rfl ?_ | refine eg rfl (by assumption) rfl ?_ | refine ean rfl (by assumption) (by assumption) rfl ?_ | refine eal rfl (by assumption) (by assumption) rfl ?_ | refine eri rfl ?_ | refine erv rfl ?_ | refine erl rfl ?_ | refine era rfl ?_ | refine erz0 rfl ?_ | refine erz1 rfl ?_)
        try dsimp only [set1, set2, kilP, List.set_cons_zero, List.set_cons_succ, List.getElem?_cons_zero, List.getElem?_cons_succ, List.nil_append, List.cons_append, Option.toList_some, Option.toList_none]
        exact ⟨rfl, ⟨k1, h1, h2, h3, k4⟩, hF⟩
      · exact absurd (nI_le (by omega) (by omega)) c1
    · rw [if_pos (Int32.not_lt.mp c)]
      repeat (first | refine es rfl rfl rfl ?_ | refine eg rfl (by assumption) rfl ?_ | refine ean rfl (by assumption) (by assumption) rfl ?_ | refine eal rfl (by assumption) (by assumption) rfl ?_ | refine eri rfl ?_ | refine erv rfl ?_ | refine erl rfl ?_ | refine era rfl ?_ | refine erz0 rfl ?_ | refine erz1 rfl ?_)
      try dsimp only [set1, set2, kilP, List.set_cons_zero, List.set_cons_succ, List.getElem?_cons_zero, List.getElem?_cons_succ, List.nil_append, List.cons_append, Option.toList_some, Option.toList_none]
      exact ⟨rfl, hb', hF⟩
  | succ n ih =>
    intro M w dp hb hf hd
    have hb' := hb
    obtain ⟨h0, h1, h2, h3, h4⟩ := hb
    have w0 := h2.1
    have hF := Fr.rf b 6 M
    refine ⟨Nat.le_of_ble_eq_true rfl, ?_⟩
    show Ev ad _ (rX8_search ad) (0, [some (.ref b), some (.int (nI dp)), some (.int (nI (dp + (n + 1)))), none, none, none], [], M) _
    repeat (first | refine es rfl rfl rfl ?_ | refine eg rfl (by assumption) rfl ?_ | refine ean rfl (by assumption) (by assumption) rfl ?_ | refine eal rfl (by assumption) (by assumption) rfl ?_ | refine eri rfl ?_ | refine erv rfl ?_ | refine erl rfl ?_ | refine era rfl ?_ | refine erz0 rfl ?_ | refine erz1 rfl ?_)
    try dsimp only [set1, set2, kilP, List.set_cons_zero, List.set_cons_succ, List.getElem?_cons_zero, List.getElem?_cons_succ, List.nil_append, List.cons_append, Option.toList_some, Option.toList_none]
    refine ecr rfl rfl (by assumption) rfl rfl rfl ((e3_mbits h2 hf).up (d2 := 1) (by omega)) (by first | rfl | exact Nat.blt_eq.mpr (by omega)) rfl ?_
    rw [mbF_N _ 7 (Nat.le_refl _)]
    refine ecsr rfl rfl rfl rfl rfl rfl (ej_bits (mbN_128 _)) (by first | rfl | exact Nat.blt_eq.mpr (by omega)) rfl ?_
    repeat (first | refine es rfl rfl rfl ?_ | refine eg rfl (by assumption) rfl ?_ | refine ean rfl (by assumption) (by assumption) rfl ?_ | refine eal rfl (by assumption) (by assumption) rfl ?_ | refine eri rfl ?_ | refine erv rfl ?_ | refine erl rfl ?_ | refine era rfl ?_ | refine erz0 rfl ?_ | refine erz1 rfl ?_)
    try dsimp only [set1, set2, kilP, List.set_cons_zero, List.set_cons_succ, List.getElem?_cons_zero, List.getElem?_cons_succ, List.nil_append, List.cons_append, Option.toList_some, Option.toList_none]
    rw [show nI (popc (mbN w.2.2.1 7)) + 4 * (nI (dp + (n + 1)) - nI dp) = nI (popc (mbN w.2.2.1 7) + 4 * (n + 1)) from by rw [pk_sub (by omega), show dp + (n + 1) - dp = n + 1 by omega, show (4 : Int32) * nI (n + 1) = nI (4 * (n + 1)) from pk_mul 4 _, nI_add]]
    rw [seaF]
    refine ei _ rfl rfl (fun c => ?_) (fun c => ?_)
    · rw [if_neg (Int32.not_le.mpr c)]
      repeat (first | refine es rfl rfl rfl ?_ | refine eg rfl (by assumption) rfl ?_ | refine ean rfl (by assumption) (by assumption) rfl ?_ | refine eal rfl (by assumption) (by assumption) rfl ?_ | refine eri rfl ?_ | refine erv rfl ?_ | refine erl rfl ?_ | refine era rfl ?_ | refine erz0 rfl ?_ | refine erz1 rfl ?_)
      try dsimp only [set1, set2, kilP, List.set_cons_zero, List.set_cons_succ, List.getElem?_cons_zero, List.getElem?_cons_succ, List.nil_append, List.cons_append, Option.toList_some, Option.toList_none]
      refine ei _ rfl rfl (fun c1 => ?_) (fun c1 => ?_)
      · exact absurd c1 (nI_ge (by omega) (by omega))
      · repeat (first | refine es rfl rfl rfl ?_ | refine eg rfl (by assumption) rfl ?_ | refine ean rfl (by assumption) (by assumption) rfl ?_ | refine eal rfl (by assumption) (by assumption) rfl ?_ | refine eri rfl ?_ | refine erv rfl ?_ | refine erl rfl ?_ | refine era rfl ?_ | refine erz0 rfl ?_ | refine erz1 rfl ?_)
        try dsimp only [set1, set2, kilP, List.set_cons_zero, List.set_cons_succ, List.getElem?_cons_zero, List.getElem?_cons_succ, List.nil_append, List.cons_append, Option.toList_some, Option.toList_none]
        refine ei _ rfl rfl (fun c2 => ?_) (fun c2 => ?_)
        · repeat (refine ng 64 rfl ?_; first | refine es rfl rfl rfl ?_ | refine eg rfl (by assumption) rfl ?_ | refine ean rfl (by assumption) (by assumption) rfl ?_ | refine eal rfl (by assumption) (by assumption) rfl ?_ | refine eri rfl ?_ | refine erv rfl ?_ | refine erl rfl ?_ | refine era rfl ?_ | refine erz0 rfl ?_ | refine erz1 rfl ?_)
          try dsimp only [set1, set2, kilP, List.set_cons_zero, List.set_cons_succ, List.getElem?_cons_zero, List.getElem?_cons_succ, List.nil_append, List.cons_append, Option.toList_some, Option.toList_none]
          exact e8_sou ih (by omega) hf 7 0 M M w.2.2.2 _ hb' hF rfl
        · exact absurd (nI_lt (b := 3) (by omega) (by omega)) c2
    · rw [if_pos (Int32.not_lt.mp c)]
      repeat (first | refine es rfl rfl rfl ?_ | refine eg rfl (by assumption) rfl ?_ | refine ean rfl (by assumption) (by assumption) rfl ?_ | refine eal rfl (by assumption) (by assumption) rfl ?_ | refine eri rfl ?_ | refine erv rfl ?_ | refine erl rfl ?_ | refine era rfl ?_ | refine erz0 rfl ?_ | refine erz1 rfl ?_)
      try dsimp only [set1, set2, kilP, List.set_cons_zero, List.set_cons_succ, List.getElem?_cons_zero, List.getElem?_cons_succ, List.nil_append, List.cons_append, Option.toList_some, Option.toList_none]
      exact ⟨rfl, hb', hF⟩

/-- rows of lengths from k on -/
noncomputable def fbF (tr : Nat → Int32) : Nat → Nat → Sk → Sk
  | 0, _, s => s
  | n + 1, k, s => fbF tr n (k + 1) (seaF k 0 tr s)
theorem e8_fb1 {ad : Nat → Nat} {b nb : Nat} {ff tr : Nat → Int32} {is : Int32} (htr : okR tr) {P : Option Value → Mm → Prop} : ∀ (n k : Nat) (M0 M : Mm) (s : Sk), aSw M b (ff, is, tr, s) → Fr b 6 M0 M → k + n = 4 → (∀ L2 M', aSw M' b (ff, is, tr, fbF tr n k s) → Fr b 6 M0 M' → Ev ad 6 (rX8_findBest ad) (48, [some (.ref b), some (.ref nb), L2], [], M') P) → Ev ad 6 (rX8_findBest ad) (31, [some (.ref b), some (.ref nb), some (.int (nI k))], [], M) P := by
  intro n
  induction n with
  | zero =>
    intro k M0 M s hb hF hn hk
    repeat (first | refine es rfl rfl rfl ?_ | refine eg rfl (by assumption) rfl ?_ | refine ean rfl (by assumption) (by assumption) rfl ?_ | refine eal rfl (by assumption) (by assumption) rfl ?_ | refine eri rfl ?_ | refine erv rfl ?_ | refine erl rfl ?_ | refine era rfl ?_ | refine erz0 rfl ?_ | refine erz1 rfl ?_)
    try dsimp only [set1, set2, kilP, List.set_cons_zero, List.set_cons_succ, List.getElem?_cons_zero, List.getElem?_cons_succ, List.nil_append, List.cons_append, Option.toList_some, Option.toList_none]
    refine ei _ rfl rfl (fun c => ?_) (fun c => ?_)
    · exact hk _ M hb hF
    · exact absurd (nI_lt (a := 3) (by omega) (by omega)) c
  | succ n ih =>
    intro k M0 M s hb hF hn hk
    have hb' := hb
    obtain ⟨h0, h1, h2, h3, h4⟩ := hb
    repeat (first | refine es rfl rfl rfl ?_ | refine eg rfl (by assumption) rfl ?_ | refine ean rfl (by assumption) (by assumption) rfl ?_ | refine eal rfl (by assumption) (by assumption) rfl ?_ | refine eri rfl ?_ | refine erv rfl ?_ | refine erl rfl ?_ | refine era rfl ?_ | refine erz0 rfl ?_ | refine erz1 rfl ?_)
    try dsimp only [set1, set2, kilP, List.set_cons_zero, List.set_cons_succ, List.getElem?_cons_zero, List.getElem?_cons_succ, List.nil_append, List.cons_append, Option.toList_some, Option.toList_none]
    refine ei _ rfl rfl (fun c => ?_) (fun c => ?_)
    · exact absurd c (nI_nlt (a := 3) (by omega) (by omega))
    · have h9 := e8_search (ad := ad) k M (ff, is, tr, s) 0 hb' htr (by omega)
      rw [Nat.zero_add] at h9
      repeat (first | refine es rfl rfl rfl ?_ | refine eg rfl (by assumption) rfl ?_ | refine ean rfl (by assumption) (by assumption) rfl ?_ | refine eal rfl (by assumption) (by assumption) rfl ?_ | refine eri rfl ?_ | refine erv rfl ?_ | refine erl rfl ?_ | refine era rfl ?_ | refine erz0 rfl ?_ | refine erz1 rfl ?_)
      try dsimp only [set1, set2, kilP, List.set_cons_zero, List.set_cons_succ, List.getElem?_cons_zero, List.getElem?_cons_succ, List.nil_append, List.cons_append, Option.toList_some, Option.toList_none]
      refine ecv rfl rfl (by assumption) rfl rfl rfl (h9) (by first | rfl | exact Nat.blt_eq.mpr (by omega)) ?_
      rintro v M2 ⟨rfl, hb2, hF2⟩
      try dsimp only [set1, set2, kilP, List.set_cons_zero, List.set_cons_succ, List.getElem?_cons_zero, List.getElem?_cons_succ, List.nil_append, List.cons_append, Option.toList_some, Option.toList_none]
      repeat (refine ng 31 rfl ?_; first | refine es rfl rfl rfl ?_ | refine eg rfl (by assumption) rfl ?_ | refine ean rfl (by assumption) (by assumption) rfl ?_ | refine eal rfl (by assumption) (by assumption) rfl ?_ | refine eri rfl ?_ | refine erv rfl ?_ | refine erl rfl ?_ | refine era rfl ?_ | refine erz0 rfl ?_ | refine erz1 rfl ?_)
      try dsimp only [set1, set2, kilP, List.set_cons_zero, List.set_cons_succ, List.getElem?_cons_zero, List.getElem?_cons_succ, List.nil_append, List.cons_append, Option.toList_some, Option.toList_none]
      rw [nI_1]
      exact ih (k + 1) M0 M2 _ hb2 (hF.tr hF2 (by omega) (by omega)) (by omega) hk
theorem e8_fb2 {ad : Nat → Nat} {b nb : Nat} {f tr : Nat → Int32} {is : Int32} {s : Sk} (d1 : nb + 2 ≤ b ∨ b + 6 ≤ nb) : ∀ (n k : Nat) (M0 M : Mm) (ff : Nat → Int32), aSw M b (ff, is, tr, s) → aNw M nb f → Fr b 6 M0 M → k + n = 7 → (∀ j, j < k → ff j = f j) → Ev ad 6 (rX8_findBest ad) (50, [some (.ref b), some (.ref nb), some (.int (nI k))], [], M) (fun v' M' => v' = none ∧ (∃ ff', sameR ff' f ∧ aSw M' b (ff', 1, tr, s)) ∧ Fr b 6 M0 M') := by
  intro n
  induction n with
  | zero =>
    intro k M0 M ff hb hw hF hn hz
    obtain ⟨h0, h1, h2, h3, h4⟩ := hb
    repeat (first | refine es rfl rfl rfl ?_ | refine eg rfl (by assumption) rfl ?_ | refine ean rfl (by assumption) (by assumption) rfl ?_ | refine eal rfl (by assumption) (by assumption) rfl ?_ | refine eri rfl ?_ | refine erv rfl ?_ | refine erl rfl ?_ | refine era rfl ?_ | refine erz0 rfl ?_ | refine erz1 rfl ?_)
    try dsimp only [set1, set2, kilP, List.set_cons_zero, List.set_cons_succ, List.getElem?_cons_zero, List.getElem?_cons_succ, List.nil_append, List.cons_append, Option.toList_some, Option.toList_none]
    refine ei _ rfl rfl (fun c => ?_) (fun c => ?_)
    · repeat (first | refine es rfl rfl rfl ?_ | refine eg rfl (by assumption) rfl ?_ | refine ean rfl (by assumption) (by assumption) rfl ?_ | refine eal rfl (by assumption) (by assumption) rfl ?_ | refine eri rfl ?_ | refine erv rfl ?_ | refine erl rfl ?_ | refine era rfl ?_ | refine erz0 rfl ?_ | refine erz1 rfl ?_)
      try dsimp only [set1, set2, kilP, List.set_cons_zero, List.set_cons_succ, List.getElem?_cons_zero, List.getElem?_cons_succ, List.nil_append, List.cons_append, Option.toList_some, Option.toList_none]
      refine epM rfl (by assumption) rfl rfl rfl (fun M2 eM => ?_)
      have k0 := up_w eM
      replace h1 := up_k eM h1 (by omega)
      replace h3 := up_k eM h3 (by omega)
      replace h4 := up_k eM h4 (by omega)
      replace h2 := h2.kept (M' := M2) (fun q a1 a2 => by rw [eM, up_n _ _ (by omega)])
      repeat (first | refine es rfl rfl rfl ?_ | refine eg rfl (by assumption) rfl ?_ | refine ean rfl (by assumption) (by assumption) rfl ?_ | refine eal rfl (by assumption) (by assumption) rfl ?_ | refine eri rfl ?_ | refine erv rfl ?_ | refine erl rfl ?_ | refine era rfl ?_ | refine erz0 rfl ?_ | refine erz1 rfl ?_)
      try dsimp only [set1, set2, kilP, List.set_cons_zero, List.set_cons_succ, List.getElem?_cons_zero, List.getElem?_cons_succ, List.nil_append, List.cons_append, Option.toList_some, Option.toList_none]
      exact ⟨rfl, ⟨ff, fun j hj => hz j (by omega), k0, h1, h2, h3, h4⟩, hF.up eM (by omega) (by omega)⟩
    · exact absurd (nI_le (a := 7) (by omega) (by omega)) c
  | succ n ih =>
    intro k M0 M ff hb hw hF hn hz
    obtain ⟨h0, h1, h2, h3, h4⟩ := hb
    have w0 := hw.1
    have hk : k < 7 := by omega
    repeat (first | refine es rfl rfl rfl ?_ | refine eg rfl (by assumption) rfl ?_ | refine ean rfl (by assumption) (by assumption) rfl ?_ | refine eal rfl (by assumption) (by assumption) rfl ?_ | refine eri rfl ?_ | refine erv rfl ?_ | refine erl rfl ?_ | refine era rfl ?_ | refine erz0 rfl ?_ | refine erz1 rfl ?_)
    try dsimp only [set1, set2, kilP, List.set_cons_zero, List.set_cons_succ, List.getElem?_cons_zero, List.getElem?_cons_succ, List.nil_append, List.cons_append, Option.toList_some, Option.toList_none]
    refine ei _ rfl rfl (fun c => ?_) (fun c => ?_)
    · exact absurd c (nI_ge (b := 7) (by omega) (by omega))
    · repeat (first | refine es rfl rfl rfl ?_ | refine eg rfl (by assumption) rfl ?_ | refine ean rfl (by assumption) (by assumption) rfl ?_ | refine eal rfl (by assumption) (by assumption) rfl ?_ | refine eri rfl ?_ | refine erv rfl ?_ | refine erl rfl ?_ | refine era rfl ?_ | refine erz0 rfl ?_ | refine erz1 rfl ?_)
      try dsimp only [set1, set2, kilP, List.set_cons_zero, List.set_cons_succ, List.getElem?_cons_zero, List.getElem?_cons_succ, List.nil_append, List.cons_append, Option.toList_some, Option.toList_none]
      refine ecr rfl rfl (by assumption) rfl rfl rfl (e3_roomOf hw (k := k) (by omega)) (by first | rfl | exact Nat.blt_eq.mpr (by omega)) rfl ?_
      refine etM rfl (by assumption) (by assumption) rfl (fun M2 eM => ?_)
      have k1 := up_w eM
      replace h0 := up_k eM h0 (by omega)
      replace h3 := up_k eM h3 (by omega)
      replace h4 := up_k eM h4 (by omega)
      replace h2 := h2.kept (M' := M2) (fun q a1 a2 => by rw [eM, up_n _ _ (by omega)])
      replace hw := hw.kept (M' := M2) (fun q a1 a2 => by rw [eM, up_n _ _ (by omega)])
      replace hF := hF.up eM (by omega) (by omega)
      repeat (refine ng 50 rfl ?_; first | refine es rfl rfl rfl ?_ | refine eg rfl (by assumption) rfl ?_ | refine ean rfl (by assumption) (by assumption) rfl ?_ | refine eal rfl (by assumption) (by assumption) rfl ?_ | refine eri rfl ?_ | refine erv rfl ?_ | refine erl rfl ?_ | refine era rfl ?_ | refine erz0 rfl ?_ | refine erz1 rfl ?_)
      try dsimp only [set1, set2, kilP, List.set_cons_zero, List.set_cons_succ, List.getElem?_cons_zero, List.getElem?_cons_succ, List.nil_append, List.cons_append, Option.toList_some, Option.toList_none]
      rw [nI_1]
      refine ih (k + 1) M0 M2 (upd ff k (f k)) ⟨h0, k1, h2, h3, h4⟩ hw hF (by omega) (fun j hj => ?_)
      by_cases e : j = k
      · rw [e, pk_us]
      · rw [pk_un e]; exact hz j (by omega)
/-- what a search for the rooms f ends with -/
def bestR (f : Nat → Int32) (s : Sk) : Prop := ∃ (tr r0 b0 : Nat → Int32) (n0 : Nat), (∀ j, j < 7 → tr j = f j) ∧ s = fbF tr 4 0 (r0, b0, n0, -1)
theorem okR_cp {f tr : Nat → Int32} (hf : okR f) (h : ∀ j, j < 7 → tr j = f j) : okR tr := fun k hk => by rw [h k hk]; exact hf k hk
theorem e8_find {ad : Nat → Nat} {M : Mm} {b nb : Nat} {w : Sw} {f : Nat → Int32} (hb : aSw M b w) (hw : aNw M nb f) (hf : okR f) (his : w.2.1 = 0 ∨ w.2.1 = 1) (d1 : nb + 2 ≤ b ∨ b + 6 ≤ nb) : EvM ad 6 (iX8_findBest ad) [.ref b, .ref nb] M (fun v' M' => v' = none ∧ ((w.2.1 = 1 ∧ sameR w.1 f ∧ aSw M' b w) ∨ ∃ ff tr s, sameR ff f ∧ bestR f s ∧ aSw M' b (ff, 1, tr, s)) ∧ Fr b 6 M M') := by
  have hb' := hb
  obtain ⟨h0, h1, h2, h3, h4⟩ := hb
  have w0 := h2.1
  have hF := Fr.rf b 6 M
  have key : Ev ad 6 (rX8_findBest ad) (16, [some (.ref b), some (.ref nb), none], [], M) (fun v' M' => v' = none ∧ ((w.2.1 = 1 ∧ sameR w.1 f ∧ aSw M' b w) ∨ ∃ ff tr s, sameR ff f ∧ bestR f s ∧ aSw M' b (ff, 1, tr, s)) ∧ Fr b 6 M M') := by
    repeat (first | refine es rfl rfl rfl ?_ | refine eg rfl (by assumption) rfl ?_ | refine ean rfl (by assumption) (by assumption) rfl ?_ | refine eal rfl (by assumption) (by assumption) rfl ?_ | refine eri rfl ?_ | refine erv rfl ?_ | refine erl rfl ?_ | refine era rfl ?_ | refine erz0 rfl ?_ | refine erz1 rfl ?_)
    try dsimp only [set1, set2, kilP, List.set_cons_zero, List.set_cons_succ, List.getElem?_cons_zero, List.getElem?_cons_succ, List.nil_append, List.cons_append, Option.toList_some, Option.toList_none]
    refine ecv rfl rfl (by assumption) rfl rfl rfl (e3_copy h2 hw) (by first | rfl | exact Nat.blt_eq.mpr (by omega)) ?_
    rintro v M2 ⟨rfl, eM⟩
    have hw2 := hw.kept (M' := M2) (fun q a1 a2 => by rw [eM, up_n _ _ (by omega)])
    have h2' : aNw M2 (b + 2) (va_cpy f w.2.2.1 0 0 16) := by rw [eM]; exact h2.put
    replace h0 := up_k eM h0 (by omega)
    replace h1 := up_k eM h1 (by omega)
    replace h3 := up_k eM h3 (by omega)
    replace h4 := up_k eM h4 (by omega)
    have hF := hF.up eM (by omega) (by omega)
    try dsimp only [set1, set2, kilP, List.set_cons_zero, List.set_cons_succ, List.getElem?_cons_zero, List.getElem?_cons_succ, List.nil_append, List.cons_append, Option.toList_some, Option.toList_none]
    repeat (first | refine es rfl rfl rfl ?_ | refine eg rfl (by assumption) rfl ?_ | refine ean rfl (by assumption) (by assumption) rfl ?_ | refine eal rfl (by assumption) (by assumption) rfl ?_ | refine eri rfl ?_ | refine erv rfl ?_ | refine erl rfl ?_ | refine era rfl ?_ | refine erz0 rfl ?_ | refine erz1 rfl ?_)
    try dsimp only [set1, set2, kilP, List.set_cons_zero, List.set_cons_succ, List.getElem?_cons_zero, List.getElem?_cons_succ, List.nil_append, List.cons_append, Option.toList_some, Option.toList_none]
    refine epM rfl (by assumption) rfl rfl rfl (fun M3 eM3 => ?_)
    have k0 := up_w eM3
    replace h1 := up_k eM3 h1 (by omega)
    replace h3 := up_k eM3 h3 (by omega)
    replace h4 := up_k eM3 h4 (by omega)
    replace h2' := h2'.kept (M' := M3) (fun q a1 a2 => by rw [eM3, up_n _ _ (by omega)])
    replace hw2 := hw2.kept (M' := M3) (fun q a1 a2 => by rw [eM3, up_n _ _ (by omega)])
    have hF := hF.up eM3 (by omega) (by omega)
    have htr : ∀ j, j < 7 → va_cpy f w.2.2.1 0 0 16 j = f j := fun j hj => by
      unfold va_cpy
      rw [if_pos (by omega)]
      congr 1
      omega
    repeat (refine ng 31 rfl ?_; first | refine es rfl rfl rfl ?_ | refine eg rfl (by assumption) rfl ?_ | refine ean rfl (by assumption) (by assumption) rfl ?_ | refine eal rfl (by assumption) (by assumption) rfl ?_ | refine eri rfl ?_ | refine erv rfl ?_ | refine erl rfl ?_ | refine era rfl ?_ | refine erz0 rfl ?_ | refine erz1 rfl ?_)
    try dsimp only [set1, set2, kilP, List.set_cons_zero, List.set_cons_succ, List.getElem?_cons_zero, List.getElem?_cons_succ, List.nil_append, List.cons_append, Option.toList_some, Option.toList_none]
    refine e8_fb1 (okR_cp hf htr) 4 0 M M3 (w.2.2.2.1, w.2.2.2.2.1, w.2.2.2.2.2.1, -1) ⟨k0, h1, h2', h3, h4⟩ hF rfl (fun L2 M4 hb4 hF4 => ?_)
    repeat (refine ng 50 rfl ?_; first | refine es rfl rfl rfl ?_ | refine eg rfl (by assumption) rfl ?_ | refine ean rfl (by assumption) (by assumption) rfl ?_ | refine eal rfl (by assumption) (by assumption) rfl ?_ | refine eri rfl ?_ | refine erv rfl ?_ | refine erl rfl ?_ | refine era rfl ?_ | refine erz0 rfl ?_ | refine erz1 rfl ?_)
    try dsimp only [set1, set2, kilP, List.set_cons_zero, List.set_cons_succ, List.getElem?_cons_zero, List.getElem?_cons_succ, List.nil_append, List.cons_append, Option.toList_some, Option.toList_none]
    have hw4 : aNw M4 nb f := hw.fr hF4 (by omega)
    exact (e8_fb2 d1 7 0 M M4 w.1 hb4 hw4 hF4 rfl (fun j hj => absurd hj (by omega))).im (fun v M' ⟨a, ⟨ff, b1, b2⟩, c⟩ => ⟨a, Or.inr ⟨ff, _, _, b1, ⟨_, _, _, _, htr, rfl⟩, b2⟩, c⟩)
  refine ⟨Nat.le_of_ble_eq_true rfl, ?_⟩
  show Ev ad _ (rX8_findBest ad) (0, [some (.ref b), some (.ref nb), none], [], M) _
  repeat (first | refine es rfl rfl rfl ?_ | refine eg rfl (by assumption) rfl ?_ | refine ean rfl (by assumption) (by assumption) rfl ?_ | refine eal rfl (by assumption) (by assumption) rfl ?_ | refine eri rfl ?_ | refine erv rfl ?_ | refine erl rfl ?_ | refine era rfl ?_ | refine erz0 rfl ?_ | refine erz1 rfl ?_)
  try dsimp only [set1, set2, kilP, List.set_cons_zero, List.set_cons_succ, List.getElem?_cons_zero, List.getElem?_cons_succ, List.nil_append, List.cons_append, Option.toList_some, Option.toList_none]
  refine ei _ rfl rfl (fun c => ?_) (fun c => ?_)
  · exact key
  · repeat (first | refine es rfl rfl rfl ?_ | refine eg rfl (by assumption) rfl ?_ | refine ean rfl (by assumption) (by assumption) rfl ?_ | refine eal rfl (by assumption) (by assumption) rfl ?_ | refine eri rfl ?_ | refine erv rfl ?_ | refine erl rfl ?_ | refine era rfl ?_ | refine erz0 rfl ?_ | refine erz1 rfl ?_)
    try dsimp only [set1, set2, kilP, List.set_cons_zero, List.set_cons_succ, List.getElem?_cons_zero, List.getElem?_cons_succ, List.nil_append, List.cons_append, Option.toList_some, Option.toList_none]
    refine ecr rfl rfl (by assumption) rfl rfl rfl (e8_isf hb' hw) (by first | rfl | exact Nat.blt_eq.mpr (by omega)) rfl ?_
    by_cases hs : sameR w.1 f
    · rw [if_pos hs]
      repeat (first | refine es rfl rfl rfl ?_ | refine eg rfl (by assumption) rfl ?_ | refine ean rfl (by assumption) (by assumption) rfl ?_ | refine eal rfl (by assumption) (by assumption) rfl ?_ | refine eri rfl ?_ | refine erv rfl ?_ | refine erl rfl ?_ | refine era rfl ?_ | refine erz0 rfl ?_ | refine erz1 rfl ?_)
      try dsimp only [set1, set2, kilP, List.set_cons_zero, List.set_cons_succ, List.getElem?_cons_zero, List.getElem?_cons_succ, List.nil_append, List.cons_append, Option.toList_some, Option.toList_none]
      refine ⟨rfl, Or.inl ⟨?_, hs, hb'⟩, hF⟩
      rcases his with e | e
      · exact absurd e c
      · exact e
    · rw [if_neg hs]
      repeat (refine ng 16 rfl ?_; first | refine es rfl rfl rfl ?_ | refine eg rfl (by assumption) rfl ?_ | refine ean rfl (by assumption) (by assumption) rfl ?_ | refine eal rfl (by assumption) (by assumption) rfl ?_ | refine eri rfl ?_ | refine erv rfl ?_ | refine erl rfl ?_ | refine era rfl ?_ | refine erz0 rfl ?_ | refine erz1 rfl ?_)
      try dsimp only [set1, set2, kilP, List.set_cons_zero, List.set_cons_succ, List.getElem?_cons_zero, List.getElem?_cons_succ, List.nil_append, List.cons_append, Option.toList_some, Option.toList_none]
      exact key
