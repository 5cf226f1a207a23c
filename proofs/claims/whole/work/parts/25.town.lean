/-! rows saved and loaded -/
theorem e3_save {ad : Nat → Nat} {M : Mm} {b r N o : Nat} {f g : Nat → Int32} (hb : aNw M b f) (hr : M.1 r = ints N g) (ho : o + 16 ≤ N) (hN : Nat.ble N 2000000 = true) : EvM ad 0 (iX3_saveTo ad) [.ref b, .ref r, .int (nI o)] M (fun v' M' => v' = none ∧ M' = up M r (.inl (0, N, .inl (va_cpy f g 0 o 16)))) := by
  obtain ⟨h0, h1⟩ := hb
  have h2m := Nat.ble_eq.mp hN
  refine ⟨Nat.le_of_ble_eq_true rfl, ?_⟩
  show Ev ad _ (rX3_saveTo ad) (0, [some (.ref b), some (.ref r), some (.int (nI o))], [], M) _
  repeat (first | refine es rfl rfl rfl ?_ | refine eg rfl (by assumption) rfl ?_ | refine ean rfl (by assumption) (by assumption) rfl ?_ | refine eal rfl (by assumption) (by assumption) rfl ?_ | refine eri rfl ?_ | refine erv rfl ?_ | refine erl rfl ?_ | refine era rfl ?_ | refine erz0 rfl ?_ | refine erz1 rfl ?_)
  try dsimp only [set1, set2, kilP, List.set_cons_zero, List.set_cons_succ, List.getElem?_cons_zero, List.getElem?_cons_succ, List.nil_append, List.cons_append, Option.toList_some, Option.toList_none]
  refine ei _ rfl rfl (fun c1 => ?_) (fun c1 => ?_)
  · exact absurd c1 (nI_pos (by omega))
  · repeat (first | refine es rfl rfl rfl ?_ | refine eg rfl (by assumption) rfl ?_ | refine ean rfl (by assumption) (by assumption) rfl ?_ | refine eal rfl (by assumption) (by assumption) rfl ?_ | refine eri rfl ?_ | refine erv rfl ?_ | refine erl rfl ?_ | refine era rfl ?_ | refine erz0 rfl ?_ | refine erz1 rfl ?_)
    try dsimp only [set1, set2, kilP, List.set_cons_zero, List.set_cons_succ, List.getElem?_cons_zero, List.getElem?_cons_succ, List.nil_append, List.cons_append, Option.toList_some, Option.toList_none]
    refine eln rfl hr ?_
    rw [show nI o + 16 = nI (o + 16) from nI_add o 16]
    refine ei _ rfl rfl (fun c2 => ?_) (fun c2 => ?_)
    · exact absurd c2 (nI_nlt (by omega) (by omega))
    · repeat (first | refine es rfl rfl rfl ?_ | refine eg rfl (by assumption) rfl ?_ | refine ean rfl (by assumption) (by assumption) rfl ?_ | refine eal rfl (by assumption) (by assumption) rfl ?_ | refine eri rfl ?_ | refine erv rfl ?_ | refine erl rfl ?_ | refine era rfl ?_ | refine erz0 rfl ?_ | refine erz1 rfl ?_)
      try dsimp only [set1, set2, kilP, List.set_cons_zero, List.set_cons_succ, List.getElem?_cons_zero, List.getElem?_cons_succ, List.nil_append, List.cons_append, Option.toList_some, Option.toList_none]
      refine ecp (sp := 0) (dp := o) (n := 16) rfl h1 hr (by omega) ho rfl hN rfl (fun M2 eM => ?_)
      repeat (first | refine es rfl rfl rfl ?_ | refine eg rfl (by assumption) rfl ?_ | refine ean rfl (by assumption) (by assumption) rfl ?_ | refine eal rfl (by assumption) (by assumption) rfl ?_ | refine eri rfl ?_ | refine erv rfl ?_ | refine erl rfl ?_ | refine era rfl ?_ | refine erz0 rfl ?_ | refine erz1 rfl ?_)
      try dsimp only [set1, set2, kilP, List.set_cons_zero, List.set_cons_succ, List.getElem?_cons_zero, List.getElem?_cons_succ, List.nil_append, List.cons_append, Option.toList_some, Option.toList_none]
      exact ⟨rfl, eM⟩
theorem e3_load {ad : Nat → Nat} {M : Mm} {b r N o : Nat} {f g : Nat → Int32} (hb : aNw M b f) (hr : M.1 r = ints N g) (ho : o + 16 ≤ N) (hN : Nat.ble N 2000000 = true) : EvM ad 0 (iX3_loadFrom ad) [.ref b, .ref r, .int (nI o)] M (fun v' M' => v' = none ∧ M' = up M (b + 1) (.inl (0, 16, .inl (va_cpy g f o 0 16)))) := by
  obtain ⟨h0, h1⟩ := hb
  have h2m := Nat.ble_eq.mp hN
  refine ⟨Nat.le_of_ble_eq_true rfl, ?_⟩
  show Ev ad _ (rX3_loadFrom ad) (0, [some (.ref b), some (.ref r), some (.int (nI o))], [], M) _
  repeat (first | refine es rfl rfl rfl ?_ | refine eg rfl (by assumption) rfl ?_ | refine ean rfl (by assumption) (by assumption) rfl ?_ | refine eal rfl (by assumption) (by assumption) rfl ?_ | refine eri rfl ?_ | refine erv rfl ?_ | refine erl rfl ?_ | refine era rfl ?_ | refine erz0 rfl ?_ | refine erz1 rfl ?_)
  try dsimp only [set1, set2, kilP, List.set_cons_zero, List.set_cons_succ, List.getElem?_cons_zero, List.getElem?_cons_succ, List.nil_append, List.cons_append, Option.toList_some, Option.toList_none]
  refine ei _ rfl rfl (fun c1 => ?_) (fun c1 => ?_)
  · exact absurd c1 (nI_pos (by omega))
  · repeat (first | refine es rfl rfl rfl ?_ | refine eg rfl (by assumption) rfl ?_ | refine ean rfl (by assumption) (by assumption) rfl ?_ | refine eal rfl (by assumption) (by assumption) rfl ?_ | refine eri rfl ?_ | refine erv rfl ?_ | refine erl rfl ?_ | refine era rfl ?_ | refine erz0 rfl ?_ | refine erz1 rfl ?_)
    try dsimp only [set1, set2, kilP, List.set_cons_zero, List.set_cons_succ, List.getElem?_cons_zero, List.getElem?_cons_succ, List.nil_append, List.cons_append, Option.toList_some, Option.toList_none]
    refine eln rfl hr ?_
    rw [show nI o + 16 = nI (o + 16) from nI_add o 16]
    refine ei _ rfl rfl (fun c2 => ?_) (fun c2 => ?_)
    · exact absurd c2 (nI_nlt (by omega) (by omega))
    · repeat (first | refine es rfl rfl rfl ?_ | refine eg rfl (by assumption) rfl ?_ | refine ean rfl (by assumption) (by assumption) rfl ?_ | refine eal rfl (by assumption) (by assumption) rfl ?_ | refine eri rfl ?_ | refine erv rfl ?_ | refine erl rfl ?_ | refine era rfl ?_ | refine erz0 rfl ?_ | refine erz1 rfl ?_)
      try dsimp only [set1, set2, kilP, List.set_cons_zero, List.set_cons_succ, List.getElem?_cons_zero, List.getElem?_cons_succ, List.nil_append, List.cons_append, Option.toList_some, Option.toList_none]
      refine ecp (sp := o) (dp := 0) (n := 16) rfl hr h1 ho (by omega) hN rfl rfl (fun M2 eM => ?_)
      repeat (first | refine es rfl rfl rfl ?_ | refine eg rfl (by assumption) rfl ?_ | refine ean rfl (by assumption) (by assumption) rfl ?_ | refine eal rfl (by assumption) (by assumption) rfl ?_ | refine eri rfl ?_ | refine erv rfl ?_ | refine erl rfl ?_ | refine era rfl ?_ | refine erz0 rfl ?_ | refine erz1 rfl ?_)
      try dsimp only [set1, set2, kilP, List.set_cons_zero, List.set_cons_succ, List.getElem?_cons_zero, List.getElem?_cons_succ, List.nil_append, List.cons_append, Option.toList_some, Option.toList_none]
      exact ⟨rfl, eM⟩
theorem e3_copy {ad : Nat → Nat} {M : Mm} {b o : Nat} {f g : Nat → Int32} (hb : aNw M b f) (ho : aNw M o g) : EvM ad 1 (iX3_copyFrom ad) [.ref b, .ref o] M (fun v' M' => v' = none ∧ M' = up M (b + 1) (.inl (0, 16, .inl (va_cpy g f 0 0 16)))) := by
  have g0 := ho.1
  obtain ⟨h0, h1⟩ := hb
  refine ⟨Nat.le_of_ble_eq_true rfl, ?_⟩
  show Ev ad _ (rX3_copyFrom ad) (0, [some (.ref b), some (.ref o)], [], M) _
  repeat (first | refine es rfl rfl rfl ?_ | refine eg rfl (by assumption) rfl ?_ | refine ean rfl (by assumption) (by assumption) rfl ?_ | refine eal rfl (by assumption) (by assumption) rfl ?_ | refine eri rfl ?_ | refine erv rfl ?_ | refine erl rfl ?_ | refine era rfl ?_ | refine erz0 rfl ?_ | refine erz1 rfl ?_)
  try dsimp only [set1, set2, kilP, List.set_cons_zero, List.set_cons_succ, List.getElem?_cons_zero, List.getElem?_cons_succ, List.nil_append, List.cons_append, Option.toList_some, Option.toList_none]
  refine ecv rfl rfl (by assumption) rfl rfl rfl (e3_save (o := 0) ho h1 (by omega) rfl) (by first | rfl | exact Nat.blt_eq.mpr (by omega)) ?_
  rintro v M1 ⟨rfl, eM⟩
  try dsimp only [set1, set2, kilP, List.set_cons_zero, List.set_cons_succ, List.getElem?_cons_zero, List.getElem?_cons_succ, List.nil_append, List.cons_append, Option.toList_some, Option.toList_none]
  repeat (first | refine es rfl rfl rfl ?_ | refine eg rfl (by assumption) rfl ?_ | refine ean rfl (by assumption) (by assumption) rfl ?_ | refine eal rfl (by assumption) (by assumption) rfl ?_ | refine eri rfl ?_ | refine erv rfl ?_ | refine erl rfl ?_ | refine era rfl ?_ | refine erz0 rfl ?_ | refine erz1 rfl ?_)
  try dsimp only [set1, set2, kilP, List.set_cons_zero, List.set_cons_succ, List.getElem?_cons_zero, List.getElem?_cons_succ, List.nil_append, List.cons_append, Option.toList_some, Option.toList_none]
  exact ⟨rfl, eM⟩
/-! Houses cleared -/
theorem e2_clear_loop {ad : Nat → Nat} {b : Nat} : ∀ (n i : Nat) (M0 M : Mm) (h : Hs), aHs M b h → Fr b 9 M0 M → i + n = 7 → (∀ j, j < i → h.to j = -2 ∧ h.fr j = -2 ∧ h.tt j = -2) → Ev ad 0 (rX2_clear ad) (7, [some (.ref b), some (.int (nI i))], [], M) (fun v' M' => v' = none ∧ (∃ to fr tt, (∀ j, j < 7 → to j = -2 ∧ fr j = -2 ∧ tt j = -2) ∧ aHs M' b (h.n, h.nm, h.ro, h.re, h.bi, h.sm, to, fr, tt)) ∧ Fr b 9 M0 M') := by
  intro n
  induction n with
  | zero =>
    intro i M0 M h hb hF hn hz
    have hb' := hb
    obtain ⟨h0, h1, h2, h3, h4, h5, h6, h7, h8⟩ := hb
    repeat (first | refine es rfl rfl rfl ?_ | refine eg rfl (by assumption) rfl ?_ | refine ean rfl (by assumption) (by assumption) rfl ?_ | refine eal rfl (by assumption) (by assumption) rfl ?_ | refine eri rfl ?_ | refine erv rfl ?_ | refine erl rfl ?_ | refine era rfl ?_ | refine erz0 rfl ?_ | refine erz1 rfl ?_)
    try dsimp only [set1, set2, kilP, List.set_cons_zero, List.set_cons_succ, List.getElem?_cons_zero, List.getElem?_cons_succ, List.nil_append, List.cons_append, Option.toList_some, Option.toList_none]
    refine ei _ rfl rfl (fun c => ?_) (fun c => ?_)
    · repeat (first | refine es rfl rfl rfl ?_ | refine eg rfl (by assumption) rfl ?_ | refine ean rfl (by assumption) (by assumption) rfl ?_ | refine eal rfl (by assumption) (by assumption) rfl ?_ | refine eri rfl ?_ | refine erv rfl ?_ | refine erl rfl ?_ | refine era rfl ?_ | refine erz0 rfl ?_ | refine erz1 rfl ?_)
      try dsimp only [set1, set2, kilP, List.set_cons_zero, List.set_cons_succ, List.getElem?_cons_zero, List.getElem?_cons_succ, List.nil_append, List.cons_append, Option.toList_some, Option.toList_none]
      exact ⟨rfl, ⟨h.to, h.fr, h.tt, fun j hj => hz j (by omega), hb'⟩, hF⟩
    · exact absurd (nI_le (a := 7) (by omega) (by omega)) c
  | succ n ih =>
    intro i M0 M h hb hF hn hz
    obtain ⟨h0, h1, h2, h3, h4, h5, h6, h7, h8⟩ := hb
    have hi : i < 7 := by omega
    repeat (first | refine es rfl rfl rfl ?_ | refine eg rfl (by assumption) rfl ?_ | refine ean rfl (by assumption) (by assumption) rfl ?_ | refine eal rfl (by assumption) (by assumption) rfl ?_ | refine eri rfl ?_ | refine erv rfl ?_ | refine erl rfl ?_ | refine era rfl ?_ | refine erz0 rfl ?_ | refine erz1 rfl ?_)
    try dsimp only [set1, set2, kilP, List.set_cons_zero, List.set_cons_succ, List.getElem?_cons_zero, List.getElem?_cons_succ, List.nil_append, List.cons_append, Option.toList_some, Option.toList_none]
    refine ei _ rfl rfl (fun c => ?_) (fun c => ?_)
    · exact absurd c (nI_ge (b := 7) (by omega) (by omega))
    · repeat (first | refine es rfl rfl rfl ?_ | refine eg rfl (by assumption) rfl ?_ | refine ean rfl (by assumption) (by assumption) rfl ?_ | refine eal rfl (by assumption) (by assumption) rfl ?_ | refine eri rfl ?_ | refine erv rfl ?_ | refine erl rfl ?_ | refine era rfl ?_ | refine erz0 rfl ?_ | refine erz1 rfl ?_)
      try dsimp only [set1, set2, kilP, List.set_cons_zero, List.set_cons_succ, List.getElem?_cons_zero, List.getElem?_cons_succ, List.nil_append, List.cons_append, Option.toList_some, Option.toList_none]
      refine etM rfl (by assumption) (by assumption) rfl (fun M2 eM => ?_)
      have k6 := up_w eM
      replace h0 := up_k eM h0 (by omega)
      replace h1 := up_k eM h1 (by omega)
      replace h2 := up_k eM h2 (by omega)
      replace h3 := up_k eM h3 (by omega)
      replace h4 := up_k eM h4 (by omega)
      replace h5 := up_k eM h5 (by omega)
      replace h7 := up_k eM h7 (by omega)
      replace h8 := up_k eM h8 (by omega)
      replace hF := hF.up eM (by omega) (by omega)
      repeat (first | refine es rfl rfl rfl ?_ | refine eg rfl (by assumption) rfl ?_ | refine ean rfl (by assumption) (by assumption) rfl ?_ | refine eal rfl (by assumption) (by assumption) rfl ?_ | refine eri rfl ?_ | refine erv rfl ?_ | refine erl rfl ?_ | refine era rfl ?_ | refine erz0 rfl ?_ | refine erz1 rfl ?_)
      try dsimp only [set1, set2, kilP, List.set_cons_zero, List.set_cons_succ, List.getElem?_cons_zero, List.getElem?_cons_succ, List.nil_append, List.cons_append, Option.toList_some, Option.toList_none]
      refine etM rfl (by assumption) (by assumption) rfl (fun M3 eM3 => ?_)
      have k7 := up_w eM3
      replace h0 := up_k eM3 h0 (by omega)
      replace h1 := up_k eM3 h1 (by omega)
      replace h2 := up_k eM3 h2 (by omega)
      replace h3 := up_k eM3 h3 (by omega)
      replace h4 := up_k eM3 h4 (by omega)
      replace h5 := up_k eM3 h5 (by omega)
      replace k6 := up_k eM3 k6 (by omega)
      replace h8 := up_k eM3 h8 (by omega)
      replace hF := hF.up eM3 (by omega) (by omega)
      repeat (first | refine es rfl rfl rfl ?_ | refine eg rfl (by assumption) rfl ?_ | refine ean rfl (by assumption) (by assumption) rfl ?_ | refine eal rfl (by assumption) (by assumption) rfl ?_ | refine eri rfl ?_ | refine erv rfl ?_ | refine erl rfl ?_ | refine era rfl ?_ | refine erz0 rfl ?_ | refine erz1 rfl ?_)
      try dsimp only [set1, set2, kilP, List.set_cons_zero, List.set_cons_succ, List.getElem?_cons_zero, List.getElem?_cons_succ, List.nil_append, List.cons_append, Option.toList_some, Option.toList_none]
      refine etM rfl (by assumption) (by assumption) rfl (fun M4 eM4 => ?_)
      have k8 := up_w eM4
      replace h0 := up_k eM4 h0 (by omega)
      replace h1 := up_k eM4 h1 (by omega)
      replace h2 := up_k eM4 h2 (by omega)
      replace h3 := up_k eM4 h3 (by omega)
      replace h4 := up_k eM4 h4 (by omega)
      replace h5 := up_k eM4 h5 (by omega)
      replace k6 := up_k eM4 k6 (by omega)
      replace k7 := up_k eM4 k7 (by omega)
      replace hF := hF.up eM4 (by omega) (by omega)
      repeat (refine ng 7 rfl ?_; first | refine es rfl rfl rfl ?_ | refine eg rfl (by assumption) rfl ?_ | refine ean rfl (by assumption) (by assumption) rfl ?_ | refine eal rfl (by assumption) (by assumption) rfl ?_ | refine eri rfl ?_ | refine erv rfl ?_ | refine erl rfl ?_ | refine era rfl ?_ | refine erz0 rfl ?_ | refine erz1 rfl ?_)
      try dsimp only [set1, set2, kilP, List.set_cons_zero, List.set_cons_succ, List.getElem?_cons_zero, List.getElem?_cons_succ, List.nil_append, List.cons_append, Option.toList_some, Option.toList_none]
      rw [nI_1]
      refine ih (i + 1) M0 M4 (h.n, h.nm, h.ro, h.re, h.bi, h.sm, upd h.to i (-2), upd h.fr i (-2), upd h.tt i (-2)) ⟨h0, h1, h2, h3, h4, h5, k6, k7, k8⟩ hF (by omega) (fun j hj => ?_)
      by_cases e : j = i
      · rw [e]; exact ⟨pk_us, pk_us, pk_us⟩
      · have := hz j (by omega)
        exact ⟨(pk_un e).trans this.1, (pk_un e).trans this.2.1, (pk_un e).trans this.2.2⟩
theorem e2_clear {ad : Nat → Nat} {M : Mm} {b : Nat} {h : Hs} (hb : aHs M b h) : EvM ad 0 (iX2_clear ad) [.ref b] M (fun v' M' => v' = none ∧ (∃ to fr tt, (∀ j, j < 7 → to j = -2 ∧ fr j = -2 ∧ tt j = -2) ∧ aHs M' b (0, h.nm, h.ro, h.re, h.bi, h.sm, to, fr, tt)) ∧ Fr b 9 M M') := by
  obtain ⟨h0, h1, h2, h3, h4, h5, h6, h7, h8⟩ := hb
  have hF := Fr.rf b 9 M
  refine ⟨Nat.le_of_ble_eq_true rfl, ?_⟩
  show Ev ad _ (rX2_clear ad) (0, [some (.ref b), none], [], M) _
  repeat (first | refine es rfl rfl rfl ?_ | refine eg rfl (by assumption) rfl ?_ | refine ean rfl (by assumption) (by assumption) rfl ?_ | refine eal rfl (by assumption) (by assumption) rfl ?_ | refine eri rfl ?_ | refine erv rfl ?_ | refine erl rfl ?_ | refine era rfl ?_ | refine erz0 rfl ?_ | refine erz1 rfl ?_)
  try dsimp only [set1, set2, kilP, List.set_cons_zero, List.set_cons_succ, List.getElem?_cons_zero, List.getElem?_cons_succ, List.nil_append, List.cons_append, Option.toList_some, Option.toList_none]
  refine epM rfl (by assumption) rfl rfl rfl (fun M2 eM => ?_)
  have k0 := up_w eM
  replace h1 := up_k eM h1 (by omega)
  replace h2 := up_k eM h2 (by omega)
  replace h3 := up_k eM h3 (by omega)
  replace h4 := up_k eM h4 (by omega)
  replace h5 := up_k eM h5 (by omega)
  replace h6 := up_k eM h6 (by omega)
  replace h7 := up_k eM h7 (by omega)
  replace h8 := up_k eM h8 (by omega)
  replace hF := hF.up eM (by omega) (by omega)
  repeat (refine ng 7 rfl ?_; first | refine es rfl rfl rfl ?_ | refine eg rfl (by assumption) rfl ?_ | refine ean rfl (by assumption) (by assumption) rfl ?_ | refine eal rfl (by assumption) (by assumption) rfl ?_ | refine eri rfl ?_ | refine erv rfl ?_ | refine erl rfl ?_ | refine era rfl ?_ | refine erz0 rfl ?_ | refine erz1 rfl ?_)
  try dsimp only [set1, set2, kilP, List.set_cons_zero, List.set_cons_succ, List.getElem?_cons_zero, List.getElem?_cons_succ, List.nil_append, List.cons_append, Option.toList_some, Option.toList_none]
  exact e2_clear_loop 7 0 M M2 (0, h.nm, h.ro, h.re, h.bi, h.sm, h.to, h.fr, h.tt) ⟨k0, h1, h2, h3, h4, h5, h6, h7, h8⟩ hF rfl (fun j hj => absurd hj (by omega))
/-! Town: door, like, people; names, homes, places; houses, streets, clues -/
abbrev Tw : Type := (Nat × Nat × Nat × (Nat → Int64) × (Nat → Int32) × (Nat → Int32)) × Hs × Ss × Cs
abbrev Tw.dr (t : Tw) : Nat := t.1.1
abbrev Tw.lk (t : Tw) : Nat := t.1.2.1
abbrev Tw.np (t : Tw) : Nat := t.1.2.2.1
abbrev Tw.pn (t : Tw) : Nat → Int64 := t.1.2.2.2.1
abbrev Tw.hm (t : Tw) : Nat → Int32 := t.1.2.2.2.2.1
abbrev Tw.pl (t : Tw) : Nat → Int32 := t.1.2.2.2.2.2
abbrev Tw.hs (t : Tw) : Hs := t.2.1
abbrev Tw.ss (t : Tw) : Ss := t.2.2.1
abbrev Tw.cs (t : Tw) : Cs := t.2.2.2
/-- the town's own cells -/
def aT0 (M : Mm) (b : Nat) (t : Nat × Nat × Nat × (Nat → Int64) × (Nat → Int32) × (Nat → Int32)) : Prop := M.1 b = some (.inr (9, [.int (nI t.1), .int (nI t.2.1), .ref (b + 1), .ref (b + 10), .ref (b + 14), .int (nI t.2.2.1), .ref (b + 19), .ref (b + 20), .ref (b + 21)])) ∧ M.1 (b + 19) = lngs 4 t.2.2.2.1 ∧ M.1 (b + 20) = ints 4 t.2.2.2.2.1 ∧ M.1 (b + 21) = ints 4 t.2.2.2.2.2
def aTw (M : Mm) (b : Nat) (t : Tw) : Prop := aT0 M b t.1 ∧ aHs M (b + 1) t.hs ∧ aSs M (b + 10) t.ss ∧ aCs M (b + 14) t.cs
theorem aT0.kept {M M' : Mm} {b : Nat} {t : Nat × Nat × Nat × (Nat → Int64) × (Nat → Int32) × (Nat → Int32)} (hb : aT0 M b t) (hq : ∀ q, q = b ∨ (b + 19 ≤ q ∧ q < b + 22) → M'.1 q = M.1 q) : aT0 M' b t := by
  obtain ⟨h0, h1, h2, h3⟩ := hb
  exact ⟨(hq _ (by omega)).trans h0, (hq _ (by omega)).trans h1, (hq _ (by omega)).trans h2, (hq _ (by omega)).trans h3⟩
theorem aTw.kept {M M' : Mm} {b : Nat} {t : Tw} (hb : aTw M b t) (hq : ∀ q, b ≤ q → q < b + 22 → M'.1 q = M.1 q) : aTw M' b t :=
  ⟨hb.1.kept (fun q h => hq q (by omega) (by omega)), hb.2.1.kept (fun q h1 h2 => hq q (by omega) (by omega)), hb.2.2.1.kept (fun q h1 h2 => hq q (by omega) (by omega)), hb.2.2.2.kept (fun q h1 h2 => hq q (by omega) (by omega))⟩
theorem aHs.fr {M M' : Mm} {b lo n : Nat} {h : Hs} (hb : aHs M b h) (hF : Fr lo n M M') (hq : b + 9 ≤ lo ∨ lo + n ≤ b) : aHs M' b h := hb.kept (fun q h1 h2 => hF.1 q (by omega))
theorem aSs.fr {M M' : Mm} {b lo n : Nat} {h : Ss} (hb : aSs M b h) (hF : Fr lo n M M') (hq : b + 4 ≤ lo ∨ lo + n ≤ b) : aSs M' b h := hb.kept (fun q h1 h2 => hF.1 q (by omega))
theorem aCs.fr {M M' : Mm} {b lo n : Nat} {h : Cs} (hb : aCs M b h) (hF : Fr lo n M M') (hq : b + 5 ≤ lo ∨ lo + n ≤ b) : aCs M' b h := hb.kept (fun q h1 h2 => hF.1 q (by omega))
theorem aTw.fr {M M' : Mm} {b lo n : Nat} {h : Tw} (hb : aTw M b h) (hF : Fr lo n M M') (hq : b + 22 ≤ lo ∨ lo + n ≤ b) : aTw M' b h := hb.kept (fun q h1 h2 => hF.1 q (by omega))
theorem aNw.fr {M M' : Mm} {b lo n : Nat} {f : Nat → Int32} (hb : aNw M b f) (hF : Fr lo n M M') (hq : b + 2 ≤ lo ∨ lo + n ≤ b) : aNw M' b f := hb.kept (fun q h1 h2 => hF.1 q (by omega))
/-- an empty town -/
def twE (t : Tw) : Prop := t.dr = 0 ∧ t.lk = 0 ∧ t.np = 0 ∧ t.hs.n = 0 ∧ (∀ j, j < 7 → t.hs.to j = -2 ∧ t.hs.fr j = -2 ∧ t.hs.tt j = -2) ∧ t.ss.n = 0 ∧ (∀ j, j < 49 → t.ss.mi j = 0) ∧ t.cs.sg = 0 ∧ t.cs.nz = 0
theorem e9_clear {ad : Nat → Nat} {M : Mm} {b : Nat} {t : Tw} (hb : aTw M b t) : EvM ad 1 (iX9_clear ad) [.ref b] M (fun v' M' => v' = none ∧ (∃ t', twE t' ∧ aTw M' b t') ∧ Fr b 22 M M') := by
  obtain ⟨⟨h0, h1, h2, h3⟩, hH, hS, hC⟩ := hb
  have hF := Fr.rf b 22 M
  refine ⟨Nat.le_of_ble_eq_true rfl, ?_⟩
  show Ev ad _ (rX9_clear ad) (0, [some (.ref b)], [], M) _
  repeat (first | refine es rfl rfl rfl ?_ | refine eg rfl (by assumption) rfl ?_ | refine ean rfl (by assumption) (by assumption) rfl ?_ | refine eal rfl (by assumption) (by assumption) rfl ?_ | refine eri rfl ?_ | refine erv rfl ?_ | refine erl rfl ?_ | refine era rfl ?_ | refine erz0 rfl ?_ | refine erz1 rfl ?_)
  try dsimp only [set1, set2, kilP, List.set_cons_zero, List.set_cons_succ, List.getElem?_cons_zero, List.getElem?_cons_succ, List.nil_append, List.cons_append, Option.toList_some, Option.toList_none]
  refine epM rfl (by assumption) rfl rfl rfl (fun M2 eM => ?_)
  have k0 := up_w eM
  replace h1 := up_k eM h1 (by omega)
  replace h2 := up_k eM h2 (by omega)
  replace h3 := up_k eM h3 (by omega)
  have fr := Fr.rf b 1 M
  replace fr := fr.up eM (by omega) (by omega)
  repeat (first | refine es rfl rfl rfl ?_ | refine eg rfl (by assumption) rfl ?_ | refine ean rfl (by assumption) (by assumption) rfl ?_ | refine eal rfl (by assumption) (by assumption) rfl ?_ | refine eri rfl ?_ | refine erv rfl ?_ | refine erl rfl ?_ | refine era rfl ?_ | refine erz0 rfl ?_ | refine erz1 rfl ?_)
  try dsimp only [set1, set2, kilP, List.set_cons_zero, List.set_cons_succ, List.getElem?_cons_zero, List.getElem?_cons_succ, List.nil_append, List.cons_append, Option.toList_some, Option.toList_none]
  refine epM rfl (by assumption) rfl rfl rfl (fun M3 eM3 => ?_)
  have k1 := up_w eM3
  replace h1 := up_k eM3 h1 (by omega)
  replace h2 := up_k eM3 h2 (by omega)
  replace h3 := up_k eM3 h3 (by omega)
  replace fr := fr.up eM3 (by omega) (by omega)
  repeat (first | refine es rfl rfl rfl ?_ | refine eg rfl (by assumption) rfl ?_ | refine ean rfl (by assumption) (by assumption) rfl ?_ | refine eal rfl (by assumption) (by assumption) rfl ?_ | refine eri rfl ?_ | refine erv rfl ?_ | refine erl rfl ?_ | refine era rfl ?_ | refine erz0 rfl ?_ | refine erz1 rfl ?_)
  try dsimp only [set1, set2, kilP, List.set_cons_zero, List.set_cons_succ, List.getElem?_cons_zero, List.getElem?_cons_succ, List.nil_append, List.cons_append, Option.toList_some, Option.toList_none]
  refine epM rfl (by assumption) rfl rfl rfl (fun M4 eM4 => ?_)
  have k2 := up_w eM4
  replace h1 := up_k eM4 h1 (by omega)
  replace h2 := up_k eM4 h2 (by omega)
  replace h3 := up_k eM4 h3 (by omega)
  replace fr := fr.up eM4 (by omega) (by omega)
  replace hH := hH.fr fr (by omega)
  replace hS := hS.fr fr (by omega)
  replace hC := hC.fr fr (by omega)
  replace hF := hF.tr fr (by omega) (by omega)
  have hH0 := hH.1
  have hS0 := hS.1
  have hC0 := hC.1
  repeat (first | refine es rfl rfl rfl ?_ | refine eg rfl (by assumption) rfl ?_ | refine ean rfl (by assumption) (by assumption) rfl ?_ | refine eal rfl (by assumption) (by assumption) rfl ?_ | refine eri rfl ?_ | refine erv rfl ?_ | refine erl rfl ?_ | refine era rfl ?_ | refine erz0 rfl ?_ | refine erz1 rfl ?_)
  try dsimp only [set1, set2, kilP, List.set_cons_zero, List.set_cons_succ, List.getElem?_cons_zero, List.getElem?_cons_succ, List.nil_append, List.cons_append, Option.toList_some, Option.toList_none]
  refine ecv rfl rfl (by assumption) rfl rfl rfl (e2_clear hH) (by first | rfl | exact Nat.blt_eq.mpr (by omega)) ?_
  rintro v M5 ⟨rfl, ⟨to, fr', tt, hz, hH⟩, fr⟩
  replace k2 := fr.k k2 (by omega)
  replace h1 := fr.k h1 (by omega)
  replace h2 := fr.k h2 (by omega)
  replace h3 := fr.k h3 (by omega)
  replace hS := hS.fr fr (by omega)
  replace hC := hC.fr fr (by omega)
  replace hF := hF.tr fr (by omega) (by omega)
  have hS0 := hS.1
  have hC0 := hC.1
  try dsimp only [set1, set2, kilP, List.set_cons_zero, List.set_cons_succ, List.getElem?_cons_zero, List.getElem?_cons_succ, List.nil_append, List.cons_append, Option.toList_some, Option.toList_none]
  repeat (first | refine es rfl rfl rfl ?_ | refine eg rfl (by assumption) rfl ?_ | refine ean rfl (by assumption) (by assumption) rfl ?_ | refine eal rfl (by assumption) (by assumption) rfl ?_ | refine eri rfl ?_ | refine erv rfl ?_ | refine erl rfl ?_ | refine era rfl ?_ | refine erz0 rfl ?_ | refine erz1 rfl ?_)
  try dsimp only [set1, set2, kilP, List.set_cons_zero, List.set_cons_succ, List.getElem?_cons_zero, List.getElem?_cons_succ, List.nil_append, List.cons_append, Option.toList_some, Option.toList_none]
  refine ecv rfl rfl (by assumption) rfl rfl rfl (e7_clear hS) (by first | rfl | exact Nat.blt_eq.mpr (by omega)) ?_
  rintro v M6 ⟨rfl, ⟨mi, hz2, hS⟩, fra, frb⟩
  have fr : Fr (b + 10) 4 M5 M6 := ⟨fra, frb⟩
  replace k2 := fr.k k2 (by omega)
  replace h1 := fr.k h1 (by omega)
  replace h2 := fr.k h2 (by omega)
  replace h3 := fr.k h3 (by omega)
  replace hH := hH.fr fr (by omega)
  replace hC := hC.fr fr (by omega)
  replace hF := hF.tr fr (by omega) (by omega)
  have hC0 := hC.1
  try dsimp only [set1, set2, kilP, List.set_cons_zero, List.set_cons_succ, List.getElem?_cons_zero, List.getElem?_cons_succ, List.nil_append, List.cons_append, Option.toList_some, Option.toList_none]
  repeat (first | refine es rfl rfl rfl ?_ | refine eg rfl (by assumption) rfl ?_ | refine ean rfl (by assumption) (by assumption) rfl ?_ | refine eal rfl (by assumption) (by assumption) rfl ?_ | refine eri rfl ?_ | refine erv rfl ?_ | refine erl rfl ?_ | refine era rfl ?_ | refine erz0 rfl ?_ | refine erz1 rfl ?_)
  try dsimp only [set1, set2, kilP, List.set_cons_zero, List.set_cons_succ, List.getElem?_cons_zero, List.getElem?_cons_succ, List.nil_append, List.cons_append, Option.toList_some, Option.toList_none]
  refine ecv rfl rfl (by assumption) rfl rfl rfl (e0_clear hC) (by first | rfl | exact Nat.blt_eq.mpr (by omega)) ?_
  rintro v M7 ⟨rfl, hC, fr⟩
  replace k2 := fr.k k2 (by omega)
  replace h1 := fr.k h1 (by omega)
  replace h2 := fr.k h2 (by omega)
  replace h3 := fr.k h3 (by omega)
  replace hH := hH.fr fr (by omega)
  replace hS := hS.fr fr (by omega)
  replace hF := hF.tr fr (by omega) (by omega)
  try dsimp only [set1, set2, kilP, List.set_cons_zero, List.set_cons_succ, List.getElem?_cons_zero, List.getElem?_cons_succ, List.nil_append, List.cons_append, Option.toList_some, Option.toList_none]
  repeat (first | refine es rfl rfl rfl ?_ | refine eg rfl (by assumption) rfl ?_ | refine ean rfl (by assumption) (by assumption) rfl ?_ | refine eal rfl (by assumption) (by assumption) rfl ?_ | refine eri rfl ?_ | refine erv rfl ?_ | refine erl rfl ?_ | refine era rfl ?_ | refine erz0 rfl ?_ | refine erz1 rfl ?_)
  try dsimp only [set1, set2, kilP, List.set_cons_zero, List.set_cons_succ, List.getElem?_cons_zero, List.getElem?_cons_succ, List.nil_append, List.cons_append, Option.toList_some, Option.toList_none]
  exact ⟨rfl, ⟨((0, 0, 0, t.pn, t.hm, t.pl), _, _, _), ⟨rfl, rfl, rfl, rfl, hz, rfl, hz2, rfl, rfl⟩, ⟨k2, h1, h2, h3⟩, hH, hS, hC⟩, hF⟩
theorem e9_add {ad : Nat → Nat} {M : Mm} {b : Nat} {t : Tw} (hb : aTw M b t) (hp : t.np < 4) {w : Int64} {x y : Int32} : EvM ad 0 (iX9_addPerson ad) [.ref b, .long w, .int x, .int y] M (fun v' M' => v' = none ∧ aTw M' b ((t.dr, t.lk, t.np + 1, vp_updL t.pn t.np w, upd t.hm t.np x, upd t.pl t.np y), t.hs, t.ss, t.cs) ∧ Fr b 22 M M') := by
  obtain ⟨⟨h0, h1, h2, h3⟩, hH, hS, hC⟩ := hb
  refine ⟨Nat.le_of_ble_eq_true rfl, ?_⟩
  show Ev ad _ (rX9_addPerson ad) (0, [some (.ref b), some (.long w), none, some (.int x), some (.int y)], [], M) _
  repeat (first | refine es rfl rfl rfl ?_ | refine eg rfl (by assumption) rfl ?_ | refine ean rfl (by assumption) (by assumption) rfl ?_ | refine eal rfl (by assumption) (by assumption) rfl ?_ | refine eri rfl ?_ | refine erv rfl ?_ | refine erl rfl ?_ | refine era rfl ?_ | refine erz0 rfl ?_ | refine erz1 rfl ?_)
  try dsimp only [set1, set2, kilP, List.set_cons_zero, List.set_cons_succ, List.getElem?_cons_zero, List.getElem?_cons_succ, List.nil_append, List.cons_append, Option.toList_some, Option.toList_none]
  refine ei _ rfl rfl (fun c1 => ?_) (fun c1 => ?_)
  · exact absurd c1 (nI_ge (b := 4) (by omega) (by omega))
  · repeat (first | refine es rfl rfl rfl ?_ | refine eg rfl (by assumption) rfl ?_ | refine ean rfl (by assumption) (by assumption) rfl ?_ | refine eal rfl (by assumption) (by assumption) rfl ?_ | refine eri rfl ?_ | refine erv rfl ?_ | refine erl rfl ?_ | refine era rfl ?_ | refine erz0 rfl ?_ | refine erz1 rfl ?_)
    try dsimp only [set1, set2, kilP, List.set_cons_zero, List.set_cons_succ, List.getElem?_cons_zero, List.getElem?_cons_succ, List.nil_append, List.cons_append, Option.toList_some, Option.toList_none]
    refine etlM rfl (by assumption) (by assumption) rfl (fun M2 eM => ?_)
    have k1 := up_w eM
    replace h0 := up_k eM h0 (by omega)
    replace h2 := up_k eM h2 (by omega)
    replace h3 := up_k eM h3 (by omega)
    repeat (first | refine es rfl rfl rfl ?_ | refine eg rfl (by assumption) rfl ?_ | refine ean rfl (by assumption) (by assumption) rfl ?_ | refine eal rfl (by assumption) (by assumption) rfl ?_ | refine eri rfl ?_ | refine erv rfl ?_ | refine erl rfl ?_ | refine era rfl ?_ | refine erz0 rfl ?_ | refine erz1 rfl ?_)
    try dsimp only [set1, set2, kilP, List.set_cons_zero, List.set_cons_succ, List.getElem?_cons_zero, List.getElem?_cons_succ, List.nil_append, List.cons_append, Option.toList_some, Option.toList_none]
    refine etM rfl (by assumption) (by assumption) rfl (fun M3 eM3 => ?_)
    have k2 := up_w eM3
    replace h0 := up_k eM3 h0 (by omega)
    replace k1 := up_k eM3 k1 (by omega)
    replace h3 := up_k eM3 h3 (by omega)
    repeat (first | refine es rfl rfl rfl ?_ | refine eg rfl (by assumption) rfl ?_ | refine ean rfl (by assumption) (by assumption) rfl ?_ | refine eal rfl (by assumption) (by assumption) rfl ?_ | refine eri rfl ?_ | refine erv rfl ?_ | refine erl rfl ?_ | refine era rfl ?_ | refine erz0 rfl ?_ | refine erz1 rfl ?_)
    try dsimp only [set1, set2, kilP, List.set_cons_zero, List.set_cons_succ, List.getElem?_cons_zero, List.getElem?_cons_succ, List.nil_append, List.cons_append, Option.toList_some, Option.toList_none]
    refine etM rfl (by assumption) (by assumption) rfl (fun M4 eM4 => ?_)
    have k3 := up_w eM4
    replace h0 := up_k eM4 h0 (by omega)
    replace k1 := up_k eM4 k1 (by omega)
    replace k2 := up_k eM4 k2 (by omega)
    repeat (first | refine es rfl rfl rfl ?_ | refine eg rfl (by assumption) rfl ?_ | refine ean rfl (by assumption) (by assumption) rfl ?_ | refine eal rfl (by assumption) (by assumption) rfl ?_ | refine eri rfl ?_ | refine erv rfl ?_ | refine erl rfl ?_ | refine era rfl ?_ | refine erz0 rfl ?_ | refine erz1 rfl ?_)
    try dsimp only [set1, set2, kilP, List.set_cons_zero, List.set_cons_succ, List.getElem?_cons_zero, List.getElem?_cons_succ, List.nil_append, List.cons_append, Option.toList_some, Option.toList_none]
    refine epM rfl (by assumption) rfl rfl rfl (fun M5 eM5 => ?_)
    have k0 := up_w eM5
    replace k1 := up_k eM5 k1 (by omega)
    replace k2 := up_k eM5 k2 (by omega)
    replace k3 := up_k eM5 k3 (by omega)
    rw [nI_1] at k0
    repeat (first | refine es rfl rfl rfl ?_ | refine eg rfl (by assumption) rfl ?_ | refine ean rfl (by assumption) (by assumption) rfl ?_ | refine eal rfl (by assumption) (by assumption) rfl ?_ | refine eri rfl ?_ | refine erv rfl ?_ | refine erl rfl ?_ | refine era rfl ?_ | refine erz0 rfl ?_ | refine erz1 rfl ?_)
    try dsimp only [set1, set2, kilP, List.set_cons_zero, List.set_cons_succ, List.getElem?_cons_zero, List.getElem?_cons_succ, List.nil_append, List.cons_append, Option.toList_some, Option.toList_none]
    have hk : ∀ q, ¬ q = b → ¬ (b + 19 ≤ q ∧ q < b + 22) → M5.1 q = M.1 q := fun q a1 a2 => by rw [eM5, up_n _ _ (by omega), eM4, up_n _ _ (by omega), eM3, up_n _ _ (by omega), eM, up_n _ _ (by omega)]
    refine ⟨rfl, ⟨⟨k0, k1, k2, k3⟩, hH.kept (fun q _ _ => hk q (by omega) (by omega)), hS.kept (fun q _ _ => hk q (by omega) (by omega)), hC.kept (fun q _ _ => hk q (by omega) (by omega))⟩, fun q hq => hk q (by omega) (by omega), by rw [eM5, eM4, eM3, eM]; rfl⟩
/-- is a name told already: of people, or of houses -/
def nmtF (pn : Nat → Int64) (w : Int64) : Nat → Nat → Bool
  | 0, _ => false
  | n + 1, i => if pn i = w then true else nmtF pn w n (i + 1)
theorem e9_nmt_loop {ad : Nat → Nat} {M : Mm} {b : Nat} {t : Tw} (hb : aTw M b t) (hn7 : t.hs.n ≤ 7) (hp : t.np ≤ 4) {w : Int64} : ∀ (n i : Nat), i + n = t.np → Ev ad 1 (rX9_isNameTold ad) (2, [some (.ref b), some (.long w), none, some (.int (nI i))], [], M) (fun v' M' => v' = some (.int (if nmtF t.pn w n i = true ∨ ¬ calF t.hs.nm w t.hs.n 0 = -1 then 1 else 0)) ∧ M' = M) := by
  obtain ⟨⟨h0, h1, h2, h3⟩, hH, hS, hC⟩ := hb
  have hH0 := hH.1
  have enp : t.np = t.1.2.2.1 := rfl
  intro n
  induction n with
  | zero =>
    intro i hi
    repeat (first | refine es rfl rfl rfl ?_ | refine eg rfl (by assumption) rfl ?_ | refine ean rfl (by assumption) (by assumption) rfl ?_ | refine eal rfl (by assumption) (by assumption) rfl ?_ | refine eri rfl ?_ | refine erv rfl ?_ | refine erl rfl ?_ | refine era rfl ?_ | refine erz0 rfl ?_ | refine erz1 rfl ?_)
    try dsimp only [set1, set2, kilP, List.set_cons_zero, List.set_cons_succ, List.getElem?_cons_zero, List.getElem?_cons_succ, List.nil_append, List.cons_append, Option.toList_some, Option.toList_none]
    refine ei _ rfl rfl (fun c1 => ?_) (fun c1 => ?_)
    · repeat (first | refine es rfl rfl rfl ?_ | refine eg rfl (by assumption) rfl ?_ | refine ean rfl (by assumption) (by assumption) rfl ?_ | refine eal rfl (by assumption) (by assumption) rfl ?_ | refine eri rfl ?_ | refine erv rfl ?_ | refine erl rfl ?_ | refine era rfl ?_ | refine erz0 rfl ?_ | refine erz1 rfl ?_)
      try dsimp only [set1, set2, kilP, List.set_cons_zero, List.set_cons_succ, List.getElem?_cons_zero, List.getElem?_cons_succ, List.nil_append, List.cons_append, Option.toList_some, Option.toList_none]
      refine ecr rfl rfl (by assumption) rfl rfl rfl (e2_called hH hn7) (by first | rfl | exact Nat.blt_eq.mpr (by omega)) rfl ?_
      repeat (first | refine es rfl rfl rfl ?_ | refine eg rfl (by assumption) rfl ?_ | refine ean rfl (by assumption) (by assumption) rfl ?_ | refine eal rfl (by assumption) (by assumption) rfl ?_ | refine eri rfl ?_ | refine erv rfl ?_ | refine erl rfl ?_ | refine era rfl ?_ | refine erz0 rfl ?_ | refine erz1 rfl ?_)
      try dsimp only [set1, set2, kilP, List.set_cons_zero, List.set_cons_succ, List.getElem?_cons_zero, List.getElem?_cons_succ, List.nil_append, List.cons_append, Option.toList_some, Option.toList_none]
      refine ei _ rfl rfl (fun c2 => ?_) (fun c2 => ?_)
      · repeat (first | refine es rfl rfl rfl ?_ | refine eg rfl (by assumption) rfl ?_ | refine ean rfl (by assumption) (by assumption) rfl ?_ | refine eal rfl (by assumption) (by assumption) rfl ?_ | refine eri rfl ?_ | refine erv rfl ?_ | refine erl rfl ?_ | refine era rfl ?_ | refine erz0 rfl ?_ | refine erz1 rfl ?_)
        try dsimp only [set1, set2, kilP, List.set_cons_zero, List.set_cons_succ, List.getElem?_cons_zero, List.getElem?_cons_succ, List.nil_append, List.cons_append, Option.toList_some, Option.toList_none]
        rw [if_neg (fun q => q.elim (fun z => by cases z) (fun z => z c2))]
        exact ⟨rfl, rfl⟩
      · repeat (first | refine es rfl rfl rfl ?_ | refine eg rfl (by assumption) rfl ?_ | refine ean rfl (by assumption) (by assumption) rfl ?_ | refine eal rfl (by assumption) (by assumption) rfl ?_ | refine eri rfl ?_ | refine erv rfl ?_ | refine erl rfl ?_ | refine era rfl ?_ | refine erz0 rfl ?_ | refine erz1 rfl ?_)
        try dsimp only [set1, set2, kilP, List.set_cons_zero, List.set_cons_succ, List.getElem?_cons_zero, List.getElem?_cons_succ, List.nil_append, List.cons_append, Option.toList_some, Option.toList_none]
        rw [if_pos (Or.inr c2)]
        exact ⟨rfl, rfl⟩
    · exact absurd (nI_le (by omega) (by omega)) c1
  | succ n ih =>
    intro i hi
    have hi4 : i < 4 := by omega
    repeat (first | refine es rfl rfl rfl ?_ | refine eg rfl (by assumption) rfl ?_ | refine ean rfl (by assumption) (by assumption) rfl ?_ | refine eal rfl (by assumption) (by assumption) rfl ?_ | refine eri rfl ?_ | refine erv rfl ?_ | refine erl rfl ?_ | refine era rfl ?_ | refine erz0 rfl ?_ | refine erz1 rfl ?_)
    try dsimp only [set1, set2, kilP, List.set_cons_zero, List.set_cons_succ, List.getElem?_cons_zero, List.getElem?_cons_succ, List.nil_append, List.cons_append, Option.toList_some, Option.toList_none]
    refine ei _ rfl rfl (fun c1 => ?_) (fun c1 => ?_)
    · exact absurd c1 (nI_ge (by omega) (by omega))
    · repeat (first | refine es rfl rfl rfl ?_ | refine eg rfl (by assumption) rfl ?_ | refine ean rfl (by assumption) (by assumption) rfl ?_ | refine eal rfl (by assumption) (by assumption) rfl ?_ | refine eri rfl ?_ | refine erv rfl ?_ | refine erl rfl ?_ | refine era rfl ?_ | refine erz0 rfl ?_ | refine erz1 rfl ?_)
      try dsimp only [set1, set2, kilP, List.set_cons_zero, List.set_cons_succ, List.getElem?_cons_zero, List.getElem?_cons_succ, List.nil_append, List.cons_append, Option.toList_some, Option.toList_none]
      refine ei _ rfl rfl (fun c2 => ?_) (fun c2 => ?_)
      · repeat (refine ng 2 rfl ?_; first | refine es rfl rfl rfl ?_ | refine eg rfl (by assumption) rfl ?_ | refine ean rfl (by assumption) (by assumption) rfl ?_ | refine eal rfl (by assumption) (by assumption) rfl ?_ | refine eri rfl ?_ | refine erv rfl ?_ | refine erl rfl ?_ | refine era rfl ?_ | refine erz0 rfl ?_ | refine erz1 rfl ?_)
        try dsimp only [set1, set2, kilP, List.set_cons_zero, List.set_cons_succ, List.getElem?_cons_zero, List.getElem?_cons_succ, List.nil_append, List.cons_append, Option.toList_some, Option.toList_none]
        rw [nI_1, nmtF, if_neg (fun q => c2 (lcmp_eq.mpr q))]
        exact ih (i + 1) (by omega)
      · repeat (first | refine es rfl rfl rfl ?_ | refine eg rfl (by assumption) rfl ?_ | refine ean rfl (by assumption) (by assumption) rfl ?_ | refine eal rfl (by assumption) (by assumption) rfl ?_ | refine eri rfl ?_ | refine erv rfl ?_ | refine erl rfl ?_ | refine era rfl ?_ | refine erz0 rfl ?_ | refine erz1 rfl ?_)
        try dsimp only [set1, set2, kilP, List.set_cons_zero, List.set_cons_succ, List.getElem?_cons_zero, List.getElem?_cons_succ, List.nil_append, List.cons_append, Option.toList_some, Option.toList_none]
        rw [nmtF, if_pos (lcmp_eq.mp (Decidable.not_not.mp c2)), if_pos (Or.inl rfl)]
        exact ⟨rfl, rfl⟩
theorem e9_nmt {ad : Nat → Nat} {M : Mm} {b : Nat} {t : Tw} (hb : aTw M b t) (hn7 : t.hs.n ≤ 7) (hp : t.np ≤ 4) {w : Int64} : Rd ad 1 (iX9_isNameTold ad) [.ref b, .long w] M (some (.int (if nmtF t.pn w t.np 0 = true ∨ ¬ calF t.hs.nm w t.hs.n 0 = -1 then 1 else 0))) := by
  refine ⟨Nat.le_of_ble_eq_true rfl, ?_⟩
  show Ev ad _ (rX9_isNameTold ad) (0, [some (.ref b), some (.long w), none, none], [], M) _
  repeat (refine ng 2 rfl ?_; first | refine es rfl rfl rfl ?_ | refine eg rfl (by assumption) rfl ?_ | refine ean rfl (by assumption) (by assumption) rfl ?_ | refine eal rfl (by assumption) (by assumption) rfl ?_ | refine eri rfl ?_ | refine erv rfl ?_ | refine erl rfl ?_ | refine era rfl ?_ | refine erz0 rfl ?_ | refine erz1 rfl ?_)
  try dsimp only [set1, set2, kilP, List.set_cons_zero, List.set_cons_succ, List.getElem?_cons_zero, List.getElem?_cons_succ, List.nil_append, List.cons_append, Option.toList_some, Option.toList_none]
  exact e9_nmt_loop hb hn7 hp t.np 0 (by omega)
