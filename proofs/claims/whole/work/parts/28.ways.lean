/-! Ways: the search, as it is written -/
/-- a town's numbers are as its text may tell them -/
def wfT (t : Tw) : Prop := 1 ≤ t.dr ∧ t.dr ≤ 9 ∧ t.lk ≤ 9 ∧ t.hs.n ≤ 7 ∧ t.np ≤ 4 ∧ (∀ i, i < 49 → ∃ k, k ≤ 99 ∧ t.ss.mi i = nI k) ∧ (∀ k, k < 7 → t.hs.fr k = -2 ∨ ∃ a c, a ≤ c ∧ c ≤ 23 ∧ t.hs.fr k = nI a ∧ t.hs.tt k = nI c) ∧ t.cs.sg ≤ 8 ∧ t.cs.nz ≤ 4
theorem untF_n {t : Tw} (ht : wfT t) {k m : Nat} (hk : k < 7) : ∃ u, u ≤ 3000 ∧ untF t.hs.fr t.hs.tt k m = nI u := by
  have hr : m % 1440 < 1440 := Nat.mod_lt _ (by omega)
  unfold untF
  rcases ht.2.2.2.2.2.2.1 k hk with e | ⟨a, c, h1, h2, e1, e2⟩
  · rw [if_pos e]; exact ⟨0, by omega, rfl⟩
  · have e0 : ¬ t.hs.fr k = -2 := by
      rw [e1]
      intro q
      have := nI_pos (n := a) (by omega)
      rw [q] at this
      exact this (by decide)
    rw [if_neg e0, e1, e2, show (60 : Int32) * nI a = nI (60 * a) from pk_mul 60 a, show (60 : Int32) * nI c = nI (60 * c) from pk_mul 60 c]
    rw [show nI (60 * c) + 60 = nI (60 * c + 59 + 1) from nI_add _ 60, nI_pred]
    by_cases q1 : nI (m % 1440) < nI (60 * a)
    · rw [if_pos q1]
      have := (nI_ltI (by omega) (by omega)).mp q1
      exact ⟨60 * a - m % 1440, by omega, pk_sub (by omega)⟩
    · rw [if_neg q1]
      by_cases q2 : nI (m % 1440) ≤ nI (60 * c + 59)
      · rw [if_pos q2]; exact ⟨0, by omega, rfl⟩
      · rw [if_neg q2]
        refine ⟨1440 - m % 1440 + 60 * a, by omega, ?_⟩
        rw [show (1440 : Int32) = nI 1440 from rfl, pk_sub (by omega), nI_add]
/-- the minute at the next house, from a house at a minute; -2: no way there -/
def mtF (t : Tw) (f : Nat → Int32) (h g m : Nat) : Int32 :=
  let s := if 0 < t.ss.mi (h * 7 + g) then nI m + t.ss.mi (h * 7 + g) else -2
  if f h = nI g ∧ (¬ f h = -2 ∧ ¬ shutI (f 7) h = 1) then (if s = -2 then nI m + untF t.hs.fr t.hs.tt h m + nI t.dr else minF s (nI m + untF t.hs.fr t.hs.tt h m + nI t.dr)) else s
theorem nI_n2 {a : Nat} (h : a < 2 ^ 31) : ¬ nI a = -2 := by
  intro q
  have := nI_pos (n := a) h
  rw [q] at this
  exact this (by decide)
theorem mtF_n {t : Tw} (ht : wfT t) {f : Nat → Int32} {h g m : Nat} (hh : h < 7) (hg : g < 7) (hm : m < 2 ^ 30) : mtF t f h g m = -2 ∨ ∃ m', m' ≤ m + 4000 ∧ mtF t f h g m = nI m' := by
  obtain ⟨k, hk, ek⟩ := ht.2.2.2.2.2.1 (h * 7 + g) (by omega)
  obtain ⟨u, hu, eu⟩ := untF_n ht (m := m) hh
  have hdr := ht.2.1
  unfold mtF
  rw [ek, eu, nI_add, nI_add, nI_add]
  dsimp only
  have hs : (if 0 < nI k then nI (m + k) else (-2 : Int32)) = -2 ∨ (if 0 < nI k then nI (m + k) else (-2 : Int32)) = nI (m + k) := by
    split
    · exact Or.inr rfl
    · exact Or.inl rfl
  split
  · rcases hs with e | e
    · rw [e, if_pos rfl]; exact Or.inr ⟨_, by omega, rfl⟩
    · rw [e, if_neg (nI_n2 (by omega))]
      unfold minF
      split
      · exact Or.inr ⟨_, by omega, rfl⟩
      · exact Or.inr ⟨_, by omega, rfl⟩
  · rcases hs with e | e
    · exact Or.inl e
    · exact Or.inr ⟨m + k, by omega, e⟩
theorem e10_minuteAt {ad : Nat → Nat} {M : Mm} {b tb nb h g m : Nat} {t : Tw} {f : Nat → Int32} (ht : aTw M tb t) (wt : wfT t) (hw : aNw M nb f) (hh : h < 7) (hg : g < 7) (hm : m < 2 ^ 30) : Rd ad 2 (iX10_minuteAt ad) [.ref b, .ref tb, .ref nb, .int (nI h), .int (nI g), .int (nI m)] M (some (.int (mtF t f h g m))) := by
  obtain ⟨⟨t0, -, -, -⟩, hH, hS, -⟩ := id ht
  have w0 := hw.1
  have s0 := hS.1
  have u0 := hH.1
  refine ⟨Nat.le_of_ble_eq_true rfl, ?_⟩
  show Ev ad _ (rX10_minuteAt ad) (0, [some (.ref b), some (.ref tb), some (.ref nb), some (.int (nI h)), some (.int (nI g)), some (.int (nI m)), none, none, none], [], M) _
  repeat (first | refine es rfl rfl rfl ?_ | refine eg rfl (by assumption) rfl ?_ | refine ean rfl (by assumption) (by assumption) rfl ?_ | refine eal rfl (by assumption) (by assumption) rfl ?_ | refine eri rfl ?_ | refine erv rfl ?_ | refine erl rfl ?_ | refine era rfl ?_ | refine erz0 rfl ?_ | refine erz1 rfl ?_)
  try dsimp only [set1, set2, kilP, List.set_cons_zero, List.set_cons_succ, List.getElem?_cons_zero, List.getElem?_cons_succ, List.nil_append, List.cons_append, Option.toList_some, Option.toList_none]
  refine ecr rfl rfl (by assumption) rfl rfl rfl (e7_between hS hh hg) (by first | rfl | exact Nat.blt_eq.mpr (by omega)) rfl ?_
  repeat (first | refine es rfl rfl rfl ?_ | refine eg rfl (by assumption) rfl ?_ | refine ean rfl (by assumption) (by assumption) rfl ?_ | refine eal rfl (by assumption) (by assumption) rfl ?_ | refine eri rfl ?_ | refine erv rfl ?_ | refine erl rfl ?_ | refine era rfl ?_ | refine erz0 rfl ?_ | refine erz1 rfl ?_)
  try dsimp only [set1, set2, kilP, List.set_cons_zero, List.set_cons_succ, List.getElem?_cons_zero, List.getElem?_cons_succ, List.nil_append, List.cons_append, Option.toList_some, Option.toList_none]
  refine ei _ rfl rfl (fun c1 => ?_) (fun c1 => ?_)
  · repeat (first | refine es rfl rfl rfl ?_ | refine eg rfl (by assumption) rfl ?_ | refine ean rfl (by assumption) (by assumption) rfl ?_ | refine eal rfl (by assumption) (by assumption) rfl ?_ | refine eri rfl ?_ | refine erv rfl ?_ | refine erl rfl ?_ | refine era rfl ?_ | refine erz0 rfl ?_ | refine erz1 rfl ?_)
    try dsimp only [set1, set2, kilP, List.set_cons_zero, List.set_cons_succ, List.getElem?_cons_zero, List.getElem?_cons_succ, List.nil_append, List.cons_append, Option.toList_some, Option.toList_none]
    refine ecr rfl rfl (by assumption) rfl rfl rfl (e3_roomOf hw (k := h) (by omega)) (by first | rfl | exact Nat.blt_eq.mpr (by omega)) rfl ?_
    repeat (first | refine es rfl rfl rfl ?_ | refine eg rfl (by assumption) rfl ?_ | refine ean rfl (by assumption) (by assumption) rfl ?_ | refine eal rfl (by assumption) (by assumption) rfl ?_ | refine eri rfl ?_ | refine erv rfl ?_ | refine erl rfl ?_ | refine era rfl ?_ | refine erz0 rfl ?_ | refine erz1 rfl ?_)
    try dsimp only [set1, set2, kilP, List.set_cons_zero, List.set_cons_succ, List.getElem?_cons_zero, List.getElem?_cons_succ, List.nil_append, List.cons_append, Option.toList_some, Option.toList_none]
    refine ei _ rfl rfl (fun c2 => ?_) (fun c2 => ?_)
    · repeat (first | refine es rfl rfl rfl ?_ | refine eg rfl (by assumption) rfl ?_ | refine ean rfl (by assumption) (by assumption) rfl ?_ | refine eal rfl (by assumption) (by assumption) rfl ?_ | refine eri rfl ?_ | refine erv rfl ?_ | refine erl rfl ?_ | refine era rfl ?_ | refine erz0 rfl ?_ | refine erz1 rfl ?_)
      try dsimp only [set1, set2, kilP, List.set_cons_zero, List.set_cons_succ, List.getElem?_cons_zero, List.getElem?_cons_succ, List.nil_append, List.cons_append, Option.toList_some, Option.toList_none]
      rw [mtF, if_neg (Int32.not_lt.mpr c1), if_neg (fun q => c2 q.1)]
      exact ⟨rfl, rfl⟩
    · repeat (first | refine es rfl rfl rfl ?_ | refine eg rfl (by assumption) rfl ?_ | refine ean rfl (by assumption) (by assumption) rfl ?_ | refine eal rfl (by assumption) (by assumption) rfl ?_ | refine eri rfl ?_ | refine erv rfl ?_ | refine erl rfl ?_ | refine era rfl ?_ | refine erz0 rfl ?_ | refine erz1 rfl ?_)
      try dsimp only [set1, set2, kilP, List.set_cons_zero, List.set_cons_succ, List.getElem?_cons_zero, List.getElem?_cons_succ, List.nil_append, List.cons_append, Option.toList_some, Option.toList_none]
      refine ecr rfl rfl (by assumption) rfl rfl rfl (e3_hasDoor hw hh) (by first | rfl | exact Nat.blt_eq.mpr (by omega)) rfl ?_
      by_cases hd : ¬ f h = -2 ∧ ¬ shutI (f 7) h = 1
      · rw [show bI (¬ f h = -2 ∧ ¬ shutI (f 7) h = 1) = 1 from if_pos hd]
        repeat (first | refine es rfl rfl rfl ?_ | refine eg rfl (by assumption) rfl ?_ | refine ean rfl (by assumption) (by assumption) rfl ?_ | refine eal rfl (by assumption) (by assumption) rfl ?_ | refine eri rfl ?_ | refine erv rfl ?_ | refine erl rfl ?_ | refine era rfl ?_ | refine erz0 rfl ?_ | refine erz1 rfl ?_)
        try dsimp only [set1, set2, kilP, List.set_cons_zero, List.set_cons_succ, List.getElem?_cons_zero, List.getElem?_cons_succ, List.nil_append, List.cons_append, Option.toList_some, Option.toList_none]
        refine ecr rfl rfl (by assumption) rfl rfl rfl (e2_until hH hh (m := m) (by omega)) (by first | rfl | exact Nat.blt_eq.mpr (by omega)) rfl ?_
        repeat (first | refine es rfl rfl rfl ?_ | refine eg rfl (by assumption) rfl ?_ | refine ean rfl (by assumption) (by assumption) rfl ?_ | refine eal rfl (by assumption) (by assumption) rfl ?_ | refine eri rfl ?_ | refine erv rfl ?_ | refine erl rfl ?_ | refine era rfl ?_ | refine erz0 rfl ?_ | refine erz1 rfl ?_)
        try dsimp only [set1, set2, kilP, List.set_cons_zero, List.set_cons_succ, List.getElem?_cons_zero, List.getElem?_cons_succ, List.nil_append, List.cons_append, Option.toList_some, Option.toList_none]
        rw [mtF, if_neg (Int32.not_lt.mpr c1), if_pos ⟨Decidable.not_not.mp c2, hd⟩, if_pos rfl]
        exact ⟨rfl, rfl⟩
      · rw [show bI (¬ f h = -2 ∧ ¬ shutI (f 7) h = 1) = 0 from if_neg hd]
        repeat (first | refine es rfl rfl rfl ?_ | refine eg rfl (by assumption) rfl ?_ | refine ean rfl (by assumption) (by assumption) rfl ?_ | refine eal rfl (by assumption) (by assumption) rfl ?_ | refine eri rfl ?_ | refine erv rfl ?_ | refine erl rfl ?_ | refine era rfl ?_ | refine erz0 rfl ?_ | refine erz1 rfl ?_)
        try dsimp only [set1, set2, kilP, List.set_cons_zero, List.set_cons_succ, List.getElem?_cons_zero, List.getElem?_cons_succ, List.nil_append, List.cons_append, Option.toList_some, Option.toList_none]
        rw [mtF, if_neg (Int32.not_lt.mpr c1), if_neg (fun q => hd q.2)]
        exact ⟨rfl, rfl⟩
  · repeat (first | refine es rfl rfl rfl ?_ | refine eg rfl (by assumption) rfl ?_ | refine ean rfl (by assumption) (by assumption) rfl ?_ | refine eal rfl (by assumption) (by assumption) rfl ?_ | refine eri rfl ?_ | refine erv rfl ?_ | refine erl rfl ?_ | refine era rfl ?_ | refine erz0 rfl ?_ | refine erz1 rfl ?_)
    try dsimp only [set1, set2, kilP, List.set_cons_zero, List.set_cons_succ, List.getElem?_cons_zero, List.getElem?_cons_succ, List.nil_append, List.cons_append, Option.toList_some, Option.toList_none]
    refine ecr rfl rfl (by assumption) rfl rfl rfl (e3_roomOf hw (k := h) (by omega)) (by first | rfl | exact Nat.blt_eq.mpr (by omega)) rfl ?_
    repeat (first | refine es rfl rfl rfl ?_ | refine eg rfl (by assumption) rfl ?_ | refine ean rfl (by assumption) (by assumption) rfl ?_ | refine eal rfl (by assumption) (by assumption) rfl ?_ | refine eri rfl ?_ | refine erv rfl ?_ | refine erl rfl ?_ | refine era rfl ?_ | refine erz0 rfl ?_ | refine erz1 rfl ?_)
    try dsimp only [set1, set2, kilP, List.set_cons_zero, List.set_cons_succ, List.getElem?_cons_zero, List.getElem?_cons_succ, List.nil_append, List.cons_append, Option.toList_some, Option.toList_none]
    have c1' := Int32.not_le.mp c1
    refine ei _ rfl rfl (fun c2 => ?_) (fun c2 => ?_)
    · repeat (first | refine es rfl rfl rfl ?_ | refine eg rfl (by assumption) rfl ?_ | refine ean rfl (by assumption) (by assumption) rfl ?_ | refine eal rfl (by assumption) (by assumption) rfl ?_ | refine eri rfl ?_ | refine erv rfl ?_ | refine erl rfl ?_ | refine era rfl ?_ | refine erz0 rfl ?_ | refine erz1 rfl ?_)
      try dsimp only [set1, set2, kilP, List.set_cons_zero, List.set_cons_succ, List.getElem?_cons_zero, List.getElem?_cons_succ, List.nil_append, List.cons_append, Option.toList_some, Option.toList_none]
      rw [mtF, if_pos c1', if_neg (fun q => c2 q.1)]
      exact ⟨rfl, rfl⟩
    · repeat (first | refine es rfl rfl rfl ?_ | refine eg rfl (by assumption) rfl ?_ | refine ean rfl (by assumption) (by assumption) rfl ?_ | refine eal rfl (by assumption) (by assumption) rfl ?_ | refine eri rfl ?_ | refine erv rfl ?_ | refine erl rfl ?_ | refine era rfl ?_ | refine erz0 rfl ?_ | refine erz1 rfl ?_)
      try dsimp only [set1, set2, kilP, List.set_cons_zero, List.set_cons_succ, List.getElem?_cons_zero, List.getElem?_cons_succ, List.nil_append, List.cons_append, Option.toList_some, Option.toList_none]
      refine ecr rfl rfl (by assumption) rfl rfl rfl (e3_hasDoor hw hh) (by first | rfl | exact Nat.blt_eq.mpr (by omega)) rfl ?_
      by_cases hd : ¬ f h = -2 ∧ ¬ shutI (f 7) h = 1
      · rw [show bI (¬ f h = -2 ∧ ¬ shutI (f 7) h = 1) = 1 from if_pos hd]
        repeat (first | refine es rfl rfl rfl ?_ | refine eg rfl (by assumption) rfl ?_ | refine ean rfl (by assumption) (by assumption) rfl ?_ | refine eal rfl (by assumption) (by assumption) rfl ?_ | refine eri rfl ?_ | refine erv rfl ?_ | refine erl rfl ?_ | refine era rfl ?_ | refine erz0 rfl ?_ | refine erz1 rfl ?_)
        try dsimp only [set1, set2, kilP, List.set_cons_zero, List.set_cons_succ, List.getElem?_cons_zero, List.getElem?_cons_succ, List.nil_append, List.cons_append, Option.toList_some, Option.toList_none]
        refine ecr rfl rfl (by assumption) rfl rfl rfl (e2_until hH hh (m := m) (by omega)) (by first | rfl | exact Nat.blt_eq.mpr (by omega)) rfl ?_
        repeat (first | refine es rfl rfl rfl ?_ | refine eg rfl (by assumption) rfl ?_ | refine ean rfl (by assumption) (by assumption) rfl ?_ | refine eal rfl (by assumption) (by assumption) rfl ?_ | refine eri rfl ?_ | refine erv rfl ?_ | refine erl rfl ?_ | refine era rfl ?_ | refine erz0 rfl ?_ | refine erz1 rfl ?_)
        try dsimp only [set1, set2, kilP, List.set_cons_zero, List.set_cons_succ, List.getElem?_cons_zero, List.getElem?_cons_succ, List.nil_append, List.cons_append, Option.toList_some, Option.toList_none]
        obtain ⟨k, hk, ek⟩ := wt.2.2.2.2.2.1 (h * 7 + g) (by omega)
        have hne : ¬ nI m + t.ss.mi (h * 7 + g) = -2 := by rw [ek, nI_add]; exact nI_n2 (by omega)
        rw [mtF, if_pos c1', if_pos ⟨Decidable.not_not.mp c2, hd⟩, if_neg hne]
        refine ei _ rfl rfl (fun c3 => ?_) (fun c3 => ?_)
        · repeat (first | refine es rfl rfl rfl ?_ | refine eg rfl (by assumption) rfl ?_ | refine ean rfl (by assumption) (by assumption) rfl ?_ | refine eal rfl (by assumption) (by assumption) rfl ?_ | refine eri rfl ?_ | refine erv rfl ?_ | refine erl rfl ?_ | refine era rfl ?_ | refine erz0 rfl ?_ | refine erz1 rfl ?_)
          try dsimp only [set1, set2, kilP, List.set_cons_zero, List.set_cons_succ, List.getElem?_cons_zero, List.getElem?_cons_succ, List.nil_append, List.cons_append, Option.toList_some, Option.toList_none]
          refine ecsr rfl rfl rfl rfl rfl rfl (ej_min) (by first | rfl | exact Nat.blt_eq.mpr (by omega)) rfl ?_
          repeat (first | refine es rfl rfl rfl ?_ | refine eg rfl (by assumption) rfl ?_ | refine ean rfl (by assumption) (by assumption) rfl ?_ | refine eal rfl (by assumption) (by assumption) rfl ?_ | refine eri rfl ?_ | refine erv rfl ?_ | refine erl rfl ?_ | refine era rfl ?_ | refine erz0 rfl ?_ | refine erz1 rfl ?_)
          try dsimp only [set1, set2, kilP, List.set_cons_zero, List.set_cons_succ, List.getElem?_cons_zero, List.getElem?_cons_succ, List.nil_append, List.cons_append, Option.toList_some, Option.toList_none]
          exact ⟨rfl, rfl⟩
        · exact absurd hne c3
      · rw [show bI (¬ f h = -2 ∧ ¬ shutI (f 7) h = 1) = 0 from if_neg hd]
        repeat (first | refine es rfl rfl rfl ?_ | refine eg rfl (by assumption) rfl ?_ | refine ean rfl (by assumption) (by assumption) rfl ?_ | refine eal rfl (by assumption) (by assumption) rfl ?_ | refine eri rfl ?_ | refine erv rfl ?_ | refine erl rfl ?_ | refine era rfl ?_ | refine erz0 rfl ?_ | refine erz1 rfl ?_)
        try dsimp only [set1, set2, kilP, List.set_cons_zero, List.set_cons_succ, List.getElem?_cons_zero, List.getElem?_cons_succ, List.nil_append, List.cons_append, Option.toList_some, Option.toList_none]
        rw [mtF, if_pos c1', if_neg (fun q => hd q.2)]
        exact ⟨rfl, rfl⟩
/-- times, the row that is walked, the best row; its houses, where one has been, goal, begin -/
abbrev Wy : Type := (Nat → Int32) × (Nat → Int32) × (Nat → Int32) × Nat × Int32 × Int32 × Nat
abbrev Wy.tm (w : Wy) : Nat → Int32 := w.1
abbrev Wy.wk (w : Wy) : Nat → Int32 := w.2.1
abbrev Wy.bs (w : Wy) : Nat → Int32 := w.2.2.1
abbrev Wy.bh (w : Wy) : Nat := w.2.2.2.1
abbrev Wy.bn (w : Wy) : Int32 := w.2.2.2.2.1
abbrev Wy.gl (w : Wy) : Int32 := w.2.2.2.2.2.1
abbrev Wy.bg (w : Wy) : Nat := w.2.2.2.2.2.2
def aWy (M : Mm) (b : Nat) (w : Wy) : Prop := M.1 b = some (.inr (10, [.ref (b + 1), .ref (b + 2), .ref (b + 3), .int (nI w.bh), .int w.bn, .int w.gl, .int (nI w.bg)])) ∧ M.1 (b + 1) = ints 7 w.tm ∧ M.1 (b + 2) = ints 7 w.wk ∧ M.1 (b + 3) = ints 7 w.bs
theorem aWy.kept {M M' : Mm} {b : Nat} {p : Wy} (hb : aWy M b p) (hq : ∀ q, b ≤ q → q < b + 4 → M'.1 q = M.1 q) : aWy M' b p := by
  obtain ⟨h0, h1, h2, h3⟩ := hb
  exact ⟨(hq _ (by omega) (by omega)).trans h0, (hq _ (by omega) (by omega)).trans h1, (hq _ (by omega) (by omega)).trans h2, (hq _ (by omega) (by omega)).trans h3⟩
/-- the goal is no house, or a house -/
def okG (g : Int32) : Prop := g = -1 ∨ ∃ k, k < 7 ∧ g = nI k
def lateP (w : Wy) (m : Nat) : Prop := ¬ w.gl = -1 ∧ ¬ w.tm w.gl.toNatClampNeg = -2 ∧ w.tm w.gl.toNatClampNeg ≤ nI m - nI w.bg
theorem e10_late {ad : Nat → Nat} {M : Mm} {b m : Nat} {w : Wy} (hb : aWy M b w) (hg : okG w.gl) : Rd ad 0 (iX10_isTooLate ad) [.ref b, .int (nI m)] M (some (.int (@ite _ (lateP w m) (Classical.propDecidable _) 1 0))) := by
  obtain ⟨h0, h1, h2, h3⟩ := hb
  refine ⟨Nat.le_of_ble_eq_true rfl, ?_⟩
  show Ev ad _ (rX10_isTooLate ad) (0, [some (.ref b), some (.int (nI m))], [], M) _
  repeat (first | refine es rfl rfl rfl ?_ | refine eg rfl (by assumption) rfl ?_ | refine ean rfl (by assumption) (by assumption) rfl ?_ | refine eal rfl (by assumption) (by assumption) rfl ?_ | refine eri rfl ?_ | refine erv rfl ?_ | refine erl rfl ?_ | refine era rfl ?_ | refine erz0 rfl ?_ | refine erz1 rfl ?_)
  try dsimp only [set1, set2, kilP, List.set_cons_zero, List.set_cons_succ, List.getElem?_cons_zero, List.getElem?_cons_succ, List.nil_append, List.cons_append, Option.toList_some, Option.toList_none]
  refine ei _ rfl rfl (fun c1 => ?_) (fun c1 => ?_)
  · repeat (first | refine es rfl rfl rfl ?_ | refine eg rfl (by assumption) rfl ?_ | refine ean rfl (by assumption) (by assumption) rfl ?_ | refine eal rfl (by assumption) (by assumption) rfl ?_ | refine eri rfl ?_ | refine erv rfl ?_ | refine erl rfl ?_ | refine era rfl ?_ | refine erz0 rfl ?_ | refine erz1 rfl ?_)
    try dsimp only [set1, set2, kilP, List.set_cons_zero, List.set_cons_succ, List.getElem?_cons_zero, List.getElem?_cons_succ, List.nil_append, List.cons_append, Option.toList_some, Option.toList_none]
    rw [if_neg (fun q : lateP w m => q.1 c1)]; exact ⟨rfl, rfl⟩
  · obtain ⟨k, hk, ek⟩ := hg.resolve_left c1
    have ec : w.gl.toNatClampNeg = k := by rw [ek]; exact nI_clamp (by omega)
    unfold lateP
    rw [ec]
    repeat (first | refine es rfl rfl rfl ?_ | refine eg rfl (by assumption) rfl ?_ | refine ean rfl (by assumption) (by assumption) rfl ?_ | refine eal rfl (by assumption) (by assumption) rfl ?_ | refine eri rfl ?_ | refine erv rfl ?_ | refine erl rfl ?_ | refine era rfl ?_ | refine erz0 rfl ?_ | refine erz1 rfl ?_)
    try dsimp only [set1, set2, kilP, List.set_cons_zero, List.set_cons_succ, List.getElem?_cons_zero, List.getElem?_cons_succ, List.nil_append, List.cons_append, Option.toList_some, Option.toList_none]
    rw [ek]
    repeat (first | refine es rfl rfl rfl ?_ | refine eg rfl (by assumption) rfl ?_ | refine ean rfl (by assumption) (by assumption) rfl ?_ | refine eal rfl (by assumption) (by assumption) rfl ?_ | refine eri rfl ?_ | refine erv rfl ?_ | refine erl rfl ?_ | refine era rfl ?_ | refine erz0 rfl ?_ | refine erz1 rfl ?_)
    try dsimp only [set1, set2, kilP, List.set_cons_zero, List.set_cons_succ, List.getElem?_cons_zero, List.getElem?_cons_succ, List.nil_append, List.cons_append, Option.toList_some, Option.toList_none]
    refine ei _ rfl rfl (fun c2 => ?_) (fun c2 => ?_)
    · repeat (first | refine es rfl rfl rfl ?_ | refine eg rfl (by assumption) rfl ?_ | refine ean rfl (by assumption) (by assumption) rfl ?_ | refine eal rfl (by assumption) (by assumption) rfl ?_ | refine eri rfl ?_ | refine erv rfl ?_ | refine erl rfl ?_ | refine era rfl ?_ | refine erz0 rfl ?_ | refine erz1 rfl ?_)
      try dsimp only [set1, set2, kilP, List.set_cons_zero, List.set_cons_succ, List.getElem?_cons_zero, List.getElem?_cons_succ, List.nil_append, List.cons_append, Option.toList_some, Option.toList_none]
      rw [if_neg (fun q => q.2.1 c2)]; exact ⟨rfl, rfl⟩
    · repeat (first | refine es rfl rfl rfl ?_ | refine eg rfl (by assumption) rfl ?_ | refine ean rfl (by assumption) (by assumption) rfl ?_ | refine eal rfl (by assumption) (by assumption) rfl ?_ | refine eri rfl ?_ | refine erv rfl ?_ | refine erl rfl ?_ | refine era rfl ?_ | refine erz0 rfl ?_ | refine erz1 rfl ?_)
      try dsimp only [set1, set2, kilP, List.set_cons_zero, List.set_cons_succ, List.getElem?_cons_zero, List.getElem?_cons_succ, List.nil_append, List.cons_append, Option.toList_some, Option.toList_none]
      rw [ek]
      repeat (first | refine es rfl rfl rfl ?_ | refine eg rfl (by assumption) rfl ?_ | refine ean rfl (by assumption) (by assumption) rfl ?_ | refine eal rfl (by assumption) (by assumption) rfl ?_ | refine eri rfl ?_ | refine erv rfl ?_ | refine erl rfl ?_ | refine era rfl ?_ | refine erz0 rfl ?_ | refine erz1 rfl ?_)
      try dsimp only [set1, set2, kilP, List.set_cons_zero, List.set_cons_succ, List.getElem?_cons_zero, List.getElem?_cons_succ, List.nil_append, List.cons_append, Option.toList_some, Option.toList_none]
      refine ei _ rfl rfl (fun c3 => ?_) (fun c3 => ?_)
      · repeat (first | refine es rfl rfl rfl ?_ | refine eg rfl (by assumption) rfl ?_ | refine ean rfl (by assumption) (by assumption) rfl ?_ | refine eal rfl (by assumption) (by assumption) rfl ?_ | refine eri rfl ?_ | refine erv rfl ?_ | refine erl rfl ?_ | refine era rfl ?_ | refine erz0 rfl ?_ | refine erz1 rfl ?_)
        try dsimp only [set1, set2, kilP, List.set_cons_zero, List.set_cons_succ, List.getElem?_cons_zero, List.getElem?_cons_succ, List.nil_append, List.cons_append, Option.toList_some, Option.toList_none]
        rw [if_neg (fun q => absurd q.2.2 (Int32.not_le.mpr c3))]; exact ⟨rfl, rfl⟩
      · repeat (first | refine es rfl rfl rfl ?_ | refine eg rfl (by assumption) rfl ?_ | refine ean rfl (by assumption) (by assumption) rfl ?_ | refine eal rfl (by assumption) (by assumption) rfl ?_ | refine eri rfl ?_ | refine erv rfl ?_ | refine erl rfl ?_ | refine era rfl ?_ | refine erz0 rfl ?_ | refine erz1 rfl ?_)
        try dsimp only [set1, set2, kilP, List.set_cons_zero, List.set_cons_succ, List.getElem?_cons_zero, List.getElem?_cons_succ, List.nil_append, List.cons_append, Option.toList_some, Option.toList_none]
        rw [if_pos ⟨by rw [ek] at c1; exact c1, c2, Int32.not_lt.mp c3⟩]; exact ⟨rfl, rfl⟩
/-- at a house after so much time, as the n-th of the row -/
def arrF (w : Wy) (h : Nat) (z : Int32) (n : Nat) : Wy := if ¬ w.tm h = -2 ∧ w.tm h ≤ z then w else if nI h = w.gl then (upd w.tm h z, w.wk, va_cpy w.wk w.bs 0 0 n, n, w.bn, w.gl, w.bg) else (upd w.tm h z, w.wk, w.bs, w.bh, w.bn, w.gl, w.bg)
theorem e10_arrive {ad : Nat → Nat} {M : Mm} {b h n : Nat} {w : Wy} {z : Int32} (hb : aWy M b w) (hh : h < 7) (hn : n ≤ 7) : EvM ad 0 (iX10_arrive ad) [.ref b, .int (nI h), .int z, .int (nI n)] M (fun v' M' => v' = none ∧ aWy M' b (arrF w h z n) ∧ Fr b 4 M M') := by
  have hb' := hb
  obtain ⟨h0, h1, h2, h3⟩ := hb
  have hF := Fr.rf b 4 M
  refine ⟨Nat.le_of_ble_eq_true rfl, ?_⟩
  show Ev ad _ (rX10_arrive ad) (0, [some (.ref b), some (.int (nI h)), some (.int z), some (.int (nI n))], [], M) _
  have rest : ¬ (¬ w.tm h = -2 ∧ w.tm h ≤ z) → Ev ad 0 (rX10_arrive ad) (22, [some (.ref b), some (.int (nI h)), some (.int z), some (.int (nI n))], [], M) (fun v' M' => v' = none ∧ aWy M' b (arrF w h z n) ∧ Fr b 4 M M') := by
    intro hne
    repeat (first | refine es rfl rfl rfl ?_ | refine eg rfl (by assumption) rfl ?_ | refine ean rfl (by assumption) (by assumption) rfl ?_ | refine eal rfl (by assumption) (by assumption) rfl ?_ | refine eri rfl ?_ | refine erv rfl ?_ | refine erl rfl ?_ | refine era rfl ?_ | refine erz0 rfl ?_ | refine erz1 rfl ?_)
    try dsimp only [set1, set2, kilP, List.set_cons_zero, List.set_cons_succ, List.getElem?_cons_zero, List.getElem?_cons_succ, List.nil_append, List.cons_append, Option.toList_some, Option.toList_none]
    refine etM rfl (by assumption) (by assumption) rfl (fun M2 eM => ?_)
    have k1 := up_w eM
    replace h0 := up_k eM h0 (by omega)
    replace h2 := up_k eM h2 (by omega)
    replace h3 := up_k eM h3 (by omega)
    replace hF := hF.up eM (by omega) (by omega)
    repeat (first | refine es rfl rfl rfl ?_ | refine eg rfl (by assumption) rfl ?_ | refine ean rfl (by assumption) (by assumption) rfl ?_ | refine eal rfl (by assumption) (by assumption) rfl ?_ | refine eri rfl ?_ | refine erv rfl ?_ | refine erl rfl ?_ | refine era rfl ?_ | refine erz0 rfl ?_ | refine erz1 rfl ?_)
    try dsimp only [set1, set2, kilP, List.set_cons_zero, List.set_cons_succ, List.getElem?_cons_zero, List.getElem?_cons_succ, List.nil_append, List.cons_append, Option.toList_some, Option.toList_none]
    refine ei _ rfl rfl (fun c3 => ?_) (fun c3 => ?_)
    · repeat (first | refine es rfl rfl rfl ?_ | refine eg rfl (by assumption) rfl ?_ | refine ean rfl (by assumption) (by assumption) rfl ?_ | refine eal rfl (by assumption) (by assumption) rfl ?_ | refine eri rfl ?_ | refine erv rfl ?_ | refine erl rfl ?_ | refine era rfl ?_ | refine erz0 rfl ?_ | refine erz1 rfl ?_)
      try dsimp only [set1, set2, kilP, List.set_cons_zero, List.set_cons_succ, List.getElem?_cons_zero, List.getElem?_cons_succ, List.nil_append, List.cons_append, Option.toList_some, Option.toList_none]
      rw [arrF, if_neg hne, if_neg c3]
      exact ⟨rfl, ⟨h0, k1, h2, h3⟩, hF⟩
    · repeat (first | refine es rfl rfl rfl ?_ | refine eg rfl (by assumption) rfl ?_ | refine ean rfl (by assumption) (by assumption) rfl ?_ | refine eal rfl (by assumption) (by assumption) rfl ?_ | refine eri rfl ?_ | refine erv rfl ?_ | refine erl rfl ?_ | refine era rfl ?_ | refine erz0 rfl ?_ | refine erz1 rfl ?_)
      try dsimp only [set1, set2, kilP, List.set_cons_zero, List.set_cons_succ, List.getElem?_cons_zero, List.getElem?_cons_succ, List.nil_append, List.cons_append, Option.toList_some, Option.toList_none]
      refine epM rfl (by assumption) rfl rfl rfl (fun M3 eM3 => ?_)
      have k0 := up_w eM3
      replace k1 := up_k eM3 k1 (by omega)
      replace h2 := up_k eM3 h2 (by omega)
      replace h3 := up_k eM3 h3 (by omega)
      replace hF := hF.up eM3 (by omega) (by omega)
      repeat (first | refine es rfl rfl rfl ?_ | refine eg rfl (by assumption) rfl ?_ | refine ean rfl (by assumption) (by assumption) rfl ?_ | refine eal rfl (by assumption) (by assumption) rfl ?_ | refine eri rfl ?_ | refine erv rfl ?_ | refine erl rfl ?_ | refine era rfl ?_ | refine erz0 rfl ?_ | refine erz1 rfl ?_)
      try dsimp only [set1, set2, kilP, List.set_cons_zero, List.set_cons_succ, List.getElem?_cons_zero, List.getElem?_cons_succ, List.nil_append, List.cons_append, Option.toList_some, Option.toList_none]
      refine ecp (sp := 0) (dp := 0) (n := n) rfl h2 h3 (by omega) (by omega) rfl rfl rfl (fun M4 eM4 => ?_)
      have k3 := up_w eM4
      replace k0 := up_k eM4 k0 (by omega)
      replace k1 := up_k eM4 k1 (by omega)
      replace h2 := up_k eM4 h2 (by omega)
      replace hF := hF.up eM4 (by omega) (by omega)
      repeat (first | refine es rfl rfl rfl ?_ | refine eg rfl (by assumption) rfl ?_ | refine ean rfl (by assumption) (by assumption) rfl ?_ | refine eal rfl (by assumption) (by assumption) rfl ?_ | refine eri rfl ?_ | refine erv rfl ?_ | refine erl rfl ?_ | refine era rfl ?_ | refine erz0 rfl ?_ | refine erz1 rfl ?_)
      try dsimp only [set1, set2, kilP, List.set_cons_zero, List.set_cons_succ, List.getElem?_cons_zero, List.getElem?_cons_succ, List.nil_append, List.cons_append, Option.toList_some, Option.toList_none]
      rw [arrF, if_neg hne, if_pos (Decidable.not_not.mp c3)]
      exact ⟨rfl, ⟨k0, k1, h2, k3⟩, hF⟩
  repeat (first | refine es rfl rfl rfl ?_ | refine eg rfl (by assumption) rfl ?_ | refine ean rfl (by assumption) (by assumption) rfl ?_ | refine eal rfl (by assumption) (by assumption) rfl ?_ | refine eri rfl ?_ | refine erv rfl ?_ | refine erl rfl ?_ | refine era rfl ?_ | refine erz0 rfl ?_ | refine erz1 rfl ?_)
  try dsimp only [set1, set2, kilP, List.set_cons_zero, List.set_cons_succ, List.getElem?_cons_zero, List.getElem?_cons_succ, List.nil_append, List.cons_append, Option.toList_some, Option.toList_none]
  refine ei _ rfl rfl (fun c1 => ?_) (fun c1 => ?_)
  · exact rest (fun q => q.1 c1)
  · repeat (first | refine es rfl rfl rfl ?_ | refine eg rfl (by assumption) rfl ?_ | refine ean rfl (by assumption) (by assumption) rfl ?_ | refine eal rfl (by assumption) (by assumption) rfl ?_ | refine eri rfl ?_ | refine erv rfl ?_ | refine erl rfl ?_ | refine era rfl ?_ | refine erz0 rfl ?_ | refine erz1 rfl ?_)
    try dsimp only [set1, set2, kilP, List.set_cons_zero, List.set_cons_succ, List.getElem?_cons_zero, List.getElem?_cons_succ, List.nil_append, List.cons_append, Option.toList_some, Option.toList_none]
    refine ei _ rfl rfl (fun c2 => ?_) (fun c2 => ?_)
    · exact rest (fun q => absurd q.2 (Int32.not_le.mpr c2))
    · repeat (first | refine es rfl rfl rfl ?_ | refine eg rfl (by assumption) rfl ?_ | refine ean rfl (by assumption) (by assumption) rfl ?_ | refine eal rfl (by assumption) (by assumption) rfl ?_ | refine eri rfl ?_ | refine erv rfl ?_ | refine erl rfl ?_ | refine era rfl ?_ | refine erz0 rfl ?_ | refine erz1 rfl ?_)
      try dsimp only [set1, set2, kilP, List.set_cons_zero, List.set_cons_succ, List.getElem?_cons_zero, List.getElem?_cons_succ, List.nil_append, List.cons_append, Option.toList_some, Option.toList_none]
      rw [arrF, if_pos ⟨c1, Int32.not_lt.mp c2⟩]
      exact ⟨rfl, hb', hF⟩
/-- the houses behind a house, one by one from g on -/
def lpF (stp : Wy → Nat → Nat → Wy) (t : Tw) (f : Nat → Int32) (h m : Nat) : Nat → Nat → Wy → Wy
  | 0, _, w => w
  | n + 1, g, w => lpF stp t f h m n (g + 1) (if shutI w.bn g = 0 ∧ ¬ mtF t f h g m = -2 then stp w g (mtF t f h g m).toNatClampNeg else w)
/-- one step: n more houses may come -/
noncomputable def stpF (t : Tw) (f : Nat → Int32) : Nat → Wy → Nat → Nat → Wy
  | 0, w, _, _ => w
  | n + 1, w, h, m =>
    let w1 : Wy := (w.tm, upd w.wk (6 - n) (nI h), w.bs, w.bh, w.bn, w.gl, w.bg)
    let w2 := arrF w1 h (nI m - nI w.bg) (7 - n)
    let w3 : Wy := (w2.tm, w2.wk, w2.bs, w2.bh, w2.bn ||| ((1 : Int32) <<< (nI h &&& 31)), w2.gl, w2.bg)
    let w4 := lpF (stpF t f n) t f h m t.hs.n 0 w3
    @ite _ (lateP w m) (Classical.propDecidable _) w (if nI h = w.gl then w2 else (w4.tm, w4.wk, w4.bs, w4.bh, w4.bn ^^^ ((1 : Int32) <<< (nI h &&& 31)), w4.gl, w4.bg))
theorem arrF_c (w : Wy) (h : Nat) (z : Int32) (n : Nat) : (arrF w h z n).bn = w.bn ∧ (arrF w h z n).gl = w.gl ∧ (arrF w h z n).bg = w.bg ∧ ((arrF w h z n).bh = w.bh ∨ (arrF w h z n).bh = n) := by
  unfold arrF
  split
  · exact ⟨rfl, rfl, rfl, Or.inl rfl⟩
  · split
    · exact ⟨rfl, rfl, rfl, Or.inr rfl⟩
    · exact ⟨rfl, rfl, rfl, Or.inl rfl⟩
theorem lpF_c {stp : Wy → Nat → Nat → Wy} {t : Tw} {f : Nat → Int32} {h m : Nat} (hs : ∀ w g m, (stp w g m).gl = w.gl ∧ (stp w g m).bg = w.bg) : ∀ n g w, (lpF stp t f h m n g w).gl = w.gl ∧ (lpF stp t f h m n g w).bg = w.bg
  | 0, g, w => ⟨rfl, rfl⟩
  | n + 1, g, w => by
    rw [lpF]
    have h1 := lpF_c (t := t) (f := f) (h := h) (m := m) hs n (g + 1) (if shutI w.bn g = 0 ∧ ¬ mtF t f h g m = -2 then stp w g (mtF t f h g m).toNatClampNeg else w)
    refine ⟨h1.1.trans ?_, h1.2.trans ?_⟩
    · split
      · exact (hs w g _).1
      · rfl
    · split
      · exact (hs w g _).2
      · rfl
theorem stpF_c (t : Tw) (f : Nat → Int32) : ∀ n w h m, (stpF t f n w h m).gl = w.gl ∧ (stpF t f n w h m).bg = w.bg
  | 0, w, h, m => ⟨rfl, rfl⟩
  | n + 1, w, h, m => by
    rw [stpF]
    have ha := arrF_c (w.tm, upd w.wk (6 - n) (nI h), w.bs, w.bh, w.bn, w.gl, w.bg) h (nI m - nI w.bg) (7 - n)
    split
    · exact ⟨rfl, rfl⟩
    · split
      · exact ⟨ha.2.1, ha.2.2.1⟩
      · have hl := lpF_c (t := t) (f := f) (h := h) (m := m) (stp := stpF t f n) (fun w g m => stpF_c t f n w g m) t.hs.n 0 ((arrF (w.tm, upd w.wk (6 - n) (nI h), w.bs, w.bh, w.bn, w.gl, w.bg) h (nI m - nI w.bg) (7 - n)).tm, (arrF (w.tm, upd w.wk (6 - n) (nI h), w.bs, w.bh, w.bn, w.gl, w.bg) h (nI m - nI w.bg) (7 - n)).wk, (arrF (w.tm, upd w.wk (6 - n) (nI h), w.bs, w.bh, w.bn, w.gl, w.bg) h (nI m - nI w.bg) (7 - n)).bs, (arrF (w.tm, upd w.wk (6 - n) (nI h), w.bs, w.bh, w.bn, w.gl, w.bg) h (nI m - nI w.bg) (7 - n)).bh, (arrF (w.tm, upd w.wk (6 - n) (nI h), w.bs, w.bh, w.bn, w.gl, w.bg) h (nI m - nI w.bg) (7 - n)).bn ||| ((1 : Int32) <<< (nI h &&& 31)), (arrF (w.tm, upd w.wk (6 - n) (nI h), w.bs, w.bh, w.bn, w.gl, w.bg) h (nI m - nI w.bg) (7 - n)).gl, (arrF (w.tm, upd w.wk (6 - n) (nI h), w.bs, w.bh, w.bn, w.gl, w.bg) h (nI m - nI w.bg) (7 - n)).bg)
        exact ⟨hl.1.trans ha.2.1, hl.2.trans ha.2.2.1⟩
/-- a step with n more houses does what stpF says -/
def stpOk (ad : Nat → Nat) (t : Tw) (f : Nat → Int32) (b tb nb n : Nat) : Prop := ∀ (M : Mm) (w : Wy) (h m : Nat), aWy M b w → aTw M tb t → aNw M nb f → okG w.gl → h < 7 → m + 4000 * n < 2 ^ 30 → EvM ad (n + 3) (iX10_step ad) [.ref b, .ref tb, .ref nb, .int (nI h), .int (nI m), .int (nI (7 - n))] M (fun v' M' => v' = none ∧ aWy M' b (stpF t f n w h m) ∧ Fr b 4 M M')
theorem e10_step_loop {ad : Nat → Nat} {t : Tw} {f : Nat → Int32} (wt : wfT t) {b tb nb n : Nat} (hn : n < 7) (d1 : tb + 22 ≤ b ∨ b + 4 ≤ tb) (d2 : nb + 2 ≤ b ∨ b + 4 ≤ nb) (ih : stpOk ad t f b tb nb n) {h m : Nat} (hh : h < 7) (hm : m + 4000 * (n + 1) < 2 ^ 30) : ∀ (k g : Nat) (M0 M : Mm) (w : Wy) (L7 L8 : Option Value) (P : Option Value → Mm → Prop), aWy M b w → aTw M tb t → aNw M nb f → okG w.gl → Fr b 4 M0 M → g + k = t.hs.n → (∀ L6 L7 L8 M', aWy M' b (lpF (stpF t f n) t f h m k g w) → aTw M' tb t → Fr b 4 M0 M' → Ev ad (n + 4) (rX10_step ad) (146, [some (.ref b), some (.ref tb), some (.ref nb), some (.int (nI h)), some (.int (nI m)), some (.int (nI (6 - n))), L6, L7, L8], [], M') P) → Ev ad (n + 4) (rX10_step ad) (65, [some (.ref b), some (.ref tb), some (.ref nb), some (.int (nI h)), some (.int (nI m)), some (.int (nI (6 - n))), some (.int (nI g)), L7, L8], [], M) P := by
  have hn7 := wt.2.2.2.1
  intro k
  induction k with
  | zero =>
    intro g M0 M w L7 L8 P hb ht hw hg hF hk hend
    obtain ⟨⟨t0, -, -, -⟩, hH, -, -⟩ := id ht
    have u0 := hH.1
    repeat (first | refine es rfl rfl rfl ?_ | refine eg rfl (by assumption) rfl ?_ | refine ean rfl (by assumption) (by assumption) rfl ?_ | refine eal rfl (by assumption) (by assumption) rfl ?_ | refine eri rfl ?_ | refine erv rfl ?_ | refine erl rfl ?_ | refine era rfl ?_ | refine erz0 rfl ?_ | refine erz1 rfl ?_)
    try dsimp only [set1, set2, kilP, List.set_cons_zero, List.set_cons_succ, List.getElem?_cons_zero, List.getElem?_cons_succ, List.nil_append, List.cons_append, Option.toList_some, Option.toList_none]
    refine ei _ rfl rfl (fun c => ?_) (fun c => ?_)
    · exact hend _ _ _ M hb ht hF
    · exact absurd (nI_le (a := t.hs.n) (by omega) (by omega)) c
  | succ k ihk =>
    intro g M0 M w L7 L8 P hb ht hw hg hF hk hend
    have hb' := hb
    obtain ⟨h0, h1, h2, h3⟩ := hb
    obtain ⟨⟨t0, -, -, -⟩, hH, -, -⟩ := id ht
    have u0 := hH.1
    have hg7 : g < 7 := by omega
    rw [lpF] at hend
    repeat (first | refine es rfl rfl rfl ?_ | refine eg rfl (by assumption) rfl ?_ | refine ean rfl (by assumption) (by assumption) rfl ?_ | refine eal rfl (by assumption) (by assumption) rfl ?_ | refine eri rfl ?_ | refine erv rfl ?_ | refine erl rfl ?_ | refine era rfl ?_ | refine erz0 rfl ?_ | refine erz1 rfl ?_)
    try dsimp only [set1, set2, kilP, List.set_cons_zero, List.set_cons_succ, List.getElem?_cons_zero, List.getElem?_cons_succ, List.nil_append, List.cons_append, Option.toList_some, Option.toList_none]
    refine ei _ rfl rfl (fun c => ?_) (fun c => ?_)
    · exact absurd c (nI_ge (b := t.hs.n) (by omega) (by omega))
    · repeat (first | refine es rfl rfl rfl ?_ | refine eg rfl (by assumption) rfl ?_ | refine ean rfl (by assumption) (by assumption) rfl ?_ | refine eal rfl (by assumption) (by assumption) rfl ?_ | refine eri rfl ?_ | refine erv rfl ?_ | refine erl rfl ?_ | refine era rfl ?_ | refine erz0 rfl ?_ | refine erz1 rfl ?_)
      try dsimp only [set1, set2, kilP, List.set_cons_zero, List.set_cons_succ, List.getElem?_cons_zero, List.getElem?_cons_succ, List.nil_append, List.cons_append, Option.toList_some, Option.toList_none]
      refine ei _ rfl rfl (fun c1 => ?_) (fun c1 => ?_)
      · have hx : ¬ (shutI w.bn g = 0 ∧ ¬ mtF t f h g m = -2) := fun q => c1 q.1
        rw [if_neg hx] at hend
        repeat (refine ng 65 rfl ?_; first | refine es rfl rfl rfl ?_ | refine eg rfl (by assumption) rfl ?_ | refine ean rfl (by assumption) (by assumption) rfl ?_ | refine eal rfl (by assumption) (by assumption) rfl ?_ | refine eri rfl ?_ | refine erv rfl ?_ | refine erl rfl ?_ | refine era rfl ?_ | refine erz0 rfl ?_ | refine erz1 rfl ?_)
        try dsimp only [set1, set2, kilP, List.set_cons_zero, List.set_cons_succ, List.getElem?_cons_zero, List.getElem?_cons_succ, List.nil_append, List.cons_append, Option.toList_some, Option.toList_none]
        rw [nI_1]
        exact ihk (g + 1) M0 M w _ _ P hb' ht hw hg hF (by omega) hend
      · have c1' := Decidable.not_not.mp c1
        repeat (first | refine es rfl rfl rfl ?_ | refine eg rfl (by assumption) rfl ?_ | refine ean rfl (by assumption) (by assumption) rfl ?_ | refine eal rfl (by assumption) (by assumption) rfl ?_ | refine eri rfl ?_ | refine erv rfl ?_ | refine erl rfl ?_ | refine era rfl ?_ | refine erz0 rfl ?_ | refine erz1 rfl ?_)
        try dsimp only [set1, set2, kilP, List.set_cons_zero, List.set_cons_succ, List.getElem?_cons_zero, List.getElem?_cons_succ, List.nil_append, List.cons_append, Option.toList_some, Option.toList_none]
        refine ecr rfl rfl (by assumption) rfl rfl rfl ((e10_minuteAt (b := b) ht wt hw hh hg7 (m := m) (by omega)).up (d2 := 2) (by omega)) (by first | rfl | exact Nat.blt_eq.mpr (by omega)) rfl ?_
        repeat (first | refine es rfl rfl rfl ?_ | refine eg rfl (by assumption) rfl ?_ | refine ean rfl (by assumption) (by assumption) rfl ?_ | refine eal rfl (by assumption) (by assumption) rfl ?_ | refine eri rfl ?_ | refine erv rfl ?_ | refine erl rfl ?_ | refine era rfl ?_ | refine erz0 rfl ?_ | refine erz1 rfl ?_)
        try dsimp only [set1, set2, kilP, List.set_cons_zero, List.set_cons_succ, List.getElem?_cons_zero, List.getElem?_cons_succ, List.nil_append, List.cons_append, Option.toList_some, Option.toList_none]
        refine ei _ rfl rfl (fun c2 => ?_) (fun c2 => ?_)
        · have hx : ¬ (shutI w.bn g = 0 ∧ ¬ mtF t f h g m = -2) := fun q => q.2 c2
          rw [if_neg hx] at hend
          repeat (refine ng 65 rfl ?_; first | refine es rfl rfl rfl ?_ | refine eg rfl (by assumption) rfl ?_ | refine ean rfl (by assumption) (by assumption) rfl ?_ | refine eal rfl (by assumption) (by assumption) rfl ?_ | refine eri rfl ?_ | refine erv rfl ?_ | refine erl rfl ?_ | refine era rfl ?_ | refine erz0 rfl ?_ | refine erz1 rfl ?_)
          try dsimp only [set1, set2, kilP, List.set_cons_zero, List.set_cons_succ, List.getElem?_cons_zero, List.getElem?_cons_succ, List.nil_append, List.cons_append, Option.toList_some, Option.toList_none]
          rw [nI_1]
          exact ihk (g + 1) M0 M w _ _ P hb' ht hw hg hF (by omega) hend
        · have hx : shutI w.bn g = 0 ∧ ¬ mtF t f h g m = -2 := ⟨c1', c2⟩
          rw [if_pos hx] at hend
          obtain ⟨m', hm', em⟩ := (mtF_n wt hh hg7 (m := m) (by omega)).resolve_left c2
          have ecl : (mtF t f h g m).toNatClampNeg = m' := by rw [em]; exact nI_clamp (by omega)
          rw [ecl] at hend
          repeat (first | refine es rfl rfl rfl ?_ | refine eg rfl (by assumption) rfl ?_ | refine ean rfl (by assumption) (by assumption) rfl ?_ | refine eal rfl (by assumption) (by assumption) rfl ?_ | refine eri rfl ?_ | refine erv rfl ?_ | refine erl rfl ?_ | refine era rfl ?_ | refine erz0 rfl ?_ | refine erz1 rfl ?_)
          try dsimp only [set1, set2, kilP, List.set_cons_zero, List.set_cons_succ, List.getElem?_cons_zero, List.getElem?_cons_succ, List.nil_append, List.cons_append, Option.toList_some, Option.toList_none]
          rw [em, show nI (6 - n) + 1 = nI (7 - n) from by rw [nI_1, show 6 - n + 1 = 7 - n by omega]]
          refine ecv rfl rfl (by assumption) rfl rfl rfl (ih M w g m' hb' ht hw hg hg7 (by omega)) (by first | rfl | exact Nat.blt_eq.mpr (by omega)) ?_
          rintro v M2 ⟨rfl, hb2, hF2⟩
          try dsimp only [set1, set2, kilP, List.set_cons_zero, List.set_cons_succ, List.getElem?_cons_zero, List.getElem?_cons_succ, List.nil_append, List.cons_append, Option.toList_some, Option.toList_none]
          repeat (refine ng 65 rfl ?_; first | refine es rfl rfl rfl ?_ | refine eg rfl (by assumption) rfl ?_ | refine ean rfl (by assumption) (by assumption) rfl ?_ | refine eal rfl (by assumption) (by assumption) rfl ?_ | refine eri rfl ?_ | refine erv rfl ?_ | refine erl rfl ?_ | refine era rfl ?_ | refine erz0 rfl ?_ | refine erz1 rfl ?_)
          try dsimp only [set1, set2, kilP, List.set_cons_zero, List.set_cons_succ, List.getElem?_cons_zero, List.getElem?_cons_succ, List.nil_append, List.cons_append, Option.toList_some, Option.toList_none]
          rw [nI_1]
          exact ihk (g + 1) M0 M2 _ _ _ P hb2 (ht.fr hF2 (by omega)) (hw.fr hF2 (by omega)) (by rw [(stpF_c t f n w g m').1]; exact hg) (hF.tr hF2 (by omega) (by omega)) (by omega) hend
theorem e10_step {ad : Nat → Nat} {t : Tw} {f : Nat → Int32} (wt : wfT t) {b tb nb : Nat} (d1 : tb + 22 ≤ b ∨ b + 4 ≤ tb) (d2 : nb + 2 ≤ b ∨ b + 4 ≤ nb) : ∀ n, n ≤ 7 → stpOk ad t f b tb nb n := by
  intro n
  induction n with
  | zero =>
    intro _ M w h m hb ht hw hg hh hm
    refine ⟨Nat.le_of_ble_eq_true rfl, ?_⟩
    show Ev ad _ (rX10_step ad) (0, [some (.ref b), some (.ref tb), some (.ref nb), some (.int (nI h)), some (.int (nI m)), some (.int (nI (7 - 0))), none, none, none], [], M) _
    repeat (first | refine es rfl rfl rfl ?_ | refine eg rfl (by assumption) rfl ?_ | refine ean rfl (by assumption) (by assumption) rfl ?_ | refine eal rfl (by assumption) (by assumption) rfl ?_ | refine eri rfl ?_ | refine erv rfl ?_ | refine erl rfl ?_ | refine era rfl ?_ | refine erz0 rfl ?_ | refine erz1 rfl ?_)
    try dsimp only [set1, set2, kilP, List.set_cons_zero, List.set_cons_succ, List.getElem?_cons_zero, List.getElem?_cons_succ, List.nil_append, List.cons_append, Option.toList_some, Option.toList_none]
    exact ⟨rfl, hb, Fr.rf _ _ _⟩
  | succ n ih =>
    intro hn M w h m hb ht hw hg hh hm
    have hb' := hb
    obtain ⟨h0, h1, h2, h3⟩ := hb
    have hF := Fr.rf b 4 M
    rw [show 7 - (n + 1) = 6 - n by omega]
    have hdep : 6 - n < 7 := by omega
    refine ⟨Nat.le_of_ble_eq_true rfl, ?_⟩
    show Ev ad _ (rX10_step ad) (0, [some (.ref b), some (.ref tb), some (.ref nb), some (.int (nI h)), some (.int (nI m)), some (.int (nI (6 - n))), none, none, none], [], M) _
    repeat (first | refine es rfl rfl rfl ?_ | refine eg rfl (by assumption) rfl ?_ | refine ean rfl (by assumption) (by assumption) rfl ?_ | refine eal rfl (by assumption) (by assumption) rfl ?_ | refine eri rfl ?_ | refine erv rfl ?_ | refine erl rfl ?_ | refine era rfl ?_ | refine erz0 rfl ?_ | refine erz1 rfl ?_)
    try dsimp only [set1, set2, kilP, List.set_cons_zero, List.set_cons_succ, List.getElem?_cons_zero, List.getElem?_cons_succ, List.nil_append, List.cons_append, Option.toList_some, Option.toList_none]
    refine ei _ rfl rfl (fun c => ?_) (fun c => ?_)
    · exact absurd c (nI_ge (b := 7) (by omega) (by omega))
    · repeat (first | refine es rfl rfl rfl ?_ | refine eg rfl (by assumption) rfl ?_ | refine ean rfl (by assumption) (by assumption) rfl ?_ | refine eal rfl (by assumption) (by assumption) rfl ?_ | refine eri rfl ?_ | refine erv rfl ?_ | refine erl rfl ?_ | refine era rfl ?_ | refine erz0 rfl ?_ | refine erz1 rfl ?_)
      try dsimp only [set1, set2, kilP, List.set_cons_zero, List.set_cons_succ, List.getElem?_cons_zero, List.getElem?_cons_succ, List.nil_append, List.cons_append, Option.toList_some, Option.toList_none]
      refine ecr rfl rfl (by assumption) rfl rfl rfl ((e10_late hb' hg).up (d2 := n) (Nat.zero_le _)) (by first | rfl | exact Nat.blt_eq.mpr (by omega)) rfl ?_
      by_cases hl : lateP w m
      · rw [if_pos hl]
        repeat (first | refine es rfl rfl rfl ?_ | refine eg rfl (by assumption) rfl ?_ | refine ean rfl (by assumption) (by assumption) rfl ?_ | refine eal rfl (by assumption) (by assumption) rfl ?_ | refine eri rfl ?_ | refine erv rfl ?_ | refine erl rfl ?_ | refine era rfl ?_ | refine erz0 rfl ?_ | refine erz1 rfl ?_)
        try dsimp only [set1, set2, kilP, List.set_cons_zero, List.set_cons_succ, List.getElem?_cons_zero, List.getElem?_cons_succ, List.nil_append, List.cons_append, Option.toList_some, Option.toList_none]
        rw [stpF, if_pos hl]
        exact ⟨rfl, hb', hF⟩
      · rw [if_neg hl]
        repeat (first | refine es rfl rfl rfl ?_ | refine eg rfl (by assumption) rfl ?_ | refine ean rfl (by assumption) (by assumption) rfl ?_ | refine eal rfl (by assumption) (by assumption) rfl ?_ | refine eri rfl ?_ | refine erv rfl ?_ | refine erl rfl ?_ | refine era rfl ?_ | refine erz0 rfl ?_ | refine erz1 rfl ?_)
        try dsimp only [set1, set2, kilP, List.set_cons_zero, List.set_cons_succ, List.getElem?_cons_zero, List.getElem?_cons_succ, List.nil_append, List.cons_append, Option.toList_some, Option.toList_none]
        refine etM rfl (by assumption) (by assumption) rfl (fun M2 eM => ?_)
        have k2 := up_w eM
        replace h0 := up_k eM h0 (by omega)
        replace h1 := up_k eM h1 (by omega)
        replace h3 := up_k eM h3 (by omega)
        replace hF := hF.up eM (by omega) (by omega)
        have hb2 : aWy M2 b (w.tm, upd w.wk (6 - n) (nI h), w.bs, w.bh, w.bn, w.gl, w.bg) := ⟨h0, h1, k2, h3⟩
        repeat (first | refine es rfl rfl rfl ?_ | refine eg rfl (by assumption) rfl ?_ | refine ean rfl (by assumption) (by assumption) rfl ?_ | refine eal rfl (by assumption) (by assumption) rfl ?_ | refine eri rfl ?_ | refine erv rfl ?_ | refine erl rfl ?_ | refine era rfl ?_ | refine erz0 rfl ?_ | refine erz1 rfl ?_)
        try dsimp only [set1, set2, kilP, List.set_cons_zero, List.set_cons_succ, List.getElem?_cons_zero, List.getElem?_cons_succ, List.nil_append, List.cons_append, Option.toList_some, Option.toList_none]
        rw [show nI (6 - n) + 1 = nI (7 - n) from by rw [nI_1, show 6 - n + 1 = 7 - n by omega]]
        refine ecv rfl rfl (by assumption) rfl rfl rfl ((e10_arrive (z := nI m - nI w.bg) hb2 hh (n := 7 - n) (by omega)).up (d2 := n) (Nat.zero_le _)) (by first | rfl | exact Nat.blt_eq.mpr (by omega)) ?_
        rintro v M3 ⟨rfl, hb3, hF3⟩
        have ha := arrF_c (w.tm, upd w.wk (6 - n) (nI h), w.bs, w.bh, w.bn, w.gl, w.bg) h (nI m - nI w.bg) (7 - n)
        replace hF := hF.tr hF3 (by omega) (by omega)
        rw [stpF, if_neg hl]
        generalize arrF (w.tm, upd w.wk (6 - n) (nI h), w.bs, w.bh, w.bn, w.gl, w.bg) h (nI m - nI w.bg) (7 - n) = w2 at hb3 ha
        obtain ⟨g0, g1, g2, g3⟩ := id hb3
        try dsimp only [set1, set2, kilP, List.set_cons_zero, List.set_cons_succ, List.getElem?_cons_zero, List.getElem?_cons_succ, List.nil_append, List.cons_append, Option.toList_some, Option.toList_none]
        repeat (first | refine es rfl rfl rfl ?_ | refine eg rfl (by assumption) rfl ?_ | refine ean rfl (by assumption) (by assumption) rfl ?_ | refine eal rfl (by assumption) (by assumption) rfl ?_ | refine eri rfl ?_ | refine erv rfl ?_ | refine erl rfl ?_ | refine era rfl ?_ | refine erz0 rfl ?_ | refine erz1 rfl ?_)
        try dsimp only [set1, set2, kilP, List.set_cons_zero, List.set_cons_succ, List.getElem?_cons_zero, List.getElem?_cons_succ, List.nil_append, List.cons_append, Option.toList_some, Option.toList_none]
        have egl : w2.gl = w.gl := ha.2.1
        refine ei _ rfl rfl (fun c2 => ?_) (fun c2 => ?_)
        · repeat (first | refine es rfl rfl rfl ?_ | refine eg rfl (by assumption) rfl ?_ | refine ean rfl (by assumption) (by assumption) rfl ?_ | refine eal rfl (by assumption) (by assumption) rfl ?_ | refine eri rfl ?_ | refine erv rfl ?_ | refine erl rfl ?_ | refine era rfl ?_ | refine erz0 rfl ?_ | refine erz1 rfl ?_)
          try dsimp only [set1, set2, kilP, List.set_cons_zero, List.set_cons_succ, List.getElem?_cons_zero, List.getElem?_cons_succ, List.nil_append, List.cons_append, Option.toList_some, Option.toList_none]
          refine epM rfl (by assumption) rfl rfl rfl (fun M4 eM4 => ?_)
          have k0 := up_w eM4
          replace g1 := up_k eM4 g1 (by omega)
          replace g2 := up_k eM4 g2 (by omega)
          replace g3 := up_k eM4 g3 (by omega)
          replace hF := hF.up eM4 (by omega) (by omega)
          repeat (refine ng 65 rfl ?_; first | refine es rfl rfl rfl ?_ | refine eg rfl (by assumption) rfl ?_ | refine ean rfl (by assumption) (by assumption) rfl ?_ | refine eal rfl (by assumption) (by assumption) rfl ?_ | refine eri rfl ?_ | refine erv rfl ?_ | refine erl rfl ?_ | refine era rfl ?_ | refine erz0 rfl ?_ | refine erz1 rfl ?_)
          try dsimp only [set1, set2, kilP, List.set_cons_zero, List.set_cons_succ, List.getElem?_cons_zero, List.getElem?_cons_succ, List.nil_append, List.cons_append, Option.toList_some, Option.toList_none]
          refine e10_step_loop wt (by omega) d1 d2 (ih (by omega)) hh (by omega) t.hs.n 0 M M4 (w2.tm, w2.wk, w2.bs, w2.bh, w2.bn ||| ((1 : Int32) <<< (nI h &&& 31)), w2.gl, w2.bg) _ _ _ ⟨k0, g1, g2, g3⟩ (ht.fr hF (by omega)) (hw.fr hF (by omega)) (by rw [show Wy.gl _ = w2.gl from rfl, egl]; exact hg) hF (by omega) (fun L6 L7 L8 M5 hb5 ht5 hF5 => ?_)
          rw [egl] at c2
          rw [if_neg c2]
          generalize lpF (stpF t f n) t f h m t.hs.n 0 (w2.tm, w2.wk, w2.bs, w2.bh, w2.bn ||| ((1 : Int32) <<< (nI h &&& 31)), w2.gl, w2.bg) = w4 at hb5
          obtain ⟨g0, g1, g2, g3⟩ := hb5
          repeat (first | refine es rfl rfl rfl ?_ | refine eg rfl (by assumption) rfl ?_ | refine ean rfl (by assumption) (by assumption) rfl ?_ | refine eal rfl (by assumption) (by assumption) rfl ?_ | refine eri rfl ?_ | refine erv rfl ?_ | refine erl rfl ?_ | refine era rfl ?_ | refine erz0 rfl ?_ | refine erz1 rfl ?_)
          try dsimp only [set1, set2, kilP, List.set_cons_zero, List.set_cons_succ, List.getElem?_cons_zero, List.getElem?_cons_succ, List.nil_append, List.cons_append, Option.toList_some, Option.toList_none]
          refine epM rfl (by assumption) rfl rfl rfl (fun M6 eM6 => ?_)
          have k0 := up_w eM6
          replace g1 := up_k eM6 g1 (by omega)
          replace g2 := up_k eM6 g2 (by omega)
          replace g3 := up_k eM6 g3 (by omega)
          replace hF5 := hF5.up eM6 (by omega) (by omega)
          repeat (first | refine es rfl rfl rfl ?_ | refine eg rfl (by assumption) rfl ?_ | refine ean rfl (by assumption) (by assumption) rfl ?_ | refine eal rfl (by assumption) (by assumption) rfl ?_ | refine eri rfl ?_ | refine erv rfl ?_ | refine erl rfl ?_ | refine era rfl ?_ | refine erz0 rfl ?_ | refine erz1 rfl ?_)
          try dsimp only [set1, set2, kilP, List.set_cons_zero, List.set_cons_succ, List.getElem?_cons_zero, List.getElem?_cons_succ, List.nil_append, List.cons_append, Option.toList_some, Option.toList_none]
          exact ⟨rfl, ⟨k0, g1, g2, g3⟩, hF5⟩
        · repeat (first | refine es rfl rfl rfl ?_ | refine eg rfl (by assumption) rfl ?_ | refine ean rfl (by assumption) (by assumption) rfl ?_ | refine eal rfl (by assumption) (by assumption) rfl ?_ | refine eri rfl ?_ | refine erv rfl ?_ | refine erl rfl ?_ | refine era rfl ?_ | refine erz0 rfl ?_ | refine erz1 rfl ?_)
          try dsimp only [set1, set2, kilP, List.set_cons_zero, List.set_cons_succ, List.getElem?_cons_zero, List.getElem?_cons_succ, List.nil_append, List.cons_append, Option.toList_some, Option.toList_none]
          rw [egl] at c2
          rw [if_pos (Decidable.not_not.mp c2)]
          exact ⟨rfl, hb3, hF⟩
theorem e10_soonest {ad : Nat → Nat} {M : Mm} {b k : Nat} {w : Wy} (hb : aWy M b w) (hk : k < 7) : Rd ad 0 (iX10_soonest ad) [.ref b, .int (nI k)] M (some (.int (w.tm k))) := by
  obtain ⟨h0, h1, h2, h3⟩ := hb
  refine ⟨Nat.le_of_ble_eq_true rfl, ?_⟩
  show Ev ad _ (rX10_soonest ad) (0, [some (.ref b), some (.int (nI k))], [], M) _
  repeat (first | refine es rfl rfl rfl ?_ | refine eg rfl (by assumption) rfl ?_ | refine ean rfl (by assumption) (by assumption) rfl ?_ | refine eal rfl (by assumption) (by assumption) rfl ?_ | refine eri rfl ?_ | refine erv rfl ?_ | refine erl rfl ?_ | refine era rfl ?_ | refine erz0 rfl ?_ | refine erz1 rfl ?_)
  try dsimp only [set1, set2, kilP, List.set_cons_zero, List.set_cons_succ, List.getElem?_cons_zero, List.getElem?_cons_succ, List.nil_append, List.cons_append, Option.toList_some, Option.toList_none]
  exact ⟨rfl, rfl⟩
theorem e10_rowLength {ad : Nat → Nat} {M : Mm} {b : Nat} {w : Wy} (hb : aWy M b w) : Rd ad 0 (iX10_rowLength ad) [.ref b] M (some (.int (nI w.bh))) := by
  obtain ⟨h0, h1, h2, h3⟩ := hb
  refine ⟨Nat.le_of_ble_eq_true rfl, ?_⟩
  show Ev ad _ (rX10_rowLength ad) (0, [some (.ref b)], [], M) _
  repeat (first | refine es rfl rfl rfl ?_ | refine eg rfl (by assumption) rfl ?_ | refine ean rfl (by assumption) (by assumption) rfl ?_ | refine eal rfl (by assumption) (by assumption) rfl ?_ | refine eri rfl ?_ | refine erv rfl ?_ | refine erl rfl ?_ | refine era rfl ?_ | refine erz0 rfl ?_ | refine erz1 rfl ?_)
  try dsimp only [set1, set2, kilP, List.set_cons_zero, List.set_cons_succ, List.getElem?_cons_zero, List.getElem?_cons_succ, List.nil_append, List.cons_append, Option.toList_some, Option.toList_none]
  exact ⟨rfl, rfl⟩
theorem e10_rowAt {ad : Nat → Nat} {M : Mm} {b k : Nat} {w : Wy} (hb : aWy M b w) (hk : k < 7) : Rd ad 0 (iX10_rowAt ad) [.ref b, .int (nI k)] M (some (.int (w.bs k))) := by
  obtain ⟨h0, h1, h2, h3⟩ := hb
  refine ⟨Nat.le_of_ble_eq_true rfl, ?_⟩
  show Ev ad _ (rX10_rowAt ad) (0, [some (.ref b), some (.int (nI k))], [], M) _
  repeat (first | refine es rfl rfl rfl ?_ | refine eg rfl (by assumption) rfl ?_ | refine ean rfl (by assumption) (by assumption) rfl ?_ | refine eal rfl (by assumption) (by assumption) rfl ?_ | refine eri rfl ?_ | refine erv rfl ?_ | refine erl rfl ?_ | refine era rfl ?_ | refine erz0 rfl ?_ | refine erz1 rfl ?_)
  try dsimp only [set1, set2, kilP, List.set_cons_zero, List.set_cons_succ, List.getElem?_cons_zero, List.getElem?_cons_succ, List.nil_append, List.cons_append, Option.toList_some, Option.toList_none]
  exact ⟨rfl, rfl⟩
theorem e10_walk_loop {ad : Nat → Nat} {b : Nat} {L1 L2 L3 L4 : Option Value} {x5 : Int32} {P : Option Value → Mm → Prop} : ∀ (n i : Nat) (M0 M : Mm) (w : Wy), aWy M b w → Fr b 4 M0 M → i + n = 7 → (∀ j, j < i → w.tm j = -2) → (∀ L6 M' tm, (∀ j, j < 7 → tm j = -2) → aWy M' b (tm, w.wk, w.bs, w.bh, w.bn, w.gl, w.bg) → Fr b 4 M0 M' → Ev ad 11 (rX10_walk ad) (47, [some (.ref b), L1, L2, L3, L4, some (.int x5), L6], [], M') P) → Ev ad 11 (rX10_walk ad) (25, [some (.ref b), L1, L2, L3, L4, some (.int x5), some (.int (nI i))], [], M) P := by
  intro n
  induction n with
  | zero =>
    intro i M0 M w hb hF hn hz hk
    repeat (first | refine es rfl rfl rfl ?_ | refine eg rfl (by assumption) rfl ?_ | refine ean rfl (by assumption) (by assumption) rfl ?_ | refine eal rfl (by assumption) (by assumption) rfl ?_ | refine eri rfl ?_ | refine erv rfl ?_ | refine erl rfl ?_ | refine era rfl ?_ | refine erz0 rfl ?_ | refine erz1 rfl ?_)
    try dsimp only [set1, set2, kilP, List.set_cons_zero, List.set_cons_succ, List.getElem?_cons_zero, List.getElem?_cons_succ, List.nil_append, List.cons_append, Option.toList_some, Option.toList_none]
    refine ei _ rfl rfl (fun c => ?_) (fun c => ?_)
    · exact hk _ M w.tm (fun j hj => hz j (by omega)) hb hF
    · exact absurd (nI_le (a := 7) (by omega) (by omega)) c
  | succ n ih =>
    intro i M0 M w hb hF hn hz hk
    obtain ⟨h0, h1, h2, h3⟩ := hb
    have hi : i < 7 := by omega
    repeat (first | refine es rfl rfl rfl ?_ | refine eg rfl (by assumption) rfl ?_ | refine ean rfl (by assumption) (by assumption) rfl ?_ | refine eal rfl (by assumption) (by assumption) rfl ?_ | refine eri rfl ?_ | refine erv rfl ?_ | refine erl rfl ?_ | refine era rfl ?_ | refine erz0 rfl ?_ | refine erz1 rfl ?_)
    try dsimp only [set1, set2, kilP, List.set_cons_zero, List.set_cons_succ, List.getElem?_cons_zero, List.getElem?_cons_succ, List.nil_append, List.cons_append, Option.toList_some, Option.toList_none]
    refine ei _ rfl rfl (fun c => ?_) (fun c => ?_)
    · exact absurd c (nI_ge (b := 7) (by omega) (by omega))
    · repeat (first | refine es rfl rfl rfl ?_ | refine eg rfl (by assumption) rfl ?_ | refine ean rfl (by assumption) (by assumption) rfl ?_ | refine eal rfl (by assumption) (by assumption) rfl ?_ | refine eri rfl ?_ | refine erv rfl ?_ | refine erl rfl ?_ | refine era rfl ?_ | refine erz0 rfl ?_ | refine erz1 rfl ?_)
      try dsimp only [set1, set2, kilP, List.set_cons_zero, List.set_cons_succ, List.getElem?_cons_zero, List.getElem?_cons_succ, List.nil_append, List.cons_append, Option.toList_some, Option.toList_none]
      refine etM rfl (by assumption) (by assumption) rfl (fun M2 eM => ?_)
      have k1 := up_w eM
      replace h0 := up_k eM h0 (by omega)
      replace h2 := up_k eM h2 (by omega)
      replace h3 := up_k eM h3 (by omega)
      replace hF := hF.up eM (by omega) (by omega)
      repeat (refine ng 25 rfl ?_; first | refine es rfl rfl rfl ?_ | refine eg rfl (by assumption) rfl ?_ | refine ean rfl (by assumption) (by assumption) rfl ?_ | refine eal rfl (by assumption) (by assumption) rfl ?_ | refine eri rfl ?_ | refine erv rfl ?_ | refine erl rfl ?_ | refine era rfl ?_ | refine erz0 rfl ?_ | refine erz1 rfl ?_)
      try dsimp only [set1, set2, kilP, List.set_cons_zero, List.set_cons_succ, List.getElem?_cons_zero, List.getElem?_cons_succ, List.nil_append, List.cons_append, Option.toList_some, Option.toList_none]
      rw [nI_1]
      refine ih (i + 1) M0 M2 (upd w.tm i (-2), w.wk, w.bs, w.bh, w.bn, w.gl, w.bg) ⟨h0, k1, h2, h3⟩ hF (by omega) (fun j hj => ?_) hk
      by_cases e : j = i
      · rw [e]; exact pk_us
      · exact (pk_un e).trans (hz j (by omega))
/-- a walk: the result of the search from a house at a minute -/
theorem e10_walk {ad : Nat → Nat} {M : Mm} {t : Tw} {f : Nat → Int32} (wt : wfT t) {b tb nb h m : Nat} {w : Wy} {g : Int32} (hb : aWy M b w) (ht : aTw M tb t) (hw : aNw M nb f) (hg : okG g) (hh : h < 7) (hm : m < 2 ^ 29) (d1 : tb + 22 ≤ b ∨ b + 4 ≤ tb) (d2 : nb + 2 ≤ b ∨ b + 4 ≤ nb) : EvM ad 11 (iX10_walk ad) [.ref b, .ref tb, .ref nb, .int (nI h), .int g, .int (nI m)] M (fun v' M' => v' = none ∧ (∃ tm, (∀ j, j < 7 → tm j = -2) ∧ aWy M' b (stpF t f 7 (tm, w.wk, w.bs, 0, 0, g, m) h m)) ∧ Fr b 4 M M') := by
  obtain ⟨h0, h1, h2, h3⟩ := hb
  have hF := Fr.rf b 4 M
  refine ⟨Nat.le_of_ble_eq_true rfl, ?_⟩
  show Ev ad _ (rX10_walk ad) (0, [some (.ref b), some (.ref tb), some (.ref nb), some (.int (nI h)), some (.int g), some (.int (nI m)), none], [], M) _
  repeat (first | refine es rfl rfl rfl ?_ | refine eg rfl (by assumption) rfl ?_ | refine ean rfl (by assumption) (by assumption) rfl ?_ | refine eal rfl (by assumption) (by assumption) rfl ?_ | refine eri rfl ?_ | refine erv rfl ?_ | refine erl rfl ?_ | refine era rfl ?_ | refine erz0 rfl ?_ | refine erz1 rfl ?_)
  try dsimp only [set1, set2, kilP, List.set_cons_zero, List.set_cons_succ, List.getElem?_cons_zero, List.getElem?_cons_succ, List.nil_append, List.cons_append, Option.toList_some, Option.toList_none]
  refine epM rfl (by assumption) rfl rfl rfl (fun M2 eM => ?_)
  have k0 := up_w eM
  replace h1 := up_k eM h1 (by omega)
  replace h2 := up_k eM h2 (by omega)
  replace h3 := up_k eM h3 (by omega)
  replace hF := hF.up eM (by omega) (by omega)
  repeat (first | refine es rfl rfl rfl ?_ | refine eg rfl (by assumption) rfl ?_ | refine ean rfl (by assumption) (by assumption) rfl ?_ | refine eal rfl (by assumption) (by assumption) rfl ?_ | refine eri rfl ?_ | refine erv rfl ?_ | refine erl rfl ?_ | refine era rfl ?_ | refine erz0 rfl ?_ | refine erz1 rfl ?_)
  try dsimp only [set1, set2, kilP, List.set_cons_zero, List.set_cons_succ, List.getElem?_cons_zero, List.getElem?_cons_succ, List.nil_append, List.cons_append, Option.toList_some, Option.toList_none]
  refine epM rfl (by assumption) rfl rfl rfl (fun M3 eM3 => ?_)
  have k1 := up_w eM3
  replace h1 := up_k eM3 h1 (by omega)
  replace h2 := up_k eM3 h2 (by omega)
  replace h3 := up_k eM3 h3 (by omega)
  replace hF := hF.up eM3 (by omega) (by omega)
  repeat (first | refine es rfl rfl rfl ?_ | refine eg rfl (by assumption) rfl ?_ | refine ean rfl (by assumption) (by assumption) rfl ?_ | refine eal rfl (by assumption) (by assumption) rfl ?_ | refine eri rfl ?_ | refine erv rfl ?_ | refine erl rfl ?_ | refine era rfl ?_ | refine erz0 rfl ?_ | refine erz1 rfl ?_)
  try dsimp only [set1, set2, kilP, List.set_cons_zero, List.set_cons_succ, List.getElem?_cons_zero, List.getElem?_cons_succ, List.nil_append, List.cons_append, Option.toList_some, Option.toList_none]
  refine epM rfl (by assumption) rfl rfl rfl (fun M4 eM4 => ?_)
  have k2 := up_w eM4
  replace h1 := up_k eM4 h1 (by omega)
  replace h2 := up_k eM4 h2 (by omega)
  replace h3 := up_k eM4 h3 (by omega)
  replace hF := hF.up eM4 (by omega) (by omega)
  repeat (first | refine es rfl rfl rfl ?_ | refine eg rfl (by assumption) rfl ?_ | refine ean rfl (by assumption) (by assumption) rfl ?_ | refine eal rfl (by assumption) (by assumption) rfl ?_ | refine eri rfl ?_ | refine erv rfl ?_ | refine erl rfl ?_ | refine era rfl ?_ | refine erz0 rfl ?_ | refine erz1 rfl ?_)
  try dsimp only [set1, set2, kilP, List.set_cons_zero, List.set_cons_succ, List.getElem?_cons_zero, List.getElem?_cons_succ, List.nil_append, List.cons_append, Option.toList_some, Option.toList_none]
  refine epM rfl (by assumption) rfl rfl rfl (fun M5 eM5 => ?_)
  have k3 := up_w eM5
  replace h1 := up_k eM5 h1 (by omega)
  replace h2 := up_k eM5 h2 (by omega)
  replace h3 := up_k eM5 h3 (by omega)
  replace hF := hF.up eM5 (by omega) (by omega)
  repeat (refine ng 25 rfl ?_; first | refine es rfl rfl rfl ?_ | refine eg rfl (by assumption) rfl ?_ | refine ean rfl (by assumption) (by assumption) rfl ?_ | refine eal rfl (by assumption) (by assumption) rfl ?_ | refine eri rfl ?_ | refine erv rfl ?_ | refine erl rfl ?_ | refine era rfl ?_ | refine erz0 rfl ?_ | refine erz1 rfl ?_)
  try dsimp only [set1, set2, kilP, List.set_cons_zero, List.set_cons_succ, List.getElem?_cons_zero, List.getElem?_cons_succ, List.nil_append, List.cons_append, Option.toList_some, Option.toList_none]
  refine e10_walk_loop 7 0 M M5 (w.tm, w.wk, w.bs, 0, 0, g, m) ⟨k3, h1, h2, h3⟩ hF rfl (fun j hj => absurd hj (by omega)) (fun L6 M6 tm htm hb6 hF6 => ?_)
  have g0 := hb6.1
  repeat (first | refine es rfl rfl rfl ?_ | refine eg rfl (by assumption) rfl ?_ | refine ean rfl (by assumption) (by assumption) rfl ?_ | refine eal rfl (by assumption) (by assumption) rfl ?_ | refine eri rfl ?_ | refine erv rfl ?_ | refine erl rfl ?_ | refine era rfl ?_ | refine erz0 rfl ?_ | refine erz1 rfl ?_)
  try dsimp only [set1, set2, kilP, List.set_cons_zero, List.set_cons_succ, List.getElem?_cons_zero, List.getElem?_cons_succ, List.nil_append, List.cons_append, Option.toList_some, Option.toList_none]
  refine ecv rfl rfl (by assumption) rfl rfl rfl (e10_step wt d1 d2 7 (Nat.le_refl _) M6 _ h m hb6 (ht.fr hF6 (by omega)) (hw.fr hF6 (by omega)) hg hh (by omega)) (by first | rfl | exact Nat.blt_eq.mpr (by omega)) ?_
  rintro v M7 ⟨rfl, hb7, hF7⟩
  try dsimp only [set1, set2, kilP, List.set_cons_zero, List.set_cons_succ, List.getElem?_cons_zero, List.getElem?_cons_succ, List.nil_append, List.cons_append, Option.toList_some, Option.toList_none]
  repeat (first | refine es rfl rfl rfl ?_ | refine eg rfl (by assumption) rfl ?_ | refine ean rfl (by assumption) (by assumption) rfl ?_ | refine eal rfl (by assumption) (by assumption) rfl ?_ | refine eri rfl ?_ | refine erv rfl ?_ | refine erl rfl ?_ | refine era rfl ?_ | refine erz0 rfl ?_ | refine erz1 rfl ?_)
  try dsimp only [set1, set2, kilP, List.set_cons_zero, List.set_cons_succ, List.getElem?_cons_zero, List.getElem?_cons_succ, List.nil_append, List.cons_append, Option.toList_some, Option.toList_none]
  exact ⟨rfl, ⟨tm, htm, hb7⟩, hF6.tr hF7 (by omega) (by omega)⟩
