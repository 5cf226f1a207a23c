/-! Rents -/
def absF (x : Int32) : Int32 := if 0 ≤ x then x else -x
theorem ej_abs {ad : Nat → Nat} {M : Mm} {x : Int32} : Rd ad 0 (iJ9_abs_0f7a4 ad) [.int x] M (some (.int (absF x))) := by
  refine ⟨Nat.le_of_ble_eq_true rfl, ?_⟩
  show Ev ad _ (rJ9_abs_0f7a4 ad) (0, [some (.int x)], [], M) _
  repeat (first | refine es rfl rfl rfl ?_ | refine eg rfl (by assumption) rfl ?_ | refine ean rfl (by assumption) (by assumption) rfl ?_ | refine eal rfl (by assumption) (by assumption) rfl ?_ | refine eri rfl ?_ | refine erv rfl ?_ | refine erl rfl ?_ | refine era rfl ?_ | refine erz0 rfl ?_ | refine erz1 rfl ?_)
  try dsimp only [set1, set2, kilP, List.set_cons_zero, List.set_cons_succ, List.getElem?_cons_zero, List.getElem?_cons_succ, List.nil_append, List.cons_append, Option.toList_some, Option.toList_none]
  refine ei _ rfl rfl (fun c => ?_) (fun c => ?_)
  · repeat (first | refine es rfl rfl rfl ?_ | refine eg rfl (by assumption) rfl ?_ | refine ean rfl (by assumption) (by assumption) rfl ?_ | refine eal rfl (by assumption) (by assumption) rfl ?_ | refine eri rfl ?_ | refine erv rfl ?_ | refine erl rfl ?_ | refine era rfl ?_ | refine erz0 rfl ?_ | refine erz1 rfl ?_)
    try dsimp only [set1, set2, kilP, List.set_cons_zero, List.set_cons_succ, List.getElem?_cons_zero, List.getElem?_cons_succ, List.nil_append, List.cons_append, Option.toList_some, Option.toList_none]
    rw [absF, if_pos c]; exact ⟨rfl, rfl⟩
  · repeat (first | refine es rfl rfl rfl ?_ | refine eg rfl (by assumption) rfl ?_ | refine ean rfl (by assumption) (by assumption) rfl ?_ | refine eal rfl (by assumption) (by assumption) rfl ?_ | refine eri rfl ?_ | refine erv rfl ?_ | refine erl rfl ?_ | refine era rfl ?_ | refine erz0 rfl ?_ | refine erz1 rfl ?_)
    try dsimp only [set1, set2, kilP, List.set_cons_zero, List.set_cons_succ, List.getElem?_cons_zero, List.getElem?_cons_succ, List.nil_append, List.cons_append, Option.toList_some, Option.toList_none]
    rw [absF, if_neg c]; exact ⟨rfl, rfl⟩
def maxF (x y : Int32) : Int32 := if x < y then y else x
theorem ej_max {ad : Nat → Nat} {M : Mm} {x y : Int32} : Rd ad 0 (iJ9_max_7cf53 ad) [.int x, .int y] M (some (.int (maxF x y))) := by
  refine ⟨Nat.le_of_ble_eq_true rfl, ?_⟩
  show Ev ad _ (rJ9_max_7cf53 ad) (0, [some (.int x), some (.int y)], [], M) _
  repeat (first | refine es rfl rfl rfl ?_ | refine eg rfl (by assumption) rfl ?_ | refine ean rfl (by assumption) (by assumption) rfl ?_ | refine eal rfl (by assumption) (by assumption) rfl ?_ | refine eri rfl ?_ | refine erv rfl ?_ | refine erl rfl ?_ | refine era rfl ?_ | refine erz0 rfl ?_ | refine erz1 rfl ?_)
  try dsimp only [set1, set2, kilP, List.set_cons_zero, List.set_cons_succ, List.getElem?_cons_zero, List.getElem?_cons_succ, List.nil_append, List.cons_append, Option.toList_some, Option.toList_none]
  refine ei _ rfl rfl (fun c => ?_) (fun c => ?_)
  · repeat (first | refine es rfl rfl rfl ?_ | refine eg rfl (by assumption) rfl ?_ | refine ean rfl (by assumption) (by assumption) rfl ?_ | refine eal rfl (by assumption) (by assumption) rfl ?_ | refine eri rfl ?_ | refine erv rfl ?_ | refine erl rfl ?_ | refine era rfl ?_ | refine erz0 rfl ?_ | refine erz1 rfl ?_)
    try dsimp only [set1, set2, kilP, List.set_cons_zero, List.set_cons_succ, List.getElem?_cons_zero, List.getElem?_cons_succ, List.nil_append, List.cons_append, Option.toList_some, Option.toList_none]
    rw [maxF, if_pos c]; exact ⟨rfl, rfl⟩
  · repeat (first | refine es rfl rfl rfl ?_ | refine eg rfl (by assumption) rfl ?_ | refine ean rfl (by assumption) (by assumption) rfl ?_ | refine eal rfl (by assumption) (by assumption) rfl ?_ | refine eri rfl ?_ | refine erv rfl ?_ | refine erl rfl ?_ | refine era rfl ?_ | refine erz0 rfl ?_ | refine erz1 rfl ?_)
    try dsimp only [set1, set2, kilP, List.set_cons_zero, List.set_cons_succ, List.getElem?_cons_zero, List.getElem?_cons_succ, List.nil_append, List.cons_append, Option.toList_some, Option.toList_none]
    rw [maxF, if_neg c]; exact ⟨rfl, rfl⟩
def minF (x y : Int32) : Int32 := if y < x then y else x
theorem ej_min {ad : Nat → Nat} {M : Mm} {x y : Int32} : Rd ad 0 (iJ9_min_7cf53 ad) [.int x, .int y] M (some (.int (minF x y))) := by
  refine ⟨Nat.le_of_ble_eq_true rfl, ?_⟩
  show Ev ad _ (rJ9_min_7cf53 ad) (0, [some (.int x), some (.int y)], [], M) _
  repeat (first | refine es rfl rfl rfl ?_ | refine eg rfl (by assumption) rfl ?_ | refine ean rfl (by assumption) (by assumption) rfl ?_ | refine eal rfl (by assumption) (by assumption) rfl ?_ | refine eri rfl ?_ | refine erv rfl ?_ | refine erl rfl ?_ | refine era rfl ?_ | refine erz0 rfl ?_ | refine erz1 rfl ?_)
  try dsimp only [set1, set2, kilP, List.set_cons_zero, List.set_cons_succ, List.getElem?_cons_zero, List.getElem?_cons_succ, List.nil_append, List.cons_append, Option.toList_some, Option.toList_none]
  refine ei _ rfl rfl (fun c => ?_) (fun c => ?_)
  · repeat (first | refine es rfl rfl rfl ?_ | refine eg rfl (by assumption) rfl ?_ | refine ean rfl (by assumption) (by assumption) rfl ?_ | refine eal rfl (by assumption) (by assumption) rfl ?_ | refine eri rfl ?_ | refine erv rfl ?_ | refine erl rfl ?_ | refine era rfl ?_ | refine erz0 rfl ?_ | refine erz1 rfl ?_)
    try dsimp only [set1, set2, kilP, List.set_cons_zero, List.set_cons_succ, List.getElem?_cons_zero, List.getElem?_cons_succ, List.nil_append, List.cons_append, Option.toList_some, Option.toList_none]
    rw [minF, if_pos c]; exact ⟨rfl, rfl⟩
  · repeat (first | refine es rfl rfl rfl ?_ | refine eg rfl (by assumption) rfl ?_ | refine ean rfl (by assumption) (by assumption) rfl ?_ | refine eal rfl (by assumption) (by assumption) rfl ?_ | refine eri rfl ?_ | refine erv rfl ?_ | refine erl rfl ?_ | refine era rfl ?_ | refine erz0 rfl ?_ | refine erz1 rfl ?_)
    try dsimp only [set1, set2, kilP, List.set_cons_zero, List.set_cons_succ, List.getElem?_cons_zero, List.getElem?_cons_succ, List.nil_append, List.cons_append, Option.toList_some, Option.toList_none]
    rw [minF, if_neg c]; exact ⟨rfl, rfl⟩
/-- worths, tenants, like -/
abbrev Rw : Type := Int32 × Int32 × Int32 × Int32
abbrev Rt : Type := Rw × (Nat → Int32) × (Nat → Int32) × Int32 × Int32
def aRt (M : Mm) (b : Nat) (r : Rt) : Prop := M.1 b = some (.inr (6, [.int r.1.1, .int r.1.2.1, .int r.1.2.2.1, .int r.1.2.2.2, .ref (b + 1), .ref (b + 2), .int r.2.2.2.1, .int r.2.2.2.2])) ∧ M.1 (b + 1) = ints 10 r.2.1 ∧ M.1 (b + 2) = ints 10 r.2.2.1
theorem aRt.kept {M M' : Mm} {b : Nat} {p : Rt} (hb : aRt M b p) (hq : ∀ q, b ≤ q → q < b + 3 → M'.1 q = M.1 q) : aRt M' b p := by
  obtain ⟨h0, h1, h2⟩ := hb
  exact ⟨(hq _ (by omega) (by omega)).trans h0, (hq _ (by omega) (by omega)).trans h1, (hq _ (by omega) (by omega)).trans h2⟩
def tenF (w : Rw) (x : Int32) : Int32 := if absF x ≤ w.2.2.2 then w.2.2.1 / 2 else if 0 < x then w.2.2.1 else 0
theorem e6_ten {ad : Nat → Nat} {M : Mm} {b : Nat} {r : Rt} (hb : aRt M b r) {x : Int32} : Rd ad 1 (iX6_tenantsBy ad) [.ref b, .int x] M (some (.int (tenF r.1 x))) := by
  obtain ⟨h0, h1, h2⟩ := hb
  refine ⟨Nat.le_of_ble_eq_true rfl, ?_⟩
  show Ev ad _ (rX6_tenantsBy ad) (0, [some (.ref b), some (.int x)], [], M) _
  repeat (first | refine es rfl rfl rfl ?_ | refine eg rfl (by assumption) rfl ?_ | refine ean rfl (by assumption) (by assumption) rfl ?_ | refine eal rfl (by assumption) (by assumption) rfl ?_ | refine eri rfl ?_ | refine erv rfl ?_ | refine erl rfl ?_ | refine era rfl ?_ | refine erz0 rfl ?_ | refine erz1 rfl ?_)
  try dsimp only [set1, set2, kilP, List.set_cons_zero, List.set_cons_succ, List.getElem?_cons_zero, List.getElem?_cons_succ, List.nil_append, List.cons_append, Option.toList_some, Option.toList_none]
  refine ecsr rfl rfl rfl rfl rfl rfl (ej_abs) (by first | rfl | exact Nat.blt_eq.mpr (by omega)) rfl ?_
  repeat (first | refine es rfl rfl rfl ?_ | refine eg rfl (by assumption) rfl ?_ | refine ean rfl (by assumption) (by assumption) rfl ?_ | refine eal rfl (by assumption) (by assumption) rfl ?_ | refine eri rfl ?_ | refine erv rfl ?_ | refine erl rfl ?_ | refine era rfl ?_ | refine erz0 rfl ?_ | refine erz1 rfl ?_)
  try dsimp only [set1, set2, kilP, List.set_cons_zero, List.set_cons_succ, List.getElem?_cons_zero, List.getElem?_cons_succ, List.nil_append, List.cons_append, Option.toList_some, Option.toList_none]
  refine ei _ rfl rfl (fun c => ?_) (fun c => ?_)
  · repeat (first | refine es rfl rfl rfl ?_ | refine eg rfl (by assumption) rfl ?_ | refine ean rfl (by assumption) (by assumption) rfl ?_ | refine eal rfl (by assumption) (by assumption) rfl ?_ | refine eri rfl ?_ | refine erv rfl ?_ | refine erl rfl ?_ | refine era rfl ?_ | refine erz0 rfl ?_ | refine erz1 rfl ?_)
    try dsimp only [set1, set2, kilP, List.set_cons_zero, List.set_cons_succ, List.getElem?_cons_zero, List.getElem?_cons_succ, List.nil_append, List.cons_append, Option.toList_some, Option.toList_none]
    refine ei _ rfl rfl (fun c2 => ?_) (fun c2 => ?_)
    · repeat (first | refine es rfl rfl rfl ?_ | refine eg rfl (by assumption) rfl ?_ | refine ean rfl (by assumption) (by assumption) rfl ?_ | refine eal rfl (by assumption) (by assumption) rfl ?_ | refine eri rfl ?_ | refine erv rfl ?_ | refine erl rfl ?_ | refine era rfl ?_ | refine erz0 rfl ?_ | refine erz1 rfl ?_)
      try dsimp only [set1, set2, kilP, List.set_cons_zero, List.set_cons_succ, List.getElem?_cons_zero, List.getElem?_cons_succ, List.nil_append, List.cons_append, Option.toList_some, Option.toList_none]
      rw [tenF, if_neg (Int32.not_le.mpr c), if_neg (Int32.not_lt.mpr c2)]; exact ⟨rfl, rfl⟩
    · repeat (first | refine es rfl rfl rfl ?_ | refine eg rfl (by assumption) rfl ?_ | refine ean rfl (by assumption) (by assumption) rfl ?_ | refine eal rfl (by assumption) (by assumption) rfl ?_ | refine eri rfl ?_ | refine erv rfl ?_ | refine erl rfl ?_ | refine era rfl ?_ | refine erz0 rfl ?_ | refine erz1 rfl ?_)
      try dsimp only [set1, set2, kilP, List.set_cons_zero, List.set_cons_succ, List.getElem?_cons_zero, List.getElem?_cons_succ, List.nil_append, List.cons_append, Option.toList_some, Option.toList_none]
      rw [tenF, if_neg (Int32.not_le.mpr c), if_pos (Int32.not_le.mp c2)]; exact ⟨rfl, rfl⟩
  · repeat (first | refine es rfl rfl rfl ?_ | refine eg rfl (by assumption) rfl ?_ | refine ean rfl (by assumption) (by assumption) rfl ?_ | refine eal rfl (by assumption) (by assumption) rfl ?_ | refine eri rfl ?_ | refine erv rfl ?_ | refine erl rfl ?_ | refine era rfl ?_ | refine erz0 rfl ?_ | refine erz1 rfl ?_)
    try dsimp only [set1, set2, kilP, List.set_cons_zero, List.set_cons_succ, List.getElem?_cons_zero, List.getElem?_cons_succ, List.nil_append, List.cons_append, Option.toList_some, Option.toList_none]
    rw [tenF, if_pos (Int32.not_lt.mp c)]; exact ⟨rfl, rfl⟩
def gn1 (w : Rw) (x y : Int32) : Int32 := x * tenF w (w.1 - x - (w.2.1 - y))
def gn2 (w : Rw) (x y : Int32) : Int32 := y * tenF w (w.2.1 - y - (w.1 - x))
theorem e6_ones {ad : Nat → Nat} {M : Mm} {b : Nat} {r : Rt} (hb : aRt M b r) {x y : Int32} : Rd ad 2 (iX6_onesGain ad) [.ref b, .int x, .int y] M (some (.int (gn1 r.1 x y))) := by
  have h0 := hb.1
  refine ⟨Nat.le_of_ble_eq_true rfl, ?_⟩
  show Ev ad _ (rX6_onesGain ad) (0, [some (.ref b), some (.int x), some (.int y)], [], M) _
  repeat (first | refine es rfl rfl rfl ?_ | refine eg rfl (by assumption) rfl ?_ | refine ean rfl (by assumption) (by assumption) rfl ?_ | refine eal rfl (by assumption) (by assumption) rfl ?_ | refine eri rfl ?_ | refine erv rfl ?_ | refine erl rfl ?_ | refine era rfl ?_ | refine erz0 rfl ?_ | refine erz1 rfl ?_)
  try dsimp only [set1, set2, kilP, List.set_cons_zero, List.set_cons_succ, List.getElem?_cons_zero, List.getElem?_cons_succ, List.nil_append, List.cons_append, Option.toList_some, Option.toList_none]
  refine ecr rfl rfl (by assumption) rfl rfl rfl (e6_ten hb) (by first | rfl | exact Nat.blt_eq.mpr (by omega)) rfl ?_
  repeat (first | refine es rfl rfl rfl ?_ | refine eg rfl (by assumption) rfl ?_ | refine ean rfl (by assumption) (by assumption) rfl ?_ | refine eal rfl (by assumption) (by assumption) rfl ?_ | refine eri rfl ?_ | refine erv rfl ?_ | refine erl rfl ?_ | refine era rfl ?_ | refine erz0 rfl ?_ | refine erz1 rfl ?_)
  try dsimp only [set1, set2, kilP, List.set_cons_zero, List.set_cons_succ, List.getElem?_cons_zero, List.getElem?_cons_succ, List.nil_append, List.cons_append, Option.toList_some, Option.toList_none]
  exact ⟨rfl, rfl⟩
theorem e6_others {ad : Nat → Nat} {M : Mm} {b : Nat} {r : Rt} (hb : aRt M b r) {x y : Int32} : Rd ad 2 (iX6_othersGain ad) [.ref b, .int x, .int y] M (some (.int (gn2 r.1 x y))) := by
  have h0 := hb.1
  refine ⟨Nat.le_of_ble_eq_true rfl, ?_⟩
  show Ev ad _ (rX6_othersGain ad) (0, [some (.ref b), some (.int x), some (.int y)], [], M) _
  repeat (first | refine es rfl rfl rfl ?_ | refine eg rfl (by assumption) rfl ?_ | refine ean rfl (by assumption) (by assumption) rfl ?_ | refine eal rfl (by assumption) (by assumption) rfl ?_ | refine eri rfl ?_ | refine erv rfl ?_ | refine erl rfl ?_ | refine era rfl ?_ | refine erz0 rfl ?_ | refine erz1 rfl ?_)
  try dsimp only [set1, set2, kilP, List.set_cons_zero, List.set_cons_succ, List.getElem?_cons_zero, List.getElem?_cons_succ, List.nil_append, List.cons_append, Option.toList_some, Option.toList_none]
  refine ecr rfl rfl (by assumption) rfl rfl rfl (e6_ten hb) (by first | rfl | exact Nat.blt_eq.mpr (by omega)) rfl ?_
  repeat (first | refine es rfl rfl rfl ?_ | refine eg rfl (by assumption) rfl ?_ | refine ean rfl (by assumption) (by assumption) rfl ?_ | refine eal rfl (by assumption) (by assumption) rfl ?_ | refine eri rfl ?_ | refine erv rfl ?_ | refine erl rfl ?_ | refine era rfl ?_ | refine erz0 rfl ?_ | refine erz1 rfl ?_)
  try dsimp only [set1, set2, kilP, List.set_cons_zero, List.set_cons_succ, List.getElem?_cons_zero, List.getElem?_cons_succ, List.nil_append, List.cons_append, Option.toList_some, Option.toList_none]
  exact ⟨rfl, rfl⟩
/-- the most of the first n -/
def mxF (g : Nat → Int32) : Nat → Int32
  | 0 => 0
  | n + 1 => maxF (mxF g n) (g n)
theorem upd_us (f : Nat → Int32) (i : Nat) (x y : Int32) : upd (upd f i x) i y = upd f i y := by
  funext q
  by_cases e : q = i
  · rw [e, pk_us, pk_us]
  · rw [pk_un e, pk_un e, pk_un e]
theorem e6_best_in {ad : Nat → Nat} {b i : Nat} (hi : i < 10) {r : Rt} : ∀ (n j : Nat) (M0 M : Mm) (P : Option Value → Mm → Prop), aRt M b (r.1, upd r.2.1 i (mxF (fun k => gn1 r.1 (nI k) (nI i)) j), upd r.2.2.1 i (mxF (fun k => gn2 r.1 (nI i) (nI k)) j), r.2.2.2.1, r.2.2.2.2) → Fr b 3 M0 M → j + n = 10 → (∀ L2 M', aRt M' b (r.1, upd r.2.1 i (mxF (fun k => gn1 r.1 (nI k) (nI i)) 10), upd r.2.2.1 i (mxF (fun k => gn2 r.1 (nI i) (nI k)) 10), r.2.2.2.1, r.2.2.2.2) → Fr b 3 M0 M' → Ev ad 3 (rX6_findBestGains ad) (78, [some (.ref b), some (.int (nI i)), L2], [], M') P) → Ev ad 3 (rX6_findBestGains ad) (24, [some (.ref b), some (.int (nI i)), some (.int (nI j))], [], M) P := by
  intro n
  induction n with
  | zero =>
    intro j M0 M P hb hF hn hk
    have e9 : j = 10 := by omega
    subst e9
    have hb' := hb
    obtain ⟨h0, h1, h2⟩ := hb
    repeat (refine ng 78 rfl ?_; first | refine es rfl rfl rfl ?_ | refine eg rfl (by assumption) rfl ?_ | refine ean rfl (by assumption) (by assumption) rfl ?_ | refine eal rfl (by assumption) (by assumption) rfl ?_ | refine eri rfl ?_ | refine erv rfl ?_ | refine erl rfl ?_ | refine era rfl ?_ | refine erz0 rfl ?_ | refine erz1 rfl ?_)
    try dsimp only [set1, set2, kilP, List.set_cons_zero, List.set_cons_succ, List.getElem?_cons_zero, List.getElem?_cons_succ, List.nil_append, List.cons_append, Option.toList_some, Option.toList_none]
    exact hk _ M hb' hF
  | succ n ih =>
    intro j M0 M P hb hF hn hk
    have hb' := hb
    obtain ⟨h0, h1, h2⟩ := hb
    repeat (first | refine es rfl rfl rfl ?_ | refine eg rfl (by assumption) rfl ?_ | refine ean rfl (by assumption) (by assumption) rfl ?_ | refine eal rfl (by assumption) (by assumption) rfl ?_ | refine eri rfl ?_ | refine erv rfl ?_ | refine erl rfl ?_ | refine era rfl ?_ | refine erz0 rfl ?_ | refine erz1 rfl ?_)
    try dsimp only [set1, set2, kilP, List.set_cons_zero, List.set_cons_succ, List.getElem?_cons_zero, List.getElem?_cons_succ, List.nil_append, List.cons_append, Option.toList_some, Option.toList_none]
    refine ei _ rfl rfl (fun c => ?_) (fun c => ?_)
    · exact absurd c (nI_ge (b := 10) (by omega) (by omega))
    · repeat (first | refine es rfl rfl rfl ?_ | refine eg rfl (by assumption) rfl ?_ | refine ean rfl (by assumption) (by assumption) rfl ?_ | refine eal rfl (by assumption) (by assumption) rfl ?_ | refine eri rfl ?_ | refine erv rfl ?_ | refine erl rfl ?_ | refine era rfl ?_ | refine erz0 rfl ?_ | refine erz1 rfl ?_)
      try dsimp only [set1, set2, kilP, List.set_cons_zero, List.set_cons_succ, List.getElem?_cons_zero, List.getElem?_cons_succ, List.nil_append, List.cons_append, Option.toList_some, Option.toList_none]
      refine ecr rfl rfl (by assumption) rfl rfl rfl (e6_ones hb') (by first | rfl | exact Nat.blt_eq.mpr (by omega)) rfl ?_
      refine ecsr rfl rfl rfl rfl rfl rfl (ej_max) (by first | rfl | exact Nat.blt_eq.mpr (by omega)) rfl ?_
      refine etM rfl (by assumption) (by assumption) rfl (fun M2 eM => ?_)
      have k1 := up_w eM
      replace h0 := up_k eM h0 (by omega)
      replace h2 := up_k eM h2 (by omega)
      replace hF := hF.up eM (by omega) (by omega)
      rw [upd_us, pk_us] at k1
      have hb2 : aRt M2 b (r.1, upd r.2.1 i (mxF (fun k => gn1 r.1 (nI k) (nI i)) (j + 1)), upd r.2.2.1 i (mxF (fun k => gn2 r.1 (nI i) (nI k)) j), r.2.2.2.1, r.2.2.2.2) := ⟨h0, k1, h2⟩
      repeat (first | refine es rfl rfl rfl ?_ | refine eg rfl (by assumption) rfl ?_ | refine ean rfl (by assumption) (by assumption) rfl ?_ | refine eal rfl (by assumption) (by assumption) rfl ?_ | refine eri rfl ?_ | refine erv rfl ?_ | refine erl rfl ?_ | refine era rfl ?_ | refine erz0 rfl ?_ | refine erz1 rfl ?_)
      try dsimp only [set1, set2, kilP, List.set_cons_zero, List.set_cons_succ, List.getElem?_cons_zero, List.getElem?_cons_succ, List.nil_append, List.cons_append, Option.toList_some, Option.toList_none]
      refine ecr rfl rfl (by assumption) rfl rfl rfl (e6_others hb2) (by first | rfl | exact Nat.blt_eq.mpr (by omega)) rfl ?_
      refine ecsr rfl rfl rfl rfl rfl rfl (ej_max) (by first | rfl | exact Nat.blt_eq.mpr (by omega)) rfl ?_
      refine etM rfl (by assumption) (by assumption) rfl (fun M3 eM3 => ?_)
      have k2 := up_w eM3
      replace h0 := up_k eM3 h0 (by omega)
      replace k1 := up_k eM3 k1 (by omega)
      replace hF := hF.up eM3 (by omega) (by omega)
      rw [upd_us, pk_us] at k2
      repeat (refine ng 24 rfl ?_; first | refine es rfl rfl rfl ?_ | refine eg rfl (by assumption) rfl ?_ | refine ean rfl (by assumption) (by assumption) rfl ?_ | refine eal rfl (by assumption) (by assumption) rfl ?_ | refine eri rfl ?_ | refine erv rfl ?_ | refine erl rfl ?_ | refine era rfl ?_ | refine erz0 rfl ?_ | refine erz1 rfl ?_)
      try dsimp only [set1, set2, kilP, List.set_cons_zero, List.set_cons_succ, List.getElem?_cons_zero, List.getElem?_cons_succ, List.nil_append, List.cons_append, Option.toList_some, Option.toList_none]
      rw [nI_1]
      exact ih (j + 1) M0 M3 P ⟨h0, k1, k2⟩ hF (by omega) hk
theorem e6_best_loop {ad : Nat → Nat} {b : Nat} {w : Rw} {rf ff : Int32} : ∀ (n i : Nat) (M0 M : Mm) (o1 o2 : Nat → Int32) (L2 : Option Value), aRt M b (w, o1, o2, rf, ff) → Fr b 3 M0 M → i + n = 10 → (∀ k, k < i → o1 k = mxF (fun q => gn1 w (nI q) (nI k)) 10 ∧ o2 k = mxF (fun q => gn2 w (nI k) (nI q)) 10) → Ev ad 3 (rX6_findBestGains ad) (2, [some (.ref b), some (.int (nI i)), L2], [], M) (fun v' M' => v' = none ∧ (∃ o1 o2, (∀ k, k < 10 → o1 k = mxF (fun q => gn1 w (nI q) (nI k)) 10 ∧ o2 k = mxF (fun q => gn2 w (nI k) (nI q)) 10) ∧ aRt M' b (w, o1, o2, rf, ff)) ∧ Fr b 3 M0 M') := by
  intro n
  induction n with
  | zero =>
    intro i M0 M o1 o2 L2 hb hF hn hz
    repeat (first | refine es rfl rfl rfl ?_ | refine eg rfl (by assumption) rfl ?_ | refine ean rfl (by assumption) (by assumption) rfl ?_ | refine eal rfl (by assumption) (by assumption) rfl ?_ | refine eri rfl ?_ | refine erv rfl ?_ | refine erl rfl ?_ | refine era rfl ?_ | refine erz0 rfl ?_ | refine erz1 rfl ?_)
    try dsimp only [set1, set2, kilP, List.set_cons_zero, List.set_cons_succ, List.getElem?_cons_zero, List.getElem?_cons_succ, List.nil_append, List.cons_append, Option.toList_some, Option.toList_none]
    refine ei _ rfl rfl (fun c => ?_) (fun c => ?_)
    · repeat (first | refine es rfl rfl rfl ?_ | refine eg rfl (by assumption) rfl ?_ | refine ean rfl (by assumption) (by assumption) rfl ?_ | refine eal rfl (by assumption) (by assumption) rfl ?_ | refine eri rfl ?_ | refine erv rfl ?_ | refine erl rfl ?_ | refine era rfl ?_ | refine erz0 rfl ?_ | refine erz1 rfl ?_)
      try dsimp only [set1, set2, kilP, List.set_cons_zero, List.set_cons_succ, List.getElem?_cons_zero, List.getElem?_cons_succ, List.nil_append, List.cons_append, Option.toList_some, Option.toList_none]
      exact ⟨rfl, ⟨o1, o2, fun k hk => hz k (by omega), hb⟩, hF⟩
    · exact absurd (nI_le (a := 10) (by omega) (by omega)) c
  | succ n ih =>
    intro i M0 M o1 o2 L2 hb hF hn hz
    obtain ⟨h0, h1, h2⟩ := hb
    have hi : i < 10 := by omega
    repeat (first | refine es rfl rfl rfl ?_ | refine eg rfl (by assumption) rfl ?_ | refine ean rfl (by assumption) (by assumption) rfl ?_ | refine eal rfl (by assumption) (by assumption) rfl ?_ | refine eri rfl ?_ | refine erv rfl ?_ | refine erl rfl ?_ | refine era rfl ?_ | refine erz0 rfl ?_ | refine erz1 rfl ?_)
    try dsimp only [set1, set2, kilP, List.set_cons_zero, List.set_cons_succ, List.getElem?_cons_zero, List.getElem?_cons_succ, List.nil_append, List.cons_append, Option.toList_some, Option.toList_none]
    refine ei _ rfl rfl (fun c => ?_) (fun c => ?_)
    · exact absurd c (nI_ge (b := 10) (by omega) (by omega))
    · repeat (first | refine es rfl rfl rfl ?_ | refine eg rfl (by assumption) rfl ?_ | refine ean rfl (by assumption) (by assumption) rfl ?_ | refine eal rfl (by assumption) (by assumption) rfl ?_ | refine eri rfl ?_ | refine erv rfl ?_ | refine erl rfl ?_ | refine era rfl ?_ | refine erz0 rfl ?_ | refine erz1 rfl ?_)
      try dsimp only [set1, set2, kilP, List.set_cons_zero, List.set_cons_succ, List.getElem?_cons_zero, List.getElem?_cons_succ, List.nil_append, List.cons_append, Option.toList_some, Option.toList_none]
      refine etM rfl (by assumption) (by assumption) rfl (fun M2 eM => ?_)
      have k1 := up_w eM
      replace h0 := up_k eM h0 (by omega)
      replace h2 := up_k eM h2 (by omega)
      replace hF := hF.up eM (by omega) (by omega)
      repeat (first | refine es rfl rfl rfl ?_ | refine eg rfl (by assumption) rfl ?_ | refine ean rfl (by assumption) (by assumption) rfl ?_ | refine eal rfl (by assumption) (by assumption) rfl ?_ | refine eri rfl ?_ | refine erv rfl ?_ | refine erl rfl ?_ | refine era rfl ?_ | refine erz0 rfl ?_ | refine erz1 rfl ?_)
      try dsimp only [set1, set2, kilP, List.set_cons_zero, List.set_cons_succ, List.getElem?_cons_zero, List.getElem?_cons_succ, List.nil_append, List.cons_append, Option.toList_some, Option.toList_none]
      refine etM rfl (by assumption) (by assumption) rfl (fun M3 eM3 => ?_)
      have k2 := up_w eM3
      replace h0 := up_k eM3 h0 (by omega)
      replace k1 := up_k eM3 k1 (by omega)
      replace hF := hF.up eM3 (by omega) (by omega)
      repeat (refine ng 24 rfl ?_; first | refine es rfl rfl rfl ?_ | refine eg rfl (by assumption) rfl ?_ | refine ean rfl (by assumption) (by assumption) rfl ?_ | refine eal rfl (by assumption) (by assumption) rfl ?_ | refine eri rfl ?_ | refine erv rfl ?_ | refine erl rfl ?_ | refine era rfl ?_ | refine erz0 rfl ?_ | refine erz1 rfl ?_)
      try dsimp only [set1, set2, kilP, List.set_cons_zero, List.set_cons_succ, List.getElem?_cons_zero, List.getElem?_cons_succ, List.nil_append, List.cons_append, Option.toList_some, Option.toList_none]
      refine e6_best_in hi (r := (w, o1, o2, rf, ff)) 10 0 M0 M3 _ ⟨h0, k1, k2⟩ hF rfl (fun L2 M4 hb4 hF4 => ?_)
      repeat (refine ng 2 rfl ?_; first | refine es rfl rfl rfl ?_ | refine eg rfl (by assumption) rfl ?_ | refine ean rfl (by assumption) (by assumption) rfl ?_ | refine eal rfl (by assumption) (by assumption) rfl ?_ | refine eri rfl ?_ | refine erv rfl ?_ | refine erl rfl ?_ | refine era rfl ?_ | refine erz0 rfl ?_ | refine erz1 rfl ?_)
      try dsimp only [set1, set2, kilP, List.set_cons_zero, List.set_cons_succ, List.getElem?_cons_zero, List.getElem?_cons_succ, List.nil_append, List.cons_append, Option.toList_some, Option.toList_none]
      rw [nI_1]
      refine ih (i + 1) M0 M4 _ _ _ hb4 hF4 (by omega) (fun k hk => ?_)
      by_cases e : k = i
      · rw [e]; exact ⟨pk_us, pk_us⟩
      · have := hz k (by omega)
        exact ⟨(pk_un e).trans this.1, (pk_un e).trans this.2⟩
theorem e6_best {ad : Nat → Nat} {M : Mm} {b : Nat} {r : Rt} (hb : aRt M b r) : EvM ad 3 (iX6_findBestGains ad) [.ref b] M (fun v' M' => v' = none ∧ (∃ o1 o2, (∀ k, k < 10 → o1 k = mxF (fun q => gn1 r.1 (nI q) (nI k)) 10 ∧ o2 k = mxF (fun q => gn2 r.1 (nI k) (nI q)) 10) ∧ aRt M' b (r.1, o1, o2, r.2.2.2.1, r.2.2.2.2)) ∧ Fr b 3 M M') := by
  refine ⟨Nat.le_of_ble_eq_true rfl, ?_⟩
  show Ev ad _ (rX6_findBestGains ad) (0, [some (.ref b), none, none], [], M) _
  repeat (refine ng 2 rfl ?_; first | refine es rfl rfl rfl ?_ | refine eg rfl (by assumption) rfl ?_ | refine ean rfl (by assumption) (by assumption) rfl ?_ | refine eal rfl (by assumption) (by assumption) rfl ?_ | refine eri rfl ?_ | refine erv rfl ?_ | refine erl rfl ?_ | refine era rfl ?_ | refine erz0 rfl ?_ | refine erz1 rfl ?_)
  try dsimp only [set1, set2, kilP, List.set_cons_zero, List.set_cons_succ, List.getElem?_cons_zero, List.getElem?_cons_succ, List.nil_append, List.cons_append, Option.toList_some, Option.toList_none]
  exact e6_best_loop 10 0 M M r.2.1 r.2.2.1 _ hb (Fr.rf _ _ _) rfl (fun k hk => absurd hk (by omega))
/-- a rest: nobody gains by going alone -/
abbrev isRs (w : Rw) (k j : Nat) : Prop := gn1 w (nI k) (nI j) = mxF (fun q => gn1 w (nI q) (nI j)) 10 ∧ gn2 w (nI k) (nI j) = mxF (fun q => gn2 w (nI k) (nI q)) 10
/-- rests found, the first of them: behind (k, j) -/
def rsS (w : Rw) (k j : Nat) (s : Nat × Int32) : Nat × Int32 := if isRs w k j then (s.1 + 1, if s.1 = 0 then nI (10 * k + j) else s.2) else s
theorem e6_note {ad : Nat → Nat} {M : Mm} {b k j : Nat} (hk : k < 10) (hj : j < 10) {w : Rw} {o1 o2 : Nat → Int32} {s : Nat × Int32} (hs : s.1 < 1000) (hb : aRt M b (w, o1, o2, nI s.1, s.2)) (h1' : o1 j = mxF (fun q => gn1 w (nI q) (nI j)) 10) (h2' : o2 k = mxF (fun q => gn2 w (nI k) (nI q)) 10) : EvM ad 3 (iX6_noteIfRest ad) [.ref b, .int (nI k), .int (nI j)] M (fun v' M' => v' = none ∧ aRt M' b (w, o1, o2, nI (rsS w k j s).1, (rsS w k j s).2) ∧ Fr b 3 M M') := by
  have hb' := hb
  obtain ⟨h0, h1, h2⟩ := hb
  have hF := Fr.rf b 3 M
  refine ⟨Nat.le_of_ble_eq_true rfl, ?_⟩
  show Ev ad _ (rX6_noteIfRest ad) (0, [some (.ref b), some (.int (nI k)), some (.int (nI j)), none, none], [], M) _
  repeat (first | refine es rfl rfl rfl ?_ | refine eg rfl (by assumption) rfl ?_ | refine ean rfl (by assumption) (by assumption) rfl ?_ | refine eal rfl (by assumption) (by assumption) rfl ?_ | refine eri rfl ?_ | refine erv rfl ?_ | refine erl rfl ?_ | refine era rfl ?_ | refine erz0 rfl ?_ | refine erz1 rfl ?_)
  try dsimp only [set1, set2, kilP, List.set_cons_zero, List.set_cons_succ, List.getElem?_cons_zero, List.getElem?_cons_succ, List.nil_append, List.cons_append, Option.toList_some, Option.toList_none]
  refine ecr rfl rfl (by assumption) rfl rfl rfl (e6_ones hb') (by first | rfl | exact Nat.blt_eq.mpr (by omega)) rfl ?_
  repeat (first | refine es rfl rfl rfl ?_ | refine eg rfl (by assumption) rfl ?_ | refine ean rfl (by assumption) (by assumption) rfl ?_ | refine eal rfl (by assumption) (by assumption) rfl ?_ | refine eri rfl ?_ | refine erv rfl ?_ | refine erl rfl ?_ | refine era rfl ?_ | refine erz0 rfl ?_ | refine erz1 rfl ?_)
  try dsimp only [set1, set2, kilP, List.set_cons_zero, List.set_cons_succ, List.getElem?_cons_zero, List.getElem?_cons_succ, List.nil_append, List.cons_append, Option.toList_some, Option.toList_none]
  refine ei _ rfl rfl (fun c1 => ?_) (fun c1 => ?_)
  · repeat (first | refine es rfl rfl rfl ?_ | refine eg rfl (by assumption) rfl ?_ | refine ean rfl (by assumption) (by assumption) rfl ?_ | refine eal rfl (by assumption) (by assumption) rfl ?_ | refine eri rfl ?_ | refine erv rfl ?_ | refine erl rfl ?_ | refine era rfl ?_ | refine erz0 rfl ?_ | refine erz1 rfl ?_)
    try dsimp only [set1, set2, kilP, List.set_cons_zero, List.set_cons_succ, List.getElem?_cons_zero, List.getElem?_cons_succ, List.nil_append, List.cons_append, Option.toList_some, Option.toList_none]
    refine ecr rfl rfl (by assumption) rfl rfl rfl (e6_others hb') (by first | rfl | exact Nat.blt_eq.mpr (by omega)) rfl ?_
    repeat (first | refine es rfl rfl rfl ?_ | refine eg rfl (by assumption) rfl ?_ | refine ean rfl (by assumption) (by assumption) rfl ?_ | refine eal rfl (by assumption) (by assumption) rfl ?_ | refine eri rfl ?_ | refine erv rfl ?_ | refine erl rfl ?_ | refine era rfl ?_ | refine erz0 rfl ?_ | refine erz1 rfl ?_)
    try dsimp only [set1, set2, kilP, List.set_cons_zero, List.set_cons_succ, List.getElem?_cons_zero, List.getElem?_cons_succ, List.nil_append, List.cons_append, Option.toList_some, Option.toList_none]
    have hN : ¬ isRs w k j := fun q => c1 (q.1.trans h1'.symm)
    have hr : rsS w k j s = s := by rw [rsS, if_neg hN]
    refine ei _ rfl rfl (fun c2 => ?_) (fun c2 => ?_)
    · repeat (first | refine es rfl rfl rfl ?_ | refine eg rfl (by assumption) rfl ?_ | refine ean rfl (by assumption) (by assumption) rfl ?_ | refine eal rfl (by assumption) (by assumption) rfl ?_ | refine eri rfl ?_ | refine erv rfl ?_ | refine erl rfl ?_ | refine era rfl ?_ | refine erz0 rfl ?_ | refine erz1 rfl ?_)
      try dsimp only [set1, set2, kilP, List.set_cons_zero, List.set_cons_succ, List.getElem?_cons_zero, List.getElem?_cons_succ, List.nil_append, List.cons_append, Option.toList_some, Option.toList_none]
      rw [hr]; exact ⟨rfl, hb', hF⟩
    · repeat (first | refine es rfl rfl rfl ?_ | refine eg rfl (by assumption) rfl ?_ | refine ean rfl (by assumption) (by assumption) rfl ?_ | refine eal rfl (by assumption) (by assumption) rfl ?_ | refine eri rfl ?_ | refine erv rfl ?_ | refine erl rfl ?_ | refine era rfl ?_ | refine erz0 rfl ?_ | refine erz1 rfl ?_)
      try dsimp only [set1, set2, kilP, List.set_cons_zero, List.set_cons_succ, List.getElem?_cons_zero, List.getElem?_cons_succ, List.nil_append, List.cons_append, Option.toList_some, Option.toList_none]
      rw [hr]; exact ⟨rfl, hb', hF⟩
  · repeat (first | refine es rfl rfl rfl ?_ | refine eg rfl (by assumption) rfl ?_ | refine ean rfl (by assumption) (by assumption) rfl ?_ | refine eal rfl (by assumption) (by assumption) rfl ?_ | refine eri rfl ?_ | refine erv rfl ?_ | refine erl rfl ?_ | refine era rfl ?_ | refine erz0 rfl ?_ | refine erz1 rfl ?_)
    try dsimp only [set1, set2, kilP, List.set_cons_zero, List.set_cons_succ, List.getElem?_cons_zero, List.getElem?_cons_succ, List.nil_append, List.cons_append, Option.toList_some, Option.toList_none]
    refine ecr rfl rfl (by assumption) rfl rfl rfl (e6_others hb') (by first | rfl | exact Nat.blt_eq.mpr (by omega)) rfl ?_
    repeat (first | refine es rfl rfl rfl ?_ | refine eg rfl (by assumption) rfl ?_ | refine ean rfl (by assumption) (by assumption) rfl ?_ | refine eal rfl (by assumption) (by assumption) rfl ?_ | refine eri rfl ?_ | refine erv rfl ?_ | refine erl rfl ?_ | refine era rfl ?_ | refine erz0 rfl ?_ | refine erz1 rfl ?_)
    try dsimp only [set1, set2, kilP, List.set_cons_zero, List.set_cons_succ, List.getElem?_cons_zero, List.getElem?_cons_succ, List.nil_append, List.cons_append, Option.toList_some, Option.toList_none]
    refine ei _ rfl rfl (fun c2 => ?_) (fun c2 => ?_)
    · repeat (first | refine es rfl rfl rfl ?_ | refine eg rfl (by assumption) rfl ?_ | refine ean rfl (by assumption) (by assumption) rfl ?_ | refine eal rfl (by assumption) (by assumption) rfl ?_ | refine eri rfl ?_ | refine erv rfl ?_ | refine erl rfl ?_ | refine era rfl ?_ | refine erz0 rfl ?_ | refine erz1 rfl ?_)
      try dsimp only [set1, set2, kilP, List.set_cons_zero, List.set_cons_succ, List.getElem?_cons_zero, List.getElem?_cons_succ, List.nil_append, List.cons_append, Option.toList_some, Option.toList_none]
      have hN : ¬ isRs w k j := fun q => c2 (q.2.trans h2'.symm)
      have hr : rsS w k j s = s := by rw [rsS, if_neg hN]
      rw [hr]; exact ⟨rfl, hb', hF⟩
    · repeat (first | refine es rfl rfl rfl ?_ | refine eg rfl (by assumption) rfl ?_ | refine ean rfl (by assumption) (by assumption) rfl ?_ | refine eal rfl (by assumption) (by assumption) rfl ?_ | refine eri rfl ?_ | refine erv rfl ?_ | refine erl rfl ?_ | refine era rfl ?_ | refine erz0 rfl ?_ | refine erz1 rfl ?_)
      try dsimp only [set1, set2, kilP, List.set_cons_zero, List.set_cons_succ, List.getElem?_cons_zero, List.getElem?_cons_succ, List.nil_append, List.cons_append, Option.toList_some, Option.toList_none]
      have hY : isRs w k j := ⟨(Decidable.not_not.mp c1).trans h1', (Decidable.not_not.mp c2).trans h2'⟩
      refine ei _ rfl rfl (fun c3 => ?_) (fun c3 => ?_)
      · repeat (first | refine es rfl rfl rfl ?_ | refine eg rfl (by assumption) rfl ?_ | refine ean rfl (by assumption) (by assumption) rfl ?_ | refine eal rfl (by assumption) (by assumption) rfl ?_ | refine eri rfl ?_ | refine erv rfl ?_ | refine erl rfl ?_ | refine era rfl ?_ | refine erz0 rfl ?_ | refine erz1 rfl ?_)
        try dsimp only [set1, set2, kilP, List.set_cons_zero, List.set_cons_succ, List.getElem?_cons_zero, List.getElem?_cons_succ, List.nil_append, List.cons_append, Option.toList_some, Option.toList_none]
        have h30 : ¬ s.1 = 0 := fun q => by rw [q] at c3; exact c3 rfl
        refine epM rfl (by assumption) rfl rfl rfl (fun M2 eM => ?_)
        have k0 := up_w eM
        replace h1 := up_k eM h1 (by omega)
        replace h2 := up_k eM h2 (by omega)
        replace hF := hF.up eM (by omega) (by omega)
        rw [nI_1] at k0
        repeat (first | refine es rfl rfl rfl ?_ | refine eg rfl (by assumption) rfl ?_ | refine ean rfl (by assumption) (by assumption) rfl ?_ | refine eal rfl (by assumption) (by assumption) rfl ?_ | refine eri rfl ?_ | refine erv rfl ?_ | refine erl rfl ?_ | refine era rfl ?_ | refine erz0 rfl ?_ | refine erz1 rfl ?_)
        try dsimp only [set1, set2, kilP, List.set_cons_zero, List.set_cons_succ, List.getElem?_cons_zero, List.getElem?_cons_succ, List.nil_append, List.cons_append, Option.toList_some, Option.toList_none]
        have hr : rsS w k j s = (s.1 + 1, s.2) := by rw [rsS, if_pos hY, if_neg h30]
        rw [hr]
        exact ⟨rfl, ⟨k0, h1, h2⟩, hF⟩
      · repeat (first | refine es rfl rfl rfl ?_ | refine eg rfl (by assumption) rfl ?_ | refine ean rfl (by assumption) (by assumption) rfl ?_ | refine eal rfl (by assumption) (by assumption) rfl ?_ | refine eri rfl ?_ | refine erv rfl ?_ | refine erl rfl ?_ | refine era rfl ?_ | refine erz0 rfl ?_ | refine erz1 rfl ?_)
        try dsimp only [set1, set2, kilP, List.set_cons_zero, List.set_cons_succ, List.getElem?_cons_zero, List.getElem?_cons_succ, List.nil_append, List.cons_append, Option.toList_some, Option.toList_none]
        have h30 : s.1 = 0 := by
          rcases Nat.eq_zero_or_pos s.1 with q | q
          · exact q
          · exact absurd (nI_ne0 q (by omega)) c3
        refine epM rfl (by assumption) rfl rfl rfl (fun M2 eM => ?_)
        have k0 := up_w eM
        replace h1 := up_k eM h1 (by omega)
        replace h2 := up_k eM h2 (by omega)
        replace hF := hF.up eM (by omega) (by omega)
        rw [show (10 : Int32) * nI k + nI j = nI (10 * k + j) from by rw [show (10 : Int32) = nI 10 from rfl, pk_mul, nI_add]] at k0
        repeat (first | refine es rfl rfl rfl ?_ | refine eg rfl (by assumption) rfl ?_ | refine ean rfl (by assumption) (by assumption) rfl ?_ | refine eal rfl (by assumption) (by assumption) rfl ?_ | refine eri rfl ?_ | refine erv rfl ?_ | refine erl rfl ?_ | refine era rfl ?_ | refine erz0 rfl ?_ | refine erz1 rfl ?_)
        try dsimp only [set1, set2, kilP, List.set_cons_zero, List.set_cons_succ, List.getElem?_cons_zero, List.getElem?_cons_succ, List.nil_append, List.cons_append, Option.toList_some, Option.toList_none]
        refine epM rfl (by assumption) rfl rfl rfl (fun M3 eM3 => ?_)
        have k1 := up_w eM3
        replace h1 := up_k eM3 h1 (by omega)
        replace h2 := up_k eM3 h2 (by omega)
        replace hF := hF.up eM3 (by omega) (by omega)
        rw [nI_1] at k1
        repeat (first | refine es rfl rfl rfl ?_ | refine eg rfl (by assumption) rfl ?_ | refine ean rfl (by assumption) (by assumption) rfl ?_ | refine eal rfl (by assumption) (by assumption) rfl ?_ | refine eri rfl ?_ | refine erv rfl ?_ | refine erl rfl ?_ | refine era rfl ?_ | refine erz0 rfl ?_ | refine erz1 rfl ?_)
        try dsimp only [set1, set2, kilP, List.set_cons_zero, List.set_cons_succ, List.getElem?_cons_zero, List.getElem?_cons_succ, List.nil_append, List.cons_append, Option.toList_some, Option.toList_none]
        have hr : rsS w k j s = (s.1 + 1, nI (10 * k + j)) := by rw [rsS, if_pos hY, if_pos h30]
        rw [hr]
        exact ⟨rfl, ⟨k1, h1, h2⟩, hF⟩
def rsI (w : Rw) (k : Nat) : Nat → (Nat × Int32) → (Nat × Int32)
  | 0, s => s
  | j + 1, s => rsS w k j (rsI w k j s)
def rsO (w : Rw) : Nat → (Nat × Int32) → (Nat × Int32)
  | 0, s => s
  | k + 1, s => rsI w k 10 (rsO w k s)
theorem rsI_le (w : Rw) (k : Nat) : ∀ j s, (rsI w k j s).1 ≤ s.1 + j
  | 0, s => Nat.le_refl _
  | j + 1, s => by
    have h := rsI_le w k j s
    rw [rsI, rsS]
    split
    · dsimp only; omega
    · omega
theorem rsO_le (w : Rw) : ∀ k s, (rsO w k s).1 ≤ s.1 + 10 * k
  | 0, s => Nat.le_refl _
  | k + 1, s => by
    have h := rsO_le w k s
    have h2 := rsI_le w k 10 (rsO w k s)
    rw [rsO]
    omega
theorem e6_rest_in {ad : Nat → Nat} {b k : Nat} (hk : k < 10) {w : Rw} {o1 o2 : Nat → Int32} (ho : ∀ k, k < 10 → o1 k = mxF (fun q => gn1 w (nI q) (nI k)) 10 ∧ o2 k = mxF (fun q => gn2 w (nI k) (nI q)) 10) {s : Nat × Int32} (hs : s.1 ≤ 10 * k) : ∀ (n j : Nat) (M0 M : Mm) (P : Option Value → Mm → Prop), aRt M b (w, o1, o2, nI (rsI w k j s).1, (rsI w k j s).2) → Fr b 3 M0 M → j + n = 10 → (∀ L2 M', aRt M' b (w, o1, o2, nI (rsI w k 10 s).1, (rsI w k 10 s).2) → Fr b 3 M0 M' → Ev ad 4 (rX6_findRests ad) (43, [some (.ref b), some (.int (nI k)), L2], [], M') P) → Ev ad 4 (rX6_findRests ad) (25, [some (.ref b), some (.int (nI k)), some (.int (nI j))], [], M) P := by
  intro n
  induction n with
  | zero =>
    intro j M0 M P hb hF hn hk
    have e9 : j = 10 := by omega
    subst e9
    repeat (refine ng 43 rfl ?_; first | refine es rfl rfl rfl ?_ | refine eg rfl (by assumption) rfl ?_ | refine ean rfl (by assumption) (by assumption) rfl ?_ | refine eal rfl (by assumption) (by assumption) rfl ?_ | refine eri rfl ?_ | refine erv rfl ?_ | refine erl rfl ?_ | refine era rfl ?_ | refine erz0 rfl ?_ | refine erz1 rfl ?_)
    try dsimp only [set1, set2, kilP, List.set_cons_zero, List.set_cons_succ, List.getElem?_cons_zero, List.getElem?_cons_succ, List.nil_append, List.cons_append, Option.toList_some, Option.toList_none]
    exact hk _ M hb hF
  | succ n ih =>
    intro j M0 M P hb hF hn hk'
    have h0 := hb.1
    have hj : j < 10 := by omega
    have hle := rsI_le w k j s
    repeat (first | refine es rfl rfl rfl ?_ | refine eg rfl (by assumption) rfl ?_ | refine ean rfl (by assumption) (by assumption) rfl ?_ | refine eal rfl (by assumption) (by assumption) rfl ?_ | refine eri rfl ?_ | refine erv rfl ?_ | refine erl rfl ?_ | refine era rfl ?_ | refine erz0 rfl ?_ | refine erz1 rfl ?_)
    try dsimp only [set1, set2, kilP, List.set_cons_zero, List.set_cons_succ, List.getElem?_cons_zero, List.getElem?_cons_succ, List.nil_append, List.cons_append, Option.toList_some, Option.toList_none]
    refine ei _ rfl rfl (fun c => ?_) (fun c => ?_)
    · exact absurd c (nI_ge (b := 10) (by omega) (by omega))
    · repeat (first | refine es rfl rfl rfl ?_ | refine eg rfl (by assumption) rfl ?_ | refine ean rfl (by assumption) (by assumption) rfl ?_ | refine eal rfl (by assumption) (by assumption) rfl ?_ | refine eri rfl ?_ | refine erv rfl ?_ | refine erl rfl ?_ | refine era rfl ?_ | refine erz0 rfl ?_ | refine erz1 rfl ?_)
      try dsimp only [set1, set2, kilP, List.set_cons_zero, List.set_cons_succ, List.getElem?_cons_zero, List.getElem?_cons_succ, List.nil_append, List.cons_append, Option.toList_some, Option.toList_none]
      refine ecv rfl rfl (by assumption) rfl rfl rfl (e6_note hk hj (by omega) hb (ho j hj).1 (ho k hk).2) (by first | rfl | exact Nat.blt_eq.mpr (by omega)) ?_
      rintro v M2 ⟨rfl, hb2, hF2⟩
      try dsimp only [set1, set2, kilP, List.set_cons_zero, List.set_cons_succ, List.getElem?_cons_zero, List.getElem?_cons_succ, List.nil_append, List.cons_append, Option.toList_some, Option.toList_none]
      repeat (refine ng 25 rfl ?_; first | refine es rfl rfl rfl ?_ | refine eg rfl (by assumption) rfl ?_ | refine ean rfl (by assumption) (by assumption) rfl ?_ | refine eal rfl (by assumption) (by assumption) rfl ?_ | refine eri rfl ?_ | refine erv rfl ?_ | refine erl rfl ?_ | refine era rfl ?_ | refine erz0 rfl ?_ | refine erz1 rfl ?_)
      try dsimp only [set1, set2, kilP, List.set_cons_zero, List.set_cons_succ, List.getElem?_cons_zero, List.getElem?_cons_succ, List.nil_append, List.cons_append, Option.toList_some, Option.toList_none]
      rw [nI_1]
      exact ih (j + 1) M0 M2 P hb2 (hF.tr hF2 (by omega) (by omega)) (by omega) hk'
theorem e6_rest_loop {ad : Nat → Nat} {b : Nat} {w : Rw} {o1 o2 : Nat → Int32} (ho : ∀ k, k < 10 → o1 k = mxF (fun q => gn1 w (nI q) (nI k)) 10 ∧ o2 k = mxF (fun q => gn2 w (nI k) (nI q)) 10) : ∀ (n k : Nat) (M0 M : Mm) (L2 : Option Value), aRt M b (w, o1, o2, nI (rsO w k (0, -2)).1, (rsO w k (0, -2)).2) → Fr b 3 M0 M → k + n = 10 → Ev ad 4 (rX6_findRests ad) (17, [some (.ref b), some (.int (nI k)), L2], [], M) (fun v' M' => v' = none ∧ aRt M' b (w, o1, o2, nI (rsO w 10 (0, -2)).1, (rsO w 10 (0, -2)).2) ∧ Fr b 3 M0 M') := by
  intro n
  induction n with
  | zero =>
    intro k M0 M L2 hb hF hn
    have e9 : k = 10 := by omega
    subst e9
    repeat (first | refine es rfl rfl rfl ?_ | refine eg rfl (by assumption) rfl ?_ | refine ean rfl (by assumption) (by assumption) rfl ?_ | refine eal rfl (by assumption) (by assumption) rfl ?_ | refine eri rfl ?_ | refine erv rfl ?_ | refine erl rfl ?_ | refine era rfl ?_ | refine erz0 rfl ?_ | refine erz1 rfl ?_)
    try dsimp only [set1, set2, kilP, List.set_cons_zero, List.set_cons_succ, List.getElem?_cons_zero, List.getElem?_cons_succ, List.nil_append, List.cons_append, Option.toList_some, Option.toList_none]
    exact ⟨rfl, hb, hF⟩
  | succ n ih =>
    intro k M0 M L2 hb hF hn
    have hk : k < 10 := by omega
    have hle := rsO_le w k (0, -2)
    repeat (first | refine es rfl rfl rfl ?_ | refine eg rfl (by assumption) rfl ?_ | refine ean rfl (by assumption) (by assumption) rfl ?_ | refine eal rfl (by assumption) (by assumption) rfl ?_ | refine eri rfl ?_ | refine erv rfl ?_ | refine erl rfl ?_ | refine era rfl ?_ | refine erz0 rfl ?_ | refine erz1 rfl ?_)
    try dsimp only [set1, set2, kilP, List.set_cons_zero, List.set_cons_succ, List.getElem?_cons_zero, List.getElem?_cons_succ, List.nil_append, List.cons_append, Option.toList_some, Option.toList_none]
    refine ei _ rfl rfl (fun c => ?_) (fun c => ?_)
    · exact absurd c (nI_ge (b := 10) (by omega) (by omega))
    · repeat (refine ng 25 rfl ?_; first | refine es rfl rfl rfl ?_ | refine eg rfl (by assumption) rfl ?_ | refine ean rfl (by assumption) (by assumption) rfl ?_ | refine eal rfl (by assumption) (by assumption) rfl ?_ | refine eri rfl ?_ | refine erv rfl ?_ | refine erl rfl ?_ | refine era rfl ?_ | refine erz0 rfl ?_ | refine erz1 rfl ?_)
      try dsimp only [set1, set2, kilP, List.set_cons_zero, List.set_cons_succ, List.getElem?_cons_zero, List.getElem?_cons_succ, List.nil_append, List.cons_append, Option.toList_some, Option.toList_none]
      refine e6_rest_in hk ho (s := rsO w k (0, -2)) (by simpa using hle) 10 0 M0 M _ hb hF rfl (fun L2 M4 hb4 hF4 => ?_)
      repeat (refine ng 17 rfl ?_; first | refine es rfl rfl rfl ?_ | refine eg rfl (by assumption) rfl ?_ | refine ean rfl (by assumption) (by assumption) rfl ?_ | refine eal rfl (by assumption) (by assumption) rfl ?_ | refine eri rfl ?_ | refine erv rfl ?_ | refine erl rfl ?_ | refine era rfl ?_ | refine erz0 rfl ?_ | refine erz1 rfl ?_)
      try dsimp only [set1, set2, kilP, List.set_cons_zero, List.set_cons_succ, List.getElem?_cons_zero, List.getElem?_cons_succ, List.nil_append, List.cons_append, Option.toList_some, Option.toList_none]
      rw [nI_1]
      exact ih (k + 1) M0 M4 _ hb4 hF4 (by omega)
theorem e6_rests {ad : Nat → Nat} {M : Mm} {b : Nat} {r : Rt} (hb : aRt M b r) : EvM ad 4 (iX6_findRests ad) [.ref b] M (fun v' M' => v' = none ∧ (∃ o1 o2, aRt M' b (r.1, o1, o2, nI (rsO r.1 10 (0, -2)).1, (rsO r.1 10 (0, -2)).2)) ∧ Fr b 3 M M') := by
  have h0 := hb.1
  refine ⟨Nat.le_of_ble_eq_true rfl, ?_⟩
  show Ev ad _ (rX6_findRests ad) (0, [some (.ref b), none, none], [], M) _
  repeat (first | refine es rfl rfl rfl ?_ | refine eg rfl (by assumption) rfl ?_ | refine ean rfl (by assumption) (by assumption) rfl ?_ | refine eal rfl (by assumption) (by assumption) rfl ?_ | refine eri rfl ?_ | refine erv rfl ?_ | refine erl rfl ?_ | refine era rfl ?_ | refine erz0 rfl ?_ | refine erz1 rfl ?_)
  try dsimp only [set1, set2, kilP, List.set_cons_zero, List.set_cons_succ, List.getElem?_cons_zero, List.getElem?_cons_succ, List.nil_append, List.cons_append, Option.toList_some, Option.toList_none]
  refine ecv rfl rfl (by assumption) rfl rfl rfl (e6_best hb) (by first | rfl | exact Nat.blt_eq.mpr (by omega)) ?_
  rintro v M2 ⟨rfl, ⟨o1, o2, ho, h0, h1, h2⟩, hF⟩
  try dsimp only [set1, set2, kilP, List.set_cons_zero, List.set_cons_succ, List.getElem?_cons_zero, List.getElem?_cons_succ, List.nil_append, List.cons_append, Option.toList_some, Option.toList_none]
  repeat (first | refine es rfl rfl rfl ?_ | refine eg rfl (by assumption) rfl ?_ | refine ean rfl (by assumption) (by assumption) rfl ?_ | refine eal rfl (by assumption) (by assumption) rfl ?_ | refine eri rfl ?_ | refine erv rfl ?_ | refine erl rfl ?_ | refine era rfl ?_ | refine erz0 rfl ?_ | refine erz1 rfl ?_)
  try dsimp only [set1, set2, kilP, List.set_cons_zero, List.set_cons_succ, List.getElem?_cons_zero, List.getElem?_cons_succ, List.nil_append, List.cons_append, Option.toList_some, Option.toList_none]
  refine epM rfl (by assumption) rfl rfl rfl (fun M3 eM3 => ?_)
  have k0 := up_w eM3
  replace h1 := up_k eM3 h1 (by omega)
  replace h2 := up_k eM3 h2 (by omega)
  replace hF := hF.up eM3 (by omega) (by omega)
  repeat (first | refine es rfl rfl rfl ?_ | refine eg rfl (by assumption) rfl ?_ | refine ean rfl (by assumption) (by assumption) rfl ?_ | refine eal rfl (by assumption) (by assumption) rfl ?_ | refine eri rfl ?_ | refine erv rfl ?_ | refine erl rfl ?_ | refine era rfl ?_ | refine erz0 rfl ?_ | refine erz1 rfl ?_)
  try dsimp only [set1, set2, kilP, List.set_cons_zero, List.set_cons_succ, List.getElem?_cons_zero, List.getElem?_cons_succ, List.nil_append, List.cons_append, Option.toList_some, Option.toList_none]
  refine epM rfl (by assumption) rfl rfl rfl (fun M4 eM4 => ?_)
  have k1 := up_w eM4
  replace h1 := up_k eM4 h1 (by omega)
  replace h2 := up_k eM4 h2 (by omega)
  replace hF := hF.up eM4 (by omega) (by omega)
  repeat (refine ng 17 rfl ?_; first | refine es rfl rfl rfl ?_ | refine eg rfl (by assumption) rfl ?_ | refine ean rfl (by assumption) (by assumption) rfl ?_ | refine eal rfl (by assumption) (by assumption) rfl ?_ | refine eri rfl ?_ | refine erv rfl ?_ | refine erl rfl ?_ | refine era rfl ?_ | refine erz0 rfl ?_ | refine erz1 rfl ?_)
  try dsimp only [set1, set2, kilP, List.set_cons_zero, List.set_cons_succ, List.getElem?_cons_zero, List.getElem?_cons_succ, List.nil_append, List.cons_append, Option.toList_some, Option.toList_none]
  exact (e6_rest_loop ho 10 0 M M4 _ ⟨k1, h1, h2⟩ hF rfl).im (fun v M1 q => ⟨q.1, ⟨o1, o2, q.2.1⟩, q.2.2⟩)
noncomputable def wthF (f : Nat → Int32) (ro : Nat → Int32) (h : Nat) : Int32 := ro h + (if mutB f h then 2 else 0)
noncomputable def rwF (f : Nat → Int32) (t : Tw) (h g : Nat) : Rw := (wthF f t.hs.ro h, wthF f t.hs.ro g, t.hs.ro h + t.hs.ro g, nI t.lk)
theorem e6_between {ad : Nat → Nat} {M : Mm} {b tb nb h g : Nat} {r : Rt} {t : Tw} {f : Nat → Int32} (hb : aRt M b r) (ht : aTw M tb t) (hw : aNw M nb f) (hf : okR f) (hh : h < 7) (hg : g < 7) (d1 : tb + 22 ≤ b ∨ b + 3 ≤ tb) (d2 : nb + 2 ≤ b ∨ b + 3 ≤ nb) : EvM ad 1 (iX6_between ad) [.ref b, .ref tb, .ref nb, .int (nI h), .int (nI g)] M (fun v' M' => v' = none ∧ aRt M' b (rwF f t h g, r.2) ∧ Fr b 3 M M') := by
  obtain ⟨h0, h1, h2⟩ := hb
  have hF := Fr.rf b 3 M
  obtain ⟨⟨t0, -, -, -⟩, ⟨u0, -, u2, -⟩, -, -⟩ := id ht
  obtain ⟨w0, w1⟩ := id hw
  refine ⟨Nat.le_of_ble_eq_true rfl, ?_⟩
  show Ev ad _ (rX6_between ad) (0, [some (.ref b), some (.ref tb), some (.ref nb), some (.int (nI h)), some (.int (nI g))], [], M) _
  repeat (first | refine es rfl rfl rfl ?_ | refine eg rfl (by assumption) rfl ?_ | refine ean rfl (by assumption) (by assumption) rfl ?_ | refine eal rfl (by assumption) (by assumption) rfl ?_ | refine eri rfl ?_ | refine erv rfl ?_ | refine erl rfl ?_ | refine era rfl ?_ | refine erz0 rfl ?_ | refine erz1 rfl ?_)
  try dsimp only [set1, set2, kilP, List.set_cons_zero, List.set_cons_succ, List.getElem?_cons_zero, List.getElem?_cons_succ, List.nil_append, List.cons_append, Option.toList_some, Option.toList_none]
  refine epM rfl (by assumption) rfl rfl rfl (fun M2 eM => ?_)
  have k0 := up_w eM
  replace h1 := up_k eM h1 (by omega)
  replace h2 := up_k eM h2 (by omega)
  replace t0 := up_k eM t0 (by omega)
  replace u0 := up_k eM u0 (by omega)
  replace u2 := up_k eM u2 (by omega)
  replace w0 := up_k eM w0 (by omega)
  replace w1 := up_k eM w1 (by omega)
  replace hF := hF.up eM (by omega) (by omega)
  repeat (first | refine es rfl rfl rfl ?_ | refine eg rfl (by assumption) rfl ?_ | refine ean rfl (by assumption) (by assumption) rfl ?_ | refine eal rfl (by assumption) (by assumption) rfl ?_ | refine eri rfl ?_ | refine erv rfl ?_ | refine erl rfl ?_ | refine era rfl ?_ | refine erz0 rfl ?_ | refine erz1 rfl ?_)
  try dsimp only [set1, set2, kilP, List.set_cons_zero, List.set_cons_succ, List.getElem?_cons_zero, List.getElem?_cons_succ, List.nil_append, List.cons_append, Option.toList_some, Option.toList_none]
  refine epM rfl (by assumption) rfl rfl rfl (fun M3 eM3 => ?_)
  have k1 := up_w eM3
  replace h1 := up_k eM3 h1 (by omega)
  replace h2 := up_k eM3 h2 (by omega)
  replace t0 := up_k eM3 t0 (by omega)
  replace u0 := up_k eM3 u0 (by omega)
  replace u2 := up_k eM3 u2 (by omega)
  replace w0 := up_k eM3 w0 (by omega)
  replace w1 := up_k eM3 w1 (by omega)
  replace hF := hF.up eM3 (by omega) (by omega)
  repeat (first | refine es rfl rfl rfl ?_ | refine eg rfl (by assumption) rfl ?_ | refine ean rfl (by assumption) (by assumption) rfl ?_ | refine eal rfl (by assumption) (by assumption) rfl ?_ | refine eri rfl ?_ | refine erv rfl ?_ | refine erl rfl ?_ | refine era rfl ?_ | refine erz0 rfl ?_ | refine erz1 rfl ?_)
  try dsimp only [set1, set2, kilP, List.set_cons_zero, List.set_cons_succ, List.getElem?_cons_zero, List.getElem?_cons_succ, List.nil_append, List.cons_append, Option.toList_some, Option.toList_none]
  refine ecr rfl rfl (by assumption) rfl rfl rfl (e3_isMutual ⟨w0, w1⟩ hf hh) (by first | rfl | exact Nat.blt_eq.mpr (by omega)) rfl ?_
  cases hm : mutB f h
  all_goals
    repeat (first | refine es rfl rfl rfl ?_ | refine eg rfl (by assumption) rfl ?_ | refine ean rfl (by assumption) (by assumption) rfl ?_ | refine eal rfl (by assumption) (by assumption) rfl ?_ | refine eri rfl ?_ | refine erv rfl ?_ | refine erl rfl ?_ | refine era rfl ?_ | refine erz0 rfl ?_ | refine erz1 rfl ?_)
    try dsimp only [set1, set2, kilP, List.set_cons_zero, List.set_cons_succ, List.getElem?_cons_zero, List.getElem?_cons_succ, List.nil_append, List.cons_append, Option.toList_some, Option.toList_none]
    refine epM rfl (by assumption) rfl rfl rfl (fun M4 eM4 => ?_)
    have k2 := up_w eM4
    replace h1 := up_k eM4 h1 (by omega)
    replace h2 := up_k eM4 h2 (by omega)
    replace t0 := up_k eM4 t0 (by omega)
    replace u0 := up_k eM4 u0 (by omega)
    replace u2 := up_k eM4 u2 (by omega)
    replace w0 := up_k eM4 w0 (by omega)
    replace w1 := up_k eM4 w1 (by omega)
    replace hF := hF.up eM4 (by omega) (by omega)
    repeat (first | refine es rfl rfl rfl ?_ | refine eg rfl (by assumption) rfl ?_ | refine ean rfl (by assumption) (by assumption) rfl ?_ | refine eal rfl (by assumption) (by assumption) rfl ?_ | refine eri rfl ?_ | refine erv rfl ?_ | refine erl rfl ?_ | refine era rfl ?_ | refine erz0 rfl ?_ | refine erz1 rfl ?_)
    try dsimp only [set1, set2, kilP, List.set_cons_zero, List.set_cons_succ, List.getElem?_cons_zero, List.getElem?_cons_succ, List.nil_append, List.cons_append, Option.toList_some, Option.toList_none]
    refine ecr rfl rfl (by assumption) rfl rfl rfl (e3_isMutual ⟨w0, w1⟩ hf hg) (by first | rfl | exact Nat.blt_eq.mpr (by omega)) rfl ?_
    cases hm2 : mutB f g
  all_goals
    repeat (first | refine es rfl rfl rfl ?_ | refine eg rfl (by assumption) rfl ?_ | refine ean rfl (by assumption) (by assumption) rfl ?_ | refine eal rfl (by assumption) (by assumption) rfl ?_ | refine eri rfl ?_ | refine erv rfl ?_ | refine erl rfl ?_ | refine era rfl ?_ | refine erz0 rfl ?_ | refine erz1 rfl ?_)
    try dsimp only [set1, set2, kilP, List.set_cons_zero, List.set_cons_succ, List.getElem?_cons_zero, List.getElem?_cons_succ, List.nil_append, List.cons_append, Option.toList_some, Option.toList_none]
    refine epM rfl (by assumption) rfl rfl rfl (fun M5 eM5 => ?_)
    have k3 := up_w eM5
    replace h1 := up_k eM5 h1 (by omega)
    replace h2 := up_k eM5 h2 (by omega)
    replace hF := hF.up eM5 (by omega) (by omega)
    repeat (first | refine es rfl rfl rfl ?_ | refine eg rfl (by assumption) rfl ?_ | refine ean rfl (by assumption) (by assumption) rfl ?_ | refine eal rfl (by assumption) (by assumption) rfl ?_ | refine eri rfl ?_ | refine erv rfl ?_ | refine erl rfl ?_ | refine era rfl ?_ | refine erz0 rfl ?_ | refine erz1 rfl ?_)
    try dsimp only [set1, set2, kilP, List.set_cons_zero, List.set_cons_succ, List.getElem?_cons_zero, List.getElem?_cons_succ, List.nil_append, List.cons_append, Option.toList_some, Option.toList_none]
    refine ⟨rfl, ⟨?_, h1, h2⟩, hF⟩
    rw [k3]
    unfold rwF wthF
    rw [hm, hm2]
    rfl
