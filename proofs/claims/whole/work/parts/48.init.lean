/-! Constructors -/
theorem enaM {ad : Nat → Nat} {d : Nat} {rows : List (Nat × Ins)} {P : Option Value → Mm → Prop} {pc : Nat} {L : Lc} {st : List Value} {M : Mm} {t nx n : Nat} (hr : rows.find? (fun q => q.1 == pc) = some (pc, pmW (fNwa t nx))) (hn : Nat.ble n 60000 = true) (kk : ∀ M2, M2 = mkc M n (.inl (t, n, if t = 1 then .inr (fun _ => 0) else .inl (fun _ => 0))) → Ev ad d rows (nx, L, .ref M.2.1 :: st, M2) P) : Ev ad d rows (pc, L, .int (nI n) :: st, M) P := ena hr hn (kk _ rfl)
theorem enwM {ad : Nat → Nat} {d : Nat} {rows : List (Nat × Ins)} {P : Option Value → Mm → Prop} {pc : Nat} {L : Lc} {st : List Value} {M : Mm} {ci N nx : Nat} {fs : List Value} (hr : rows.find? (fun q => q.1 == pc) = some (pc, pmW (fNew ci N nx fs))) (kk : ∀ M2, M2 = mkc M N (.inr (ci, fs)) → Ev ad d rows (nx, L, .ref M.2.1 :: st, M2) P) : Ev ad d rows (pc, L, st, M) P := enw hr (kk _ rfl)
theorem mk_k {M M2 : Mm} {n b : Nat} {x : Ce} {y : Option Ce} (e : M2 = mkc M n x) (h : M.1 b = y) (hb : b < M.2.1) : M2.1 b = y := by
  rw [e]
  show (if b = M.2.1 then some x else M.1 b) = y
  rw [if_neg (by omega)]
  exact h
theorem mk_w {M M2 : Mm} {n a : Nat} {x : Ce} (e : M2 = mkc M n x) (ha : M.2.1 = a) : M2.1 a = some x := by
  rw [e]
  show (if a = M.2.1 then some x else M.1 a) = some x
  rw [if_pos ha.symm]
/-- i cells of s slots are made above the object at a -/
def Gw (a i s : Nat) (M0 M : Mm) : Prop := (∀ q, q < a → M.1 q = M0.1 q) ∧ M.2 = (a + 1 + i, M0.2.2.1 + i, M0.2.2.2 + s)
theorem Gw.rf {a : Nat} {M : Mm} (h : M.2.1 = a + 1) : Gw a 0 0 M M := ⟨fun _ _ => rfl, Prod.ext h rfl⟩
theorem Gw.n {a i s : Nat} {M0 M : Mm} (h : Gw a i s M0 M) : M.2.1 = a + 1 + i := by rw [h.2]
theorem Gw.mk {a i s n : Nat} {M0 M M2 : Mm} {x : Ce} (h : Gw a i s M0 M) (e : M2 = mkc M n x) : Gw a (i + 1) (s + n) M0 M2 := by
  have hn := h.n
  subst e
  refine ⟨fun q hq => ?_, ?_⟩
  · show (if q = M.2.1 then some x else M.1 q) = _
    rw [if_neg (by omega)]
    exact h.1 q hq
  · show (M.2.1 + 1, M.2.2.1 + 1, M.2.2.2 + n) = _
    rw [h.2]
    exact Prod.ext (by dsimp only; omega) (Prod.ext (by dsimp only; omega) (by dsimp only; omega))
theorem Gw.up {a i s y : Nat} {M0 M M2 : Mm} {x : Ce} (h : Gw a i s M0 M) (e : M2 = (fun b => if b = y then some x else M.1 b, M.2)) (hy : a ≤ y) : Gw a i s M0 M2 := by
  subst e
  refine ⟨fun q hq => ?_, h.2⟩
  show (if q = y then some x else M.1 q) = _
  rw [if_neg (by omega)]
  exact h.1 q hq
theorem Gw.sub {a a2 i s k s2 : Nat} {M0 M M2 : Mm} (h : Gw a (i + 1) s M0 M) (h2 : Gw a2 k s2 M M2) (ha : a2 = a + 1 + i) : Gw a (i + 1 + k) (s + s2) M0 M2 := by
  subst ha
  refine ⟨fun q hq => (h2.1 q (by omega)).trans (h.1 q hq), ?_⟩
  rw [h2.2, h.2]
  refine Prod.ext (by show _ = _; dsimp only; omega) (Prod.ext (by dsimp only; omega) (by dsimp only; omega))
abbrev Z3 : Nat → Int32 := fun _ => 0
abbrev Z6 : Nat → Int64 := fun _ => 0
theorem i_X2 {ad : Nat → Nat} {M : Mm} {a : Nat} (h0 : M.1 a = some (.inr (2, [.int 0, .null, .null, .null, .null, .null, .null, .null, .null]))) (e1 : M.2.1 = a + 1) : EvM ad 0 (iX2_init ad) [.ref a] M (fun v' M' => v' = none ∧ aHs M' a (0, Z6, Z3, Z3, Z3, Z6, Z3, Z3, Z3) ∧ Gw a 8 56 M M') := by
  have hG := Gw.rf e1
  refine ⟨Nat.le_of_ble_eq_true rfl, ?_⟩
  show Ev ad _ (rX2_init ad) (0, [some (.ref a)], [], M) _
  repeat (first | refine es rfl rfl rfl ?_ | refine eg rfl (by assumption) rfl ?_ | refine ean rfl (by assumption) (by assumption) rfl ?_ | refine eal rfl (by assumption) (by assumption) rfl ?_ | refine eri rfl ?_ | refine erv rfl ?_ | refine erl rfl ?_ | refine era rfl ?_ | refine erz0 rfl ?_ | refine erz1 rfl ?_)
  try dsimp only [set1, set2, kilP, List.set_cons_zero, List.set_cons_succ, List.getElem?_cons_zero, List.getElem?_cons_succ, List.nil_append, List.cons_append, Option.toList_some, Option.toList_none]
  refine epM rfl h0 rfl rfl rfl (fun M1 eM1 => ?_)
  replace h0 := up_w eM1
  replace hG := hG.up eM1 (by omega)
  repeat (first | refine es rfl rfl rfl ?_ | refine eg rfl (by assumption) rfl ?_ | refine ean rfl (by assumption) (by assumption) rfl ?_ | refine eal rfl (by assumption) (by assumption) rfl ?_ | refine eri rfl ?_ | refine erv rfl ?_ | refine erl rfl ?_ | refine era rfl ?_ | refine erz0 rfl ?_ | refine erz1 rfl ?_)
  try dsimp only [set1, set2, kilP, List.set_cons_zero, List.set_cons_succ, List.getElem?_cons_zero, List.getElem?_cons_succ, List.nil_append, List.cons_append, Option.toList_some, Option.toList_none]
  refine enaM (n := 7) rfl rfl (fun M2 eM2 => ?_)
  rw [show M1.2.1 = a + 1 + 0 from hG.n]
  have k1 : M2.1 (a + 1 + 0) = some (.inl (1, 7, .inr Z6)) := mk_w eM2 hG.n
  replace h0 := mk_k eM2 h0 (by have := hG.n; omega)
  replace hG := hG.mk eM2
  repeat (first | refine es rfl rfl rfl ?_ | refine eg rfl (by assumption) rfl ?_ | refine ean rfl (by assumption) (by assumption) rfl ?_ | refine eal rfl (by assumption) (by assumption) rfl ?_ | refine eri rfl ?_ | refine erv rfl ?_ | refine erl rfl ?_ | refine era rfl ?_ | refine erz0 rfl ?_ | refine erz1 rfl ?_)
  try dsimp only [set1, set2, kilP, List.set_cons_zero, List.set_cons_succ, List.getElem?_cons_zero, List.getElem?_cons_succ, List.nil_append, List.cons_append, Option.toList_some, Option.toList_none]
  refine epM rfl h0 rfl rfl rfl (fun M3 eM3 => ?_)
  replace h0 := up_w eM3
  replace k1 := up_k eM3 k1 (by omega)
  replace hG := hG.up eM3 (by omega)
  repeat (first | refine es rfl rfl rfl ?_ | refine eg rfl (by assumption) rfl ?_ | refine ean rfl (by assumption) (by assumption) rfl ?_ | refine eal rfl (by assumption) (by assumption) rfl ?_ | refine eri rfl ?_ | refine erv rfl ?_ | refine erl rfl ?_ | refine era rfl ?_ | refine erz0 rfl ?_ | refine erz1 rfl ?_)
  try dsimp only [set1, set2, kilP, List.set_cons_zero, List.set_cons_succ, List.getElem?_cons_zero, List.getElem?_cons_succ, List.nil_append, List.cons_append, Option.toList_some, Option.toList_none]
  refine enaM (n := 7) rfl rfl (fun M4 eM4 => ?_)
  rw [show M3.2.1 = a + 1 + 1 from hG.n]
  have k2 : M4.1 (a + 1 + 1) = some (.inl (0, 7, .inl Z3)) := mk_w eM4 hG.n
  replace h0 := mk_k eM4 h0 (by have := hG.n; omega)
  replace k1 := mk_k eM4 k1 (by have := hG.n; omega)
  replace hG := hG.mk eM4
  repeat (first | refine es rfl rfl rfl ?_ | refine eg rfl (by assumption) rfl ?_ | refine ean rfl (by assumption) (by assumption) rfl ?_ | refine eal rfl (by assumption) (by assumption) rfl ?_ | refine eri rfl ?_ | refine erv rfl ?_ | refine erl rfl ?_ | refine era rfl ?_ | refine erz0 rfl ?_ | refine erz1 rfl ?_)
  try dsimp only [set1, set2, kilP, List.set_cons_zero, List.set_cons_succ, List.getElem?_cons_zero, List.getElem?_cons_succ, List.nil_append, List.cons_append, Option.toList_some, Option.toList_none]
  refine epM rfl h0 rfl rfl rfl (fun M5 eM5 => ?_)
  replace h0 := up_w eM5
  replace k1 := up_k eM5 k1 (by omega)
  replace k2 := up_k eM5 k2 (by omega)
  replace hG := hG.up eM5 (by omega)
  repeat (first | refine es rfl rfl rfl ?_ | refine eg rfl (by assumption) rfl ?_ | refine ean rfl (by assumption) (by assumption) rfl ?_ | refine eal rfl (by assumption) (by assumption) rfl ?_ | refine eri rfl ?_ | refine erv rfl ?_ | refine erl rfl ?_ | refine era rfl ?_ | refine erz0 rfl ?_ | refine erz1 rfl ?_)
  try dsimp only [set1, set2, kilP, List.set_cons_zero, List.set_cons_succ, List.getElem?_cons_zero, List.getElem?_cons_succ, List.nil_append, List.cons_append, Option.toList_some, Option.toList_none]
  refine enaM (n := 7) rfl rfl (fun M6 eM6 => ?_)
  rw [show M5.2.1 = a + 1 + 2 from hG.n]
  have k3 : M6.1 (a + 1 + 2) = some (.inl (0, 7, .inl Z3)) := mk_w eM6 hG.n
  replace h0 := mk_k eM6 h0 (by have := hG.n; omega)
  replace k1 := mk_k eM6 k1 (by have := hG.n; omega)
  replace k2 := mk_k eM6 k2 (by have := hG.n; omega)
  replace hG := hG.mk eM6
  repeat (first | refine es rfl rfl rfl ?_ | refine eg rfl (by assumption) rfl ?_ | refine ean rfl (by assumption) (by assumption) rfl ?_ | refine eal rfl (by assumption) (by assumption) rfl ?_ | refine eri rfl ?_ | refine erv rfl ?_ | refine erl rfl ?_ | refine era rfl ?_ | refine erz0 rfl ?_ | refine erz1 rfl ?_)
  try dsimp only [set1, set2, kilP, List.set_cons_zero, List.set_cons_succ, List.getElem?_cons_zero, List.getElem?_cons_succ, List.nil_append, List.cons_append, Option.toList_some, Option.toList_none]
  refine epM rfl h0 rfl rfl rfl (fun M7 eM7 => ?_)
  replace h0 := up_w eM7
  replace k1 := up_k eM7 k1 (by omega)
  replace k2 := up_k eM7 k2 (by omega)
  replace k3 := up_k eM7 k3 (by omega)
  replace hG := hG.up eM7 (by omega)
  repeat (first | refine es rfl rfl rfl ?_ | refine eg rfl (by assumption) rfl ?_ | refine ean rfl (by assumption) (by assumption) rfl ?_ | refine eal rfl (by assumption) (by assumption) rfl ?_ | refine eri rfl ?_ | refine erv rfl ?_ | refine erl rfl ?_ | refine era rfl ?_ | refine erz0 rfl ?_ | refine erz1 rfl ?_)
  try dsimp only [set1, set2, kilP, List.set_cons_zero, List.set_cons_succ, List.getElem?_cons_zero, List.getElem?_cons_succ, List.nil_append, List.cons_append, Option.toList_some, Option.toList_none]
  refine enaM (n := 7) rfl rfl (fun M8 eM8 => ?_)
  rw [show M7.2.1 = a + 1 + 3 from hG.n]
  have k4 : M8.1 (a + 1 + 3) = some (.inl (0, 7, .inl Z3)) := mk_w eM8 hG.n
  replace h0 := mk_k eM8 h0 (by have := hG.n; omega)
  replace k1 := mk_k eM8 k1 (by have := hG.n; omega)
  replace k2 := mk_k eM8 k2 (by have := hG.n; omega)
  replace k3 := mk_k eM8 k3 (by have := hG.n; omega)
  replace hG := hG.mk eM8
  repeat (first | refine es rfl rfl rfl ?_ | refine eg rfl (by assumption) rfl ?_ | refine ean rfl (by assumption) (by assumption) rfl ?_ | refine eal rfl (by assumption) (by assumption) rfl ?_ | refine eri rfl ?_ | refine erv rfl ?_ | refine erl rfl ?_ | refine era rfl ?_ | refine erz0 rfl ?_ | refine erz1 rfl ?_)
  try dsimp only [set1, set2, kilP, List.set_cons_zero, List.set_cons_succ, List.getElem?_cons_zero, List.getElem?_cons_succ, List.nil_append, List.cons_append, Option.toList_some, Option.toList_none]
  refine epM rfl h0 rfl rfl rfl (fun M9 eM9 => ?_)
  replace h0 := up_w eM9
  replace k1 := up_k eM9 k1 (by omega)
  replace k2 := up_k eM9 k2 (by omega)
  replace k3 := up_k eM9 k3 (by omega)
  replace k4 := up_k eM9 k4 (by omega)
  replace hG := hG.up eM9 (by omega)
  repeat (first | refine es rfl rfl rfl ?_ | refine eg rfl (by assumption) rfl ?_ | refine ean rfl (by assumption) (by assumption) rfl ?_ | refine eal rfl (by assumption) (by assumption) rfl ?_ | refine eri rfl ?_ | refine erv rfl ?_ | refine erl rfl ?_ | refine era rfl ?_ | refine erz0 rfl ?_ | refine erz1 rfl ?_)
  try dsimp only [set1, set2, kilP, List.set_cons_zero, List.set_cons_succ, List.getElem?_cons_zero, List.getElem?_cons_succ, List.nil_append, List.cons_append, Option.toList_some, Option.toList_none]
  refine enaM (n := 7) rfl rfl (fun M10 eM10 => ?_)
  rw [show M9.2.1 = a + 1 + 4 from hG.n]
  have k5 : M10.1 (a + 1 + 4) = some (.inl (1, 7, .inr Z6)) := mk_w eM10 hG.n
  replace h0 := mk_k eM10 h0 (by have := hG.n; omega)
  replace k1 := mk_k eM10 k1 (by have := hG.n; omega)
  replace k2 := mk_k eM10 k2 (by have := hG.n; omega)
  replace k3 := mk_k eM10 k3 (by have := hG.n; omega)
  replace k4 := mk_k eM10 k4 (by have := hG.n; omega)
  replace hG := hG.mk eM10
  repeat (first | refine es rfl rfl rfl ?_ | refine eg rfl (by assumption) rfl ?_ | refine ean rfl (by assumption) (by assumption) rfl ?_ | refine eal rfl (by assumption) (by assumption) rfl ?_ | refine eri rfl ?_ | refine erv rfl ?_ | refine erl rfl ?_ | refine era rfl ?_ | refine erz0 rfl ?_ | refine erz1 rfl ?_)
  try dsimp only [set1, set2, kilP, List.set_cons_zero, List.set_cons_succ, List.getElem?_cons_zero, List.getElem?_cons_succ, List.nil_append, List.cons_append, Option.toList_some, Option.toList_none]
  refine epM rfl h0 rfl rfl rfl (fun M11 eM11 => ?_)
  replace h0 := up_w eM11
  replace k1 := up_k eM11 k1 (by omega)
  replace k2 := up_k eM11 k2 (by omega)
  replace k3 := up_k eM11 k3 (by omega)
  replace k4 := up_k eM11 k4 (by omega)
  replace k5 := up_k eM11 k5 (by omega)
  replace hG := hG.up eM11 (by omega)
  repeat (first | refine es rfl rfl rfl ?_ | refine eg rfl (by assumption) rfl ?_ | refine ean rfl (by assumption) (by assumption) rfl ?_ | refine eal rfl (by assumption) (by assumption) rfl ?_ | refine eri rfl ?_ | refine erv rfl ?_ | refine erl rfl ?_ | refine era rfl ?_ | refine erz0 rfl ?_ | refine erz1 rfl ?_)
  try dsimp only [set1, set2, kilP, List.set_cons_zero, List.set_cons_succ, List.getElem?_cons_zero, List.getElem?_cons_succ, List.nil_append, List.cons_append, Option.toList_some, Option.toList_none]
  refine enaM (n := 7) rfl rfl (fun M12 eM12 => ?_)
  rw [show M11.2.1 = a + 1 + 5 from hG.n]
  have k6 : M12.1 (a + 1 + 5) = some (.inl (0, 7, .inl Z3)) := mk_w eM12 hG.n
  replace h0 := mk_k eM12 h0 (by have := hG.n; omega)
  replace k1 := mk_k eM12 k1 (by have := hG.n; omega)
  replace k2 := mk_k eM12 k2 (by have := hG.n; omega)
  replace k3 := mk_k eM12 k3 (by have := hG.n; omega)
  replace k4 := mk_k eM12 k4 (by have := hG.n; omega)
  replace k5 := mk_k eM12 k5 (by have := hG.n; omega)
  replace hG := hG.mk eM12
  repeat (first | refine es rfl rfl rfl ?_ | refine eg rfl (by assumption) rfl ?_ | refine ean rfl (by assumption) (by assumption) rfl ?_ | refine eal rfl (by assumption) (by assumption) rfl ?_ | refine eri rfl ?_ | refine erv rfl ?_ | refine erl rfl ?_ | refine era rfl ?_ | refine erz0 rfl ?_ | refine erz1 rfl ?_)
  try dsimp only [set1, set2, kilP, List.set_cons_zero, List.set_cons_succ, List.getElem?_cons_zero, List.getElem?_cons_succ, List.nil_append, List.cons_append, Option.toList_some, Option.toList_none]
  refine epM rfl h0 rfl rfl rfl (fun M13 eM13 => ?_)
  replace h0 := up_w eM13
  replace k1 := up_k eM13 k1 (by omega)
  replace k2 := up_k eM13 k2 (by omega)
  replace k3 := up_k eM13 k3 (by omega)
  replace k4 := up_k eM13 k4 (by omega)
  replace k5 := up_k eM13 k5 (by omega)
  replace k6 := up_k eM13 k6 (by omega)
  replace hG := hG.up eM13 (by omega)
  repeat (first | refine es rfl rfl rfl ?_ | refine eg rfl (by assumption) rfl ?_ | refine ean rfl (by assumption) (by assumption) rfl ?_ | refine eal rfl (by assumption) (by assumption) rfl ?_ | refine eri rfl ?_ | refine erv rfl ?_ | refine erl rfl ?_ | refine era rfl ?_ | refine erz0 rfl ?_ | refine erz1 rfl ?_)
  try dsimp only [set1, set2, kilP, List.set_cons_zero, List.set_cons_succ, List.getElem?_cons_zero, List.getElem?_cons_succ, List.nil_append, List.cons_append, Option.toList_some, Option.toList_none]
  refine enaM (n := 7) rfl rfl (fun M14 eM14 => ?_)
  rw [show M13.2.1 = a + 1 + 6 from hG.n]
  have k7 : M14.1 (a + 1 + 6) = some (.inl (0, 7, .inl Z3)) := mk_w eM14 hG.n
  replace h0 := mk_k eM14 h0 (by have := hG.n; omega)
  replace k1 := mk_k eM14 k1 (by have := hG.n; omega)
  replace k2 := mk_k eM14 k2 (by have := hG.n; omega)
  replace k3 := mk_k eM14 k3 (by have := hG.n; omega)
  replace k4 := mk_k eM14 k4 (by have := hG.n; omega)
  replace k5 := mk_k eM14 k5 (by have := hG.n; omega)
  replace k6 := mk_k eM14 k6 (by have := hG.n; omega)
  replace hG := hG.mk eM14
  repeat (first | refine es rfl rfl rfl ?_ | refine eg rfl (by assumption) rfl ?_ | refine ean rfl (by assumption) (by assumption) rfl ?_ | refine eal rfl (by assumption) (by assumption) rfl ?_ | refine eri rfl ?_ | refine erv rfl ?_ | refine erl rfl ?_ | refine era rfl ?_ | refine erz0 rfl ?_ | refine erz1 rfl ?_)
  try dsimp only [set1, set2, kilP, List.set_cons_zero, List.set_cons_succ, List.getElem?_cons_zero, List.getElem?_cons_succ, List.nil_append, List.cons_append, Option.toList_some, Option.toList_none]
  refine epM rfl h0 rfl rfl rfl (fun M15 eM15 => ?_)
  replace h0 := up_w eM15
  replace k1 := up_k eM15 k1 (by omega)
  replace k2 := up_k eM15 k2 (by omega)
  replace k3 := up_k eM15 k3 (by omega)
  replace k4 := up_k eM15 k4 (by omega)
  replace k5 := up_k eM15 k5 (by omega)
  replace k6 := up_k eM15 k6 (by omega)
  replace k7 := up_k eM15 k7 (by omega)
  replace hG := hG.up eM15 (by omega)
  repeat (first | refine es rfl rfl rfl ?_ | refine eg rfl (by assumption) rfl ?_ | refine ean rfl (by assumption) (by assumption) rfl ?_ | refine eal rfl (by assumption) (by assumption) rfl ?_ | refine eri rfl ?_ | refine erv rfl ?_ | refine erl rfl ?_ | refine era rfl ?_ | refine erz0 rfl ?_ | refine erz1 rfl ?_)
  try dsimp only [set1, set2, kilP, List.set_cons_zero, List.set_cons_succ, List.getElem?_cons_zero, List.getElem?_cons_succ, List.nil_append, List.cons_append, Option.toList_some, Option.toList_none]
  refine enaM (n := 7) rfl rfl (fun M16 eM16 => ?_)
  rw [show M15.2.1 = a + 1 + 7 from hG.n]
  have k8 : M16.1 (a + 1 + 7) = some (.inl (0, 7, .inl Z3)) := mk_w eM16 hG.n
  replace h0 := mk_k eM16 h0 (by have := hG.n; omega)
  replace k1 := mk_k eM16 k1 (by have := hG.n; omega)
  replace k2 := mk_k eM16 k2 (by have := hG.n; omega)
  replace k3 := mk_k eM16 k3 (by have := hG.n; omega)
  replace k4 := mk_k eM16 k4 (by have := hG.n; omega)
  replace k5 := mk_k eM16 k5 (by have := hG.n; omega)
  replace k6 := mk_k eM16 k6 (by have := hG.n; omega)
  replace k7 := mk_k eM16 k7 (by have := hG.n; omega)
  replace hG := hG.mk eM16
  repeat (first | refine es rfl rfl rfl ?_ | refine eg rfl (by assumption) rfl ?_ | refine ean rfl (by assumption) (by assumption) rfl ?_ | refine eal rfl (by assumption) (by assumption) rfl ?_ | refine eri rfl ?_ | refine erv rfl ?_ | refine erl rfl ?_ | refine era rfl ?_ | refine erz0 rfl ?_ | refine erz1 rfl ?_)
  try dsimp only [set1, set2, kilP, List.set_cons_zero, List.set_cons_succ, List.getElem?_cons_zero, List.getElem?_cons_succ, List.nil_append, List.cons_append, Option.toList_some, Option.toList_none]
  refine epM rfl h0 rfl rfl rfl (fun M17 eM17 => ?_)
  replace h0 := up_w eM17
  replace k1 := up_k eM17 k1 (by omega)
  replace k2 := up_k eM17 k2 (by omega)
  replace k3 := up_k eM17 k3 (by omega)
  replace k4 := up_k eM17 k4 (by omega)
  replace k5 := up_k eM17 k5 (by omega)
  replace k6 := up_k eM17 k6 (by omega)
  replace k7 := up_k eM17 k7 (by omega)
  replace k8 := up_k eM17 k8 (by omega)
  replace hG := hG.up eM17 (by omega)
  repeat (first | refine es rfl rfl rfl ?_ | refine eg rfl (by assumption) rfl ?_ | refine ean rfl (by assumption) (by assumption) rfl ?_ | refine eal rfl (by assumption) (by assumption) rfl ?_ | refine eri rfl ?_ | refine erv rfl ?_ | refine erl rfl ?_ | refine era rfl ?_ | refine erz0 rfl ?_ | refine erz1 rfl ?_)
  try dsimp only [set1, set2, kilP, List.set_cons_zero, List.set_cons_succ, List.getElem?_cons_zero, List.getElem?_cons_succ, List.nil_append, List.cons_append, Option.toList_some, Option.toList_none]
  exact ⟨rfl, ⟨h0, k1, k2, k3, k4, k5, k6, k7, k8⟩, hG⟩
theorem i_X7 {ad : Nat → Nat} {M : Mm} {a : Nat} (h0 : M.1 a = some (.inr (7, [.int 0, .null, .null, .null]))) (e1 : M.2.1 = a + 1) : EvM ad 0 (iX7_init ad) [.ref a] M (fun v' M' => v' = none ∧ aSs M' a (0, Z3, Z3, Z3) ∧ Gw a 3 105 M M') := by
  have hG := Gw.rf e1
  refine ⟨Nat.le_of_ble_eq_true rfl, ?_⟩
  show Ev ad _ (rX7_init ad) (0, [some (.ref a)], [], M) _
  repeat (first | refine es rfl rfl rfl ?_ | refine eg rfl (by assumption) rfl ?_ | refine ean rfl (by assumption) (by assumption) rfl ?_ | refine eal rfl (by assumption) (by assumption) rfl ?_ | refine eri rfl ?_ | refine erv rfl ?_ | refine erl rfl ?_ | refine era rfl ?_ | refine erz0 rfl ?_ | refine erz1 rfl ?_)
  try dsimp only [set1, set2, kilP, List.set_cons_zero, List.set_cons_succ, List.getElem?_cons_zero, List.getElem?_cons_succ, List.nil_append, List.cons_append, Option.toList_some, Option.toList_none]
  refine epM rfl h0 rfl rfl rfl (fun M1 eM1 => ?_)
  replace h0 := up_w eM1
  replace hG := hG.up eM1 (by omega)
  repeat (first | refine es rfl rfl rfl ?_ | refine eg rfl (by assumption) rfl ?_ | refine ean rfl (by assumption) (by assumption) rfl ?_ | refine eal rfl (by assumption) (by assumption) rfl ?_ | refine eri rfl ?_ | refine erv rfl ?_ | refine erl rfl ?_ | refine era rfl ?_ | refine erz0 rfl ?_ | refine erz1 rfl ?_)
  try dsimp only [set1, set2, kilP, List.set_cons_zero, List.set_cons_succ, List.getElem?_cons_zero, List.getElem?_cons_succ, List.nil_append, List.cons_append, Option.toList_some, Option.toList_none]
  refine enaM (n := 49) rfl rfl (fun M2 eM2 => ?_)
  rw [show M1.2.1 = a + 1 + 0 from hG.n]
  have k1 : M2.1 (a + 1 + 0) = some (.inl (0, 49, .inl Z3)) := mk_w eM2 hG.n
  replace h0 := mk_k eM2 h0 (by have := hG.n; omega)
  replace hG := hG.mk eM2
  repeat (first | refine es rfl rfl rfl ?_ | refine eg rfl (by assumption) rfl ?_ | refine ean rfl (by assumption) (by assumption) rfl ?_ | refine eal rfl (by assumption) (by assumption) rfl ?_ | refine eri rfl ?_ | refine erv rfl ?_ | refine erl rfl ?_ | refine era rfl ?_ | refine erz0 rfl ?_ | refine erz1 rfl ?_)
  try dsimp only [set1, set2, kilP, List.set_cons_zero, List.set_cons_succ, List.getElem?_cons_zero, List.getElem?_cons_succ, List.nil_append, List.cons_append, Option.toList_some, Option.toList_none]
  refine epM rfl h0 rfl rfl rfl (fun M3 eM3 => ?_)
  replace h0 := up_w eM3
  replace k1 := up_k eM3 k1 (by omega)
  replace hG := hG.up eM3 (by omega)
  repeat (first | refine es rfl rfl rfl ?_ | refine eg rfl (by assumption) rfl ?_ | refine ean rfl (by assumption) (by assumption) rfl ?_ | refine eal rfl (by assumption) (by assumption) rfl ?_ | refine eri rfl ?_ | refine erv rfl ?_ | refine erl rfl ?_ | refine era rfl ?_ | refine erz0 rfl ?_ | refine erz1 rfl ?_)
  try dsimp only [set1, set2, kilP, List.set_cons_zero, List.set_cons_succ, List.getElem?_cons_zero, List.getElem?_cons_succ, List.nil_append, List.cons_append, Option.toList_some, Option.toList_none]
  refine enaM (n := 49) rfl rfl (fun M4 eM4 => ?_)
  rw [show M3.2.1 = a + 1 + 1 from hG.n]
  have k2 : M4.1 (a + 1 + 1) = some (.inl (0, 49, .inl Z3)) := mk_w eM4 hG.n
  replace h0 := mk_k eM4 h0 (by have := hG.n; omega)
  replace k1 := mk_k eM4 k1 (by have := hG.n; omega)
  replace hG := hG.mk eM4
  repeat (first | refine es rfl rfl rfl ?_ | refine eg rfl (by assumption) rfl ?_ | refine ean rfl (by assumption) (by assumption) rfl ?_ | refine eal rfl (by assumption) (by assumption) rfl ?_ | refine eri rfl ?_ | refine erv rfl ?_ | refine erl rfl ?_ | refine era rfl ?_ | refine erz0 rfl ?_ | refine erz1 rfl ?_)
  try dsimp only [set1, set2, kilP, List.set_cons_zero, List.set_cons_succ, List.getElem?_cons_zero, List.getElem?_cons_succ, List.nil_append, List.cons_append, Option.toList_some, Option.toList_none]
  refine epM rfl h0 rfl rfl rfl (fun M5 eM5 => ?_)
  replace h0 := up_w eM5
  replace k1 := up_k eM5 k1 (by omega)
  replace k2 := up_k eM5 k2 (by omega)
  replace hG := hG.up eM5 (by omega)
  repeat (first | refine es rfl rfl rfl ?_ | refine eg rfl (by assumption) rfl ?_ | refine ean rfl (by assumption) (by assumption) rfl ?_ | refine eal rfl (by assumption) (by assumption) rfl ?_ | refine eri rfl ?_ | refine erv rfl ?_ | refine erl rfl ?_ | refine era rfl ?_ | refine erz0 rfl ?_ | refine erz1 rfl ?_)
  try dsimp only [set1, set2, kilP, List.set_cons_zero, List.set_cons_succ, List.getElem?_cons_zero, List.getElem?_cons_succ, List.nil_append, List.cons_append, Option.toList_some, Option.toList_none]
  refine enaM (n := 7) rfl rfl (fun M6 eM6 => ?_)
  rw [show M5.2.1 = a + 1 + 2 from hG.n]
  have k3 : M6.1 (a + 1 + 2) = some (.inl (0, 7, .inl Z3)) := mk_w eM6 hG.n
  replace h0 := mk_k eM6 h0 (by have := hG.n; omega)
  replace k1 := mk_k eM6 k1 (by have := hG.n; omega)
  replace k2 := mk_k eM6 k2 (by have := hG.n; omega)
  replace hG := hG.mk eM6
  repeat (first | refine es rfl rfl rfl ?_ | refine eg rfl (by assumption) rfl ?_ | refine ean rfl (by assumption) (by assumption) rfl ?_ | refine eal rfl (by assumption) (by assumption) rfl ?_ | refine eri rfl ?_ | refine erv rfl ?_ | refine erl rfl ?_ | refine era rfl ?_ | refine erz0 rfl ?_ | refine erz1 rfl ?_)
  try dsimp only [set1, set2, kilP, List.set_cons_zero, List.set_cons_succ, List.getElem?_cons_zero, List.getElem?_cons_succ, List.nil_append, List.cons_append, Option.toList_some, Option.toList_none]
  refine epM rfl h0 rfl rfl rfl (fun M7 eM7 => ?_)
  replace h0 := up_w eM7
  replace k1 := up_k eM7 k1 (by omega)
  replace k2 := up_k eM7 k2 (by omega)
  replace k3 := up_k eM7 k3 (by omega)
  replace hG := hG.up eM7 (by omega)
  repeat (first | refine es rfl rfl rfl ?_ | refine eg rfl (by assumption) rfl ?_ | refine ean rfl (by assumption) (by assumption) rfl ?_ | refine eal rfl (by assumption) (by assumption) rfl ?_ | refine eri rfl ?_ | refine erv rfl ?_ | refine erl rfl ?_ | refine era rfl ?_ | refine erz0 rfl ?_ | refine erz1 rfl ?_)
  try dsimp only [set1, set2, kilP, List.set_cons_zero, List.set_cons_succ, List.getElem?_cons_zero, List.getElem?_cons_succ, List.nil_append, List.cons_append, Option.toList_some, Option.toList_none]
  exact ⟨rfl, ⟨h0, k1, k2, k3⟩, hG⟩
theorem i_X0 {ad : Nat → Nat} {M : Mm} {a : Nat} (h0 : M.1 a = some (.inr (0, [.int 0, .null, .null, .int 0, .null, .null]))) (e1 : M.2.1 = a + 1) : EvM ad 0 (iX0_init ad) [.ref a] M (fun v' M' => v' = none ∧ aCs M' a (0, Z3, Z6, 0, Z3, Z3) ∧ Gw a 4 24 M M') := by
  have hG := Gw.rf e1
  refine ⟨Nat.le_of_ble_eq_true rfl, ?_⟩
  show Ev ad _ (rX0_init ad) (0, [some (.ref a)], [], M) _
  repeat (first | refine es rfl rfl rfl ?_ | refine eg rfl (by assumption) rfl ?_ | refine ean rfl (by assumption) (by assumption) rfl ?_ | refine eal rfl (by assumption) (by assumption) rfl ?_ | refine eri rfl ?_ | refine erv rfl ?_ | refine erl rfl ?_ | refine era rfl ?_ | refine erz0 rfl ?_ | refine erz1 rfl ?_)
  try dsimp only [set1, set2, kilP, List.set_cons_zero, List.set_cons_succ, List.getElem?_cons_zero, List.getElem?_cons_succ, List.nil_append, List.cons_append, Option.toList_some, Option.toList_none]
  refine epM rfl h0 rfl rfl rfl (fun M1 eM1 => ?_)
  replace h0 := up_w eM1
  replace hG := hG.up eM1 (by omega)
  repeat (first | refine es rfl rfl rfl ?_ | refine eg rfl (by assumption) rfl ?_ | refine ean rfl (by assumption) (by assumption) rfl ?_ | refine eal rfl (by assumption) (by assumption) rfl ?_ | refine eri rfl ?_ | refine erv rfl ?_ | refine erl rfl ?_ | refine era rfl ?_ | refine erz0 rfl ?_ | refine erz1 rfl ?_)
  try dsimp only [set1, set2, kilP, List.set_cons_zero, List.set_cons_succ, List.getElem?_cons_zero, List.getElem?_cons_succ, List.nil_append, List.cons_append, Option.toList_some, Option.toList_none]
  refine enaM (n := 8) rfl rfl (fun M2 eM2 => ?_)
  rw [show M1.2.1 = a + 1 + 0 from hG.n]
  have k1 : M2.1 (a + 1 + 0) = some (.inl (0, 8, .inl Z3)) := mk_w eM2 hG.n
  replace h0 := mk_k eM2 h0 (by have := hG.n; omega)
  replace hG := hG.mk eM2
  repeat (first | refine es rfl rfl rfl ?_ | refine eg rfl (by assumption) rfl ?_ | refine ean rfl (by assumption) (by assumption) rfl ?_ | refine eal rfl (by assumption) (by assumption) rfl ?_ | refine eri rfl ?_ | refine erv rfl ?_ | refine erl rfl ?_ | refine era rfl ?_ | refine erz0 rfl ?_ | refine erz1 rfl ?_)
  try dsimp only [set1, set2, kilP, List.set_cons_zero, List.set_cons_succ, List.getElem?_cons_zero, List.getElem?_cons_succ, List.nil_append, List.cons_append, Option.toList_some, Option.toList_none]
  refine epM rfl h0 rfl rfl rfl (fun M3 eM3 => ?_)
  replace h0 := up_w eM3
  replace k1 := up_k eM3 k1 (by omega)
  replace hG := hG.up eM3 (by omega)
  repeat (first | refine es rfl rfl rfl ?_ | refine eg rfl (by assumption) rfl ?_ | refine ean rfl (by assumption) (by assumption) rfl ?_ | refine eal rfl (by assumption) (by assumption) rfl ?_ | refine eri rfl ?_ | refine erv rfl ?_ | refine erl rfl ?_ | refine era rfl ?_ | refine erz0 rfl ?_ | refine erz1 rfl ?_)
  try dsimp only [set1, set2, kilP, List.set_cons_zero, List.set_cons_succ, List.getElem?_cons_zero, List.getElem?_cons_succ, List.nil_append, List.cons_append, Option.toList_some, Option.toList_none]
  refine enaM (n := 8) rfl rfl (fun M4 eM4 => ?_)
  rw [show M3.2.1 = a + 1 + 1 from hG.n]
  have k2 : M4.1 (a + 1 + 1) = some (.inl (1, 8, .inr Z6)) := mk_w eM4 hG.n
  replace h0 := mk_k eM4 h0 (by have := hG.n; omega)
  replace k1 := mk_k eM4 k1 (by have := hG.n; omega)
  replace hG := hG.mk eM4
  repeat (first | refine es rfl rfl rfl ?_ | refine eg rfl (by assumption) rfl ?_ | refine ean rfl (by assumption) (by assumption) rfl ?_ | refine eal rfl (by assumption) (by assumption) rfl ?_ | refine eri rfl ?_ | refine erv rfl ?_ | refine erl rfl ?_ | refine era rfl ?_ | refine erz0 rfl ?_ | refine erz1 rfl ?_)
  try dsimp only [set1, set2, kilP, List.set_cons_zero, List.set_cons_succ, List.getElem?_cons_zero, List.getElem?_cons_succ, List.nil_append, List.cons_append, Option.toList_some, Option.toList_none]
  refine epM rfl h0 rfl rfl rfl (fun M5 eM5 => ?_)
  replace h0 := up_w eM5
  replace k1 := up_k eM5 k1 (by omega)
  replace k2 := up_k eM5 k2 (by omega)
  replace hG := hG.up eM5 (by omega)
  repeat (first | refine es rfl rfl rfl ?_ | refine eg rfl (by assumption) rfl ?_ | refine ean rfl (by assumption) (by assumption) rfl ?_ | refine eal rfl (by assumption) (by assumption) rfl ?_ | refine eri rfl ?_ | refine erv rfl ?_ | refine erl rfl ?_ | refine era rfl ?_ | refine erz0 rfl ?_ | refine erz1 rfl ?_)
  try dsimp only [set1, set2, kilP, List.set_cons_zero, List.set_cons_succ, List.getElem?_cons_zero, List.getElem?_cons_succ, List.nil_append, List.cons_append, Option.toList_some, Option.toList_none]
  refine epM rfl h0 rfl rfl rfl (fun M6 eM6 => ?_)
  replace h0 := up_w eM6
  replace k1 := up_k eM6 k1 (by omega)
  replace k2 := up_k eM6 k2 (by omega)
  replace hG := hG.up eM6 (by omega)
  repeat (first | refine es rfl rfl rfl ?_ | refine eg rfl (by assumption) rfl ?_ | refine ean rfl (by assumption) (by assumption) rfl ?_ | refine eal rfl (by assumption) (by assumption) rfl ?_ | refine eri rfl ?_ | refine erv rfl ?_ | refine erl rfl ?_ | refine era rfl ?_ | refine erz0 rfl ?_ | refine erz1 rfl ?_)
  try dsimp only [set1, set2, kilP, List.set_cons_zero, List.set_cons_succ, List.getElem?_cons_zero, List.getElem?_cons_succ, List.nil_append, List.cons_append, Option.toList_some, Option.toList_none]
  refine enaM (n := 4) rfl rfl (fun M7 eM7 => ?_)
  rw [show M6.2.1 = a + 1 + 2 from hG.n]
  have k3 : M7.1 (a + 1 + 2) = some (.inl (0, 4, .inl Z3)) := mk_w eM7 hG.n
  replace h0 := mk_k eM7 h0 (by have := hG.n; omega)
  replace k1 := mk_k eM7 k1 (by have := hG.n; omega)
  replace k2 := mk_k eM7 k2 (by have := hG.n; omega)
  replace hG := hG.mk eM7
  repeat (first | refine es rfl rfl rfl ?_ | refine eg rfl (by assumption) rfl ?_ | refine ean rfl (by assumption) (by assumption) rfl ?_ | refine eal rfl (by assumption) (by assumption) rfl ?_ | refine eri rfl ?_ | refine erv rfl ?_ | refine erl rfl ?_ | refine era rfl ?_ | refine erz0 rfl ?_ | refine erz1 rfl ?_)
  try dsimp only [set1, set2, kilP, List.set_cons_zero, List.set_cons_succ, List.getElem?_cons_zero, List.getElem?_cons_succ, List.nil_append, List.cons_append, Option.toList_some, Option.toList_none]
  refine epM rfl h0 rfl rfl rfl (fun M8 eM8 => ?_)
  replace h0 := up_w eM8
  replace k1 := up_k eM8 k1 (by omega)
  replace k2 := up_k eM8 k2 (by omega)
  replace k3 := up_k eM8 k3 (by omega)
  replace hG := hG.up eM8 (by omega)
  repeat (first | refine es rfl rfl rfl ?_ | refine eg rfl (by assumption) rfl ?_ | refine ean rfl (by assumption) (by assumption) rfl ?_ | refine eal rfl (by assumption) (by assumption) rfl ?_ | refine eri rfl ?_ | refine erv rfl ?_ | refine erl rfl ?_ | refine era rfl ?_ | refine erz0 rfl ?_ | refine erz1 rfl ?_)
  try dsimp only [set1, set2, kilP, List.set_cons_zero, List.set_cons_succ, List.getElem?_cons_zero, List.getElem?_cons_succ, List.nil_append, List.cons_append, Option.toList_some, Option.toList_none]
  refine enaM (n := 4) rfl rfl (fun M9 eM9 => ?_)
  rw [show M8.2.1 = a + 1 + 3 from hG.n]
  have k4 : M9.1 (a + 1 + 3) = some (.inl (0, 4, .inl Z3)) := mk_w eM9 hG.n
  replace h0 := mk_k eM9 h0 (by have := hG.n; omega)
  replace k1 := mk_k eM9 k1 (by have := hG.n; omega)
  replace k2 := mk_k eM9 k2 (by have := hG.n; omega)
  replace k3 := mk_k eM9 k3 (by have := hG.n; omega)
  replace hG := hG.mk eM9
  repeat (first | refine es rfl rfl rfl ?_ | refine eg rfl (by assumption) rfl ?_ | refine ean rfl (by assumption) (by assumption) rfl ?_ | refine eal rfl (by assumption) (by assumption) rfl ?_ | refine eri rfl ?_ | refine erv rfl ?_ | refine erl rfl ?_ | refine era rfl ?_ | refine erz0 rfl ?_ | refine erz1 rfl ?_)
  try dsimp only [set1, set2, kilP, List.set_cons_zero, List.set_cons_succ, List.getElem?_cons_zero, List.getElem?_cons_succ, List.nil_append, List.cons_append, Option.toList_some, Option.toList_none]
  refine epM rfl h0 rfl rfl rfl (fun M10 eM10 => ?_)
  replace h0 := up_w eM10
  replace k1 := up_k eM10 k1 (by omega)
  replace k2 := up_k eM10 k2 (by omega)
  replace k3 := up_k eM10 k3 (by omega)
  replace k4 := up_k eM10 k4 (by omega)
  replace hG := hG.up eM10 (by omega)
  repeat (first | refine es rfl rfl rfl ?_ | refine eg rfl (by assumption) rfl ?_ | refine ean rfl (by assumption) (by assumption) rfl ?_ | refine eal rfl (by assumption) (by assumption) rfl ?_ | refine eri rfl ?_ | refine erv rfl ?_ | refine erl rfl ?_ | refine era rfl ?_ | refine erz0 rfl ?_ | refine erz1 rfl ?_)
  try dsimp only [set1, set2, kilP, List.set_cons_zero, List.set_cons_succ, List.getElem?_cons_zero, List.getElem?_cons_succ, List.nil_append, List.cons_append, Option.toList_some, Option.toList_none]
  exact ⟨rfl, ⟨h0, k1, k2, k3, k4⟩, hG⟩
theorem i_X1 {ad : Nat → Nat} {M : Mm} {a : Nat} (h0 : M.1 a = some (.inr (1, [.null, .null, .null, .null, .int 0, .int 0]))) (e1 : M.2.1 = a + 1) : EvM ad 0 (iX1_init ad) [.ref a] M (fun v' M' => v' = none ∧ aFt M' a (Z3, (Z3, Z3, Z3, 0), 0) ∧ Gw a 4 70 M M') := by
  have hG := Gw.rf e1
  refine ⟨Nat.le_of_ble_eq_true rfl, ?_⟩
  show Ev ad _ (rX1_init ad) (0, [some (.ref a)], [], M) _
  repeat (first | refine es rfl rfl rfl ?_ | refine eg rfl (by assumption) rfl ?_ | refine ean rfl (by assumption) (by assumption) rfl ?_ | refine eal rfl (by assumption) (by assumption) rfl ?_ | refine eri rfl ?_ | refine erv rfl ?_ | refine erl rfl ?_ | refine era rfl ?_ | refine erz0 rfl ?_ | refine erz1 rfl ?_)
  try dsimp only [set1, set2, kilP, List.set_cons_zero, List.set_cons_succ, List.getElem?_cons_zero, List.getElem?_cons_succ, List.nil_append, List.cons_append, Option.toList_some, Option.toList_none]
  refine enaM (n := 7) rfl rfl (fun M1 eM1 => ?_)
  rw [show M.2.1 = a + 1 + 0 from hG.n]
  have k1 : M1.1 (a + 1 + 0) = some (.inl (0, 7, .inl Z3)) := mk_w eM1 hG.n
  replace h0 := mk_k eM1 h0 (by have := hG.n; omega)
  replace hG := hG.mk eM1
  repeat (first | refine es rfl rfl rfl ?_ | refine eg rfl (by assumption) rfl ?_ | refine ean rfl (by assumption) (by assumption) rfl ?_ | refine eal rfl (by assumption) (by assumption) rfl ?_ | refine eri rfl ?_ | refine erv rfl ?_ | refine erl rfl ?_ | refine era rfl ?_ | refine erz0 rfl ?_ | refine erz1 rfl ?_)
  try dsimp only [set1, set2, kilP, List.set_cons_zero, List.set_cons_succ, List.getElem?_cons_zero, List.getElem?_cons_succ, List.nil_append, List.cons_append, Option.toList_some, Option.toList_none]
  refine epM rfl h0 rfl rfl rfl (fun M2 eM2 => ?_)
  replace h0 := up_w eM2
  replace k1 := up_k eM2 k1 (by omega)
  replace hG := hG.up eM2 (by omega)
  repeat (first | refine es rfl rfl rfl ?_ | refine eg rfl (by assumption) rfl ?_ | refine ean rfl (by assumption) (by assumption) rfl ?_ | refine eal rfl (by assumption) (by assumption) rfl ?_ | refine eri rfl ?_ | refine erv rfl ?_ | refine erl rfl ?_ | refine era rfl ?_ | refine erz0 rfl ?_ | refine erz1 rfl ?_)
  try dsimp only [set1, set2, kilP, List.set_cons_zero, List.set_cons_succ, List.getElem?_cons_zero, List.getElem?_cons_succ, List.nil_append, List.cons_append, Option.toList_some, Option.toList_none]
  refine enaM (n := 49) rfl rfl (fun M3 eM3 => ?_)
  rw [show M2.2.1 = a + 1 + 1 from hG.n]
  have k2 : M3.1 (a + 1 + 1) = some (.inl (0, 49, .inl Z3)) := mk_w eM3 hG.n
  replace h0 := mk_k eM3 h0 (by have := hG.n; omega)
  replace k1 := mk_k eM3 k1 (by have := hG.n; omega)
  replace hG := hG.mk eM3
  repeat (first | refine es rfl rfl rfl ?_ | refine eg rfl (by assumption) rfl ?_ | refine ean rfl (by assumption) (by assumption) rfl ?_ | refine eal rfl (by assumption) (by assumption) rfl ?_ | refine eri rfl ?_ | refine erv rfl ?_ | refine erl rfl ?_ | refine era rfl ?_ | refine erz0 rfl ?_ | refine erz1 rfl ?_)
  try dsimp only [set1, set2, kilP, List.set_cons_zero, List.set_cons_succ, List.getElem?_cons_zero, List.getElem?_cons_succ, List.nil_append, List.cons_append, Option.toList_some, Option.toList_none]
  refine epM rfl h0 rfl rfl rfl (fun M4 eM4 => ?_)
  replace h0 := up_w eM4
  replace k1 := up_k eM4 k1 (by omega)
  replace k2 := up_k eM4 k2 (by omega)
  replace hG := hG.up eM4 (by omega)
  repeat (first | refine es rfl rfl rfl ?_ | refine eg rfl (by assumption) rfl ?_ | refine ean rfl (by assumption) (by assumption) rfl ?_ | refine eal rfl (by assumption) (by assumption) rfl ?_ | refine eri rfl ?_ | refine erv rfl ?_ | refine erl rfl ?_ | refine era rfl ?_ | refine erz0 rfl ?_ | refine erz1 rfl ?_)
  try dsimp only [set1, set2, kilP, List.set_cons_zero, List.set_cons_succ, List.getElem?_cons_zero, List.getElem?_cons_succ, List.nil_append, List.cons_append, Option.toList_some, Option.toList_none]
  refine enaM (n := 7) rfl rfl (fun M5 eM5 => ?_)
  rw [show M4.2.1 = a + 1 + 2 from hG.n]
  have k3 : M5.1 (a + 1 + 2) = some (.inl (0, 7, .inl Z3)) := mk_w eM5 hG.n
  replace h0 := mk_k eM5 h0 (by have := hG.n; omega)
  replace k1 := mk_k eM5 k1 (by have := hG.n; omega)
  replace k2 := mk_k eM5 k2 (by have := hG.n; omega)
  replace hG := hG.mk eM5
  repeat (first | refine es rfl rfl rfl ?_ | refine eg rfl (by assumption) rfl ?_ | refine ean rfl (by assumption) (by assumption) rfl ?_ | refine eal rfl (by assumption) (by assumption) rfl ?_ | refine eri rfl ?_ | refine erv rfl ?_ | refine erl rfl ?_ | refine era rfl ?_ | refine erz0 rfl ?_ | refine erz1 rfl ?_)
  try dsimp only [set1, set2, kilP, List.set_cons_zero, List.set_cons_succ, List.getElem?_cons_zero, List.getElem?_cons_succ, List.nil_append, List.cons_append, Option.toList_some, Option.toList_none]
  refine epM rfl h0 rfl rfl rfl (fun M6 eM6 => ?_)
  replace h0 := up_w eM6
  replace k1 := up_k eM6 k1 (by omega)
  replace k2 := up_k eM6 k2 (by omega)
  replace k3 := up_k eM6 k3 (by omega)
  replace hG := hG.up eM6 (by omega)
  repeat (first | refine es rfl rfl rfl ?_ | refine eg rfl (by assumption) rfl ?_ | refine ean rfl (by assumption) (by assumption) rfl ?_ | refine eal rfl (by assumption) (by assumption) rfl ?_ | refine eri rfl ?_ | refine erv rfl ?_ | refine erl rfl ?_ | refine era rfl ?_ | refine erz0 rfl ?_ | refine erz1 rfl ?_)
  try dsimp only [set1, set2, kilP, List.set_cons_zero, List.set_cons_succ, List.getElem?_cons_zero, List.getElem?_cons_succ, List.nil_append, List.cons_append, Option.toList_some, Option.toList_none]
  refine enaM (n := 7) rfl rfl (fun M7 eM7 => ?_)
  rw [show M6.2.1 = a + 1 + 3 from hG.n]
  have k4 : M7.1 (a + 1 + 3) = some (.inl (0, 7, .inl Z3)) := mk_w eM7 hG.n
  replace h0 := mk_k eM7 h0 (by have := hG.n; omega)
  replace k1 := mk_k eM7 k1 (by have := hG.n; omega)
  replace k2 := mk_k eM7 k2 (by have := hG.n; omega)
  replace k3 := mk_k eM7 k3 (by have := hG.n; omega)
  replace hG := hG.mk eM7
  repeat (first | refine es rfl rfl rfl ?_ | refine eg rfl (by assumption) rfl ?_ | refine ean rfl (by assumption) (by assumption) rfl ?_ | refine eal rfl (by assumption) (by assumption) rfl ?_ | refine eri rfl ?_ | refine erv rfl ?_ | refine erl rfl ?_ | refine era rfl ?_ | refine erz0 rfl ?_ | refine erz1 rfl ?_)
  try dsimp only [set1, set2, kilP, List.set_cons_zero, List.set_cons_succ, List.getElem?_cons_zero, List.getElem?_cons_succ, List.nil_append, List.cons_append, Option.toList_some, Option.toList_none]
  refine epM rfl h0 rfl rfl rfl (fun M8 eM8 => ?_)
  replace h0 := up_w eM8
  replace k1 := up_k eM8 k1 (by omega)
  replace k2 := up_k eM8 k2 (by omega)
  replace k3 := up_k eM8 k3 (by omega)
  replace k4 := up_k eM8 k4 (by omega)
  replace hG := hG.up eM8 (by omega)
  repeat (first | refine es rfl rfl rfl ?_ | refine eg rfl (by assumption) rfl ?_ | refine ean rfl (by assumption) (by assumption) rfl ?_ | refine eal rfl (by assumption) (by assumption) rfl ?_ | refine eri rfl ?_ | refine erv rfl ?_ | refine erl rfl ?_ | refine era rfl ?_ | refine erz0 rfl ?_ | refine erz1 rfl ?_)
  try dsimp only [set1, set2, kilP, List.set_cons_zero, List.set_cons_succ, List.getElem?_cons_zero, List.getElem?_cons_succ, List.nil_append, List.cons_append, Option.toList_some, Option.toList_none]
  refine epM rfl h0 rfl rfl rfl (fun M9 eM9 => ?_)
  replace h0 := up_w eM9
  replace k1 := up_k eM9 k1 (by omega)
  replace k2 := up_k eM9 k2 (by omega)
  replace k3 := up_k eM9 k3 (by omega)
  replace k4 := up_k eM9 k4 (by omega)
  replace hG := hG.up eM9 (by omega)
  repeat (first | refine es rfl rfl rfl ?_ | refine eg rfl (by assumption) rfl ?_ | refine ean rfl (by assumption) (by assumption) rfl ?_ | refine eal rfl (by assumption) (by assumption) rfl ?_ | refine eri rfl ?_ | refine erv rfl ?_ | refine erl rfl ?_ | refine era rfl ?_ | refine erz0 rfl ?_ | refine erz1 rfl ?_)
  try dsimp only [set1, set2, kilP, List.set_cons_zero, List.set_cons_succ, List.getElem?_cons_zero, List.getElem?_cons_succ, List.nil_append, List.cons_append, Option.toList_some, Option.toList_none]
  refine epM rfl h0 rfl rfl rfl (fun M10 eM10 => ?_)
  replace h0 := up_w eM10
  replace k1 := up_k eM10 k1 (by omega)
  replace k2 := up_k eM10 k2 (by omega)
  replace k3 := up_k eM10 k3 (by omega)
  replace k4 := up_k eM10 k4 (by omega)
  replace hG := hG.up eM10 (by omega)
  repeat (first | refine es rfl rfl rfl ?_ | refine eg rfl (by assumption) rfl ?_ | refine ean rfl (by assumption) (by assumption) rfl ?_ | refine eal rfl (by assumption) (by assumption) rfl ?_ | refine eri rfl ?_ | refine erv rfl ?_ | refine erl rfl ?_ | refine era rfl ?_ | refine erz0 rfl ?_ | refine erz1 rfl ?_)
  try dsimp only [set1, set2, kilP, List.set_cons_zero, List.set_cons_succ, List.getElem?_cons_zero, List.getElem?_cons_succ, List.nil_append, List.cons_append, Option.toList_some, Option.toList_none]
  exact ⟨rfl, ⟨h0, k1, k2, k3, k4⟩, hG⟩
theorem i_X4 {ad : Nat → Nat} {M : Mm} {a : Nat} (h0 : M.1 a = some (.inr (4, [.null, .int 0, .int 0, .null, .int 0]))) (e1 : M.2.1 = a + 1) : EvM ad 0 (iX4_init ad) [.ref a] M (fun v' M' => v' = none ∧ aPt M' a (Z3, 0, 0, Z3, 0) ∧ Gw a 2 304 M M') := by
  have hG := Gw.rf e1
  refine ⟨Nat.le_of_ble_eq_true rfl, ?_⟩
  show Ev ad _ (rX4_init ad) (0, [some (.ref a)], [], M) _
  repeat (first | refine es rfl rfl rfl ?_ | refine eg rfl (by assumption) rfl ?_ | refine ean rfl (by assumption) (by assumption) rfl ?_ | refine eal rfl (by assumption) (by assumption) rfl ?_ | refine eri rfl ?_ | refine erv rfl ?_ | refine erl rfl ?_ | refine era rfl ?_ | refine erz0 rfl ?_ | refine erz1 rfl ?_)
  try dsimp only [set1, set2, kilP, List.set_cons_zero, List.set_cons_succ, List.getElem?_cons_zero, List.getElem?_cons_succ, List.nil_append, List.cons_append, Option.toList_some, Option.toList_none]
  refine enaM (n := 256) rfl rfl (fun M1 eM1 => ?_)
  rw [show M.2.1 = a + 1 + 0 from hG.n]
  have k1 : M1.1 (a + 1 + 0) = some (.inl (0, 256, .inl Z3)) := mk_w eM1 hG.n
  replace h0 := mk_k eM1 h0 (by have := hG.n; omega)
  replace hG := hG.mk eM1
  repeat (first | refine es rfl rfl rfl ?_ | refine eg rfl (by assumption) rfl ?_ | refine ean rfl (by assumption) (by assumption) rfl ?_ | refine eal rfl (by assumption) (by assumption) rfl ?_ | refine eri rfl ?_ | refine erv rfl ?_ | refine erl rfl ?_ | refine era rfl ?_ | refine erz0 rfl ?_ | refine erz1 rfl ?_)
  try dsimp only [set1, set2, kilP, List.set_cons_zero, List.set_cons_succ, List.getElem?_cons_zero, List.getElem?_cons_succ, List.nil_append, List.cons_append, Option.toList_some, Option.toList_none]
  refine epM rfl h0 rfl rfl rfl (fun M2 eM2 => ?_)
  replace h0 := up_w eM2
  replace k1 := up_k eM2 k1 (by omega)
  replace hG := hG.up eM2 (by omega)
  repeat (first | refine es rfl rfl rfl ?_ | refine eg rfl (by assumption) rfl ?_ | refine ean rfl (by assumption) (by assumption) rfl ?_ | refine eal rfl (by assumption) (by assumption) rfl ?_ | refine eri rfl ?_ | refine erv rfl ?_ | refine erl rfl ?_ | refine era rfl ?_ | refine erz0 rfl ?_ | refine erz1 rfl ?_)
  try dsimp only [set1, set2, kilP, List.set_cons_zero, List.set_cons_succ, List.getElem?_cons_zero, List.getElem?_cons_succ, List.nil_append, List.cons_append, Option.toList_some, Option.toList_none]
  refine epM rfl h0 rfl rfl rfl (fun M3 eM3 => ?_)
  replace h0 := up_w eM3
  replace k1 := up_k eM3 k1 (by omega)
  replace hG := hG.up eM3 (by omega)
  repeat (first | refine es rfl rfl rfl ?_ | refine eg rfl (by assumption) rfl ?_ | refine ean rfl (by assumption) (by assumption) rfl ?_ | refine eal rfl (by assumption) (by assumption) rfl ?_ | refine eri rfl ?_ | refine erv rfl ?_ | refine erl rfl ?_ | refine era rfl ?_ | refine erz0 rfl ?_ | refine erz1 rfl ?_)
  try dsimp only [set1, set2, kilP, List.set_cons_zero, List.set_cons_succ, List.getElem?_cons_zero, List.getElem?_cons_succ, List.nil_append, List.cons_append, Option.toList_some, Option.toList_none]
  refine epM rfl h0 rfl rfl rfl (fun M4 eM4 => ?_)
  replace h0 := up_w eM4
  replace k1 := up_k eM4 k1 (by omega)
  replace hG := hG.up eM4 (by omega)
  repeat (first | refine es rfl rfl rfl ?_ | refine eg rfl (by assumption) rfl ?_ | refine ean rfl (by assumption) (by assumption) rfl ?_ | refine eal rfl (by assumption) (by assumption) rfl ?_ | refine eri rfl ?_ | refine erv rfl ?_ | refine erl rfl ?_ | refine era rfl ?_ | refine erz0 rfl ?_ | refine erz1 rfl ?_)
  try dsimp only [set1, set2, kilP, List.set_cons_zero, List.set_cons_succ, List.getElem?_cons_zero, List.getElem?_cons_succ, List.nil_append, List.cons_append, Option.toList_some, Option.toList_none]
  refine enaM (n := 48) rfl rfl (fun M5 eM5 => ?_)
  rw [show M4.2.1 = a + 1 + 1 from hG.n]
  have k2 : M5.1 (a + 1 + 1) = some (.inl (0, 48, .inl Z3)) := mk_w eM5 hG.n
  replace h0 := mk_k eM5 h0 (by have := hG.n; omega)
  replace k1 := mk_k eM5 k1 (by have := hG.n; omega)
  replace hG := hG.mk eM5
  repeat (first | refine es rfl rfl rfl ?_ | refine eg rfl (by assumption) rfl ?_ | refine ean rfl (by assumption) (by assumption) rfl ?_ | refine eal rfl (by assumption) (by assumption) rfl ?_ | refine eri rfl ?_ | refine erv rfl ?_ | refine erl rfl ?_ | refine era rfl ?_ | refine erz0 rfl ?_ | refine erz1 rfl ?_)
  try dsimp only [set1, set2, kilP, List.set_cons_zero, List.set_cons_succ, List.getElem?_cons_zero, List.getElem?_cons_succ, List.nil_append, List.cons_append, Option.toList_some, Option.toList_none]
  refine epM rfl h0 rfl rfl rfl (fun M6 eM6 => ?_)
  replace h0 := up_w eM6
  replace k1 := up_k eM6 k1 (by omega)
  replace k2 := up_k eM6 k2 (by omega)
  replace hG := hG.up eM6 (by omega)
  repeat (first | refine es rfl rfl rfl ?_ | refine eg rfl (by assumption) rfl ?_ | refine ean rfl (by assumption) (by assumption) rfl ?_ | refine eal rfl (by assumption) (by assumption) rfl ?_ | refine eri rfl ?_ | refine erv rfl ?_ | refine erl rfl ?_ | refine era rfl ?_ | refine erz0 rfl ?_ | refine erz1 rfl ?_)
  try dsimp only [set1, set2, kilP, List.set_cons_zero, List.set_cons_succ, List.getElem?_cons_zero, List.getElem?_cons_succ, List.nil_append, List.cons_append, Option.toList_some, Option.toList_none]
  refine epM rfl h0 rfl rfl rfl (fun M7 eM7 => ?_)
  replace h0 := up_w eM7
  replace k1 := up_k eM7 k1 (by omega)
  replace k2 := up_k eM7 k2 (by omega)
  replace hG := hG.up eM7 (by omega)
  repeat (first | refine es rfl rfl rfl ?_ | refine eg rfl (by assumption) rfl ?_ | refine ean rfl (by assumption) (by assumption) rfl ?_ | refine eal rfl (by assumption) (by assumption) rfl ?_ | refine eri rfl ?_ | refine erv rfl ?_ | refine erl rfl ?_ | refine era rfl ?_ | refine erz0 rfl ?_ | refine erz1 rfl ?_)
  try dsimp only [set1, set2, kilP, List.set_cons_zero, List.set_cons_succ, List.getElem?_cons_zero, List.getElem?_cons_succ, List.nil_append, List.cons_append, Option.toList_some, Option.toList_none]
  exact ⟨rfl, ⟨h0, k1, k2⟩, hG⟩
theorem i_X6 {ad : Nat → Nat} {M : Mm} {a : Nat} (h0 : M.1 a = some (.inr (6, [.int 0, .int 0, .int 0, .int 0, .null, .null, .int 0, .int 0]))) (e1 : M.2.1 = a + 1) : EvM ad 0 (iX6_init ad) [.ref a] M (fun v' M' => v' = none ∧ aRt M' a ((0, 0, 0, 0), Z3, Z3, 0, -2) ∧ Gw a 2 20 M M') := by
  have hG := Gw.rf e1
  refine ⟨Nat.le_of_ble_eq_true rfl, ?_⟩
  show Ev ad _ (rX6_init ad) (0, [some (.ref a)], [], M) _
  repeat (first | refine es rfl rfl rfl ?_ | refine eg rfl (by assumption) rfl ?_ | refine ean rfl (by assumption) (by assumption) rfl ?_ | refine eal rfl (by assumption) (by assumption) rfl ?_ | refine eri rfl ?_ | refine erv rfl ?_ | refine erl rfl ?_ | refine era rfl ?_ | refine erz0 rfl ?_ | refine erz1 rfl ?_)
  try dsimp only [set1, set2, kilP, List.set_cons_zero, List.set_cons_succ, List.getElem?_cons_zero, List.getElem?_cons_succ, List.nil_append, List.cons_append, Option.toList_some, Option.toList_none]
  refine epM rfl h0 rfl rfl rfl (fun M1 eM1 => ?_)
  replace h0 := up_w eM1
  replace hG := hG.up eM1 (by omega)
  repeat (first | refine es rfl rfl rfl ?_ | refine eg rfl (by assumption) rfl ?_ | refine ean rfl (by assumption) (by assumption) rfl ?_ | refine eal rfl (by assumption) (by assumption) rfl ?_ | refine eri rfl ?_ | refine erv rfl ?_ | refine erl rfl ?_ | refine era rfl ?_ | refine erz0 rfl ?_ | refine erz1 rfl ?_)
  try dsimp only [set1, set2, kilP, List.set_cons_zero, List.set_cons_succ, List.getElem?_cons_zero, List.getElem?_cons_succ, List.nil_append, List.cons_append, Option.toList_some, Option.toList_none]
  refine epM rfl h0 rfl rfl rfl (fun M2 eM2 => ?_)
  replace h0 := up_w eM2
  replace hG := hG.up eM2 (by omega)
  repeat (first | refine es rfl rfl rfl ?_ | refine eg rfl (by assumption) rfl ?_ | refine ean rfl (by assumption) (by assumption) rfl ?_ | refine eal rfl (by assumption) (by assumption) rfl ?_ | refine eri rfl ?_ | refine erv rfl ?_ | refine erl rfl ?_ | refine era rfl ?_ | refine erz0 rfl ?_ | refine erz1 rfl ?_)
  try dsimp only [set1, set2, kilP, List.set_cons_zero, List.set_cons_succ, List.getElem?_cons_zero, List.getElem?_cons_succ, List.nil_append, List.cons_append, Option.toList_some, Option.toList_none]
  refine epM rfl h0 rfl rfl rfl (fun M3 eM3 => ?_)
  replace h0 := up_w eM3
  replace hG := hG.up eM3 (by omega)
  repeat (first | refine es rfl rfl rfl ?_ | refine eg rfl (by assumption) rfl ?_ | refine ean rfl (by assumption) (by assumption) rfl ?_ | refine eal rfl (by assumption) (by assumption) rfl ?_ | refine eri rfl ?_ | refine erv rfl ?_ | refine erl rfl ?_ | refine era rfl ?_ | refine erz0 rfl ?_ | refine erz1 rfl ?_)
  try dsimp only [set1, set2, kilP, List.set_cons_zero, List.set_cons_succ, List.getElem?_cons_zero, List.getElem?_cons_succ, List.nil_append, List.cons_append, Option.toList_some, Option.toList_none]
  refine epM rfl h0 rfl rfl rfl (fun M4 eM4 => ?_)
  replace h0 := up_w eM4
  replace hG := hG.up eM4 (by omega)
  repeat (first | refine es rfl rfl rfl ?_ | refine eg rfl (by assumption) rfl ?_ | refine ean rfl (by assumption) (by assumption) rfl ?_ | refine eal rfl (by assumption) (by assumption) rfl ?_ | refine eri rfl ?_ | refine erv rfl ?_ | refine erl rfl ?_ | refine era rfl ?_ | refine erz0 rfl ?_ | refine erz1 rfl ?_)
  try dsimp only [set1, set2, kilP, List.set_cons_zero, List.set_cons_succ, List.getElem?_cons_zero, List.getElem?_cons_succ, List.nil_append, List.cons_append, Option.toList_some, Option.toList_none]
  refine enaM (n := 10) rfl rfl (fun M5 eM5 => ?_)
  rw [show M4.2.1 = a + 1 + 0 from hG.n]
  have k1 : M5.1 (a + 1 + 0) = some (.inl (0, 10, .inl Z3)) := mk_w eM5 hG.n
  replace h0 := mk_k eM5 h0 (by have := hG.n; omega)
  replace hG := hG.mk eM5
  repeat (first | refine es rfl rfl rfl ?_ | refine eg rfl (by assumption) rfl ?_ | refine ean rfl (by assumption) (by assumption) rfl ?_ | refine eal rfl (by assumption) (by assumption) rfl ?_ | refine eri rfl ?_ | refine erv rfl ?_ | refine erl rfl ?_ | refine era rfl ?_ | refine erz0 rfl ?_ | refine erz1 rfl ?_)
  try dsimp only [set1, set2, kilP, List.set_cons_zero, List.set_cons_succ, List.getElem?_cons_zero, List.getElem?_cons_succ, List.nil_append, List.cons_append, Option.toList_some, Option.toList_none]
  refine epM rfl h0 rfl rfl rfl (fun M6 eM6 => ?_)
  replace h0 := up_w eM6
  replace k1 := up_k eM6 k1 (by omega)
  replace hG := hG.up eM6 (by omega)
  repeat (first | refine es rfl rfl rfl ?_ | refine eg rfl (by assumption) rfl ?_ | refine ean rfl (by assumption) (by assumption) rfl ?_ | refine eal rfl (by assumption) (by assumption) rfl ?_ | refine eri rfl ?_ | refine erv rfl ?_ | refine erl rfl ?_ | refine era rfl ?_ | refine erz0 rfl ?_ | refine erz1 rfl ?_)
  try dsimp only [set1, set2, kilP, List.set_cons_zero, List.set_cons_succ, List.getElem?_cons_zero, List.getElem?_cons_succ, List.nil_append, List.cons_append, Option.toList_some, Option.toList_none]
  refine enaM (n := 10) rfl rfl (fun M7 eM7 => ?_)
  rw [show M6.2.1 = a + 1 + 1 from hG.n]
  have k2 : M7.1 (a + 1 + 1) = some (.inl (0, 10, .inl Z3)) := mk_w eM7 hG.n
  replace h0 := mk_k eM7 h0 (by have := hG.n; omega)
  replace k1 := mk_k eM7 k1 (by have := hG.n; omega)
  replace hG := hG.mk eM7
  repeat (first | refine es rfl rfl rfl ?_ | refine eg rfl (by assumption) rfl ?_ | refine ean rfl (by assumption) (by assumption) rfl ?_ | refine eal rfl (by assumption) (by assumption) rfl ?_ | refine eri rfl ?_ | refine erv rfl ?_ | refine erl rfl ?_ | refine era rfl ?_ | refine erz0 rfl ?_ | refine erz1 rfl ?_)
  try dsimp only [set1, set2, kilP, List.set_cons_zero, List.set_cons_succ, List.getElem?_cons_zero, List.getElem?_cons_succ, List.nil_append, List.cons_append, Option.toList_some, Option.toList_none]
  refine epM rfl h0 rfl rfl rfl (fun M8 eM8 => ?_)
  replace h0 := up_w eM8
  replace k1 := up_k eM8 k1 (by omega)
  replace k2 := up_k eM8 k2 (by omega)
  replace hG := hG.up eM8 (by omega)
  repeat (first | refine es rfl rfl rfl ?_ | refine eg rfl (by assumption) rfl ?_ | refine ean rfl (by assumption) (by assumption) rfl ?_ | refine eal rfl (by assumption) (by assumption) rfl ?_ | refine eri rfl ?_ | refine erv rfl ?_ | refine erl rfl ?_ | refine era rfl ?_ | refine erz0 rfl ?_ | refine erz1 rfl ?_)
  try dsimp only [set1, set2, kilP, List.set_cons_zero, List.set_cons_succ, List.getElem?_cons_zero, List.getElem?_cons_succ, List.nil_append, List.cons_append, Option.toList_some, Option.toList_none]
  refine epM rfl h0 rfl rfl rfl (fun M9 eM9 => ?_)
  replace h0 := up_w eM9
  replace k1 := up_k eM9 k1 (by omega)
  replace k2 := up_k eM9 k2 (by omega)
  replace hG := hG.up eM9 (by omega)
  repeat (first | refine es rfl rfl rfl ?_ | refine eg rfl (by assumption) rfl ?_ | refine ean rfl (by assumption) (by assumption) rfl ?_ | refine eal rfl (by assumption) (by assumption) rfl ?_ | refine eri rfl ?_ | refine erv rfl ?_ | refine erl rfl ?_ | refine era rfl ?_ | refine erz0 rfl ?_ | refine erz1 rfl ?_)
  try dsimp only [set1, set2, kilP, List.set_cons_zero, List.set_cons_succ, List.getElem?_cons_zero, List.getElem?_cons_succ, List.nil_append, List.cons_append, Option.toList_some, Option.toList_none]
  refine epM rfl h0 rfl rfl rfl (fun M10 eM10 => ?_)
  replace h0 := up_w eM10
  replace k1 := up_k eM10 k1 (by omega)
  replace k2 := up_k eM10 k2 (by omega)
  replace hG := hG.up eM10 (by omega)
  repeat (first | refine es rfl rfl rfl ?_ | refine eg rfl (by assumption) rfl ?_ | refine ean rfl (by assumption) (by assumption) rfl ?_ | refine eal rfl (by assumption) (by assumption) rfl ?_ | refine eri rfl ?_ | refine erv rfl ?_ | refine erl rfl ?_ | refine era rfl ?_ | refine erz0 rfl ?_ | refine erz1 rfl ?_)
  try dsimp only [set1, set2, kilP, List.set_cons_zero, List.set_cons_succ, List.getElem?_cons_zero, List.getElem?_cons_succ, List.nil_append, List.cons_append, Option.toList_some, Option.toList_none]
  exact ⟨rfl, ⟨h0, k1, k2⟩, hG⟩
theorem i_X10 {ad : Nat → Nat} {M : Mm} {a : Nat} (h0 : M.1 a = some (.inr (10, [.null, .null, .null, .int 0, .int 0, .int 0, .int 0]))) (e1 : M.2.1 = a + 1) : EvM ad 0 (iX10_init ad) [.ref a] M (fun v' M' => v' = none ∧ aWy M' a (Z3, Z3, Z3, 0, 0, -1, 0) ∧ Gw a 3 21 M M') := by
  have hG := Gw.rf e1
  refine ⟨Nat.le_of_ble_eq_true rfl, ?_⟩
  show Ev ad _ (rX10_init ad) (0, [some (.ref a)], [], M) _
  repeat (first | refine es rfl rfl rfl ?_ | refine eg rfl (by assumption) rfl ?_ | refine ean rfl (by assumption) (by assumption) rfl ?_ | refine eal rfl (by assumption) (by assumption) rfl ?_ | refine eri rfl ?_ | refine erv rfl ?_ | refine erl rfl ?_ | refine era rfl ?_ | refine erz0 rfl ?_ | refine erz1 rfl ?_)
  try dsimp only [set1, set2, kilP, List.set_cons_zero, List.set_cons_succ, List.getElem?_cons_zero, List.getElem?_cons_succ, List.nil_append, List.cons_append, Option.toList_some, Option.toList_none]
  refine enaM (n := 7) rfl rfl (fun M1 eM1 => ?_)
  rw [show M.2.1 = a + 1 + 0 from hG.n]
  have k1 : M1.1 (a + 1 + 0) = some (.inl (0, 7, .inl Z3)) := mk_w eM1 hG.n
  replace h0 := mk_k eM1 h0 (by have := hG.n; omega)
  replace hG := hG.mk eM1
  repeat (first | refine es rfl rfl rfl ?_ | refine eg rfl (by assumption) rfl ?_ | refine ean rfl (by assumption) (by assumption) rfl ?_ | refine eal rfl (by assumption) (by assumption) rfl ?_ | refine eri rfl ?_ | refine erv rfl ?_ | refine erl rfl ?_ | refine era rfl ?_ | refine erz0 rfl ?_ | refine erz1 rfl ?_)
  try dsimp only [set1, set2, kilP, List.set_cons_zero, List.set_cons_succ, List.getElem?_cons_zero, List.getElem?_cons_succ, List.nil_append, List.cons_append, Option.toList_some, Option.toList_none]
  refine epM rfl h0 rfl rfl rfl (fun M2 eM2 => ?_)
  replace h0 := up_w eM2
  replace k1 := up_k eM2 k1 (by omega)
  replace hG := hG.up eM2 (by omega)
  repeat (first | refine es rfl rfl rfl ?_ | refine eg rfl (by assumption) rfl ?_ | refine ean rfl (by assumption) (by assumption) rfl ?_ | refine eal rfl (by assumption) (by assumption) rfl ?_ | refine eri rfl ?_ | refine erv rfl ?_ | refine erl rfl ?_ | refine era rfl ?_ | refine erz0 rfl ?_ | refine erz1 rfl ?_)
  try dsimp only [set1, set2, kilP, List.set_cons_zero, List.set_cons_succ, List.getElem?_cons_zero, List.getElem?_cons_succ, List.nil_append, List.cons_append, Option.toList_some, Option.toList_none]
  refine enaM (n := 7) rfl rfl (fun M3 eM3 => ?_)
  rw [show M2.2.1 = a + 1 + 1 from hG.n]
  have k2 : M3.1 (a + 1 + 1) = some (.inl (0, 7, .inl Z3)) := mk_w eM3 hG.n
  replace h0 := mk_k eM3 h0 (by have := hG.n; omega)
  replace k1 := mk_k eM3 k1 (by have := hG.n; omega)
  replace hG := hG.mk eM3
  repeat (first | refine es rfl rfl rfl ?_ | refine eg rfl (by assumption) rfl ?_ | refine ean rfl (by assumption) (by assumption) rfl ?_ | refine eal rfl (by assumption) (by assumption) rfl ?_ | refine eri rfl ?_ | refine erv rfl ?_ | refine erl rfl ?_ | refine era rfl ?_ | refine erz0 rfl ?_ | refine erz1 rfl ?_)
  try dsimp only [set1, set2, kilP, List.set_cons_zero, List.set_cons_succ, List.getElem?_cons_zero, List.getElem?_cons_succ, List.nil_append, List.cons_append, Option.toList_some, Option.toList_none]
  refine epM rfl h0 rfl rfl rfl (fun M4 eM4 => ?_)
  replace h0 := up_w eM4
  replace k1 := up_k eM4 k1 (by omega)
  replace k2 := up_k eM4 k2 (by omega)
  replace hG := hG.up eM4 (by omega)
  repeat (first | refine es rfl rfl rfl ?_ | refine eg rfl (by assumption) rfl ?_ | refine ean rfl (by assumption) (by assumption) rfl ?_ | refine eal rfl (by assumption) (by assumption) rfl ?_ | refine eri rfl ?_ | refine erv rfl ?_ | refine erl rfl ?_ | refine era rfl ?_ | refine erz0 rfl ?_ | refine erz1 rfl ?_)
  try dsimp only [set1, set2, kilP, List.set_cons_zero, List.set_cons_succ, List.getElem?_cons_zero, List.getElem?_cons_succ, List.nil_append, List.cons_append, Option.toList_some, Option.toList_none]
  refine enaM (n := 7) rfl rfl (fun M5 eM5 => ?_)
  rw [show M4.2.1 = a + 1 + 2 from hG.n]
  have k3 : M5.1 (a + 1 + 2) = some (.inl (0, 7, .inl Z3)) := mk_w eM5 hG.n
  replace h0 := mk_k eM5 h0 (by have := hG.n; omega)
  replace k1 := mk_k eM5 k1 (by have := hG.n; omega)
  replace k2 := mk_k eM5 k2 (by have := hG.n; omega)
  replace hG := hG.mk eM5
  repeat (first | refine es rfl rfl rfl ?_ | refine eg rfl (by assumption) rfl ?_ | refine ean rfl (by assumption) (by assumption) rfl ?_ | refine eal rfl (by assumption) (by assumption) rfl ?_ | refine eri rfl ?_ | refine erv rfl ?_ | refine erl rfl ?_ | refine era rfl ?_ | refine erz0 rfl ?_ | refine erz1 rfl ?_)
  try dsimp only [set1, set2, kilP, List.set_cons_zero, List.set_cons_succ, List.getElem?_cons_zero, List.getElem?_cons_succ, List.nil_append, List.cons_append, Option.toList_some, Option.toList_none]
  refine epM rfl h0 rfl rfl rfl (fun M6 eM6 => ?_)
  replace h0 := up_w eM6
  replace k1 := up_k eM6 k1 (by omega)
  replace k2 := up_k eM6 k2 (by omega)
  replace k3 := up_k eM6 k3 (by omega)
  replace hG := hG.up eM6 (by omega)
  repeat (first | refine es rfl rfl rfl ?_ | refine eg rfl (by assumption) rfl ?_ | refine ean rfl (by assumption) (by assumption) rfl ?_ | refine eal rfl (by assumption) (by assumption) rfl ?_ | refine eri rfl ?_ | refine erv rfl ?_ | refine erl rfl ?_ | refine era rfl ?_ | refine erz0 rfl ?_ | refine erz1 rfl ?_)
  try dsimp only [set1, set2, kilP, List.set_cons_zero, List.set_cons_succ, List.getElem?_cons_zero, List.getElem?_cons_succ, List.nil_append, List.cons_append, Option.toList_some, Option.toList_none]
  refine epM rfl h0 rfl rfl rfl (fun M7 eM7 => ?_)
  replace h0 := up_w eM7
  replace k1 := up_k eM7 k1 (by omega)
  replace k2 := up_k eM7 k2 (by omega)
  replace k3 := up_k eM7 k3 (by omega)
  replace hG := hG.up eM7 (by omega)
  repeat (first | refine es rfl rfl rfl ?_ | refine eg rfl (by assumption) rfl ?_ | refine ean rfl (by assumption) (by assumption) rfl ?_ | refine eal rfl (by assumption) (by assumption) rfl ?_ | refine eri rfl ?_ | refine erv rfl ?_ | refine erl rfl ?_ | refine era rfl ?_ | refine erz0 rfl ?_ | refine erz1 rfl ?_)
  try dsimp only [set1, set2, kilP, List.set_cons_zero, List.set_cons_succ, List.getElem?_cons_zero, List.getElem?_cons_succ, List.nil_append, List.cons_append, Option.toList_some, Option.toList_none]
  refine epM rfl h0 rfl rfl rfl (fun M8 eM8 => ?_)
  replace h0 := up_w eM8
  replace k1 := up_k eM8 k1 (by omega)
  replace k2 := up_k eM8 k2 (by omega)
  replace k3 := up_k eM8 k3 (by omega)
  replace hG := hG.up eM8 (by omega)
  repeat (first | refine es rfl rfl rfl ?_ | refine eg rfl (by assumption) rfl ?_ | refine ean rfl (by assumption) (by assumption) rfl ?_ | refine eal rfl (by assumption) (by assumption) rfl ?_ | refine eri rfl ?_ | refine erv rfl ?_ | refine erl rfl ?_ | refine era rfl ?_ | refine erz0 rfl ?_ | refine erz1 rfl ?_)
  try dsimp only [set1, set2, kilP, List.set_cons_zero, List.set_cons_succ, List.getElem?_cons_zero, List.getElem?_cons_succ, List.nil_append, List.cons_append, Option.toList_some, Option.toList_none]
  refine epM rfl h0 rfl rfl rfl (fun M9 eM9 => ?_)
  replace h0 := up_w eM9
  replace k1 := up_k eM9 k1 (by omega)
  replace k2 := up_k eM9 k2 (by omega)
  replace k3 := up_k eM9 k3 (by omega)
  replace hG := hG.up eM9 (by omega)
  repeat (first | refine es rfl rfl rfl ?_ | refine eg rfl (by assumption) rfl ?_ | refine ean rfl (by assumption) (by assumption) rfl ?_ | refine eal rfl (by assumption) (by assumption) rfl ?_ | refine eri rfl ?_ | refine erv rfl ?_ | refine erl rfl ?_ | refine era rfl ?_ | refine erz0 rfl ?_ | refine erz1 rfl ?_)
  try dsimp only [set1, set2, kilP, List.set_cons_zero, List.set_cons_succ, List.getElem?_cons_zero, List.getElem?_cons_succ, List.nil_append, List.cons_append, Option.toList_some, Option.toList_none]
  refine epM rfl h0 rfl rfl rfl (fun M10 eM10 => ?_)
  replace h0 := up_w eM10
  replace k1 := up_k eM10 k1 (by omega)
  replace k2 := up_k eM10 k2 (by omega)
  replace k3 := up_k eM10 k3 (by omega)
  replace hG := hG.up eM10 (by omega)
  repeat (first | refine es rfl rfl rfl ?_ | refine eg rfl (by assumption) rfl ?_ | refine ean rfl (by assumption) (by assumption) rfl ?_ | refine eal rfl (by assumption) (by assumption) rfl ?_ | refine eri rfl ?_ | refine erv rfl ?_ | refine erl rfl ?_ | refine era rfl ?_ | refine erz0 rfl ?_ | refine erz1 rfl ?_)
  try dsimp only [set1, set2, kilP, List.set_cons_zero, List.set_cons_succ, List.getElem?_cons_zero, List.getElem?_cons_succ, List.nil_append, List.cons_append, Option.toList_some, Option.toList_none]
  exact ⟨rfl, ⟨h0, k1, k2, k3⟩, hG⟩
theorem i_X3_loop {ad : Nat → Nat} {a : Nat} : ∀ (n i : Nat) (M0 M : Mm) (f : Nat → Int32), aNw M a f → Gw a 1 16 M0 M → i + n = 7 → (∀ j, j < i → f j = -2) → (∀ j, 7 ≤ j → f j = 0) → Ev ad 0 (rX3_init ad) (14, [some (.ref a), some (.int (nI i))], [], M) (fun v' M' => v' = none ∧ (∃ f, (∀ j, j < 7 → f j = -2) ∧ (∀ j, 7 ≤ j → f j = 0) ∧ aNw M' a f) ∧ Gw a 1 16 M0 M') := by
  intro n
  induction n with
  | zero =>
    intro i M0 M f hb hG hn hz hz2
    repeat (first | refine es rfl rfl rfl ?_ | refine eg rfl (by assumption) rfl ?_ | refine ean rfl (by assumption) (by assumption) rfl ?_ | refine eal rfl (by assumption) (by assumption) rfl ?_ | refine eri rfl ?_ | refine erv rfl ?_ | refine erl rfl ?_ | refine era rfl ?_ | refine erz0 rfl ?_ | refine erz1 rfl ?_)
    try dsimp only [set1, set2, kilP, List.set_cons_zero, List.set_cons_succ, List.getElem?_cons_zero, List.getElem?_cons_succ, List.nil_append, List.cons_append, Option.toList_some, Option.toList_none]
    refine ei _ rfl rfl (fun c => ?_) (fun c => ?_)
    · repeat (first | refine es rfl rfl rfl ?_ | refine eg rfl (by assumption) rfl ?_ | refine ean rfl (by assumption) (by assumption) rfl ?_ | refine eal rfl (by assumption) (by assumption) rfl ?_ | refine eri rfl ?_ | refine erv rfl ?_ | refine erl rfl ?_ | refine era rfl ?_ | refine erz0 rfl ?_ | refine erz1 rfl ?_)
      try dsimp only [set1, set2, kilP, List.set_cons_zero, List.set_cons_succ, List.getElem?_cons_zero, List.getElem?_cons_succ, List.nil_append, List.cons_append, Option.toList_some, Option.toList_none]
      exact ⟨rfl, ⟨f, fun j hj => hz j (by omega), hz2, hb⟩, hG⟩
    · exact absurd (nI_le (a := 7) (by omega) (by omega)) c
  | succ n ih =>
    intro i M0 M f hb hG hn hz hz2
    obtain ⟨h0, h1⟩ := hb
    have hi : i < 16 := by omega
    repeat (first | refine es rfl rfl rfl ?_ | refine eg rfl (by assumption) rfl ?_ | refine ean rfl (by assumption) (by assumption) rfl ?_ | refine eal rfl (by assumption) (by assumption) rfl ?_ | refine eri rfl ?_ | refine erv rfl ?_ | refine erl rfl ?_ | refine era rfl ?_ | refine erz0 rfl ?_ | refine erz1 rfl ?_)
    try dsimp only [set1, set2, kilP, List.set_cons_zero, List.set_cons_succ, List.getElem?_cons_zero, List.getElem?_cons_succ, List.nil_append, List.cons_append, Option.toList_some, Option.toList_none]
    refine ei _ rfl rfl (fun c => ?_) (fun c => ?_)
    · exact absurd c (nI_ge (b := 7) (by omega) (by omega))
    · repeat (first | refine es rfl rfl rfl ?_ | refine eg rfl (by assumption) rfl ?_ | refine ean rfl (by assumption) (by assumption) rfl ?_ | refine eal rfl (by assumption) (by assumption) rfl ?_ | refine eri rfl ?_ | refine erv rfl ?_ | refine erl rfl ?_ | refine era rfl ?_ | refine erz0 rfl ?_ | refine erz1 rfl ?_)
      try dsimp only [set1, set2, kilP, List.set_cons_zero, List.set_cons_succ, List.getElem?_cons_zero, List.getElem?_cons_succ, List.nil_append, List.cons_append, Option.toList_some, Option.toList_none]
      refine etM rfl (by assumption) (by assumption) rfl (fun M2 eM => ?_)
      have k1 := up_w eM
      replace h0 := up_k eM h0 (by omega)
      replace hG := hG.up eM (by omega)
      repeat (refine ng 14 rfl ?_; first | refine es rfl rfl rfl ?_ | refine eg rfl (by assumption) rfl ?_ | refine ean rfl (by assumption) (by assumption) rfl ?_ | refine eal rfl (by assumption) (by assumption) rfl ?_ | refine eri rfl ?_ | refine erv rfl ?_ | refine erl rfl ?_ | refine era rfl ?_ | refine erz0 rfl ?_ | refine erz1 rfl ?_)
      try dsimp only [set1, set2, kilP, List.set_cons_zero, List.set_cons_succ, List.getElem?_cons_zero, List.getElem?_cons_succ, List.nil_append, List.cons_append, Option.toList_some, Option.toList_none]
      rw [nI_1]
      refine ih (i + 1) M0 M2 _ ⟨h0, k1⟩ hG (by omega) (fun j hj => ?_) (fun j hj => ?_)
      · by_cases e : j = i
        · rw [e, pk_us]
        · rw [pk_un e]; exact hz j (by omega)
      · rw [pk_un (by omega)]; exact hz2 j hj
theorem i_X3 {ad : Nat → Nat} {M : Mm} {a : Nat} (h0 : M.1 a = some (.inr (3, [.null]))) (e1 : M.2.1 = a + 1) : EvM ad 0 (iX3_init ad) [.ref a] M (fun v' M' => v' = none ∧ (∃ f, (∀ j, j < 7 → f j = -2) ∧ (∀ j, 7 ≤ j → f j = 0) ∧ aNw M' a f) ∧ Gw a 1 16 M M') := by
  have hG := Gw.rf e1
  refine ⟨Nat.le_of_ble_eq_true rfl, ?_⟩
  show Ev ad _ (rX3_init ad) (0, [some (.ref a), none], [], M) _
  repeat (first | refine es rfl rfl rfl ?_ | refine eg rfl (by assumption) rfl ?_ | refine ean rfl (by assumption) (by assumption) rfl ?_ | refine eal rfl (by assumption) (by assumption) rfl ?_ | refine eri rfl ?_ | refine erv rfl ?_ | refine erl rfl ?_ | refine era rfl ?_ | refine erz0 rfl ?_ | refine erz1 rfl ?_)
  try dsimp only [set1, set2, kilP, List.set_cons_zero, List.set_cons_succ, List.getElem?_cons_zero, List.getElem?_cons_succ, List.nil_append, List.cons_append, Option.toList_some, Option.toList_none]
  refine enaM (n := 16) rfl rfl (fun M1 eM1 => ?_)
  rw [show M.2.1 = a + 1 + 0 from hG.n]
  have k1 : M1.1 (a + 1 + 0) = some (.inl (0, 16, .inl Z3)) := mk_w eM1 hG.n
  replace h0 := mk_k eM1 h0 (by have := hG.n; omega)
  replace hG := hG.mk eM1
  repeat (first | refine es rfl rfl rfl ?_ | refine eg rfl (by assumption) rfl ?_ | refine ean rfl (by assumption) (by assumption) rfl ?_ | refine eal rfl (by assumption) (by assumption) rfl ?_ | refine eri rfl ?_ | refine erv rfl ?_ | refine erl rfl ?_ | refine era rfl ?_ | refine erz0 rfl ?_ | refine erz1 rfl ?_)
  try dsimp only [set1, set2, kilP, List.set_cons_zero, List.set_cons_succ, List.getElem?_cons_zero, List.getElem?_cons_succ, List.nil_append, List.cons_append, Option.toList_some, Option.toList_none]
  refine epM rfl h0 rfl rfl rfl (fun M2 eM2 => ?_)
  replace h0 := up_w eM2
  replace k1 := up_k eM2 k1 (by omega)
  replace hG := hG.up eM2 (by omega)
  repeat (refine ng 14 rfl ?_; first | refine es rfl rfl rfl ?_ | refine eg rfl (by assumption) rfl ?_ | refine ean rfl (by assumption) (by assumption) rfl ?_ | refine eal rfl (by assumption) (by assumption) rfl ?_ | refine eri rfl ?_ | refine erv rfl ?_ | refine erl rfl ?_ | refine era rfl ?_ | refine erz0 rfl ?_ | refine erz1 rfl ?_)
  try dsimp only [set1, set2, kilP, List.set_cons_zero, List.set_cons_succ, List.getElem?_cons_zero, List.getElem?_cons_succ, List.nil_append, List.cons_append, Option.toList_some, Option.toList_none]
  exact i_X3_loop 7 0 M M2 Z3 ⟨h0, k1⟩ hG rfl (fun j hj => absurd hj (by omega)) (fun j hj => rfl)
theorem aPt.kp {M M' : Mm} {b : Nat} {p : Pt4} (hb : aPt M b p) (hq : ∀ q, b ≤ q → q < b + 3 → M'.1 q = M.1 q) : aPt M' b p := by
  obtain ⟨h0, h1, h2⟩ := hb
  exact ⟨(hq _ (by omega) (by omega)).trans h0, (hq _ (by omega) (by omega)).trans h1, (hq _ (by omega) (by omega)).trans h2⟩
theorem aWy.kp {M M' : Mm} {b : Nat} {p : Wy} (hb : aWy M b p) (hq : ∀ q, b ≤ q → q < b + 4 → M'.1 q = M.1 q) : aWy M' b p := by
  obtain ⟨h0, h1, h2, h3⟩ := hb
  exact ⟨(hq _ (by omega) (by omega)).trans h0, (hq _ (by omega) (by omega)).trans h1, (hq _ (by omega) (by omega)).trans h2, (hq _ (by omega) (by omega)).trans h3⟩
theorem aFt.kp {M M' : Mm} {b : Nat} {p : Ft} (hb : aFt M b p) (hq : ∀ q, b ≤ q → q < b + 5 → M'.1 q = M.1 q) : aFt M' b p := by
  obtain ⟨h0, h1, h2, h3, h4⟩ := hb
  exact ⟨(hq _ (by omega) (by omega)).trans h0, (hq _ (by omega) (by omega)).trans h1, (hq _ (by omega) (by omega)).trans h2, (hq _ (by omega) (by omega)).trans h3, (hq _ (by omega) (by omega)).trans h4⟩
theorem aRt.kp {M M' : Mm} {b : Nat} {p : Rt} (hb : aRt M b p) (hq : ∀ q, b ≤ q → q < b + 3 → M'.1 q = M.1 q) : aRt M' b p := by
  obtain ⟨h0, h1, h2⟩ := hb
  exact ⟨(hq _ (by omega) (by omega)).trans h0, (hq _ (by omega) (by omega)).trans h1, (hq _ (by omega) (by omega)).trans h2⟩
theorem i_X9 {ad : Nat → Nat} {M : Mm} {a : Nat} (h0 : M.1 a = some (.inr (9, [.int 0, .int 0, .null, .null, .null, .int 0, .null, .null, .null]))) (e1 : M.2.1 = a + 1) : EvM ad 1 (iX9_init ad) [.ref a] M (fun v' M' => v' = none ∧ aTw M' a ((0, 0, 0, Z6, Z3, Z3), (0, Z6, Z3, Z3, Z3, Z6, Z3, Z3, Z3), (0, Z3, Z3, Z3), (0, Z3, Z6, 0, Z3, Z3)) ∧ Gw a 21 216 M M') := by
  have hG := Gw.rf e1
  refine ⟨Nat.le_of_ble_eq_true rfl, ?_⟩
  show Ev ad _ (rX9_init ad) (0, [some (.ref a)], [], M) _
  repeat (first | refine es rfl rfl rfl ?_ | refine eg rfl (by assumption) rfl ?_ | refine ean rfl (by assumption) (by assumption) rfl ?_ | refine eal rfl (by assumption) (by assumption) rfl ?_ | refine eri rfl ?_ | refine erv rfl ?_ | refine erl rfl ?_ | refine era rfl ?_ | refine erz0 rfl ?_ | refine erz1 rfl ?_)
  try dsimp only [set1, set2, kilP, List.set_cons_zero, List.set_cons_succ, List.getElem?_cons_zero, List.getElem?_cons_succ, List.nil_append, List.cons_append, Option.toList_some, Option.toList_none]
  refine epM rfl h0 rfl rfl rfl (fun M1 eM1 => ?_)
  replace h0 := up_w eM1
  replace hG := hG.up eM1 (by omega)
  repeat (first | refine es rfl rfl rfl ?_ | refine eg rfl (by assumption) rfl ?_ | refine ean rfl (by assumption) (by assumption) rfl ?_ | refine eal rfl (by assumption) (by assumption) rfl ?_ | refine eri rfl ?_ | refine erv rfl ?_ | refine erl rfl ?_ | refine era rfl ?_ | refine erz0 rfl ?_ | refine erz1 rfl ?_)
  try dsimp only [set1, set2, kilP, List.set_cons_zero, List.set_cons_succ, List.getElem?_cons_zero, List.getElem?_cons_succ, List.nil_append, List.cons_append, Option.toList_some, Option.toList_none]
  refine epM rfl h0 rfl rfl rfl (fun M2 eM2 => ?_)
  replace h0 := up_w eM2
  replace hG := hG.up eM2 (by omega)
  repeat (first | refine es rfl rfl rfl ?_ | refine eg rfl (by assumption) rfl ?_ | refine ean rfl (by assumption) (by assumption) rfl ?_ | refine eal rfl (by assumption) (by assumption) rfl ?_ | refine eri rfl ?_ | refine erv rfl ?_ | refine erl rfl ?_ | refine era rfl ?_ | refine erz0 rfl ?_ | refine erz1 rfl ?_)
  try dsimp only [set1, set2, kilP, List.set_cons_zero, List.set_cons_succ, List.getElem?_cons_zero, List.getElem?_cons_succ, List.nil_append, List.cons_append, Option.toList_some, Option.toList_none]
  refine enwM rfl (fun M3 eM3 => ?_)
  rw [show M2.2.1 = a + 1 + 0 from hG.n]
  have ob : M3.1 (a + 1 + 0) = some (.inr (2, [.int 0, .null, .null, .null, .null, .null, .null, .null, .null])) := mk_w eM3 hG.n
  replace h0 := mk_k eM3 h0 (by have := hG.n; omega)
  replace hG := hG.mk eM3
  repeat (first | refine es rfl rfl rfl ?_ | refine eg rfl (by assumption) rfl ?_ | refine ean rfl (by assumption) (by assumption) rfl ?_ | refine eal rfl (by assumption) (by assumption) rfl ?_ | refine eri rfl ?_ | refine erv rfl ?_ | refine erl rfl ?_ | refine era rfl ?_ | refine erz0 rfl ?_ | refine erz1 rfl ?_)
  try dsimp only [set1, set2, kilP, List.set_cons_zero, List.set_cons_succ, List.getElem?_cons_zero, List.getElem?_cons_succ, List.nil_append, List.cons_append, Option.toList_some, Option.toList_none]
  refine eci rfl rfl rfl rfl rfl (i_X2 ob (by have := hG.n; omega)) (by first | rfl | exact Nat.blt_eq.mpr (by omega)) ?_
  rintro v M4 ⟨rfl, p1, hG2⟩
  replace h0 := (hG2.1 _ (by omega)).trans h0
  replace hG := hG.sub hG2 rfl
  try dsimp only [set1, set2, kilP, List.set_cons_zero, List.set_cons_succ, List.getElem?_cons_zero, List.getElem?_cons_succ, List.nil_append, List.cons_append, Option.toList_some, Option.toList_none]
  repeat (first | refine es rfl rfl rfl ?_ | refine eg rfl (by assumption) rfl ?_ | refine ean rfl (by assumption) (by assumption) rfl ?_ | refine eal rfl (by assumption) (by assumption) rfl ?_ | refine eri rfl ?_ | refine erv rfl ?_ | refine erl rfl ?_ | refine era rfl ?_ | refine erz0 rfl ?_ | refine erz1 rfl ?_)
  try dsimp only [set1, set2, kilP, List.set_cons_zero, List.set_cons_succ, List.getElem?_cons_zero, List.getElem?_cons_succ, List.nil_append, List.cons_append, Option.toList_some, Option.toList_none]
  refine epM rfl h0 rfl rfl rfl (fun M5 eM5 => ?_)
  replace h0 := up_w eM5
  replace p1 := p1.kept (fun q a1 a2 => up_k eM5 rfl (by omega))
  replace hG := hG.up eM5 (by omega)
  repeat (first | refine es rfl rfl rfl ?_ | refine eg rfl (by assumption) rfl ?_ | refine ean rfl (by assumption) (by assumption) rfl ?_ | refine eal rfl (by assumption) (by assumption) rfl ?_ | refine eri rfl ?_ | refine erv rfl ?_ | refine erl rfl ?_ | refine era rfl ?_ | refine erz0 rfl ?_ | refine erz1 rfl ?_)
  try dsimp only [set1, set2, kilP, List.set_cons_zero, List.set_cons_succ, List.getElem?_cons_zero, List.getElem?_cons_succ, List.nil_append, List.cons_append, Option.toList_some, Option.toList_none]
  refine enwM rfl (fun M6 eM6 => ?_)
  rw [show M5.2.1 = a + 1 + 9 from hG.n]
  have ob : M6.1 (a + 1 + 9) = some (.inr (7, [.int 0, .null, .null, .null])) := mk_w eM6 hG.n
  replace h0 := mk_k eM6 h0 (by have := hG.n; omega)
  replace p1 := p1.kept (fun q a1 a2 => mk_k eM6 rfl (by have := hG.n; omega))
  replace hG := hG.mk eM6
  repeat (first | refine es rfl rfl rfl ?_ | refine eg rfl (by assumption) rfl ?_ | refine ean rfl (by assumption) (by assumption) rfl ?_ | refine eal rfl (by assumption) (by assumption) rfl ?_ | refine eri rfl ?_ | refine erv rfl ?_ | refine erl rfl ?_ | refine era rfl ?_ | refine erz0 rfl ?_ | refine erz1 rfl ?_)
  try dsimp only [set1, set2, kilP, List.set_cons_zero, List.set_cons_succ, List.getElem?_cons_zero, List.getElem?_cons_succ, List.nil_append, List.cons_append, Option.toList_some, Option.toList_none]
  refine eci rfl rfl rfl rfl rfl (i_X7 ob (by have := hG.n; omega)) (by first | rfl | exact Nat.blt_eq.mpr (by omega)) ?_
  rintro v M7 ⟨rfl, p10, hG2⟩
  replace h0 := (hG2.1 _ (by omega)).trans h0
  replace p1 := p1.kept (fun q a1 a2 => hG2.1 q (by omega))
  replace hG := hG.sub hG2 rfl
  try dsimp only [set1, set2, kilP, List.set_cons_zero, List.set_cons_succ, List.getElem?_cons_zero, List.getElem?_cons_succ, List.nil_append, List.cons_append, Option.toList_some, Option.toList_none]
  repeat (first | refine es rfl rfl rfl ?_ | refine eg rfl (by assumption) rfl ?_ | refine ean rfl (by assumption) (by assumption) rfl ?_ | refine eal rfl (by assumption) (by assumption) rfl ?_ | refine eri rfl ?_ | refine erv rfl ?_ | refine erl rfl ?_ | refine era rfl ?_ | refine erz0 rfl ?_ | refine erz1 rfl ?_)
  try dsimp only [set1, set2, kilP, List.set_cons_zero, List.set_cons_succ, List.getElem?_cons_zero, List.getElem?_cons_succ, List.nil_append, List.cons_append, Option.toList_some, Option.toList_none]
  refine epM rfl h0 rfl rfl rfl (fun M8 eM8 => ?_)
  replace h0 := up_w eM8
  replace p1 := p1.kept (fun q a1 a2 => up_k eM8 rfl (by omega))
  replace p10 := p10.kept (fun q a1 a2 => up_k eM8 rfl (by omega))
  replace hG := hG.up eM8 (by omega)
  repeat (first | refine es rfl rfl rfl ?_ | refine eg rfl (by assumption) rfl ?_ | refine ean rfl (by assumption) (by assumption) rfl ?_ | refine eal rfl (by assumption) (by assumption) rfl ?_ | refine eri rfl ?_ | refine erv rfl ?_ | refine erl rfl ?_ | refine era rfl ?_ | refine erz0 rfl ?_ | refine erz1 rfl ?_)
  try dsimp only [set1, set2, kilP, List.set_cons_zero, List.set_cons_succ, List.getElem?_cons_zero, List.getElem?_cons_succ, List.nil_append, List.cons_append, Option.toList_some, Option.toList_none]
  refine enwM rfl (fun M9 eM9 => ?_)
  rw [show M8.2.1 = a + 1 + 13 from hG.n]
  have ob : M9.1 (a + 1 + 13) = some (.inr (0, [.int 0, .null, .null, .int 0, .null, .null])) := mk_w eM9 hG.n
  replace h0 := mk_k eM9 h0 (by have := hG.n; omega)
  replace p1 := p1.kept (fun q a1 a2 => mk_k eM9 rfl (by have := hG.n; omega))
  replace p10 := p10.kept (fun q a1 a2 => mk_k eM9 rfl (by have := hG.n; omega))
  replace hG := hG.mk eM9
  repeat (first | refine es rfl rfl rfl ?_ | refine eg rfl (by assumption) rfl ?_ | refine ean rfl (by assumption) (by assumption) rfl ?_ | refine eal rfl (by assumption) (by assumption) rfl ?_ | refine eri rfl ?_ | refine erv rfl ?_ | refine erl rfl ?_ | refine era rfl ?_ | refine erz0 rfl ?_ | refine erz1 rfl ?_)
  try dsimp only [set1, set2, kilP, List.set_cons_zero, List.set_cons_succ, List.getElem?_cons_zero, List.getElem?_cons_succ, List.nil_append, List.cons_append, Option.toList_some, Option.toList_none]
  refine eci rfl rfl rfl rfl rfl (i_X0 ob (by have := hG.n; omega)) (by first | rfl | exact Nat.blt_eq.mpr (by omega)) ?_
  rintro v M10 ⟨rfl, p14, hG2⟩
  replace h0 := (hG2.1 _ (by omega)).trans h0
  replace p1 := p1.kept (fun q a1 a2 => hG2.1 q (by omega))
  replace p10 := p10.kept (fun q a1 a2 => hG2.1 q (by omega))
  replace hG := hG.sub hG2 rfl
  try dsimp only [set1, set2, kilP, List.set_cons_zero, List.set_cons_succ, List.getElem?_cons_zero, List.getElem?_cons_succ, List.nil_append, List.cons_append, Option.toList_some, Option.toList_none]
  repeat (first | refine es rfl rfl rfl ?_ | refine eg rfl (by assumption) rfl ?_ | refine ean rfl (by assumption) (by assumption) rfl ?_ | refine eal rfl (by assumption) (by assumption) rfl ?_ | refine eri rfl ?_ | refine erv rfl ?_ | refine erl rfl ?_ | refine era rfl ?_ | refine erz0 rfl ?_ | refine erz1 rfl ?_)
  try dsimp only [set1, set2, kilP, List.set_cons_zero, List.set_cons_succ, List.getElem?_cons_zero, List.getElem?_cons_succ, List.nil_append, List.cons_append, Option.toList_some, Option.toList_none]
  refine epM rfl h0 rfl rfl rfl (fun M11 eM11 => ?_)
  replace h0 := up_w eM11
  replace p1 := p1.kept (fun q a1 a2 => up_k eM11 rfl (by omega))
  replace p10 := p10.kept (fun q a1 a2 => up_k eM11 rfl (by omega))
  replace p14 := p14.kept (fun q a1 a2 => up_k eM11 rfl (by omega))
  replace hG := hG.up eM11 (by omega)
  repeat (first | refine es rfl rfl rfl ?_ | refine eg rfl (by assumption) rfl ?_ | refine ean rfl (by assumption) (by assumption) rfl ?_ | refine eal rfl (by assumption) (by assumption) rfl ?_ | refine eri rfl ?_ | refine erv rfl ?_ | refine erl rfl ?_ | refine era rfl ?_ | refine erz0 rfl ?_ | refine erz1 rfl ?_)
  try dsimp only [set1, set2, kilP, List.set_cons_zero, List.set_cons_succ, List.getElem?_cons_zero, List.getElem?_cons_succ, List.nil_append, List.cons_append, Option.toList_some, Option.toList_none]
  refine epM rfl h0 rfl rfl rfl (fun M12 eM12 => ?_)
  replace h0 := up_w eM12
  replace p1 := p1.kept (fun q a1 a2 => up_k eM12 rfl (by omega))
  replace p10 := p10.kept (fun q a1 a2 => up_k eM12 rfl (by omega))
  replace p14 := p14.kept (fun q a1 a2 => up_k eM12 rfl (by omega))
  replace hG := hG.up eM12 (by omega)
  repeat (first | refine es rfl rfl rfl ?_ | refine eg rfl (by assumption) rfl ?_ | refine ean rfl (by assumption) (by assumption) rfl ?_ | refine eal rfl (by assumption) (by assumption) rfl ?_ | refine eri rfl ?_ | refine erv rfl ?_ | refine erl rfl ?_ | refine era rfl ?_ | refine erz0 rfl ?_ | refine erz1 rfl ?_)
  try dsimp only [set1, set2, kilP, List.set_cons_zero, List.set_cons_succ, List.getElem?_cons_zero, List.getElem?_cons_succ, List.nil_append, List.cons_append, Option.toList_some, Option.toList_none]
  refine enaM (n := 4) rfl rfl (fun M13 eM13 => ?_)
  rw [show M12.2.1 = a + 1 + 18 from hG.n]
  have k19 : M13.1 (a + 1 + 18) = some (.inl (1, 4, .inr Z6)) := mk_w eM13 hG.n
  replace h0 := mk_k eM13 h0 (by have := hG.n; omega)
  replace p1 := p1.kept (fun q a1 a2 => mk_k eM13 rfl (by have := hG.n; omega))
  replace p10 := p10.kept (fun q a1 a2 => mk_k eM13 rfl (by have := hG.n; omega))
  replace p14 := p14.kept (fun q a1 a2 => mk_k eM13 rfl (by have := hG.n; omega))
  replace hG := hG.mk eM13
  repeat (first | refine es rfl rfl rfl ?_ | refine eg rfl (by assumption) rfl ?_ | refine ean rfl (by assumption) (by assumption) rfl ?_ | refine eal rfl (by assumption) (by assumption) rfl ?_ | refine eri rfl ?_ | refine erv rfl ?_ | refine erl rfl ?_ | refine era rfl ?_ | refine erz0 rfl ?_ | refine erz1 rfl ?_)
  try dsimp only [set1, set2, kilP, List.set_cons_zero, List.set_cons_succ, List.getElem?_cons_zero, List.getElem?_cons_succ, List.nil_append, List.cons_append, Option.toList_some, Option.toList_none]
  refine epM rfl h0 rfl rfl rfl (fun M14 eM14 => ?_)
  replace h0 := up_w eM14
  replace k19 := up_k eM14 k19 (by omega)
  replace p1 := p1.kept (fun q a1 a2 => up_k eM14 rfl (by omega))
  replace p10 := p10.kept (fun q a1 a2 => up_k eM14 rfl (by omega))
  replace p14 := p14.kept (fun q a1 a2 => up_k eM14 rfl (by omega))
  replace hG := hG.up eM14 (by omega)
  repeat (first | refine es rfl rfl rfl ?_ | refine eg rfl (by assumption) rfl ?_ | refine ean rfl (by assumption) (by assumption) rfl ?_ | refine eal rfl (by assumption) (by assumption) rfl ?_ | refine eri rfl ?_ | refine erv rfl ?_ | refine erl rfl ?_ | refine era rfl ?_ | refine erz0 rfl ?_ | refine erz1 rfl ?_)
  try dsimp only [set1, set2, kilP, List.set_cons_zero, List.set_cons_succ, List.getElem?_cons_zero, List.getElem?_cons_succ, List.nil_append, List.cons_append, Option.toList_some, Option.toList_none]
  refine enaM (n := 4) rfl rfl (fun M15 eM15 => ?_)
  rw [show M14.2.1 = a + 1 + 19 from hG.n]
  have k20 : M15.1 (a + 1 + 19) = some (.inl (0, 4, .inl Z3)) := mk_w eM15 hG.n
  replace h0 := mk_k eM15 h0 (by have := hG.n; omega)
  replace k19 := mk_k eM15 k19 (by have := hG.n; omega)
  replace p1 := p1.kept (fun q a1 a2 => mk_k eM15 rfl (by have := hG.n; omega))
  replace p10 := p10.kept (fun q a1 a2 => mk_k eM15 rfl (by have := hG.n; omega))
  replace p14 := p14.kept (fun q a1 a2 => mk_k eM15 rfl (by have := hG.n; omega))
  replace hG := hG.mk eM15
  repeat (first | refine es rfl rfl rfl ?_ | refine eg rfl (by assumption) rfl ?_ | refine ean rfl (by assumption) (by assumption) rfl ?_ | refine eal rfl (by assumption) (by assumption) rfl ?_ | refine eri rfl ?_ | refine erv rfl ?_ | refine erl rfl ?_ | refine era rfl ?_ | refine erz0 rfl ?_ | refine erz1 rfl ?_)
  try dsimp only [set1, set2, kilP, List.set_cons_zero, List.set_cons_succ, List.getElem?_cons_zero, List.getElem?_cons_succ, List.nil_append, List.cons_append, Option.toList_some, Option.toList_none]
  refine epM rfl h0 rfl rfl rfl (fun M16 eM16 => ?_)
  replace h0 := up_w eM16
  replace k19 := up_k eM16 k19 (by omega)
  replace k20 := up_k eM16 k20 (by omega)
  replace p1 := p1.kept (fun q a1 a2 => up_k eM16 rfl (by omega))
  replace p10 := p10.kept (fun q a1 a2 => up_k eM16 rfl (by omega))
  replace p14 := p14.kept (fun q a1 a2 => up_k eM16 rfl (by omega))
  replace hG := hG.up eM16 (by omega)
  repeat (first | refine es rfl rfl rfl ?_ | refine eg rfl (by assumption) rfl ?_ | refine ean rfl (by assumption) (by assumption) rfl ?_ | refine eal rfl (by assumption) (by assumption) rfl ?_ | refine eri rfl ?_ | refine erv rfl ?_ | refine erl rfl ?_ | refine era rfl ?_ | refine erz0 rfl ?_ | refine erz1 rfl ?_)
  try dsimp only [set1, set2, kilP, List.set_cons_zero, List.set_cons_succ, List.getElem?_cons_zero, List.getElem?_cons_succ, List.nil_append, List.cons_append, Option.toList_some, Option.toList_none]
  refine enaM (n := 4) rfl rfl (fun M17 eM17 => ?_)
  rw [show M16.2.1 = a + 1 + 20 from hG.n]
  have k21 : M17.1 (a + 1 + 20) = some (.inl (0, 4, .inl Z3)) := mk_w eM17 hG.n
  replace h0 := mk_k eM17 h0 (by have := hG.n; omega)
  replace k19 := mk_k eM17 k19 (by have := hG.n; omega)
  replace k20 := mk_k eM17 k20 (by have := hG.n; omega)
  replace p1 := p1.kept (fun q a1 a2 => mk_k eM17 rfl (by have := hG.n; omega))
  replace p10 := p10.kept (fun q a1 a2 => mk_k eM17 rfl (by have := hG.n; omega))
  replace p14 := p14.kept (fun q a1 a2 => mk_k eM17 rfl (by have := hG.n; omega))
  replace hG := hG.mk eM17
  repeat (first | refine es rfl rfl rfl ?_ | refine eg rfl (by assumption) rfl ?_ | refine ean rfl (by assumption) (by assumption) rfl ?_ | refine eal rfl (by assumption) (by assumption) rfl ?_ | refine eri rfl ?_ | refine erv rfl ?_ | refine erl rfl ?_ | refine era rfl ?_ | refine erz0 rfl ?_ | refine erz1 rfl ?_)
  try dsimp only [set1, set2, kilP, List.set_cons_zero, List.set_cons_succ, List.getElem?_cons_zero, List.getElem?_cons_succ, List.nil_append, List.cons_append, Option.toList_some, Option.toList_none]
  refine epM rfl h0 rfl rfl rfl (fun M18 eM18 => ?_)
  replace h0 := up_w eM18
  replace k19 := up_k eM18 k19 (by omega)
  replace k20 := up_k eM18 k20 (by omega)
  replace k21 := up_k eM18 k21 (by omega)
  replace p1 := p1.kept (fun q a1 a2 => up_k eM18 rfl (by omega))
  replace p10 := p10.kept (fun q a1 a2 => up_k eM18 rfl (by omega))
  replace p14 := p14.kept (fun q a1 a2 => up_k eM18 rfl (by omega))
  replace hG := hG.up eM18 (by omega)
  repeat (first | refine es rfl rfl rfl ?_ | refine eg rfl (by assumption) rfl ?_ | refine ean rfl (by assumption) (by assumption) rfl ?_ | refine eal rfl (by assumption) (by assumption) rfl ?_ | refine eri rfl ?_ | refine erv rfl ?_ | refine erl rfl ?_ | refine era rfl ?_ | refine erz0 rfl ?_ | refine erz1 rfl ?_)
  try dsimp only [set1, set2, kilP, List.set_cons_zero, List.set_cons_succ, List.getElem?_cons_zero, List.getElem?_cons_succ, List.nil_append, List.cons_append, Option.toList_some, Option.toList_none]
  exact ⟨rfl, ⟨⟨h0, k19, k20, k21⟩, p1, p10, p14⟩, hG⟩
theorem i_X8 {ad : Nat → Nat} {M : Mm} {a : Nat} (h0 : M.1 a = some (.inr (8, [.null, .int 0, .null, .null, .null, .int 0, .int 0]))) (e1 : M.2.1 = a + 1) : EvM ad 1 (iX8_init ad) [.ref a] M (fun v' M' => v' = none ∧ (∃ f, aSw M' a (Z3, 0, f, Z3, Z3, 0, -1)) ∧ Gw a 5 30 M M') := by
  have hG := Gw.rf e1
  refine ⟨Nat.le_of_ble_eq_true rfl, ?_⟩
  show Ev ad _ (rX8_init ad) (0, [some (.ref a)], [], M) _
  repeat (first | refine es rfl rfl rfl ?_ | refine eg rfl (by assumption) rfl ?_ | refine ean rfl (by assumption) (by assumption) rfl ?_ | refine eal rfl (by assumption) (by assumption) rfl ?_ | refine eri rfl ?_ | refine erv rfl ?_ | refine erl rfl ?_ | refine era rfl ?_ | refine erz0 rfl ?_ | refine erz1 rfl ?_)
  try dsimp only [set1, set2, kilP, List.set_cons_zero, List.set_cons_succ, List.getElem?_cons_zero, List.getElem?_cons_succ, List.nil_append, List.cons_append, Option.toList_some, Option.toList_none]
  refine enaM (n := 7) rfl rfl (fun M1 eM1 => ?_)
  rw [show M.2.1 = a + 1 + 0 from hG.n]
  have k1 : M1.1 (a + 1 + 0) = some (.inl (0, 7, .inl Z3)) := mk_w eM1 hG.n
  replace h0 := mk_k eM1 h0 (by have := hG.n; omega)
  replace hG := hG.mk eM1
  repeat (first | refine es rfl rfl rfl ?_ | refine eg rfl (by assumption) rfl ?_ | refine ean rfl (by assumption) (by assumption) rfl ?_ | refine eal rfl (by assumption) (by assumption) rfl ?_ | refine eri rfl ?_ | refine erv rfl ?_ | refine erl rfl ?_ | refine era rfl ?_ | refine erz0 rfl ?_ | refine erz1 rfl ?_)
  try dsimp only [set1, set2, kilP, List.set_cons_zero, List.set_cons_succ, List.getElem?_cons_zero, List.getElem?_cons_succ, List.nil_append, List.cons_append, Option.toList_some, Option.toList_none]
  refine epM rfl h0 rfl rfl rfl (fun M2 eM2 => ?_)
  replace h0 := up_w eM2
  replace k1 := up_k eM2 k1 (by omega)
  replace hG := hG.up eM2 (by omega)
  repeat (first | refine es rfl rfl rfl ?_ | refine eg rfl (by assumption) rfl ?_ | refine ean rfl (by assumption) (by assumption) rfl ?_ | refine eal rfl (by assumption) (by assumption) rfl ?_ | refine eri rfl ?_ | refine erv rfl ?_ | refine erl rfl ?_ | refine era rfl ?_ | refine erz0 rfl ?_ | refine erz1 rfl ?_)
  try dsimp only [set1, set2, kilP, List.set_cons_zero, List.set_cons_succ, List.getElem?_cons_zero, List.getElem?_cons_succ, List.nil_append, List.cons_append, Option.toList_some, Option.toList_none]
  refine epM rfl h0 rfl rfl rfl (fun M3 eM3 => ?_)
  replace h0 := up_w eM3
  replace k1 := up_k eM3 k1 (by omega)
  replace hG := hG.up eM3 (by omega)
  repeat (first | refine es rfl rfl rfl ?_ | refine eg rfl (by assumption) rfl ?_ | refine ean rfl (by assumption) (by assumption) rfl ?_ | refine eal rfl (by assumption) (by assumption) rfl ?_ | refine eri rfl ?_ | refine erv rfl ?_ | refine erl rfl ?_ | refine era rfl ?_ | refine erz0 rfl ?_ | refine erz1 rfl ?_)
  try dsimp only [set1, set2, kilP, List.set_cons_zero, List.set_cons_succ, List.getElem?_cons_zero, List.getElem?_cons_succ, List.nil_append, List.cons_append, Option.toList_some, Option.toList_none]
  refine enwM rfl (fun M4 eM4 => ?_)
  rw [show M3.2.1 = a + 1 + 1 from hG.n]
  have ob : M4.1 (a + 1 + 1) = some (.inr (3, [.null])) := mk_w eM4 hG.n
  replace h0 := mk_k eM4 h0 (by have := hG.n; omega)
  replace k1 := mk_k eM4 k1 (by have := hG.n; omega)
  replace hG := hG.mk eM4
  repeat (first | refine es rfl rfl rfl ?_ | refine eg rfl (by assumption) rfl ?_ | refine ean rfl (by assumption) (by assumption) rfl ?_ | refine eal rfl (by assumption) (by assumption) rfl ?_ | refine eri rfl ?_ | refine erv rfl ?_ | refine erl rfl ?_ | refine era rfl ?_ | refine erz0 rfl ?_ | refine erz1 rfl ?_)
  try dsimp only [set1, set2, kilP, List.set_cons_zero, List.set_cons_succ, List.getElem?_cons_zero, List.getElem?_cons_succ, List.nil_append, List.cons_append, Option.toList_some, Option.toList_none]
  refine eci rfl rfl rfl rfl rfl (i_X3 ob (by have := hG.n; omega)) (by first | rfl | exact Nat.blt_eq.mpr (by omega)) ?_
  rintro v M5 ⟨rfl, ⟨gp2, zap2, zbp2, p2⟩, hG2⟩
  replace h0 := (hG2.1 _ (by omega)).trans h0
  replace k1 := (hG2.1 _ (by omega)).trans k1
  replace hG := hG.sub hG2 rfl
  try dsimp only [set1, set2, kilP, List.set_cons_zero, List.set_cons_succ, List.getElem?_cons_zero, List.getElem?_cons_succ, List.nil_append, List.cons_append, Option.toList_some, Option.toList_none]
  repeat (first | refine es rfl rfl rfl ?_ | refine eg rfl (by assumption) rfl ?_ | refine ean rfl (by assumption) (by assumption) rfl ?_ | refine eal rfl (by assumption) (by assumption) rfl ?_ | refine eri rfl ?_ | refine erv rfl ?_ | refine erl rfl ?_ | refine era rfl ?_ | refine erz0 rfl ?_ | refine erz1 rfl ?_)
  try dsimp only [set1, set2, kilP, List.set_cons_zero, List.set_cons_succ, List.getElem?_cons_zero, List.getElem?_cons_succ, List.nil_append, List.cons_append, Option.toList_some, Option.toList_none]
  refine epM rfl h0 rfl rfl rfl (fun M6 eM6 => ?_)
  replace h0 := up_w eM6
  replace k1 := up_k eM6 k1 (by omega)
  replace p2 := p2.kept (fun q a1 a2 => up_k eM6 rfl (by omega))
  replace hG := hG.up eM6 (by omega)
  repeat (first | refine es rfl rfl rfl ?_ | refine eg rfl (by assumption) rfl ?_ | refine ean rfl (by assumption) (by assumption) rfl ?_ | refine eal rfl (by assumption) (by assumption) rfl ?_ | refine eri rfl ?_ | refine erv rfl ?_ | refine erl rfl ?_ | refine era rfl ?_ | refine erz0 rfl ?_ | refine erz1 rfl ?_)
  try dsimp only [set1, set2, kilP, List.set_cons_zero, List.set_cons_succ, List.getElem?_cons_zero, List.getElem?_cons_succ, List.nil_append, List.cons_append, Option.toList_some, Option.toList_none]
  refine enaM (n := 3) rfl rfl (fun M7 eM7 => ?_)
  rw [show M6.2.1 = a + 1 + 3 from hG.n]
  have k4 : M7.1 (a + 1 + 3) = some (.inl (0, 3, .inl Z3)) := mk_w eM7 hG.n
  replace h0 := mk_k eM7 h0 (by have := hG.n; omega)
  replace k1 := mk_k eM7 k1 (by have := hG.n; omega)
  replace p2 := p2.kept (fun q a1 a2 => mk_k eM7 rfl (by have := hG.n; omega))
  replace hG := hG.mk eM7
  repeat (first | refine es rfl rfl rfl ?_ | refine eg rfl (by assumption) rfl ?_ | refine ean rfl (by assumption) (by assumption) rfl ?_ | refine eal rfl (by assumption) (by assumption) rfl ?_ | refine eri rfl ?_ | refine erv rfl ?_ | refine erl rfl ?_ | refine era rfl ?_ | refine erz0 rfl ?_ | refine erz1 rfl ?_)
  try dsimp only [set1, set2, kilP, List.set_cons_zero, List.set_cons_succ, List.getElem?_cons_zero, List.getElem?_cons_succ, List.nil_append, List.cons_append, Option.toList_some, Option.toList_none]
  refine epM rfl h0 rfl rfl rfl (fun M8 eM8 => ?_)
  replace h0 := up_w eM8
  replace k1 := up_k eM8 k1 (by omega)
  replace k4 := up_k eM8 k4 (by omega)
  replace p2 := p2.kept (fun q a1 a2 => up_k eM8 rfl (by omega))
  replace hG := hG.up eM8 (by omega)
  repeat (first | refine es rfl rfl rfl ?_ | refine eg rfl (by assumption) rfl ?_ | refine ean rfl (by assumption) (by assumption) rfl ?_ | refine eal rfl (by assumption) (by assumption) rfl ?_ | refine eri rfl ?_ | refine erv rfl ?_ | refine erl rfl ?_ | refine era rfl ?_ | refine erz0 rfl ?_ | refine erz1 rfl ?_)
  try dsimp only [set1, set2, kilP, List.set_cons_zero, List.set_cons_succ, List.getElem?_cons_zero, List.getElem?_cons_succ, List.nil_append, List.cons_append, Option.toList_some, Option.toList_none]
  refine enaM (n := 3) rfl rfl (fun M9 eM9 => ?_)
  rw [show M8.2.1 = a + 1 + 4 from hG.n]
  have k5 : M9.1 (a + 1 + 4) = some (.inl (0, 3, .inl Z3)) := mk_w eM9 hG.n
  replace h0 := mk_k eM9 h0 (by have := hG.n; omega)
  replace k1 := mk_k eM9 k1 (by have := hG.n; omega)
  replace k4 := mk_k eM9 k4 (by have := hG.n; omega)
  replace p2 := p2.kept (fun q a1 a2 => mk_k eM9 rfl (by have := hG.n; omega))
  replace hG := hG.mk eM9
  repeat (first | refine es rfl rfl rfl ?_ | refine eg rfl (by assumption) rfl ?_ | refine ean rfl (by assumption) (by assumption) rfl ?_ | refine eal rfl (by assumption) (by assumption) rfl ?_ | refine eri rfl ?_ | refine erv rfl ?_ | refine erl rfl ?_ | refine era rfl ?_ | refine erz0 rfl ?_ | refine erz1 rfl ?_)
  try dsimp only [set1, set2, kilP, List.set_cons_zero, List.set_cons_succ, List.getElem?_cons_zero, List.getElem?_cons_succ, List.nil_append, List.cons_append, Option.toList_some, Option.toList_none]
  refine epM rfl h0 rfl rfl rfl (fun M10 eM10 => ?_)
  replace h0 := up_w eM10
  replace k1 := up_k eM10 k1 (by omega)
  replace k4 := up_k eM10 k4 (by omega)
  replace k5 := up_k eM10 k5 (by omega)
  replace p2 := p2.kept (fun q a1 a2 => up_k eM10 rfl (by omega))
  replace hG := hG.up eM10 (by omega)
  repeat (first | refine es rfl rfl rfl ?_ | refine eg rfl (by assumption) rfl ?_ | refine ean rfl (by assumption) (by assumption) rfl ?_ | refine eal rfl (by assumption) (by assumption) rfl ?_ | refine eri rfl ?_ | refine erv rfl ?_ | refine erl rfl ?_ | refine era rfl ?_ | refine erz0 rfl ?_ | refine erz1 rfl ?_)
  try dsimp only [set1, set2, kilP, List.set_cons_zero, List.set_cons_succ, List.getElem?_cons_zero, List.getElem?_cons_succ, List.nil_append, List.cons_append, Option.toList_some, Option.toList_none]
  refine epM rfl h0 rfl rfl rfl (fun M11 eM11 => ?_)
  replace h0 := up_w eM11
  replace k1 := up_k eM11 k1 (by omega)
  replace k4 := up_k eM11 k4 (by omega)
  replace k5 := up_k eM11 k5 (by omega)
  replace p2 := p2.kept (fun q a1 a2 => up_k eM11 rfl (by omega))
  replace hG := hG.up eM11 (by omega)
  repeat (first | refine es rfl rfl rfl ?_ | refine eg rfl (by assumption) rfl ?_ | refine ean rfl (by assumption) (by assumption) rfl ?_ | refine eal rfl (by assumption) (by assumption) rfl ?_ | refine eri rfl ?_ | refine erv rfl ?_ | refine erl rfl ?_ | refine era rfl ?_ | refine erz0 rfl ?_ | refine erz1 rfl ?_)
  try dsimp only [set1, set2, kilP, List.set_cons_zero, List.set_cons_succ, List.getElem?_cons_zero, List.getElem?_cons_succ, List.nil_append, List.cons_append, Option.toList_some, Option.toList_none]
  refine epM rfl h0 rfl rfl rfl (fun M12 eM12 => ?_)
  replace h0 := up_w eM12
  replace k1 := up_k eM12 k1 (by omega)
  replace k4 := up_k eM12 k4 (by omega)
  replace k5 := up_k eM12 k5 (by omega)
  replace p2 := p2.kept (fun q a1 a2 => up_k eM12 rfl (by omega))
  replace hG := hG.up eM12 (by omega)
  repeat (first | refine es rfl rfl rfl ?_ | refine eg rfl (by assumption) rfl ?_ | refine ean rfl (by assumption) (by assumption) rfl ?_ | refine eal rfl (by assumption) (by assumption) rfl ?_ | refine eri rfl ?_ | refine erv rfl ?_ | refine erl rfl ?_ | refine era rfl ?_ | refine erz0 rfl ?_ | refine erz1 rfl ?_)
  try dsimp only [set1, set2, kilP, List.set_cons_zero, List.set_cons_succ, List.getElem?_cons_zero, List.getElem?_cons_succ, List.nil_append, List.cons_append, Option.toList_some, Option.toList_none]
  exact ⟨rfl, ⟨_, h0, k1, p2, k4, k5⟩, hG⟩
theorem aSt.gw {ad : Nat → Nat} {lo a i s : Nat} {M M' : Mm} (h : aSt ad lo M) (hG : Gw a i s M M') (hl : lo ≤ a) : aSt ad lo M' := fun j hj => ⟨(h j hj).1, (hG.1 _ (by have := (h j hj).1; omega)).trans (h j hj).2⟩
abbrev zT : Tw := ((0, 0, 0, Z6, Z3, Z3), (0, Z6, Z3, Z3, Z3, Z6, Z3, Z3, Z3), (0, Z3, Z3, Z3), (0, Z3, Z6, 0, Z3, Z3))
theorem aRq.kp {M M' : Mm} {b t : Nat} {tp : Nat → Int32} {sc : Nat → Int64} {q : Rq} (hb : aRq M b t tp sc q) (hq : ∀ q, b ≤ q → q < b + 25 → M'.1 q = M.1 q) : aRq M' b t tp sc q := ⟨(hq _ (by omega) (by omega)).trans hb.1, (hq _ (by omega) (by omega)).trans hb.2.1, (hq _ (by omega) (by omega)).trans hb.2.2⟩
def scZ : Nat → Int64 := (vp_updL (vp_updL (vp_updL (vp_updL (vp_updL (vp_updL (vp_updL (vp_updL Z6 0 (sC 0)) 1 (sC 1)) 2 (sC 2)) 3 (sC 3)) 4 (sC 4)) 5 (sC 5)) 6 (sC 6)) 7 (sC 7))
theorem scZ_ok : ∀ j, j < 8 → scZ j = sC j := by
  intro j hj
  match j, hj with
  | 0, _ => rfl
  | 1, _ => rfl
  | 2, _ => rfl
  | 3, _ => rfl
  | 4, _ => rfl
  | 5, _ => rfl
  | 6, _ => rfl
  | 7, _ => rfl
  | n + 8, h => exact absurd h (by omega)
theorem i_X5 {ad : Nat → Nat} {M : Mm} {a : Nat} (h0 : M.1 a = some (.inr (5, [.int 0, .int 0, .int 0, .null, .null, .null, .int 0, .int 0, .int 0, .int 0, .long 0, .int 0, .int 0]))) (e1 : M.2.1 = a + 1) (hS : aSt ad a M) : EvM ad 2 (iX5_init ad) [.ref a] M (fun v' M' => v' = none ∧ (aRq M' a (a + 2) Z3 scZ (0, -1, 0, 0, 0, 0, 0, 0, 0, -1) ∧ aTw M' (a + 2) zT) ∧ Gw a 24 1333 M M') := by
  have hG := Gw.rf e1
  refine ⟨Nat.le_of_ble_eq_true rfl, ?_⟩
  show Ev ad _ (rX5_init ad) (0, [some (.ref a)], [], M) _
  repeat (first | refine es rfl rfl rfl ?_ | refine eg rfl (by assumption) rfl ?_ | refine ean rfl (by assumption) (by assumption) rfl ?_ | refine eal rfl (by assumption) (by assumption) rfl ?_ | refine eri rfl ?_ | refine erv rfl ?_ | refine erl rfl ?_ | refine era rfl ?_ | refine erz0 rfl ?_ | refine erz1 rfl ?_)
  try dsimp only [set1, set2, kilP, List.set_cons_zero, List.set_cons_succ, List.getElem?_cons_zero, List.getElem?_cons_succ, List.nil_append, List.cons_append, Option.toList_some, Option.toList_none]
  refine epM rfl h0 rfl rfl rfl (fun M1 eM1 => ?_)
  replace h0 := up_w eM1
  replace hG := hG.up eM1 (by omega)
  repeat (first | refine es rfl rfl rfl ?_ | refine eg rfl (by assumption) rfl ?_ | refine ean rfl (by assumption) (by assumption) rfl ?_ | refine eal rfl (by assumption) (by assumption) rfl ?_ | refine eri rfl ?_ | refine erv rfl ?_ | refine erl rfl ?_ | refine era rfl ?_ | refine erz0 rfl ?_ | refine erz1 rfl ?_)
  try dsimp only [set1, set2, kilP, List.set_cons_zero, List.set_cons_succ, List.getElem?_cons_zero, List.getElem?_cons_succ, List.nil_append, List.cons_append, Option.toList_some, Option.toList_none]
  refine epM rfl h0 rfl rfl rfl (fun M2 eM2 => ?_)
  replace h0 := up_w eM2
  replace hG := hG.up eM2 (by omega)
  repeat (first | refine es rfl rfl rfl ?_ | refine eg rfl (by assumption) rfl ?_ | refine ean rfl (by assumption) (by assumption) rfl ?_ | refine eal rfl (by assumption) (by assumption) rfl ?_ | refine eri rfl ?_ | refine erv rfl ?_ | refine erl rfl ?_ | refine era rfl ?_ | refine erz0 rfl ?_ | refine erz1 rfl ?_)
  try dsimp only [set1, set2, kilP, List.set_cons_zero, List.set_cons_succ, List.getElem?_cons_zero, List.getElem?_cons_succ, List.nil_append, List.cons_append, Option.toList_some, Option.toList_none]
  refine epM rfl h0 rfl rfl rfl (fun M3 eM3 => ?_)
  replace h0 := up_w eM3
  replace hG := hG.up eM3 (by omega)
  repeat (first | refine es rfl rfl rfl ?_ | refine eg rfl (by assumption) rfl ?_ | refine ean rfl (by assumption) (by assumption) rfl ?_ | refine eal rfl (by assumption) (by assumption) rfl ?_ | refine eri rfl ?_ | refine erv rfl ?_ | refine erl rfl ?_ | refine era rfl ?_ | refine erz0 rfl ?_ | refine erz1 rfl ?_)
  try dsimp only [set1, set2, kilP, List.set_cons_zero, List.set_cons_succ, List.getElem?_cons_zero, List.getElem?_cons_succ, List.nil_append, List.cons_append, Option.toList_some, Option.toList_none]
  refine enaM (n := 1100) rfl rfl (fun M4 eM4 => ?_)
  rw [show M3.2.1 = a + 1 + 0 from hG.n]
  have k1 : M4.1 (a + 1 + 0) = some (.inl (2, 1100, .inl Z3)) := mk_w eM4 hG.n
  replace h0 := mk_k eM4 h0 (by have := hG.n; omega)
  replace hG := hG.mk eM4
  repeat (first | refine es rfl rfl rfl ?_ | refine eg rfl (by assumption) rfl ?_ | refine ean rfl (by assumption) (by assumption) rfl ?_ | refine eal rfl (by assumption) (by assumption) rfl ?_ | refine eri rfl ?_ | refine erv rfl ?_ | refine erl rfl ?_ | refine era rfl ?_ | refine erz0 rfl ?_ | refine erz1 rfl ?_)
  try dsimp only [set1, set2, kilP, List.set_cons_zero, List.set_cons_succ, List.getElem?_cons_zero, List.getElem?_cons_succ, List.nil_append, List.cons_append, Option.toList_some, Option.toList_none]
  refine epM rfl h0 rfl rfl rfl (fun M5 eM5 => ?_)
  replace h0 := up_w eM5
  replace k1 := up_k eM5 k1 (by omega)
  replace hG := hG.up eM5 (by omega)
  repeat (first | refine es rfl rfl rfl ?_ | refine eg rfl (by assumption) rfl ?_ | refine ean rfl (by assumption) (by assumption) rfl ?_ | refine eal rfl (by assumption) (by assumption) rfl ?_ | refine eri rfl ?_ | refine erv rfl ?_ | refine erl rfl ?_ | refine era rfl ?_ | refine erz0 rfl ?_ | refine erz1 rfl ?_)
  try dsimp only [set1, set2, kilP, List.set_cons_zero, List.set_cons_succ, List.getElem?_cons_zero, List.getElem?_cons_succ, List.nil_append, List.cons_append, Option.toList_some, Option.toList_none]
  refine enwM rfl (fun M6 eM6 => ?_)
  rw [show M5.2.1 = a + 1 + 1 from hG.n]
  have ob : M6.1 (a + 1 + 1) = some (.inr (9, [.int 0, .int 0, .null, .null, .null, .int 0, .null, .null, .null])) := mk_w eM6 hG.n
  replace h0 := mk_k eM6 h0 (by have := hG.n; omega)
  replace k1 := mk_k eM6 k1 (by have := hG.n; omega)
  replace hG := hG.mk eM6
  repeat (first | refine es rfl rfl rfl ?_ | refine eg rfl (by assumption) rfl ?_ | refine ean rfl (by assumption) (by assumption) rfl ?_ | refine eal rfl (by assumption) (by assumption) rfl ?_ | refine eri rfl ?_ | refine erv rfl ?_ | refine erl rfl ?_ | refine era rfl ?_ | refine erz0 rfl ?_ | refine erz1 rfl ?_)
  try dsimp only [set1, set2, kilP, List.set_cons_zero, List.set_cons_succ, List.getElem?_cons_zero, List.getElem?_cons_succ, List.nil_append, List.cons_append, Option.toList_some, Option.toList_none]
  refine eci rfl rfl rfl rfl rfl (i_X9 ob (by have := hG.n; omega)) (by first | rfl | exact Nat.blt_eq.mpr (by omega)) ?_
  rintro v M7 ⟨rfl, p2, hG2⟩
  replace h0 := (hG2.1 _ (by omega)).trans h0
  replace k1 := (hG2.1 _ (by omega)).trans k1
  replace hG := hG.sub hG2 rfl
  try dsimp only [set1, set2, kilP, List.set_cons_zero, List.set_cons_succ, List.getElem?_cons_zero, List.getElem?_cons_succ, List.nil_append, List.cons_append, Option.toList_some, Option.toList_none]
  repeat (first | refine es rfl rfl rfl ?_ | refine eg rfl (by assumption) rfl ?_ | refine ean rfl (by assumption) (by assumption) rfl ?_ | refine eal rfl (by assumption) (by assumption) rfl ?_ | refine eri rfl ?_ | refine erv rfl ?_ | refine erl rfl ?_ | refine era rfl ?_ | refine erz0 rfl ?_ | refine erz1 rfl ?_)
  try dsimp only [set1, set2, kilP, List.set_cons_zero, List.set_cons_succ, List.getElem?_cons_zero, List.getElem?_cons_succ, List.nil_append, List.cons_append, Option.toList_some, Option.toList_none]
  refine epM rfl h0 rfl rfl rfl (fun M8 eM8 => ?_)
  replace h0 := up_w eM8
  replace k1 := up_k eM8 k1 (by omega)
  replace p2 := p2.kept (fun q a1 a2 => up_k eM8 rfl (by omega))
  replace hG := hG.up eM8 (by omega)
  repeat (first | refine es rfl rfl rfl ?_ | refine eg rfl (by assumption) rfl ?_ | refine ean rfl (by assumption) (by assumption) rfl ?_ | refine eal rfl (by assumption) (by assumption) rfl ?_ | refine eri rfl ?_ | refine erv rfl ?_ | refine erl rfl ?_ | refine era rfl ?_ | refine erz0 rfl ?_ | refine erz1 rfl ?_)
  try dsimp only [set1, set2, kilP, List.set_cons_zero, List.set_cons_succ, List.getElem?_cons_zero, List.getElem?_cons_succ, List.nil_append, List.cons_append, Option.toList_some, Option.toList_none]
  refine enaM (n := 8) rfl rfl (fun M9 eM9 => ?_)
  rw [show M8.2.1 = a + 1 + 23 from hG.n]
  have k24 : M9.1 (a + 1 + 23) = some (.inl (1, 8, .inr Z6)) := mk_w eM9 hG.n
  replace h0 := mk_k eM9 h0 (by have := hG.n; omega)
  replace k1 := mk_k eM9 k1 (by have := hG.n; omega)
  replace p2 := p2.kept (fun q a1 a2 => mk_k eM9 rfl (by have := hG.n; omega))
  replace hG := hG.mk eM9
  repeat (first | refine es rfl rfl rfl ?_ | refine eg rfl (by assumption) rfl ?_ | refine ean rfl (by assumption) (by assumption) rfl ?_ | refine eal rfl (by assumption) (by assumption) rfl ?_ | refine eri rfl ?_ | refine erv rfl ?_ | refine erl rfl ?_ | refine era rfl ?_ | refine erz0 rfl ?_ | refine erz1 rfl ?_)
  try dsimp only [set1, set2, kilP, List.set_cons_zero, List.set_cons_succ, List.getElem?_cons_zero, List.getElem?_cons_succ, List.nil_append, List.cons_append, Option.toList_some, Option.toList_none]
  refine epM rfl h0 rfl rfl rfl (fun M10 eM10 => ?_)
  replace h0 := up_w eM10
  replace k1 := up_k eM10 k1 (by omega)
  replace k24 := up_k eM10 k24 (by omega)
  replace p2 := p2.kept (fun q a1 a2 => up_k eM10 rfl (by omega))
  replace hG := hG.up eM10 (by omega)
  repeat (first | refine es rfl rfl rfl ?_ | refine eg rfl (by assumption) rfl ?_ | refine ean rfl (by assumption) (by assumption) rfl ?_ | refine eal rfl (by assumption) (by assumption) rfl ?_ | refine eri rfl ?_ | refine erv rfl ?_ | refine erl rfl ?_ | refine era rfl ?_ | refine erz0 rfl ?_ | refine erz1 rfl ?_)
  try dsimp only [set1, set2, kilP, List.set_cons_zero, List.set_cons_succ, List.getElem?_cons_zero, List.getElem?_cons_succ, List.nil_append, List.cons_append, Option.toList_some, Option.toList_none]
  refine epM rfl h0 rfl rfl rfl (fun M11 eM11 => ?_)
  replace h0 := up_w eM11
  replace k1 := up_k eM11 k1 (by omega)
  replace k24 := up_k eM11 k24 (by omega)
  replace p2 := p2.kept (fun q a1 a2 => up_k eM11 rfl (by omega))
  replace hG := hG.up eM11 (by omega)
  repeat (first | refine es rfl rfl rfl ?_ | refine eg rfl (by assumption) rfl ?_ | refine ean rfl (by assumption) (by assumption) rfl ?_ | refine eal rfl (by assumption) (by assumption) rfl ?_ | refine eri rfl ?_ | refine erv rfl ?_ | refine erl rfl ?_ | refine era rfl ?_ | refine erz0 rfl ?_ | refine erz1 rfl ?_)
  try dsimp only [set1, set2, kilP, List.set_cons_zero, List.set_cons_succ, List.getElem?_cons_zero, List.getElem?_cons_succ, List.nil_append, List.cons_append, Option.toList_some, Option.toList_none]
  refine epM rfl h0 rfl rfl rfl (fun M12 eM12 => ?_)
  replace h0 := up_w eM12
  replace k1 := up_k eM12 k1 (by omega)
  replace k24 := up_k eM12 k24 (by omega)
  replace p2 := p2.kept (fun q a1 a2 => up_k eM12 rfl (by omega))
  replace hG := hG.up eM12 (by omega)
  repeat (first | refine es rfl rfl rfl ?_ | refine eg rfl (by assumption) rfl ?_ | refine ean rfl (by assumption) (by assumption) rfl ?_ | refine eal rfl (by assumption) (by assumption) rfl ?_ | refine eri rfl ?_ | refine erv rfl ?_ | refine erl rfl ?_ | refine era rfl ?_ | refine erz0 rfl ?_ | refine erz1 rfl ?_)
  try dsimp only [set1, set2, kilP, List.set_cons_zero, List.set_cons_succ, List.getElem?_cons_zero, List.getElem?_cons_succ, List.nil_append, List.cons_append, Option.toList_some, Option.toList_none]
  refine epM rfl h0 rfl rfl rfl (fun M13 eM13 => ?_)
  replace h0 := up_w eM13
  replace k1 := up_k eM13 k1 (by omega)
  replace k24 := up_k eM13 k24 (by omega)
  replace p2 := p2.kept (fun q a1 a2 => up_k eM13 rfl (by omega))
  replace hG := hG.up eM13 (by omega)
  repeat (first | refine es rfl rfl rfl ?_ | refine eg rfl (by assumption) rfl ?_ | refine ean rfl (by assumption) (by assumption) rfl ?_ | refine eal rfl (by assumption) (by assumption) rfl ?_ | refine eri rfl ?_ | refine erv rfl ?_ | refine erl rfl ?_ | refine era rfl ?_ | refine erz0 rfl ?_ | refine erz1 rfl ?_)
  try dsimp only [set1, set2, kilP, List.set_cons_zero, List.set_cons_succ, List.getElem?_cons_zero, List.getElem?_cons_succ, List.nil_append, List.cons_append, Option.toList_some, Option.toList_none]
  refine epM rfl h0 rfl rfl rfl (fun M14 eM14 => ?_)
  replace h0 := up_w eM14
  replace k1 := up_k eM14 k1 (by omega)
  replace k24 := up_k eM14 k24 (by omega)
  replace p2 := p2.kept (fun q a1 a2 => up_k eM14 rfl (by omega))
  replace hG := hG.up eM14 (by omega)
  repeat (first | refine es rfl rfl rfl ?_ | refine eg rfl (by assumption) rfl ?_ | refine ean rfl (by assumption) (by assumption) rfl ?_ | refine eal rfl (by assumption) (by assumption) rfl ?_ | refine eri rfl ?_ | refine erv rfl ?_ | refine erl rfl ?_ | refine era rfl ?_ | refine erz0 rfl ?_ | refine erz1 rfl ?_)
  try dsimp only [set1, set2, kilP, List.set_cons_zero, List.set_cons_succ, List.getElem?_cons_zero, List.getElem?_cons_succ, List.nil_append, List.cons_append, Option.toList_some, Option.toList_none]
  refine epM rfl h0 rfl rfl rfl (fun M15 eM15 => ?_)
  replace h0 := up_w eM15
  replace k1 := up_k eM15 k1 (by omega)
  replace k24 := up_k eM15 k24 (by omega)
  replace p2 := p2.kept (fun q a1 a2 => up_k eM15 rfl (by omega))
  replace hG := hG.up eM15 (by omega)
  repeat (first | refine es rfl rfl rfl ?_ | refine eg rfl (by assumption) rfl ?_ | refine ean rfl (by assumption) (by assumption) rfl ?_ | refine eal rfl (by assumption) (by assumption) rfl ?_ | refine eri rfl ?_ | refine erv rfl ?_ | refine erl rfl ?_ | refine era rfl ?_ | refine erz0 rfl ?_ | refine erz1 rfl ?_)
  try dsimp only [set1, set2, kilP, List.set_cons_zero, List.set_cons_succ, List.getElem?_cons_zero, List.getElem?_cons_succ, List.nil_append, List.cons_append, Option.toList_some, Option.toList_none]
  refine epM rfl h0 rfl rfl rfl (fun M16 eM16 => ?_)
  replace h0 := up_w eM16
  replace k1 := up_k eM16 k1 (by omega)
  replace k24 := up_k eM16 k24 (by omega)
  replace p2 := p2.kept (fun q a1 a2 => up_k eM16 rfl (by omega))
  replace hG := hG.up eM16 (by omega)
  repeat (first | refine es rfl rfl rfl ?_ | refine eg rfl (by assumption) rfl ?_ | refine ean rfl (by assumption) (by assumption) rfl ?_ | refine eal rfl (by assumption) (by assumption) rfl ?_ | refine eri rfl ?_ | refine erv rfl ?_ | refine erl rfl ?_ | refine era rfl ?_ | refine erz0 rfl ?_ | refine erz1 rfl ?_)
  try dsimp only [set1, set2, kilP, List.set_cons_zero, List.set_cons_succ, List.getElem?_cons_zero, List.getElem?_cons_succ, List.nil_append, List.cons_append, Option.toList_some, Option.toList_none]
  refine epM rfl h0 rfl rfl rfl (fun M17 eM17 => ?_)
  replace h0 := up_w eM17
  replace k1 := up_k eM17 k1 (by omega)
  replace k24 := up_k eM17 k24 (by omega)
  replace p2 := p2.kept (fun q a1 a2 => up_k eM17 rfl (by omega))
  replace hG := hG.up eM17 (by omega)
  repeat (first | refine es rfl rfl rfl ?_ | refine eg rfl (by assumption) rfl ?_ | refine ean rfl (by assumption) (by assumption) rfl ?_ | refine eal rfl (by assumption) (by assumption) rfl ?_ | refine eri rfl ?_ | refine erv rfl ?_ | refine erl rfl ?_ | refine era rfl ?_ | refine erz0 rfl ?_ | refine erz1 rfl ?_)
  try dsimp only [set1, set2, kilP, List.set_cons_zero, List.set_cons_succ, List.getElem?_cons_zero, List.getElem?_cons_succ, List.nil_append, List.cons_append, Option.toList_some, Option.toList_none]
  refine ecsr rfl rfl rfl rfl rfl rfl (e5_codeOf (i := 0) (by omega) (hS.gw hG (Nat.le_refl _) 0 (by omega)).2) (by first | rfl | exact Nat.blt_eq.mpr (by omega)) rfl ?_
  refine etlM (j := 0) rfl k24 (by omega) rfl (fun M18 eM18 => ?_)
  replace k24 := up_w eM18
  replace h0 := up_k eM18 h0 (by omega)
  replace k1 := up_k eM18 k1 (by omega)
  replace p2 := p2.kept (fun q a1 a2 => up_k eM18 rfl (by omega))
  replace hG := hG.up eM18 (by omega)
  repeat (first | refine es rfl rfl rfl ?_ | refine eg rfl (by assumption) rfl ?_ | refine ean rfl (by assumption) (by assumption) rfl ?_ | refine eal rfl (by assumption) (by assumption) rfl ?_ | refine eri rfl ?_ | refine erv rfl ?_ | refine erl rfl ?_ | refine era rfl ?_ | refine erz0 rfl ?_ | refine erz1 rfl ?_)
  try dsimp only [set1, set2, kilP, List.set_cons_zero, List.set_cons_succ, List.getElem?_cons_zero, List.getElem?_cons_succ, List.nil_append, List.cons_append, Option.toList_some, Option.toList_none]
  refine ecsr rfl rfl rfl rfl rfl rfl (e5_codeOf (i := 1) (by omega) (hS.gw hG (Nat.le_refl _) 1 (by omega)).2) (by first | rfl | exact Nat.blt_eq.mpr (by omega)) rfl ?_
  refine etlM (j := 1) rfl k24 (by omega) rfl (fun M19 eM19 => ?_)
  replace k24 := up_w eM19
  replace h0 := up_k eM19 h0 (by omega)
  replace k1 := up_k eM19 k1 (by omega)
  replace p2 := p2.kept (fun q a1 a2 => up_k eM19 rfl (by omega))
  replace hG := hG.up eM19 (by omega)
  repeat (first | refine es rfl rfl rfl ?_ | refine eg rfl (by assumption) rfl ?_ | refine ean rfl (by assumption) (by assumption) rfl ?_ | refine eal rfl (by assumption) (by assumption) rfl ?_ | refine eri rfl ?_ | refine erv rfl ?_ | refine erl rfl ?_ | refine era rfl ?_ | refine erz0 rfl ?_ | refine erz1 rfl ?_)
  try dsimp only [set1, set2, kilP, List.set_cons_zero, List.set_cons_succ, List.getElem?_cons_zero, List.getElem?_cons_succ, List.nil_append, List.cons_append, Option.toList_some, Option.toList_none]
  refine ecsr rfl rfl rfl rfl rfl rfl (e5_codeOf (i := 2) (by omega) (hS.gw hG (Nat.le_refl _) 2 (by omega)).2) (by first | rfl | exact Nat.blt_eq.mpr (by omega)) rfl ?_
  refine etlM (j := 2) rfl k24 (by omega) rfl (fun M20 eM20 => ?_)
  replace k24 := up_w eM20
  replace h0 := up_k eM20 h0 (by omega)
  replace k1 := up_k eM20 k1 (by omega)
  replace p2 := p2.kept (fun q a1 a2 => up_k eM20 rfl (by omega))
  replace hG := hG.up eM20 (by omega)
  repeat (first | refine es rfl rfl rfl ?_ | refine eg rfl (by assumption) rfl ?_ | refine ean rfl (by assumption) (by assumption) rfl ?_ | refine eal rfl (by assumption) (by assumption) rfl ?_ | refine eri rfl ?_ | refine erv rfl ?_ | refine erl rfl ?_ | refine era rfl ?_ | refine erz0 rfl ?_ | refine erz1 rfl ?_)
  try dsimp only [set1, set2, kilP, List.set_cons_zero, List.set_cons_succ, List.getElem?_cons_zero, List.getElem?_cons_succ, List.nil_append, List.cons_append, Option.toList_some, Option.toList_none]
  refine ecsr rfl rfl rfl rfl rfl rfl (e5_codeOf (i := 3) (by omega) (hS.gw hG (Nat.le_refl _) 3 (by omega)).2) (by first | rfl | exact Nat.blt_eq.mpr (by omega)) rfl ?_
  refine etlM (j := 3) rfl k24 (by omega) rfl (fun M21 eM21 => ?_)
  replace k24 := up_w eM21
  replace h0 := up_k eM21 h0 (by omega)
  replace k1 := up_k eM21 k1 (by omega)
  replace p2 := p2.kept (fun q a1 a2 => up_k eM21 rfl (by omega))
  replace hG := hG.up eM21 (by omega)
  repeat (first | refine es rfl rfl rfl ?_ | refine eg rfl (by assumption) rfl ?_ | refine ean rfl (by assumption) (by assumption) rfl ?_ | refine eal rfl (by assumption) (by assumption) rfl ?_ | refine eri rfl ?_ | refine erv rfl ?_ | refine erl rfl ?_ | refine era rfl ?_ | refine erz0 rfl ?_ | refine erz1 rfl ?_)
  try dsimp only [set1, set2, kilP, List.set_cons_zero, List.set_cons_succ, List.getElem?_cons_zero, List.getElem?_cons_succ, List.nil_append, List.cons_append, Option.toList_some, Option.toList_none]
  refine ecsr rfl rfl rfl rfl rfl rfl (e5_codeOf (i := 4) (by omega) (hS.gw hG (Nat.le_refl _) 4 (by omega)).2) (by first | rfl | exact Nat.blt_eq.mpr (by omega)) rfl ?_
  refine etlM (j := 4) rfl k24 (by omega) rfl (fun M22 eM22 => ?_)
  replace k24 := up_w eM22
  replace h0 := up_k eM22 h0 (by omega)
  replace k1 := up_k eM22 k1 (by omega)
  replace p2 := p2.kept (fun q a1 a2 => up_k eM22 rfl (by omega))
  replace hG := hG.up eM22 (by omega)
  repeat (first | refine es rfl rfl rfl ?_ | refine eg rfl (by assumption) rfl ?_ | refine ean rfl (by assumption) (by assumption) rfl ?_ | refine eal rfl (by assumption) (by assumption) rfl ?_ | refine eri rfl ?_ | refine erv rfl ?_ | refine erl rfl ?_ | refine era rfl ?_ | refine erz0 rfl ?_ | refine erz1 rfl ?_)
  try dsimp only [set1, set2, kilP, List.set_cons_zero, List.set_cons_succ, List.getElem?_cons_zero, List.getElem?_cons_succ, List.nil_append, List.cons_append, Option.toList_some, Option.toList_none]
  refine ecsr rfl rfl rfl rfl rfl rfl (e5_codeOf (i := 5) (by omega) (hS.gw hG (Nat.le_refl _) 5 (by omega)).2) (by first | rfl | exact Nat.blt_eq.mpr (by omega)) rfl ?_
  refine etlM (j := 5) rfl k24 (by omega) rfl (fun M23 eM23 => ?_)
  replace k24 := up_w eM23
  replace h0 := up_k eM23 h0 (by omega)
  replace k1 := up_k eM23 k1 (by omega)
  replace p2 := p2.kept (fun q a1 a2 => up_k eM23 rfl (by omega))
  replace hG := hG.up eM23 (by omega)
  repeat (first | refine es rfl rfl rfl ?_ | refine eg rfl (by assumption) rfl ?_ | refine ean rfl (by assumption) (by assumption) rfl ?_ | refine eal rfl (by assumption) (by assumption) rfl ?_ | refine eri rfl ?_ | refine erv rfl ?_ | refine erl rfl ?_ | refine era rfl ?_ | refine erz0 rfl ?_ | refine erz1 rfl ?_)
  try dsimp only [set1, set2, kilP, List.set_cons_zero, List.set_cons_succ, List.getElem?_cons_zero, List.getElem?_cons_succ, List.nil_append, List.cons_append, Option.toList_some, Option.toList_none]
  refine ecsr rfl rfl rfl rfl rfl rfl (e5_codeOf (i := 6) (by omega) (hS.gw hG (Nat.le_refl _) 6 (by omega)).2) (by first | rfl | exact Nat.blt_eq.mpr (by omega)) rfl ?_
  refine etlM (j := 6) rfl k24 (by omega) rfl (fun M24 eM24 => ?_)
  replace k24 := up_w eM24
  replace h0 := up_k eM24 h0 (by omega)
  replace k1 := up_k eM24 k1 (by omega)
  replace p2 := p2.kept (fun q a1 a2 => up_k eM24 rfl (by omega))
  replace hG := hG.up eM24 (by omega)
  repeat (first | refine es rfl rfl rfl ?_ | refine eg rfl (by assumption) rfl ?_ | refine ean rfl (by assumption) (by assumption) rfl ?_ | refine eal rfl (by assumption) (by assumption) rfl ?_ | refine eri rfl ?_ | refine erv rfl ?_ | refine erl rfl ?_ | refine era rfl ?_ | refine erz0 rfl ?_ | refine erz1 rfl ?_)
  try dsimp only [set1, set2, kilP, List.set_cons_zero, List.set_cons_succ, List.getElem?_cons_zero, List.getElem?_cons_succ, List.nil_append, List.cons_append, Option.toList_some, Option.toList_none]
  refine ecsr rfl rfl rfl rfl rfl rfl (e5_codeOf (i := 7) (by omega) (hS.gw hG (Nat.le_refl _) 7 (by omega)).2) (by first | rfl | exact Nat.blt_eq.mpr (by omega)) rfl ?_
  refine etlM (j := 7) rfl k24 (by omega) rfl (fun M25 eM25 => ?_)
  replace k24 := up_w eM25
  replace h0 := up_k eM25 h0 (by omega)
  replace k1 := up_k eM25 k1 (by omega)
  replace p2 := p2.kept (fun q a1 a2 => up_k eM25 rfl (by omega))
  replace hG := hG.up eM25 (by omega)
  repeat (first | refine es rfl rfl rfl ?_ | refine eg rfl (by assumption) rfl ?_ | refine ean rfl (by assumption) (by assumption) rfl ?_ | refine eal rfl (by assumption) (by assumption) rfl ?_ | refine eri rfl ?_ | refine erv rfl ?_ | refine erl rfl ?_ | refine era rfl ?_ | refine erz0 rfl ?_ | refine erz1 rfl ?_)
  try dsimp only [set1, set2, kilP, List.set_cons_zero, List.set_cons_succ, List.getElem?_cons_zero, List.getElem?_cons_succ, List.nil_append, List.cons_append, Option.toList_some, Option.toList_none]
  exact ⟨rfl, ⟨⟨h0, k1, k24⟩, p2⟩, hG⟩
theorem aSt.up1 {ad : Nat → Nat} {lo lo2 : Nat} {M : Mm} (h : aSt ad lo M) (hl : lo ≤ lo2) : aSt ad lo2 M := fun j hj => ⟨by have := (h j hj).1; omega, (h j hj).2⟩
theorem i_X11 {ad : Nat → Nat} {M : Mm} {a : Nat} (h0 : M.1 a = some (.inr (11, [.null, .null, .null, .null, .null, .null, .null, .null, .null, .int 0]))) (e1 : M.2.1 = a + 1) (hS : aSt ad a M) : EvM ad 3 (iX11_init ad) [.ref a] M (fun v' M' => v' = none ∧ (∃ f, (∀ j, j < 7 → f j = -2) ∧ (∀ j, 7 ≤ j → f j = 0) ∧ XR M' a (Z3, 0, zT, f, [], [], 0, 0, -1)) ∧ Gw a 72 2083 M M') := by
  have hG := Gw.rf e1
  refine ⟨Nat.le_of_ble_eq_true rfl, ?_⟩
  show Ev ad _ (rX11_init ad) (0, [some (.ref a)], [], M) _
  repeat (first | refine es rfl rfl rfl ?_ | refine eg rfl (by assumption) rfl ?_ | refine ean rfl (by assumption) (by assumption) rfl ?_ | refine eal rfl (by assumption) (by assumption) rfl ?_ | refine eri rfl ?_ | refine erv rfl ?_ | refine erl rfl ?_ | refine era rfl ?_ | refine erz0 rfl ?_ | refine erz1 rfl ?_)
  try dsimp only [set1, set2, kilP, List.set_cons_zero, List.set_cons_succ, List.getElem?_cons_zero, List.getElem?_cons_succ, List.nil_append, List.cons_append, Option.toList_some, Option.toList_none]
  refine enwM rfl (fun M1 eM1 => ?_)
  rw [show M.2.1 = a + 1 + 0 from hG.n]
  have ob : M1.1 (a + 1 + 0) = some (.inr (5, [.int 0, .int 0, .int 0, .null, .null, .null, .int 0, .int 0, .int 0, .int 0, .long 0, .int 0, .int 0])) := mk_w eM1 hG.n
  replace h0 := mk_k eM1 h0 (by have := hG.n; omega)
  replace hG := hG.mk eM1
  repeat (first | refine es rfl rfl rfl ?_ | refine eg rfl (by assumption) rfl ?_ | refine ean rfl (by assumption) (by assumption) rfl ?_ | refine eal rfl (by assumption) (by assumption) rfl ?_ | refine eri rfl ?_ | refine erv rfl ?_ | refine erl rfl ?_ | refine era rfl ?_ | refine erz0 rfl ?_ | refine erz1 rfl ?_)
  try dsimp only [set1, set2, kilP, List.set_cons_zero, List.set_cons_succ, List.getElem?_cons_zero, List.getElem?_cons_succ, List.nil_append, List.cons_append, Option.toList_some, Option.toList_none]
  refine eci rfl rfl rfl rfl rfl (i_X5 ob (by have := hG.n; omega) ((hS.gw hG (Nat.le_refl _)).up1 (by omega))) (by first | rfl | exact Nat.blt_eq.mpr (by omega)) ?_
  rintro v M2 ⟨rfl, ⟨p1, tp1⟩, hG2⟩
  replace h0 := (hG2.1 _ (by omega)).trans h0
  replace hG := hG.sub hG2 rfl
  try dsimp only [set1, set2, kilP, List.set_cons_zero, List.set_cons_succ, List.getElem?_cons_zero, List.getElem?_cons_succ, List.nil_append, List.cons_append, Option.toList_some, Option.toList_none]
  repeat (first | refine es rfl rfl rfl ?_ | refine eg rfl (by assumption) rfl ?_ | refine ean rfl (by assumption) (by assumption) rfl ?_ | refine eal rfl (by assumption) (by assumption) rfl ?_ | refine eri rfl ?_ | refine erv rfl ?_ | refine erl rfl ?_ | refine era rfl ?_ | refine erz0 rfl ?_ | refine erz1 rfl ?_)
  try dsimp only [set1, set2, kilP, List.set_cons_zero, List.set_cons_succ, List.getElem?_cons_zero, List.getElem?_cons_succ, List.nil_append, List.cons_append, Option.toList_some, Option.toList_none]
  refine epM rfl h0 rfl rfl rfl (fun M3 eM3 => ?_)
  replace h0 := up_w eM3
  replace p1 := p1.kp (fun q a1 a2 => up_k eM3 rfl (by omega))
  replace tp1 := tp1.kept (fun q a1 a2 => up_k eM3 rfl (by omega))
  replace hG := hG.up eM3 (by omega)
  repeat (first | refine es rfl rfl rfl ?_ | refine eg rfl (by assumption) rfl ?_ | refine ean rfl (by assumption) (by assumption) rfl ?_ | refine eal rfl (by assumption) (by assumption) rfl ?_ | refine eri rfl ?_ | refine erv rfl ?_ | refine erl rfl ?_ | refine era rfl ?_ | refine erz0 rfl ?_ | refine erz1 rfl ?_)
  try dsimp only [set1, set2, kilP, List.set_cons_zero, List.set_cons_succ, List.getElem?_cons_zero, List.getElem?_cons_succ, List.nil_append, List.cons_append, Option.toList_some, Option.toList_none]
  refine enwM rfl (fun M4 eM4 => ?_)
  rw [show M3.2.1 = a + 1 + 25 from hG.n]
  have ob : M4.1 (a + 1 + 25) = some (.inr (9, [.int 0, .int 0, .null, .null, .null, .int 0, .null, .null, .null])) := mk_w eM4 hG.n
  replace h0 := mk_k eM4 h0 (by have := hG.n; omega)
  replace p1 := p1.kp (fun q a1 a2 => mk_k eM4 rfl (by have := hG.n; omega))
  replace tp1 := tp1.kept (fun q a1 a2 => mk_k eM4 rfl (by have := hG.n; omega))
  replace hG := hG.mk eM4
  repeat (first | refine es rfl rfl rfl ?_ | refine eg rfl (by assumption) rfl ?_ | refine ean rfl (by assumption) (by assumption) rfl ?_ | refine eal rfl (by assumption) (by assumption) rfl ?_ | refine eri rfl ?_ | refine erv rfl ?_ | refine erl rfl ?_ | refine era rfl ?_ | refine erz0 rfl ?_ | refine erz1 rfl ?_)
  try dsimp only [set1, set2, kilP, List.set_cons_zero, List.set_cons_succ, List.getElem?_cons_zero, List.getElem?_cons_succ, List.nil_append, List.cons_append, Option.toList_some, Option.toList_none]
  refine eci rfl rfl rfl rfl rfl (i_X9 ob (by have := hG.n; omega)) (by first | rfl | exact Nat.blt_eq.mpr (by omega)) ?_
  rintro v M5 ⟨rfl, p26, hG2⟩
  replace h0 := (hG2.1 _ (by omega)).trans h0
  replace p1 := p1.kp (fun q a1 a2 => hG2.1 q (by omega))
  replace tp1 := tp1.kept (fun q a1 a2 => hG2.1 q (by omega))
  replace hG := hG.sub hG2 rfl
  try dsimp only [set1, set2, kilP, List.set_cons_zero, List.set_cons_succ, List.getElem?_cons_zero, List.getElem?_cons_succ, List.nil_append, List.cons_append, Option.toList_some, Option.toList_none]
  repeat (first | refine es rfl rfl rfl ?_ | refine eg rfl (by assumption) rfl ?_ | refine ean rfl (by assumption) (by assumption) rfl ?_ | refine eal rfl (by assumption) (by assumption) rfl ?_ | refine eri rfl ?_ | refine erv rfl ?_ | refine erl rfl ?_ | refine era rfl ?_ | refine erz0 rfl ?_ | refine erz1 rfl ?_)
  try dsimp only [set1, set2, kilP, List.set_cons_zero, List.set_cons_succ, List.getElem?_cons_zero, List.getElem?_cons_succ, List.nil_append, List.cons_append, Option.toList_some, Option.toList_none]
  refine epM rfl h0 rfl rfl rfl (fun M6 eM6 => ?_)
  replace h0 := up_w eM6
  replace p1 := p1.kp (fun q a1 a2 => up_k eM6 rfl (by omega))
  replace tp1 := tp1.kept (fun q a1 a2 => up_k eM6 rfl (by omega))
  replace p26 := p26.kept (fun q a1 a2 => up_k eM6 rfl (by omega))
  replace hG := hG.up eM6 (by omega)
  repeat (first | refine es rfl rfl rfl ?_ | refine eg rfl (by assumption) rfl ?_ | refine ean rfl (by assumption) (by assumption) rfl ?_ | refine eal rfl (by assumption) (by assumption) rfl ?_ | refine eri rfl ?_ | refine erv rfl ?_ | refine erl rfl ?_ | refine era rfl ?_ | refine erz0 rfl ?_ | refine erz1 rfl ?_)
  try dsimp only [set1, set2, kilP, List.set_cons_zero, List.set_cons_succ, List.getElem?_cons_zero, List.getElem?_cons_succ, List.nil_append, List.cons_append, Option.toList_some, Option.toList_none]
  refine enwM rfl (fun M7 eM7 => ?_)
  rw [show M6.2.1 = a + 1 + 47 from hG.n]
  have ob : M7.1 (a + 1 + 47) = some (.inr (3, [.null])) := mk_w eM7 hG.n
  replace h0 := mk_k eM7 h0 (by have := hG.n; omega)
  replace p1 := p1.kp (fun q a1 a2 => mk_k eM7 rfl (by have := hG.n; omega))
  replace tp1 := tp1.kept (fun q a1 a2 => mk_k eM7 rfl (by have := hG.n; omega))
  replace p26 := p26.kept (fun q a1 a2 => mk_k eM7 rfl (by have := hG.n; omega))
  replace hG := hG.mk eM7
  repeat (first | refine es rfl rfl rfl ?_ | refine eg rfl (by assumption) rfl ?_ | refine ean rfl (by assumption) (by assumption) rfl ?_ | refine eal rfl (by assumption) (by assumption) rfl ?_ | refine eri rfl ?_ | refine erv rfl ?_ | refine erl rfl ?_ | refine era rfl ?_ | refine erz0 rfl ?_ | refine erz1 rfl ?_)
  try dsimp only [set1, set2, kilP, List.set_cons_zero, List.set_cons_succ, List.getElem?_cons_zero, List.getElem?_cons_succ, List.nil_append, List.cons_append, Option.toList_some, Option.toList_none]
  refine eci rfl rfl rfl rfl rfl (i_X3 ob (by have := hG.n; omega)) (by first | rfl | exact Nat.blt_eq.mpr (by omega)) ?_
  rintro v M8 ⟨rfl, ⟨gp48, zap48, zbp48, p48⟩, hG2⟩
  replace h0 := (hG2.1 _ (by omega)).trans h0
  replace p1 := p1.kp (fun q a1 a2 => hG2.1 q (by omega))
  replace tp1 := tp1.kept (fun q a1 a2 => hG2.1 q (by omega))
  replace p26 := p26.kept (fun q a1 a2 => hG2.1 q (by omega))
  replace hG := hG.sub hG2 rfl
  try dsimp only [set1, set2, kilP, List.set_cons_zero, List.set_cons_succ, List.getElem?_cons_zero, List.getElem?_cons_succ, List.nil_append, List.cons_append, Option.toList_some, Option.toList_none]
  repeat (first | refine es rfl rfl rfl ?_ | refine eg rfl (by assumption) rfl ?_ | refine ean rfl (by assumption) (by assumption) rfl ?_ | refine eal rfl (by assumption) (by assumption) rfl ?_ | refine eri rfl ?_ | refine erv rfl ?_ | refine erl rfl ?_ | refine era rfl ?_ | refine erz0 rfl ?_ | refine erz1 rfl ?_)
  try dsimp only [set1, set2, kilP, List.set_cons_zero, List.set_cons_succ, List.getElem?_cons_zero, List.getElem?_cons_succ, List.nil_append, List.cons_append, Option.toList_some, Option.toList_none]
  refine epM rfl h0 rfl rfl rfl (fun M9 eM9 => ?_)
  replace h0 := up_w eM9
  replace p1 := p1.kp (fun q a1 a2 => up_k eM9 rfl (by omega))
  replace tp1 := tp1.kept (fun q a1 a2 => up_k eM9 rfl (by omega))
  replace p26 := p26.kept (fun q a1 a2 => up_k eM9 rfl (by omega))
  replace p48 := p48.kept (fun q a1 a2 => up_k eM9 rfl (by omega))
  replace hG := hG.up eM9 (by omega)
  repeat (first | refine es rfl rfl rfl ?_ | refine eg rfl (by assumption) rfl ?_ | refine ean rfl (by assumption) (by assumption) rfl ?_ | refine eal rfl (by assumption) (by assumption) rfl ?_ | refine eri rfl ?_ | refine erv rfl ?_ | refine erl rfl ?_ | refine era rfl ?_ | refine erz0 rfl ?_ | refine erz1 rfl ?_)
  try dsimp only [set1, set2, kilP, List.set_cons_zero, List.set_cons_succ, List.getElem?_cons_zero, List.getElem?_cons_succ, List.nil_append, List.cons_append, Option.toList_some, Option.toList_none]
  refine enwM rfl (fun M10 eM10 => ?_)
  rw [show M9.2.1 = a + 1 + 49 from hG.n]
  have ob : M10.1 (a + 1 + 49) = some (.inr (3, [.null])) := mk_w eM10 hG.n
  replace h0 := mk_k eM10 h0 (by have := hG.n; omega)
  replace p1 := p1.kp (fun q a1 a2 => mk_k eM10 rfl (by have := hG.n; omega))
  replace tp1 := tp1.kept (fun q a1 a2 => mk_k eM10 rfl (by have := hG.n; omega))
  replace p26 := p26.kept (fun q a1 a2 => mk_k eM10 rfl (by have := hG.n; omega))
  replace p48 := p48.kept (fun q a1 a2 => mk_k eM10 rfl (by have := hG.n; omega))
  replace hG := hG.mk eM10
  repeat (first | refine es rfl rfl rfl ?_ | refine eg rfl (by assumption) rfl ?_ | refine ean rfl (by assumption) (by assumption) rfl ?_ | refine eal rfl (by assumption) (by assumption) rfl ?_ | refine eri rfl ?_ | refine erv rfl ?_ | refine erl rfl ?_ | refine era rfl ?_ | refine erz0 rfl ?_ | refine erz1 rfl ?_)
  try dsimp only [set1, set2, kilP, List.set_cons_zero, List.set_cons_succ, List.getElem?_cons_zero, List.getElem?_cons_succ, List.nil_append, List.cons_append, Option.toList_some, Option.toList_none]
  refine eci rfl rfl rfl rfl rfl (i_X3 ob (by have := hG.n; omega)) (by first | rfl | exact Nat.blt_eq.mpr (by omega)) ?_
  rintro v M11 ⟨rfl, ⟨gp50, zap50, zbp50, p50⟩, hG2⟩
  replace h0 := (hG2.1 _ (by omega)).trans h0
  replace p1 := p1.kp (fun q a1 a2 => hG2.1 q (by omega))
  replace tp1 := tp1.kept (fun q a1 a2 => hG2.1 q (by omega))
  replace p26 := p26.kept (fun q a1 a2 => hG2.1 q (by omega))
  replace p48 := p48.kept (fun q a1 a2 => hG2.1 q (by omega))
  replace hG := hG.sub hG2 rfl
  try dsimp only [set1, set2, kilP, List.set_cons_zero, List.set_cons_succ, List.getElem?_cons_zero, List.getElem?_cons_succ, List.nil_append, List.cons_append, Option.toList_some, Option.toList_none]
  repeat (first | refine es rfl rfl rfl ?_ | refine eg rfl (by assumption) rfl ?_ | refine ean rfl (by assumption) (by assumption) rfl ?_ | refine eal rfl (by assumption) (by assumption) rfl ?_ | refine eri rfl ?_ | refine erv rfl ?_ | refine erl rfl ?_ | refine era rfl ?_ | refine erz0 rfl ?_ | refine erz1 rfl ?_)
  try dsimp only [set1, set2, kilP, List.set_cons_zero, List.set_cons_succ, List.getElem?_cons_zero, List.getElem?_cons_succ, List.nil_append, List.cons_append, Option.toList_some, Option.toList_none]
  refine epM rfl h0 rfl rfl rfl (fun M12 eM12 => ?_)
  replace h0 := up_w eM12
  replace p1 := p1.kp (fun q a1 a2 => up_k eM12 rfl (by omega))
  replace tp1 := tp1.kept (fun q a1 a2 => up_k eM12 rfl (by omega))
  replace p26 := p26.kept (fun q a1 a2 => up_k eM12 rfl (by omega))
  replace p48 := p48.kept (fun q a1 a2 => up_k eM12 rfl (by omega))
  replace p50 := p50.kept (fun q a1 a2 => up_k eM12 rfl (by omega))
  replace hG := hG.up eM12 (by omega)
  repeat (first | refine es rfl rfl rfl ?_ | refine eg rfl (by assumption) rfl ?_ | refine ean rfl (by assumption) (by assumption) rfl ?_ | refine eal rfl (by assumption) (by assumption) rfl ?_ | refine eri rfl ?_ | refine erv rfl ?_ | refine erl rfl ?_ | refine era rfl ?_ | refine erz0 rfl ?_ | refine erz1 rfl ?_)
  try dsimp only [set1, set2, kilP, List.set_cons_zero, List.set_cons_succ, List.getElem?_cons_zero, List.getElem?_cons_succ, List.nil_append, List.cons_append, Option.toList_some, Option.toList_none]
  refine enwM rfl (fun M13 eM13 => ?_)
  rw [show M12.2.1 = a + 1 + 51 from hG.n]
  have ob : M13.1 (a + 1 + 51) = some (.inr (4, [.null, .int 0, .int 0, .null, .int 0])) := mk_w eM13 hG.n
  replace h0 := mk_k eM13 h0 (by have := hG.n; omega)
  replace p1 := p1.kp (fun q a1 a2 => mk_k eM13 rfl (by have := hG.n; omega))
  replace tp1 := tp1.kept (fun q a1 a2 => mk_k eM13 rfl (by have := hG.n; omega))
  replace p26 := p26.kept (fun q a1 a2 => mk_k eM13 rfl (by have := hG.n; omega))
  replace p48 := p48.kept (fun q a1 a2 => mk_k eM13 rfl (by have := hG.n; omega))
  replace p50 := p50.kept (fun q a1 a2 => mk_k eM13 rfl (by have := hG.n; omega))
  replace hG := hG.mk eM13
  repeat (first | refine es rfl rfl rfl ?_ | refine eg rfl (by assumption) rfl ?_ | refine ean rfl (by assumption) (by assumption) rfl ?_ | refine eal rfl (by assumption) (by assumption) rfl ?_ | refine eri rfl ?_ | refine erv rfl ?_ | refine erl rfl ?_ | refine era rfl ?_ | refine erz0 rfl ?_ | refine erz1 rfl ?_)
  try dsimp only [set1, set2, kilP, List.set_cons_zero, List.set_cons_succ, List.getElem?_cons_zero, List.getElem?_cons_succ, List.nil_append, List.cons_append, Option.toList_some, Option.toList_none]
  refine eci rfl rfl rfl rfl rfl (i_X4 ob (by have := hG.n; omega)) (by first | rfl | exact Nat.blt_eq.mpr (by omega)) ?_
  rintro v M14 ⟨rfl, p52, hG2⟩
  replace h0 := (hG2.1 _ (by omega)).trans h0
  replace p1 := p1.kp (fun q a1 a2 => hG2.1 q (by omega))
  replace tp1 := tp1.kept (fun q a1 a2 => hG2.1 q (by omega))
  replace p26 := p26.kept (fun q a1 a2 => hG2.1 q (by omega))
  replace p48 := p48.kept (fun q a1 a2 => hG2.1 q (by omega))
  replace p50 := p50.kept (fun q a1 a2 => hG2.1 q (by omega))
  replace hG := hG.sub hG2 rfl
  try dsimp only [set1, set2, kilP, List.set_cons_zero, List.set_cons_succ, List.getElem?_cons_zero, List.getElem?_cons_succ, List.nil_append, List.cons_append, Option.toList_some, Option.toList_none]
  repeat (first | refine es rfl rfl rfl ?_ | refine eg rfl (by assumption) rfl ?_ | refine ean rfl (by assumption) (by assumption) rfl ?_ | refine eal rfl (by assumption) (by assumption) rfl ?_ | refine eri rfl ?_ | refine erv rfl ?_ | refine erl rfl ?_ | refine era rfl ?_ | refine erz0 rfl ?_ | refine erz1 rfl ?_)
  try dsimp only [set1, set2, kilP, List.set_cons_zero, List.set_cons_succ, List.getElem?_cons_zero, List.getElem?_cons_succ, List.nil_append, List.cons_append, Option.toList_some, Option.toList_none]
  refine epM rfl h0 rfl rfl rfl (fun M15 eM15 => ?_)
  replace h0 := up_w eM15
  replace p1 := p1.kp (fun q a1 a2 => up_k eM15 rfl (by omega))
  replace tp1 := tp1.kept (fun q a1 a2 => up_k eM15 rfl (by omega))
  replace p26 := p26.kept (fun q a1 a2 => up_k eM15 rfl (by omega))
  replace p48 := p48.kept (fun q a1 a2 => up_k eM15 rfl (by omega))
  replace p50 := p50.kept (fun q a1 a2 => up_k eM15 rfl (by omega))
  replace p52 := p52.kept (fun q a1 a2 => up_k eM15 rfl (by omega))
  replace hG := hG.up eM15 (by omega)
  repeat (first | refine es rfl rfl rfl ?_ | refine eg rfl (by assumption) rfl ?_ | refine ean rfl (by assumption) (by assumption) rfl ?_ | refine eal rfl (by assumption) (by assumption) rfl ?_ | refine eri rfl ?_ | refine erv rfl ?_ | refine erl rfl ?_ | refine era rfl ?_ | refine erz0 rfl ?_ | refine erz1 rfl ?_)
  try dsimp only [set1, set2, kilP, List.set_cons_zero, List.set_cons_succ, List.getElem?_cons_zero, List.getElem?_cons_succ, List.nil_append, List.cons_append, Option.toList_some, Option.toList_none]
  refine enwM rfl (fun M16 eM16 => ?_)
  rw [show M15.2.1 = a + 1 + 54 from hG.n]
  have ob : M16.1 (a + 1 + 54) = some (.inr (10, [.null, .null, .null, .int 0, .int 0, .int 0, .int 0])) := mk_w eM16 hG.n
  replace h0 := mk_k eM16 h0 (by have := hG.n; omega)
  replace p1 := p1.kp (fun q a1 a2 => mk_k eM16 rfl (by have := hG.n; omega))
  replace tp1 := tp1.kept (fun q a1 a2 => mk_k eM16 rfl (by have := hG.n; omega))
  replace p26 := p26.kept (fun q a1 a2 => mk_k eM16 rfl (by have := hG.n; omega))
  replace p48 := p48.kept (fun q a1 a2 => mk_k eM16 rfl (by have := hG.n; omega))
  replace p50 := p50.kept (fun q a1 a2 => mk_k eM16 rfl (by have := hG.n; omega))
  replace p52 := p52.kept (fun q a1 a2 => mk_k eM16 rfl (by have := hG.n; omega))
  replace hG := hG.mk eM16
  repeat (first | refine es rfl rfl rfl ?_ | refine eg rfl (by assumption) rfl ?_ | refine ean rfl (by assumption) (by assumption) rfl ?_ | refine eal rfl (by assumption) (by assumption) rfl ?_ | refine eri rfl ?_ | refine erv rfl ?_ | refine erl rfl ?_ | refine era rfl ?_ | refine erz0 rfl ?_ | refine erz1 rfl ?_)
  try dsimp only [set1, set2, kilP, List.set_cons_zero, List.set_cons_succ, List.getElem?_cons_zero, List.getElem?_cons_succ, List.nil_append, List.cons_append, Option.toList_some, Option.toList_none]
  refine eci rfl rfl rfl rfl rfl (i_X10 ob (by have := hG.n; omega)) (by first | rfl | exact Nat.blt_eq.mpr (by omega)) ?_
  rintro v M17 ⟨rfl, p55, hG2⟩
  replace h0 := (hG2.1 _ (by omega)).trans h0
  replace p1 := p1.kp (fun q a1 a2 => hG2.1 q (by omega))
  replace tp1 := tp1.kept (fun q a1 a2 => hG2.1 q (by omega))
  replace p26 := p26.kept (fun q a1 a2 => hG2.1 q (by omega))
  replace p48 := p48.kept (fun q a1 a2 => hG2.1 q (by omega))
  replace p50 := p50.kept (fun q a1 a2 => hG2.1 q (by omega))
  replace p52 := p52.kept (fun q a1 a2 => hG2.1 q (by omega))
  replace hG := hG.sub hG2 rfl
  try dsimp only [set1, set2, kilP, List.set_cons_zero, List.set_cons_succ, List.getElem?_cons_zero, List.getElem?_cons_succ, List.nil_append, List.cons_append, Option.toList_some, Option.toList_none]
  repeat (first | refine es rfl rfl rfl ?_ | refine eg rfl (by assumption) rfl ?_ | refine ean rfl (by assumption) (by assumption) rfl ?_ | refine eal rfl (by assumption) (by assumption) rfl ?_ | refine eri rfl ?_ | refine erv rfl ?_ | refine erl rfl ?_ | refine era rfl ?_ | refine erz0 rfl ?_ | refine erz1 rfl ?_)
  try dsimp only [set1, set2, kilP, List.set_cons_zero, List.set_cons_succ, List.getElem?_cons_zero, List.getElem?_cons_succ, List.nil_append, List.cons_append, Option.toList_some, Option.toList_none]
  refine epM rfl h0 rfl rfl rfl (fun M18 eM18 => ?_)
  replace h0 := up_w eM18
  replace p1 := p1.kp (fun q a1 a2 => up_k eM18 rfl (by omega))
  replace tp1 := tp1.kept (fun q a1 a2 => up_k eM18 rfl (by omega))
  replace p26 := p26.kept (fun q a1 a2 => up_k eM18 rfl (by omega))
  replace p48 := p48.kept (fun q a1 a2 => up_k eM18 rfl (by omega))
  replace p50 := p50.kept (fun q a1 a2 => up_k eM18 rfl (by omega))
  replace p52 := p52.kept (fun q a1 a2 => up_k eM18 rfl (by omega))
  replace p55 := p55.kept (fun q a1 a2 => up_k eM18 rfl (by omega))
  replace hG := hG.up eM18 (by omega)
  repeat (first | refine es rfl rfl rfl ?_ | refine eg rfl (by assumption) rfl ?_ | refine ean rfl (by assumption) (by assumption) rfl ?_ | refine eal rfl (by assumption) (by assumption) rfl ?_ | refine eri rfl ?_ | refine erv rfl ?_ | refine erl rfl ?_ | refine era rfl ?_ | refine erz0 rfl ?_ | refine erz1 rfl ?_)
  try dsimp only [set1, set2, kilP, List.set_cons_zero, List.set_cons_succ, List.getElem?_cons_zero, List.getElem?_cons_succ, List.nil_append, List.cons_append, Option.toList_some, Option.toList_none]
  refine enwM rfl (fun M19 eM19 => ?_)
  rw [show M18.2.1 = a + 1 + 58 from hG.n]
  have ob : M19.1 (a + 1 + 58) = some (.inr (1, [.null, .null, .null, .null, .int 0, .int 0])) := mk_w eM19 hG.n
  replace h0 := mk_k eM19 h0 (by have := hG.n; omega)
  replace p1 := p1.kp (fun q a1 a2 => mk_k eM19 rfl (by have := hG.n; omega))
  replace tp1 := tp1.kept (fun q a1 a2 => mk_k eM19 rfl (by have := hG.n; omega))
  replace p26 := p26.kept (fun q a1 a2 => mk_k eM19 rfl (by have := hG.n; omega))
  replace p48 := p48.kept (fun q a1 a2 => mk_k eM19 rfl (by have := hG.n; omega))
  replace p50 := p50.kept (fun q a1 a2 => mk_k eM19 rfl (by have := hG.n; omega))
  replace p52 := p52.kept (fun q a1 a2 => mk_k eM19 rfl (by have := hG.n; omega))
  replace p55 := p55.kept (fun q a1 a2 => mk_k eM19 rfl (by have := hG.n; omega))
  replace hG := hG.mk eM19
  repeat (first | refine es rfl rfl rfl ?_ | refine eg rfl (by assumption) rfl ?_ | refine ean rfl (by assumption) (by assumption) rfl ?_ | refine eal rfl (by assumption) (by assumption) rfl ?_ | refine eri rfl ?_ | refine erv rfl ?_ | refine erl rfl ?_ | refine era rfl ?_ | refine erz0 rfl ?_ | refine erz1 rfl ?_)
  try dsimp only [set1, set2, kilP, List.set_cons_zero, List.set_cons_succ, List.getElem?_cons_zero, List.getElem?_cons_succ, List.nil_append, List.cons_append, Option.toList_some, Option.toList_none]
  refine eci rfl rfl rfl rfl rfl (i_X1 ob (by have := hG.n; omega)) (by first | rfl | exact Nat.blt_eq.mpr (by omega)) ?_
  rintro v M20 ⟨rfl, p59, hG2⟩
  replace h0 := (hG2.1 _ (by omega)).trans h0
  replace p1 := p1.kp (fun q a1 a2 => hG2.1 q (by omega))
  replace tp1 := tp1.kept (fun q a1 a2 => hG2.1 q (by omega))
  replace p26 := p26.kept (fun q a1 a2 => hG2.1 q (by omega))
  replace p48 := p48.kept (fun q a1 a2 => hG2.1 q (by omega))
  replace p50 := p50.kept (fun q a1 a2 => hG2.1 q (by omega))
  replace p52 := p52.kept (fun q a1 a2 => hG2.1 q (by omega))
  replace p55 := p55.kept (fun q a1 a2 => hG2.1 q (by omega))
  replace hG := hG.sub hG2 rfl
  try dsimp only [set1, set2, kilP, List.set_cons_zero, List.set_cons_succ, List.getElem?_cons_zero, List.getElem?_cons_succ, List.nil_append, List.cons_append, Option.toList_some, Option.toList_none]
  repeat (first | refine es rfl rfl rfl ?_ | refine eg rfl (by assumption) rfl ?_ | refine ean rfl (by assumption) (by assumption) rfl ?_ | refine eal rfl (by assumption) (by assumption) rfl ?_ | refine eri rfl ?_ | refine erv rfl ?_ | refine erl rfl ?_ | refine era rfl ?_ | refine erz0 rfl ?_ | refine erz1 rfl ?_)
  try dsimp only [set1, set2, kilP, List.set_cons_zero, List.set_cons_succ, List.getElem?_cons_zero, List.getElem?_cons_succ, List.nil_append, List.cons_append, Option.toList_some, Option.toList_none]
  refine epM rfl h0 rfl rfl rfl (fun M21 eM21 => ?_)
  replace h0 := up_w eM21
  replace p1 := p1.kp (fun q a1 a2 => up_k eM21 rfl (by omega))
  replace tp1 := tp1.kept (fun q a1 a2 => up_k eM21 rfl (by omega))
  replace p26 := p26.kept (fun q a1 a2 => up_k eM21 rfl (by omega))
  replace p48 := p48.kept (fun q a1 a2 => up_k eM21 rfl (by omega))
  replace p50 := p50.kept (fun q a1 a2 => up_k eM21 rfl (by omega))
  replace p52 := p52.kept (fun q a1 a2 => up_k eM21 rfl (by omega))
  replace p55 := p55.kept (fun q a1 a2 => up_k eM21 rfl (by omega))
  replace p59 := p59.kept (fun q a1 a2 => up_k eM21 rfl (by omega))
  replace hG := hG.up eM21 (by omega)
  repeat (first | refine es rfl rfl rfl ?_ | refine eg rfl (by assumption) rfl ?_ | refine ean rfl (by assumption) (by assumption) rfl ?_ | refine eal rfl (by assumption) (by assumption) rfl ?_ | refine eri rfl ?_ | refine erv rfl ?_ | refine erl rfl ?_ | refine era rfl ?_ | refine erz0 rfl ?_ | refine erz1 rfl ?_)
  try dsimp only [set1, set2, kilP, List.set_cons_zero, List.set_cons_succ, List.getElem?_cons_zero, List.getElem?_cons_succ, List.nil_append, List.cons_append, Option.toList_some, Option.toList_none]
  refine enwM rfl (fun M22 eM22 => ?_)
  rw [show M21.2.1 = a + 1 + 63 from hG.n]
  have ob : M22.1 (a + 1 + 63) = some (.inr (8, [.null, .int 0, .null, .null, .null, .int 0, .int 0])) := mk_w eM22 hG.n
  replace h0 := mk_k eM22 h0 (by have := hG.n; omega)
  replace p1 := p1.kp (fun q a1 a2 => mk_k eM22 rfl (by have := hG.n; omega))
  replace tp1 := tp1.kept (fun q a1 a2 => mk_k eM22 rfl (by have := hG.n; omega))
  replace p26 := p26.kept (fun q a1 a2 => mk_k eM22 rfl (by have := hG.n; omega))
  replace p48 := p48.kept (fun q a1 a2 => mk_k eM22 rfl (by have := hG.n; omega))
  replace p50 := p50.kept (fun q a1 a2 => mk_k eM22 rfl (by have := hG.n; omega))
  replace p52 := p52.kept (fun q a1 a2 => mk_k eM22 rfl (by have := hG.n; omega))
  replace p55 := p55.kept (fun q a1 a2 => mk_k eM22 rfl (by have := hG.n; omega))
  replace p59 := p59.kept (fun q a1 a2 => mk_k eM22 rfl (by have := hG.n; omega))
  replace hG := hG.mk eM22
  repeat (first | refine es rfl rfl rfl ?_ | refine eg rfl (by assumption) rfl ?_ | refine ean rfl (by assumption) (by assumption) rfl ?_ | refine eal rfl (by assumption) (by assumption) rfl ?_ | refine eri rfl ?_ | refine erv rfl ?_ | refine erl rfl ?_ | refine era rfl ?_ | refine erz0 rfl ?_ | refine erz1 rfl ?_)
  try dsimp only [set1, set2, kilP, List.set_cons_zero, List.set_cons_succ, List.getElem?_cons_zero, List.getElem?_cons_succ, List.nil_append, List.cons_append, Option.toList_some, Option.toList_none]
  refine eci rfl rfl rfl rfl rfl (i_X8 ob (by have := hG.n; omega)) (by first | rfl | exact Nat.blt_eq.mpr (by omega)) ?_
  rintro v M23 ⟨rfl, ⟨fp64, p64⟩, hG2⟩
  replace h0 := (hG2.1 _ (by omega)).trans h0
  replace p1 := p1.kp (fun q a1 a2 => hG2.1 q (by omega))
  replace tp1 := tp1.kept (fun q a1 a2 => hG2.1 q (by omega))
  replace p26 := p26.kept (fun q a1 a2 => hG2.1 q (by omega))
  replace p48 := p48.kept (fun q a1 a2 => hG2.1 q (by omega))
  replace p50 := p50.kept (fun q a1 a2 => hG2.1 q (by omega))
  replace p52 := p52.kept (fun q a1 a2 => hG2.1 q (by omega))
  replace p55 := p55.kept (fun q a1 a2 => hG2.1 q (by omega))
  replace p59 := p59.kept (fun q a1 a2 => hG2.1 q (by omega))
  replace hG := hG.sub hG2 rfl
  try dsimp only [set1, set2, kilP, List.set_cons_zero, List.set_cons_succ, List.getElem?_cons_zero, List.getElem?_cons_succ, List.nil_append, List.cons_append, Option.toList_some, Option.toList_none]
  repeat (first | refine es rfl rfl rfl ?_ | refine eg rfl (by assumption) rfl ?_ | refine ean rfl (by assumption) (by assumption) rfl ?_ | refine eal rfl (by assumption) (by assumption) rfl ?_ | refine eri rfl ?_ | refine erv rfl ?_ | refine erl rfl ?_ | refine era rfl ?_ | refine erz0 rfl ?_ | refine erz1 rfl ?_)
  try dsimp only [set1, set2, kilP, List.set_cons_zero, List.set_cons_succ, List.getElem?_cons_zero, List.getElem?_cons_succ, List.nil_append, List.cons_append, Option.toList_some, Option.toList_none]
  refine epM rfl h0 rfl rfl rfl (fun M24 eM24 => ?_)
  replace h0 := up_w eM24
  replace p1 := p1.kp (fun q a1 a2 => up_k eM24 rfl (by omega))
  replace tp1 := tp1.kept (fun q a1 a2 => up_k eM24 rfl (by omega))
  replace p26 := p26.kept (fun q a1 a2 => up_k eM24 rfl (by omega))
  replace p48 := p48.kept (fun q a1 a2 => up_k eM24 rfl (by omega))
  replace p50 := p50.kept (fun q a1 a2 => up_k eM24 rfl (by omega))
  replace p52 := p52.kept (fun q a1 a2 => up_k eM24 rfl (by omega))
  replace p55 := p55.kept (fun q a1 a2 => up_k eM24 rfl (by omega))
  replace p59 := p59.kept (fun q a1 a2 => up_k eM24 rfl (by omega))
  replace p64 := p64.kept (fun q a1 a2 => up_k eM24 rfl (by omega))
  replace hG := hG.up eM24 (by omega)
  repeat (first | refine es rfl rfl rfl ?_ | refine eg rfl (by assumption) rfl ?_ | refine ean rfl (by assumption) (by assumption) rfl ?_ | refine eal rfl (by assumption) (by assumption) rfl ?_ | refine eri rfl ?_ | refine erv rfl ?_ | refine erl rfl ?_ | refine era rfl ?_ | refine erz0 rfl ?_ | refine erz1 rfl ?_)
  try dsimp only [set1, set2, kilP, List.set_cons_zero, List.set_cons_succ, List.getElem?_cons_zero, List.getElem?_cons_succ, List.nil_append, List.cons_append, Option.toList_some, Option.toList_none]
  refine enwM rfl (fun M25 eM25 => ?_)
  rw [show M24.2.1 = a + 1 + 69 from hG.n]
  have ob : M25.1 (a + 1 + 69) = some (.inr (6, [.int 0, .int 0, .int 0, .int 0, .null, .null, .int 0, .int 0])) := mk_w eM25 hG.n
  replace h0 := mk_k eM25 h0 (by have := hG.n; omega)
  replace p1 := p1.kp (fun q a1 a2 => mk_k eM25 rfl (by have := hG.n; omega))
  replace tp1 := tp1.kept (fun q a1 a2 => mk_k eM25 rfl (by have := hG.n; omega))
  replace p26 := p26.kept (fun q a1 a2 => mk_k eM25 rfl (by have := hG.n; omega))
  replace p48 := p48.kept (fun q a1 a2 => mk_k eM25 rfl (by have := hG.n; omega))
  replace p50 := p50.kept (fun q a1 a2 => mk_k eM25 rfl (by have := hG.n; omega))
  replace p52 := p52.kept (fun q a1 a2 => mk_k eM25 rfl (by have := hG.n; omega))
  replace p55 := p55.kept (fun q a1 a2 => mk_k eM25 rfl (by have := hG.n; omega))
  replace p59 := p59.kept (fun q a1 a2 => mk_k eM25 rfl (by have := hG.n; omega))
  replace p64 := p64.kept (fun q a1 a2 => mk_k eM25 rfl (by have := hG.n; omega))
  replace hG := hG.mk eM25
  repeat (first | refine es rfl rfl rfl ?_ | refine eg rfl (by assumption) rfl ?_ | refine ean rfl (by assumption) (by assumption) rfl ?_ | refine eal rfl (by assumption) (by assumption) rfl ?_ | refine eri rfl ?_ | refine erv rfl ?_ | refine erl rfl ?_ | refine era rfl ?_ | refine erz0 rfl ?_ | refine erz1 rfl ?_)
  try dsimp only [set1, set2, kilP, List.set_cons_zero, List.set_cons_succ, List.getElem?_cons_zero, List.getElem?_cons_succ, List.nil_append, List.cons_append, Option.toList_some, Option.toList_none]
  refine eci rfl rfl rfl rfl rfl (i_X6 ob (by have := hG.n; omega)) (by first | rfl | exact Nat.blt_eq.mpr (by omega)) ?_
  rintro v M26 ⟨rfl, p70, hG2⟩
  replace h0 := (hG2.1 _ (by omega)).trans h0
  replace p1 := p1.kp (fun q a1 a2 => hG2.1 q (by omega))
  replace tp1 := tp1.kept (fun q a1 a2 => hG2.1 q (by omega))
  replace p26 := p26.kept (fun q a1 a2 => hG2.1 q (by omega))
  replace p48 := p48.kept (fun q a1 a2 => hG2.1 q (by omega))
  replace p50 := p50.kept (fun q a1 a2 => hG2.1 q (by omega))
  replace p52 := p52.kept (fun q a1 a2 => hG2.1 q (by omega))
  replace p55 := p55.kept (fun q a1 a2 => hG2.1 q (by omega))
  replace p59 := p59.kept (fun q a1 a2 => hG2.1 q (by omega))
  replace p64 := p64.kept (fun q a1 a2 => hG2.1 q (by omega))
  replace hG := hG.sub hG2 rfl
  try dsimp only [set1, set2, kilP, List.set_cons_zero, List.set_cons_succ, List.getElem?_cons_zero, List.getElem?_cons_succ, List.nil_append, List.cons_append, Option.toList_some, Option.toList_none]
  repeat (first | refine es rfl rfl rfl ?_ | refine eg rfl (by assumption) rfl ?_ | refine ean rfl (by assumption) (by assumption) rfl ?_ | refine eal rfl (by assumption) (by assumption) rfl ?_ | refine eri rfl ?_ | refine erv rfl ?_ | refine erl rfl ?_ | refine era rfl ?_ | refine erz0 rfl ?_ | refine erz1 rfl ?_)
  try dsimp only [set1, set2, kilP, List.set_cons_zero, List.set_cons_succ, List.getElem?_cons_zero, List.getElem?_cons_succ, List.nil_append, List.cons_append, Option.toList_some, Option.toList_none]
  refine epM rfl h0 rfl rfl rfl (fun M27 eM27 => ?_)
  replace h0 := up_w eM27
  replace p1 := p1.kp (fun q a1 a2 => up_k eM27 rfl (by omega))
  replace tp1 := tp1.kept (fun q a1 a2 => up_k eM27 rfl (by omega))
  replace p26 := p26.kept (fun q a1 a2 => up_k eM27 rfl (by omega))
  replace p48 := p48.kept (fun q a1 a2 => up_k eM27 rfl (by omega))
  replace p50 := p50.kept (fun q a1 a2 => up_k eM27 rfl (by omega))
  replace p52 := p52.kept (fun q a1 a2 => up_k eM27 rfl (by omega))
  replace p55 := p55.kept (fun q a1 a2 => up_k eM27 rfl (by omega))
  replace p59 := p59.kept (fun q a1 a2 => up_k eM27 rfl (by omega))
  replace p64 := p64.kept (fun q a1 a2 => up_k eM27 rfl (by omega))
  replace p70 := p70.kept (fun q a1 a2 => up_k eM27 rfl (by omega))
  replace hG := hG.up eM27 (by omega)
  repeat (first | refine es rfl rfl rfl ?_ | refine eg rfl (by assumption) rfl ?_ | refine ean rfl (by assumption) (by assumption) rfl ?_ | refine eal rfl (by assumption) (by assumption) rfl ?_ | refine eri rfl ?_ | refine erv rfl ?_ | refine erl rfl ?_ | refine era rfl ?_ | refine erz0 rfl ?_ | refine erz1 rfl ?_)
  try dsimp only [set1, set2, kilP, List.set_cons_zero, List.set_cons_succ, List.getElem?_cons_zero, List.getElem?_cons_succ, List.nil_append, List.cons_append, Option.toList_some, Option.toList_none]
  refine epM rfl h0 rfl rfl rfl (fun M28 eM28 => ?_)
  replace h0 := up_w eM28
  replace p1 := p1.kp (fun q a1 a2 => up_k eM28 rfl (by omega))
  replace tp1 := tp1.kept (fun q a1 a2 => up_k eM28 rfl (by omega))
  replace p26 := p26.kept (fun q a1 a2 => up_k eM28 rfl (by omega))
  replace p48 := p48.kept (fun q a1 a2 => up_k eM28 rfl (by omega))
  replace p50 := p50.kept (fun q a1 a2 => up_k eM28 rfl (by omega))
  replace p52 := p52.kept (fun q a1 a2 => up_k eM28 rfl (by omega))
  replace p55 := p55.kept (fun q a1 a2 => up_k eM28 rfl (by omega))
  replace p59 := p59.kept (fun q a1 a2 => up_k eM28 rfl (by omega))
  replace p64 := p64.kept (fun q a1 a2 => up_k eM28 rfl (by omega))
  replace p70 := p70.kept (fun q a1 a2 => up_k eM28 rfl (by omega))
  replace hG := hG.up eM28 (by omega)
  repeat (first | refine es rfl rfl rfl ?_ | refine eg rfl (by assumption) rfl ?_ | refine ean rfl (by assumption) (by assumption) rfl ?_ | refine eal rfl (by assumption) (by assumption) rfl ?_ | refine eri rfl ?_ | refine erv rfl ?_ | refine erl rfl ?_ | refine era rfl ?_ | refine erz0 rfl ?_ | refine erz1 rfl ?_)
  try dsimp only [set1, set2, kilP, List.set_cons_zero, List.set_cons_succ, List.getElem?_cons_zero, List.getElem?_cons_succ, List.nil_append, List.cons_append, Option.toList_some, Option.toList_none]
  refine ⟨rfl, ⟨gp48, zap48, zbp48, a + 26, a + 3, Or.inl ⟨rfl, rfl⟩, h0, ⟨_, _, p1, scZ_ok, rfl, rfl, rfl⟩, p26, ⟨_, tp1⟩, p48, ⟨_, p50⟩, ⟨_, p52, ptR_nil (by decide) rfl rfl⟩, ⟨_, p55⟩, ⟨_, p59, Or.inl rfl, fun q => absurd (show (0 : Int32) = 1 from q) (by decide)⟩, ⟨_, p64, Or.inl rfl, fun q => absurd (show (0 : Int32) = 1 from q) (by decide)⟩, ⟨_, p70⟩⟩, hG⟩
