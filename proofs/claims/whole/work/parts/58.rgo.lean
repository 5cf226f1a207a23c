/-! The reference: going -/
section RGO
variable {ad : Nat → Nat} {M : Mm} {b : Nat} {σ : Sg} {C : Nat}
theorem y_go2 {M1 : Mm} {a k j h w m : Nat} {m' : Int32} {oa : Int32 × Int32 × Int32} {rd : Value} {oq : Yr × Yq} {A : Ar} (hY : YR M1 b σ) (hR : yR M1 b σ (oa, (.ref a, rd), oq) A) (hF : Fr b 16 M M1) (hv : ∀ j, j < 16 → A 2 j = σ.f j) (hpa : paR (A 3) σ.ac) (hmk : mkR (A 4) σ.mk) (hk8 : 8 + k < 16) (hk12 : 12 + k < 16) (hh7 : h < 7) (hj7 : j < 7) (hw : w ≤ 99) (em' : σ.f (12 + k) = nI m) (k1 : m' = -2 ↔ (h = j ∨ w = 0)) (k2 : ¬ m' = -2 → m' = nI w) : Ev ad 4 (rX13_go ad) (112, [some (.ref b), some (.int (nI k)), some (.int (nI j)), some (.int (nI h)), some (.int (nI w))], [], M1) (Pq b M (if m' = -2 then rf σ 5 else (fun v σ' => v = some (.int (nI m + m')) ∧ σ' = σ.act (movF σ.f k (nI j) m')))) := by
  have h0 := hR.1.1
  have e0 : ∀ w : Nat, w ≤ 99 → (nI w = 0 ↔ w = 0) := fun w hw => nI_eq (b := 0) (by omega) (by omega)
  repeat (first | refine es rfl rfl rfl ?_ | refine eg rfl (by assumption) rfl ?_ | refine eanE rfl (by assumption) (by with_reducible first | exact rfl | exact Int32.zero_add _ | exact ix8 _ | exact ix12 _ | exact ix7r _ _ | exact n7 | exact n0 | exact n1) (by assumption) rfl ?_ | refine eal rfl (by assumption) (by assumption) rfl ?_ | refine eri rfl ?_ | refine erv rfl ?_ | refine erl rfl ?_ | refine era rfl ?_ | refine erz0 rfl ?_ | refine erz1 rfl ?_)
  try dsimp only [set1, set2, kilP, List.set_cons_zero, List.set_cons_succ, List.getElem?_cons_zero, List.getElem?_cons_succ, List.nil_append, List.cons_append, Option.toList_some, Option.toList_none]
  refine ei _ rfl rfl (fun c4 => ?_) (fun c4 => ?_)
  · rw [if_pos (k1.mpr (Or.inl ((nI_eq (by omega) (by omega)).mp c4)))]
    repeat (first | refine es rfl rfl rfl ?_ | refine eg rfl (by assumption) rfl ?_ | refine eanE rfl (by assumption) (by with_reducible first | exact rfl | exact Int32.zero_add _ | exact ix8 _ | exact ix12 _ | exact ix7r _ _ | exact n7 | exact n0 | exact n1) (by assumption) rfl ?_ | refine eal rfl (by assumption) (by assumption) rfl ?_ | refine eri rfl ?_ | refine erv rfl ?_ | refine erl rfl ?_ | refine era rfl ?_ | refine erz0 rfl ?_ | refine erz1 rfl ?_)
    try dsimp only [set1, set2, kilP, List.set_cons_zero, List.set_cons_succ, List.getElem?_cons_zero, List.getElem?_cons_succ, List.nil_append, List.cons_append, Option.toList_some, Option.toList_none]
    refine ecv rfl rfl (by assumption) rfl rfl rfl (y_ref hY (by decide)) (by first | rfl | exact Nat.blt_eq.mpr (by omega)) ?_
    rintro v M9 ⟨rfl, hY9, hF9⟩
    try dsimp only [set1, set2, kilP, List.set_cons_zero, List.set_cons_succ, List.getElem?_cons_zero, List.getElem?_cons_succ, List.nil_append, List.cons_append, Option.toList_some, Option.toList_none]
    repeat (first | refine es rfl rfl rfl ?_ | refine eg rfl (by assumption) rfl ?_ | refine eanE rfl (by assumption) (by with_reducible first | exact rfl | exact Int32.zero_add _ | exact ix8 _ | exact ix12 _ | exact ix7r _ _ | exact n7 | exact n0 | exact n1) (by assumption) rfl ?_ | refine eal rfl (by assumption) (by assumption) rfl ?_ | refine eri rfl ?_ | refine erv rfl ?_ | refine erl rfl ?_ | refine era rfl ?_ | refine erz0 rfl ?_ | refine erz1 rfl ?_)
    try dsimp only [set1, set2, kilP, List.set_cons_zero, List.set_cons_succ, List.getElem?_cons_zero, List.getElem?_cons_succ, List.nil_append, List.cons_append, Option.toList_some, Option.toList_none]
    exact Pq.rf hY9 (hF.tr (hF9.wide (lo2 := b) (n2 := 16) (by omega) (by omega)) (by omega) (by omega))
  have c4' : ¬ h = j := fun q => c4 (by rw [q])
  repeat (first | refine es rfl rfl rfl ?_ | refine eg rfl (by assumption) rfl ?_ | refine eanE rfl (by assumption) (by with_reducible first | exact rfl | exact Int32.zero_add _ | exact ix8 _ | exact ix12 _ | exact ix7r _ _ | exact n7 | exact n0 | exact n1) (by assumption) rfl ?_ | refine eal rfl (by assumption) (by assumption) rfl ?_ | refine eri rfl ?_ | refine erv rfl ?_ | refine erl rfl ?_ | refine era rfl ?_ | refine erz0 rfl ?_ | refine erz1 rfl ?_)
  try dsimp only [set1, set2, kilP, List.set_cons_zero, List.set_cons_succ, List.getElem?_cons_zero, List.getElem?_cons_succ, List.nil_append, List.cons_append, Option.toList_some, Option.toList_none]
  refine ei _ rfl rfl (fun c5 => ?_) (fun c5 => ?_)
  rotate_left
  · rw [if_pos (k1.mpr (Or.inr ((e0 w hw).mp (Decidable.not_not.mp c5))))]
    repeat (first | refine es rfl rfl rfl ?_ | refine eg rfl (by assumption) rfl ?_ | refine eanE rfl (by assumption) (by with_reducible first | exact rfl | exact Int32.zero_add _ | exact ix8 _ | exact ix12 _ | exact ix7r _ _ | exact n7 | exact n0 | exact n1) (by assumption) rfl ?_ | refine eal rfl (by assumption) (by assumption) rfl ?_ | refine eri rfl ?_ | refine erv rfl ?_ | refine erl rfl ?_ | refine era rfl ?_ | refine erz0 rfl ?_ | refine erz1 rfl ?_)
    try dsimp only [set1, set2, kilP, List.set_cons_zero, List.set_cons_succ, List.getElem?_cons_zero, List.getElem?_cons_succ, List.nil_append, List.cons_append, Option.toList_some, Option.toList_none]
    refine ecv rfl rfl (by assumption) rfl rfl rfl (y_ref hY (by decide)) (by first | rfl | exact Nat.blt_eq.mpr (by omega)) ?_
    rintro v M9 ⟨rfl, hY9, hF9⟩
    try dsimp only [set1, set2, kilP, List.set_cons_zero, List.set_cons_succ, List.getElem?_cons_zero, List.getElem?_cons_succ, List.nil_append, List.cons_append, Option.toList_some, Option.toList_none]
    repeat (first | refine es rfl rfl rfl ?_ | refine eg rfl (by assumption) rfl ?_ | refine eanE rfl (by assumption) (by with_reducible first | exact rfl | exact Int32.zero_add _ | exact ix8 _ | exact ix12 _ | exact ix7r _ _ | exact n7 | exact n0 | exact n1) (by assumption) rfl ?_ | refine eal rfl (by assumption) (by assumption) rfl ?_ | refine eri rfl ?_ | refine erv rfl ?_ | refine erl rfl ?_ | refine era rfl ?_ | refine erz0 rfl ?_ | refine erz1 rfl ?_)
    try dsimp only [set1, set2, kilP, List.set_cons_zero, List.set_cons_succ, List.getElem?_cons_zero, List.getElem?_cons_succ, List.nil_append, List.cons_append, Option.toList_some, Option.toList_none]
    exact Pq.rf hY9 (hF.tr (hF9.wide (lo2 := b) (n2 := 16) (by omega) (by omega)) (by omega) (by omega))
  have c5' : ¬ w = 0 := fun q => c5 ((e0 w hw).mpr q)
  have k3 : ¬ m' = -2 := fun q => (k1.mp q).elim c4' c5'
  rw [if_neg k3, k2 k3]
  obtain ⟨r, ⟨pa, pm⟩, qr⟩ := oq
  have ea : pa = nI σ.ac.length := hR.2.2.2.2.2.2.1
  have em : pm = nI σ.mk.length := hR.2.2.2.2.2.2.2.1
  subst ea
  subst em
  repeat (first | refine es rfl rfl rfl ?_ | refine eg rfl (by assumption) rfl ?_ | refine eanE rfl (by assumption) (by with_reducible first | exact rfl | exact Int32.zero_add _ | exact ix8 _ | exact ix12 _ | exact ix7r _ _ | exact n7 | exact n0 | exact n1) (by assumption) rfl ?_ | refine eal rfl (by assumption) (by assumption) rfl ?_ | refine eri rfl ?_ | refine erv rfl ?_ | refine erl rfl ?_ | refine era rfl ?_ | refine erz0 rfl ?_ | refine erz1 rfl ?_)
  try dsimp only [set1, set2, kilP, List.set_cons_zero, List.set_cons_succ, List.getElem?_cons_zero, List.getElem?_cons_succ, List.nil_append, List.cons_append, Option.toList_some, Option.toList_none]
  refine ecv rfl rfl (by assumption) rfl rfl rfl (y_rem hR.1 hpa hv) (by first | rfl | exact Nat.blt_eq.mpr (by omega)) ?_
  rintro v M3 ⟨rfl, ps, hy3, hp3, hF3⟩
  have q0 := hy3.1
  have q2 : M3.1 (b + 2) = ints 16 (A 2) := hy3.c.2.1
  try dsimp only [set1, set2, kilP, List.set_cons_zero, List.set_cons_succ, List.getElem?_cons_zero, List.getElem?_cons_succ, List.nil_append, List.cons_append, Option.toList_some, Option.toList_none]
  repeat (first | refine es rfl rfl rfl ?_ | refine eg rfl (by assumption) rfl ?_ | refine eanE rfl (by assumption) (by with_reducible first | exact rfl | exact Int32.zero_add _ | exact ix8 _ | exact ix12 _ | exact ix7r _ _ | exact n7 | exact n0 | exact n1) (by assumption) rfl ?_ | refine eal rfl (by assumption) (by assumption) rfl ?_ | refine eri rfl ?_ | refine erv rfl ?_ | refine erl rfl ?_ | refine era rfl ?_ | refine erz0 rfl ?_ | refine erz1 rfl ?_)
  try dsimp only [set1, set2, kilP, List.set_cons_zero, List.set_cons_succ, List.getElem?_cons_zero, List.getElem?_cons_succ, List.nil_append, List.cons_append, Option.toList_some, Option.toList_none]
  rw [ix8]
  refine etM rfl q2 hk8 rfl (fun M4 eM4 => ?_)
  have hy4 := hy3.ar (k := 2) eM4 (by omega)
  have hF4 := hF3.up eM4 (by omega) (by omega)
  have r0 := hy4.1
  have r2 : M4.1 (b + 2) = ints 16 (upd (A 2) (8 + k) (nI j)) := hy4.c.2.1
  repeat (first | refine es rfl rfl rfl ?_ | refine eg rfl (by assumption) rfl ?_ | refine eanE rfl (by assumption) (by with_reducible first | exact rfl | exact Int32.zero_add _ | exact ix8 _ | exact ix12 _ | exact ix7r _ _ | exact n7 | exact n0 | exact n1) (by assumption) rfl ?_ | refine eal rfl (by assumption) (by assumption) rfl ?_ | refine eri rfl ?_ | refine erv rfl ?_ | refine erl rfl ?_ | refine era rfl ?_ | refine erz0 rfl ?_ | refine erz1 rfl ?_)
  try dsimp only [set1, set2, kilP, List.set_cons_zero, List.set_cons_succ, List.getElem?_cons_zero, List.getElem?_cons_succ, List.nil_append, List.cons_append, Option.toList_some, Option.toList_none]
  rw [ix12]
  refine etM rfl r2 hk12 rfl (fun M5 eM5 => ?_)
  have hy5 := hy4.ar (k := 2) eM5 (by omega)
  replace hF4 := hF4.up eM5 (by omega) (by omega)
  have s0 := hy5.1
  have s2 : M5.1 (b + 2) = ints 16 (upd (upd (A 2) (8 + k) (nI j)) (12 + k) (upd (A 2) (8 + k) (nI j) (12 + k) + nI w)) := hy5.c.2.1
  have ew : upd (A 2) (8 + k) (nI j) (12 + k) = nI m := by rw [pk_un (by omega), hv _ hk12]; exact em'
  have hY : YR M5 b (σ.tp, σ.ts, σ.T, movF σ.f k (nI j) (nI w), (σ.f :: σ.ac).take 16, σ.mk, σ.tr, σ.fn, σ.fp) := by
    refine hR.np hy5 hF4 rfl rfl (fun q hq => ?_) hp3 hmk
    show upd (upd (A 2) (8 + k) (nI j)) (12 + k) (upd (A 2) (8 + k) (nI j) (12 + k) + nI w) q = _
    unfold movF
    rw [ew, em']
    by_cases e : q = 12 + k
    · rw [e, pk_us, pk_us]
    · rw [pk_un e, pk_un e]
      by_cases e2 : q = 8 + k
      · rw [e2, pk_us, pk_us]
      · rw [pk_un e2, pk_un e2]; exact hv q hq
  repeat (first | refine es rfl rfl rfl ?_ | refine eg rfl (by assumption) rfl ?_ | refine eanE rfl (by assumption) (by with_reducible first | exact rfl | exact Int32.zero_add _ | exact ix8 _ | exact ix12 _ | exact ix7r _ _ | exact n7 | exact n0 | exact n1) (by assumption) rfl ?_ | refine eal rfl (by assumption) (by assumption) rfl ?_ | refine eri rfl ?_ | refine erv rfl ?_ | refine erl rfl ?_ | refine era rfl ?_ | refine erz0 rfl ?_ | refine erz1 rfl ?_)
  try dsimp only [set1, set2, kilP, List.set_cons_zero, List.set_cons_succ, List.getElem?_cons_zero, List.getElem?_cons_succ, List.nil_append, List.cons_append, Option.toList_some, Option.toList_none]
  rw [pk_us, ew]
  repeat (first | refine es rfl rfl rfl ?_ | refine eg rfl (by assumption) rfl ?_ | refine eanE rfl (by assumption) (by with_reducible first | exact rfl | exact Int32.zero_add _ | exact ix8 _ | exact ix12 _ | exact ix7r _ _ | exact n7 | exact n0 | exact n1) (by assumption) rfl ?_ | refine eal rfl (by assumption) (by assumption) rfl ?_ | refine eri rfl ?_ | refine erv rfl ?_ | refine erl rfl ?_ | refine era rfl ?_ | refine erz0 rfl ?_ | refine erz1 rfl ?_)
  try dsimp only [set1, set2, kilP, List.set_cons_zero, List.set_cons_succ, List.getElem?_cons_zero, List.getElem?_cons_succ, List.nil_append, List.cons_append, Option.toList_some, Option.toList_none]
  refine ecv rfl rfl (by assumption) rfl rfl rfl (y_good hY) (by first | rfl | exact Nat.blt_eq.mpr (by omega)) ?_
  rintro v M6 ⟨rfl, hY6, hF6⟩
  try dsimp only [set1, set2, kilP, List.set_cons_zero, List.set_cons_succ, List.getElem?_cons_zero, List.getElem?_cons_succ, List.nil_append, List.cons_append, Option.toList_some, Option.toList_none]
  repeat (first | refine es rfl rfl rfl ?_ | refine eg rfl (by assumption) rfl ?_ | refine eanE rfl (by assumption) (by with_reducible first | exact rfl | exact Int32.zero_add _ | exact ix8 _ | exact ix12 _ | exact ix7r _ _ | exact n7 | exact n0 | exact n1) (by assumption) rfl ?_ | refine eal rfl (by assumption) (by assumption) rfl ?_ | refine eri rfl ?_ | refine erv rfl ?_ | refine erl rfl ?_ | refine era rfl ?_ | refine erz0 rfl ?_ | refine erz1 rfl ?_)
  try dsimp only [set1, set2, kilP, List.set_cons_zero, List.set_cons_succ, List.getElem?_cons_zero, List.getElem?_cons_succ, List.nil_append, List.cons_append, Option.toList_some, Option.toList_none]
  exact Pq.eq hY6 ((hF.tr hF4 (by omega) (by omega)).tr (hF6.wide (lo2 := b) (n2 := 16) (by omega) (by omega)) (by omega) (by omega))
theorem y_go {x y : Int32} (hY : YR M b σ) (hI : Inv σ C) : EvM ad 4 (iX13_go ad) [.ref b, .int x, .int y] M (Pq b M (spGo σ x y)) := by
  have hn7 := hI.n7
  have hp4 := hI.p4
  unfold spGo
  refine ⟨Nat.le_of_ble_eq_true rfl, ?_⟩
  show Ev ad _ (rX13_go ad) (0, [some (.ref b), some (.int x), some (.int y), none, none], [], M) _
  refine yEn rfl rfl rfl hY (fun M1 hY hF _ => ?_)
  obtain ⟨⟨oa, ⟨tw, rd⟩, oq⟩, A, hR⟩ := id hY
  have h0 := hR.1.1
  have h2 := hR.1.c.2.1
  repeat (first | refine es rfl rfl rfl ?_ | refine eg rfl (by assumption) rfl ?_ | refine eanE rfl (by assumption) (by with_reducible first | exact rfl | exact Int32.zero_add _ | exact ix8 _ | exact ix12 _ | exact ix7r _ _ | exact n7 | exact n0 | exact n1) (by assumption) rfl ?_ | refine eal rfl (by assumption) (by assumption) rfl ?_ | refine eri rfl ?_ | refine erv rfl ?_ | refine erl rfl ?_ | refine era rfl ?_ | refine erz0 rfl ?_ | refine erz1 rfl ?_)
  try dsimp only [set1, set2, kilP, List.set_cons_zero, List.set_cons_succ, List.getElem?_cons_zero, List.getElem?_cons_succ, List.nil_append, List.cons_append, Option.toList_some, Option.toList_none]
  refine ecr rfl rfl (by assumption) rfl rfl rfl (y_isP hY hI) (by first | rfl | exact Nat.blt_eq.mpr (by omega)) rfl ?_
  by_cases c : isP σ x
  rotate_left
  · rw [if_neg c, show bI (isP σ x) = 0 from if_neg c]
    repeat (first | refine es rfl rfl rfl ?_ | refine eg rfl (by assumption) rfl ?_ | refine eanE rfl (by assumption) (by with_reducible first | exact rfl | exact Int32.zero_add _ | exact ix8 _ | exact ix12 _ | exact ix7r _ _ | exact n7 | exact n0 | exact n1) (by assumption) rfl ?_ | refine eal rfl (by assumption) (by assumption) rfl ?_ | refine eri rfl ?_ | refine erv rfl ?_ | refine erl rfl ?_ | refine era rfl ?_ | refine erz0 rfl ?_ | refine erz1 rfl ?_)
    try dsimp only [set1, set2, kilP, List.set_cons_zero, List.set_cons_succ, List.getElem?_cons_zero, List.getElem?_cons_succ, List.nil_append, List.cons_append, Option.toList_some, Option.toList_none]
    refine ecv rfl rfl (by assumption) rfl rfl rfl (y_ref hY (by decide)) (by first | rfl | exact Nat.blt_eq.mpr (by omega)) ?_
    rintro v M9 ⟨rfl, hY9, hF9⟩
    try dsimp only [set1, set2, kilP, List.set_cons_zero, List.set_cons_succ, List.getElem?_cons_zero, List.getElem?_cons_succ, List.nil_append, List.cons_append, Option.toList_some, Option.toList_none]
    repeat (first | refine es rfl rfl rfl ?_ | refine eg rfl (by assumption) rfl ?_ | refine eanE rfl (by assumption) (by with_reducible first | exact rfl | exact Int32.zero_add _ | exact ix8 _ | exact ix12 _ | exact ix7r _ _ | exact n7 | exact n0 | exact n1) (by assumption) rfl ?_ | refine eal rfl (by assumption) (by assumption) rfl ?_ | refine eri rfl ?_ | refine erv rfl ?_ | refine erl rfl ?_ | refine era rfl ?_ | refine erz0 rfl ?_ | refine erz1 rfl ?_)
    try dsimp only [set1, set2, kilP, List.set_cons_zero, List.set_cons_succ, List.getElem?_cons_zero, List.getElem?_cons_succ, List.nil_append, List.cons_append, Option.toList_some, Option.toList_none]
    exact Pq.rf hY9 (hF.tr (hF9.wide (lo2 := b) (n2 := 16) (by omega) (by omega)) (by omega) (by omega))
  rw [if_pos c, show bI (isP σ x) = 1 from if_pos c]
  obtain ⟨k, hk, rfl⟩ := isP_k hp4 c
  have hk4 : k < 4 := by omega
  have hk8 : 8 + k < 16 := by omega
  have hk12 : 12 + k < 16 := by omega
  repeat (first | refine es rfl rfl rfl ?_ | refine eg rfl (by assumption) rfl ?_ | refine eanE rfl (by assumption) (by with_reducible first | exact rfl | exact Int32.zero_add _ | exact ix8 _ | exact ix12 _ | exact ix7r _ _ | exact n7 | exact n0 | exact n1) (by assumption) rfl ?_ | refine eal rfl (by assumption) (by assumption) rfl ?_ | refine eri rfl ?_ | refine erv rfl ?_ | refine erl rfl ?_ | refine era rfl ?_ | refine erz0 rfl ?_ | refine erz1 rfl ?_)
  try dsimp only [set1, set2, kilP, List.set_cons_zero, List.set_cons_succ, List.getElem?_cons_zero, List.getElem?_cons_succ, List.nil_append, List.cons_append, Option.toList_some, Option.toList_none]
  refine ecr rfl rfl (by assumption) rfl rfl rfl (y_isH hY) (by first | rfl | exact Nat.blt_eq.mpr (by omega)) rfl ?_
  by_cases c2 : isH σ y
  rotate_left
  · rw [if_neg c2, show bI (isH σ y) = 0 from if_neg c2]
    repeat (first | refine es rfl rfl rfl ?_ | refine eg rfl (by assumption) rfl ?_ | refine eanE rfl (by assumption) (by with_reducible first | exact rfl | exact Int32.zero_add _ | exact ix8 _ | exact ix12 _ | exact ix7r _ _ | exact n7 | exact n0 | exact n1) (by assumption) rfl ?_ | refine eal rfl (by assumption) (by assumption) rfl ?_ | refine eri rfl ?_ | refine erv rfl ?_ | refine erl rfl ?_ | refine era rfl ?_ | refine erz0 rfl ?_ | refine erz1 rfl ?_)
    try dsimp only [set1, set2, kilP, List.set_cons_zero, List.set_cons_succ, List.getElem?_cons_zero, List.getElem?_cons_succ, List.nil_append, List.cons_append, Option.toList_some, Option.toList_none]
    refine ecv rfl rfl (by assumption) rfl rfl rfl (y_ref hY (by decide)) (by first | rfl | exact Nat.blt_eq.mpr (by omega)) ?_
    rintro v M9 ⟨rfl, hY9, hF9⟩
    try dsimp only [set1, set2, kilP, List.set_cons_zero, List.set_cons_succ, List.getElem?_cons_zero, List.getElem?_cons_succ, List.nil_append, List.cons_append, Option.toList_some, Option.toList_none]
    repeat (first | refine es rfl rfl rfl ?_ | refine eg rfl (by assumption) rfl ?_ | refine eanE rfl (by assumption) (by with_reducible first | exact rfl | exact Int32.zero_add _ | exact ix8 _ | exact ix12 _ | exact ix7r _ _ | exact n7 | exact n0 | exact n1) (by assumption) rfl ?_ | refine eal rfl (by assumption) (by assumption) rfl ?_ | refine eri rfl ?_ | refine erv rfl ?_ | refine erl rfl ?_ | refine era rfl ?_ | refine erz0 rfl ?_ | refine erz1 rfl ?_)
    try dsimp only [set1, set2, kilP, List.set_cons_zero, List.set_cons_succ, List.getElem?_cons_zero, List.getElem?_cons_succ, List.nil_append, List.cons_append, Option.toList_some, Option.toList_none]
    exact Pq.rf hY9 (hF.tr (hF9.wide (lo2 := b) (n2 := 16) (by omega) (by omega)) (by omega) (by omega))
  rw [if_pos c2, show bI (isH σ y) = 1 from if_pos c2]
  obtain ⟨j, hj, rfl⟩ := isH_k hn7 c2
  have hj7 : j < 7 := by omega
  have hj16 : j < 16 := by omega
  obtain ⟨n1, a, t0, a1, a2, hM, hv, hpa, hmk, hfa⟩ := hR.2.2.2.2.2.2.2.2.2.resolve_left (fun q => by have := q.1; omega)
  replace t0 : tw = .ref a := t0
  subst t0
  obtain ⟨kn, Am, Bm, m0, mc, mH, mS, mP, mC, mN⟩ := id hM
  obtain ⟨m1, m2, m3, m4, m5, m6, m7, m8, m9, m10, m11, m12, m13, m14, m15, m16, m17⟩ := id mc
  obtain ⟨m, h, hm, em', hh, eh⟩ := hI.mn hk
  have hh16 : h < 16 := by omega
  have hhj : 7 * h + j < 49 := by omega
  rw [nI_clamp (by omega), nI_clamp (by omega), em', eh, nI_clamp (by omega), nI_clamp (by omega)]
  repeat (first | refine es rfl rfl rfl ?_ | refine eg rfl (by assumption) rfl ?_ | refine eanE rfl (by assumption) (by with_reducible first | exact rfl | exact Int32.zero_add _ | exact ix8 _ | exact ix12 _ | exact ix7r _ _ | exact n7 | exact n0 | exact n1) (by assumption) rfl ?_ | refine eal rfl (by assumption) (by assumption) rfl ?_ | refine eri rfl ?_ | refine erv rfl ?_ | refine erl rfl ?_ | refine era rfl ?_ | refine erz0 rfl ?_ | refine erz1 rfl ?_)
  try dsimp only [set1, set2, kilP, List.set_cons_zero, List.set_cons_succ, List.getElem?_cons_zero, List.getElem?_cons_succ, List.nil_append, List.cons_append, Option.toList_some, Option.toList_none]
  rw [hv _ hk8, eh]
  repeat (first | refine es rfl rfl rfl ?_ | refine eg rfl (by assumption) rfl ?_ | refine eanE rfl (by assumption) (by with_reducible first | exact rfl | exact Int32.zero_add _ | exact ix8 _ | exact ix12 _ | exact ix7r _ _ | exact n7 | exact n0 | exact n1) (by assumption) rfl ?_ | refine eal rfl (by assumption) (by assumption) rfl ?_ | refine eri rfl ?_ | refine erv rfl ?_ | refine erl rfl ?_ | refine era rfl ?_ | refine erz0 rfl ?_ | refine erz1 rfl ?_)
  try dsimp only [set1, set2, kilP, List.set_cons_zero, List.set_cons_succ, List.getElem?_cons_zero, List.getElem?_cons_succ, List.nil_append, List.cons_append, Option.toList_some, Option.toList_none]
  rw [mS _ hhj, hv h hh16]
  obtain ⟨z, hz, ez, hz0⟩ := (hI.tI n1).2.2.2.2.2.1 h j (by omega) hj7
  rw [show h * 7 + j = 7 * h + j by omega] at ez
  have hW : yW M1 b a σ oa rd oq A := ⟨hR.1, a1, hM, hv⟩
  have hd1 := (hI.1 n1).2.1
  have hd9 : σ.T.dr ≤ 9 := (hI.tI n1).1.1.2.2.2.2.2
  have e0 : ∀ w : Nat, w ≤ 99 → (nI w = 0 ↔ w = 0) := fun w hw => nI_eq (b := 0) (by omega) (by omega)
  have jh : nI h = nI j ↔ h = j := nI_eq (by omega) (by omega)
  have hmt : mtgF σ h j (m % 1440) = if (σ.f h = nI j ∧ dopP σ h (m % 1440)) ∧ (z = 0 ∨ σ.T.dr < z) then nI σ.T.dr else if 0 < z then nI z else -2 := by
    unfold mtgF
    rw [show h * 7 + j = 7 * h + j by omega, ez]
    have g1 : (nI z = 0 ∨ nI σ.T.dr < nI z) ↔ (z = 0 ∨ σ.T.dr < z) := by rw [e0 z hz, nI_ltI (by omega) (by omega)]
    have g2 : (0 : Int32) < nI z ↔ 0 < z := nI_ltI (a := 0) (by omega) (by omega)
    by_cases q1 : (σ.f h = nI j ∧ dopP σ h (m % 1440)) ∧ (z = 0 ∨ σ.T.dr < z)
    · rw [if_pos q1, if_pos ⟨q1.1, g1.mpr q1.2⟩]
    · rw [if_neg q1, if_neg (fun q => q1 ⟨q.1, g1.mp q.2⟩)]
      by_cases q2 : 0 < z
      · rw [if_pos q2, if_pos (g2.mpr q2)]
      · rw [if_neg q2, if_neg (fun q => q2 (g2.mp q))]
  have fin1 : ¬ ((σ.f h = nI j ∧ dopP σ h (m % 1440)) ∧ (z = 0 ∨ σ.T.dr < z)) → ∀ m' : Int32, m' = (if nI h = nI j then (-2 : Int32) else mtgF σ h j (m % 1440)) → ((m' = -2 ↔ (h = j ∨ z = 0)) ∧ (¬ m' = -2 → m' = nI z)) := by
    intro q m' e
    rw [hmt, if_neg q] at e
    subst e
    by_cases p1 : h = j
    · rw [if_pos (jh.mpr p1)]; exact ⟨⟨fun _ => Or.inl p1, fun _ => rfl⟩, fun w => absurd rfl w⟩
    · rw [if_neg (fun w => p1 (jh.mp w))]
      by_cases p2 : 0 < z
      · rw [if_pos p2]; exact ⟨⟨fun w => absurd w (nI_n2 (by omega)), fun w => by omega⟩, fun _ => rfl⟩
      · rw [if_neg p2]; exact ⟨⟨fun _ => Or.inr (by omega), fun _ => rfl⟩, fun w => absurd rfl w⟩
  refine ei _ rfl rfl (fun c6 => ?_) (fun c6 => ?_)
  · rw [ez]
    obtain ⟨k1, k2⟩ := fin1 (fun q => c6 q.1.1) _ rfl
    exact y_go2 hY hR hF hv hpa hmk hk8 hk12 (by omega) hj7 hz em' k1 k2
  repeat (first | refine es rfl rfl rfl ?_ | refine eg rfl (by assumption) rfl ?_ | refine eanE rfl (by assumption) (by with_reducible first | exact rfl | exact Int32.zero_add _ | exact ix8 _ | exact ix12 _ | exact ix7r _ _ | exact n7 | exact n0 | exact n1) (by assumption) rfl ?_ | refine eal rfl (by assumption) (by assumption) rfl ?_ | refine eri rfl ?_ | refine erv rfl ?_ | refine erl rfl ?_ | refine era rfl ?_ | refine erz0 rfl ?_ | refine erz1 rfl ?_)
  try dsimp only [set1, set2, kilP, List.set_cons_zero, List.set_cons_succ, List.getElem?_cons_zero, List.getElem?_cons_succ, List.nil_append, List.cons_append, Option.toList_some, Option.toList_none]
  rw [hv _ hk12, em']
  rw [show nI m - nI m / 1440 * 1440 = nI (m % 1440) from pk_rem (d := 1440) (by omega) (by omega) (by omega)]
  refine ecr rfl rfl (by assumption) rfl rfl rfl (y_openAt hW hI n1 hh (Nat.lt_trans (Nat.mod_lt m (by omega : 0 < 1440)) (by omega))) (by first | rfl | exact Nat.blt_eq.mpr (by omega)) rfl ?_
  by_cases c7 : dopP σ h (m % 1440)
  rotate_left
  · rw [show bI (dopP σ h (m % 1440)) = 0 from if_neg c7]
    repeat (refine ng 112 rfl ?_; first | refine es rfl rfl rfl ?_ | refine eg rfl (by assumption) rfl ?_ | refine eanE rfl (by assumption) (by with_reducible first | exact rfl | exact Int32.zero_add _ | exact ix8 _ | exact ix12 _ | exact ix7r _ _ | exact n7 | exact n0 | exact n1) (by assumption) rfl ?_ | refine eal rfl (by assumption) (by assumption) rfl ?_ | refine eri rfl ?_ | refine erv rfl ?_ | refine erl rfl ?_ | refine era rfl ?_ | refine erz0 rfl ?_ | refine erz1 rfl ?_)
    try dsimp only [set1, set2, kilP, List.set_cons_zero, List.set_cons_succ, List.getElem?_cons_zero, List.getElem?_cons_succ, List.nil_append, List.cons_append, Option.toList_some, Option.toList_none]
    rw [ez]
    obtain ⟨k1, k2⟩ := fin1 (fun q => c7 q.1.2) _ rfl
    exact y_go2 hY hR hF hv hpa hmk hk8 hk12 (by omega) hj7 hz em' k1 k2
  rw [show bI (dopP σ h (m % 1440)) = 1 from if_pos c7]
  have fin2 : (z = 0 ∨ σ.T.dr < z) → ∀ m' : Int32, m' = (if nI h = nI j then (-2 : Int32) else mtgF σ h j (m % 1440)) → ((m' = -2 ↔ (h = j ∨ σ.T.dr = 0)) ∧ (¬ m' = -2 → m' = nI σ.T.dr)) := by
    intro q m' e
    rw [hmt, if_pos (show (σ.f h = nI j ∧ dopP σ h (m % 1440)) ∧ (z = 0 ∨ σ.T.dr < z) from ⟨⟨Decidable.not_not.mp c6, c7⟩, q⟩)] at e
    subst e
    by_cases p1 : h = j
    · rw [if_pos (jh.mpr p1)]; exact ⟨⟨fun _ => Or.inl p1, fun _ => rfl⟩, fun w => absurd rfl w⟩
    · rw [if_neg (fun w => p1 (jh.mp w))]
      exact ⟨⟨fun w => absurd w (nI_n2 (by omega)), fun w => by omega⟩, fun _ => rfl⟩
  repeat (first | refine es rfl rfl rfl ?_ | refine eg rfl (by assumption) rfl ?_ | refine eanE rfl (by assumption) (by with_reducible first | exact rfl | exact Int32.zero_add _ | exact ix8 _ | exact ix12 _ | exact ix7r _ _ | exact n7 | exact n0 | exact n1) (by assumption) rfl ?_ | refine eal rfl (by assumption) (by assumption) rfl ?_ | refine eri rfl ?_ | refine erv rfl ?_ | refine erl rfl ?_ | refine era rfl ?_ | refine erz0 rfl ?_ | refine erz1 rfl ?_)
  try dsimp only [set1, set2, kilP, List.set_cons_zero, List.set_cons_succ, List.getElem?_cons_zero, List.getElem?_cons_succ, List.nil_append, List.cons_append, Option.toList_some, Option.toList_none]
  rw [ez]
  refine ei _ rfl rfl (fun c8 => ?_) (fun c8 => ?_)
  · repeat (refine ng 112 rfl ?_; first | refine es rfl rfl rfl ?_ | refine eg rfl (by assumption) rfl ?_ | refine eanE rfl (by assumption) (by with_reducible first | exact rfl | exact Int32.zero_add _ | exact ix8 _ | exact ix12 _ | exact ix7r _ _ | exact n7 | exact n0 | exact n1) (by assumption) rfl ?_ | refine eal rfl (by assumption) (by assumption) rfl ?_ | refine eri rfl ?_ | refine erv rfl ?_ | refine erl rfl ?_ | refine era rfl ?_ | refine erz0 rfl ?_ | refine erz1 rfl ?_)
    try dsimp only [set1, set2, kilP, List.set_cons_zero, List.set_cons_succ, List.getElem?_cons_zero, List.getElem?_cons_succ, List.nil_append, List.cons_append, Option.toList_some, Option.toList_none]
    obtain ⟨k1, k2⟩ := fin2 (Or.inl ((e0 z hz).mp c8)) _ rfl
    exact y_go2 hY hR hF hv hpa hmk hk8 hk12 (by omega) hj7 (by omega) em' k1 k2
  repeat (first | refine es rfl rfl rfl ?_ | refine eg rfl (by assumption) rfl ?_ | refine eanE rfl (by assumption) (by with_reducible first | exact rfl | exact Int32.zero_add _ | exact ix8 _ | exact ix12 _ | exact ix7r _ _ | exact n7 | exact n0 | exact n1) (by assumption) rfl ?_ | refine eal rfl (by assumption) (by assumption) rfl ?_ | refine eri rfl ?_ | refine erv rfl ?_ | refine erl rfl ?_ | refine era rfl ?_ | refine erz0 rfl ?_ | refine erz1 rfl ?_)
  try dsimp only [set1, set2, kilP, List.set_cons_zero, List.set_cons_succ, List.getElem?_cons_zero, List.getElem?_cons_succ, List.nil_append, List.cons_append, Option.toList_some, Option.toList_none]
  refine ei _ rfl rfl (fun c9 => ?_) (fun c9 => ?_)
  · obtain ⟨k1, k2⟩ := fin1 (fun q => by
      rcases q.2 with w | w
      · exact c8 ((e0 z hz).mpr w)
      · exact absurd c9 (nI_ge w (by omega))) _ rfl
    exact y_go2 hY hR hF hv hpa hmk hk8 hk12 (by omega) hj7 hz em' k1 k2
  · repeat (refine ng 112 rfl ?_; first | refine es rfl rfl rfl ?_ | refine eg rfl (by assumption) rfl ?_ | refine eanE rfl (by assumption) (by with_reducible first | exact rfl | exact Int32.zero_add _ | exact ix8 _ | exact ix12 _ | exact ix7r _ _ | exact n7 | exact n0 | exact n1) (by assumption) rfl ?_ | refine eal rfl (by assumption) (by assumption) rfl ?_ | refine eri rfl ?_ | refine erv rfl ?_ | refine erl rfl ?_ | refine era rfl ?_ | refine erz0 rfl ?_ | refine erz1 rfl ?_)
    try dsimp only [set1, set2, kilP, List.set_cons_zero, List.set_cons_succ, List.getElem?_cons_zero, List.getElem?_cons_succ, List.nil_append, List.cons_append, Option.toList_some, Option.toList_none]
    obtain ⟨k1, k2⟩ := fin2 (Or.inr (Decidable.byContradiction (fun w => c9 (nI_le (by omega) (by omega))))) _ rfl
    exact y_go2 hY hR hF hv hpa hmk hk8 hk12 (by omega) hj7 (by omega) em' k1 k2
end RGO
