/-! The law's beginning -/
theorem wt26 : (Cond.classLink "WrongRoomLaw" (8 : Nat) "WrongRoom") ∈ T0 := T0_a1 26 (by decide +kernel) rfl
theorem wt27 : (Cond.instantiable "WrongRoom" (10 : Nat)) ∈ T0 := T0_a1 27 (by decide +kernel) rfl
theorem wt28 : (Cond.methodLink "WrongRoomLaw" (15 : Nat) ({ cls := "WrongRoom", name := "<init>", desc := "()V" } : Jvm.MethodName)) ∈ T0 := T0_a1 28 (by decide +kernel) rfl
theorem wt29 : (Cond.instanceMethod ({ cls := "WrongRoom", name := "<init>", desc := "()V" } : Jvm.MethodName)) ∈ T0 := T0_a1 29 (by decide +kernel) rfl
theorem wt1310 : (Cond.classLink "WrongRoomLaw" (16 : Nat) "WrongRoomModel") ∈ T0 := T0_a6 110 (by decide +kernel) rfl
theorem wt1311 : (Cond.instantiable "WrongRoomModel" (39 : Nat)) ∈ T0 := T0_a6 111 (by decide +kernel) rfl
theorem wt1312 : (Cond.methodLink "WrongRoomLaw" (18 : Nat) ({ cls := "WrongRoomModel", name := "<init>", desc := "()V" } : Jvm.MethodName)) ∈ T0 := T0_a6 112 (by decide +kernel) rfl
theorem wt1313 : (Cond.instanceMethod ({ cls := "WrongRoomModel", name := "<init>", desc := "()V" } : Jvm.MethodName)) ∈ T0 := T0_a6 113 (by decide +kernel) rfl
def rSt (ad : Nat → Nat) : List (Nat × Ins) := [(0, pmW (fNew 11 10 3 [.null, .null, .null, .null, .null, .null, .null, .null, .null, .int 0])), (3, ns (fDup 4)), (4, fCi 121 0 7), (7, ns (fastore 7 1 8)), (8, pmW (fNew 13 39 11 [.int 0, .int 0, .int 0, .null, .null, .null, .int 0, .int 0, .int 0, .int 0, .int 0, .int 0, .int 0, .int 0, .long 0, .null, .null, .null, .int 0, .int 0, .null, .null, .null, .int 0, .int 0, .null, .null, .null, .null, .null, .int 0, .int 0, .int 0, .null, .null, .int 0, .int 0, .null, .int 0])), (11, ns (fDup 12)), (12, fCi 193 0 15), (15, ns (fastore 7 2 16)), (16, ns (fPush (.int 1) 17)), (17, pmW (fNwa 1 19)), (19, ns (fastore 7 3 20)), (20, ns (fPush (.int 0) 21)), (21, ns (fistore 7 4 23))]
set_option maxRecDepth 20000 in
theorem vSt {X : Cxt} {ad : Nat → Nat} (hC : pmC X code 7 RL "law" ad) : ∀ q ∈ rSt ad, (pmN q ∧ pmO2 (mtb ad) X 7 q) ∧ noN q := by
  unfold rSt
  exact fa_c ((ok_new (ret := some .boolean) (ix := 8) (T := TX11) (by decide +kernel) clX11 wt26 wt27 wt1 (all_lt (by decide +kernel))).o3 hC) (fa_c ((ok_dup (ret := some .boolean) (by decide +kernel)).o3 hC) (fa_c ((ok_calli (ret := some .boolean) (ix := 15) (i := iX11_init ad) (by decide +kernel) rfl rfl rfl (caX11_init ad) wt28 wt29).o3 hC) (fa_c ((ok_astore_n (ret := some .boolean) (j := 1) (by decide +kernel) rfl).o3 hC) (fa_c ((ok_new (ret := some .boolean) (ix := 16) (T := TX13) (by decide +kernel) clX13 wt1310 wt1311 wt17 (all_lt (by decide +kernel))).o3 hC) (fa_c ((ok_dup (ret := some .boolean) (by decide +kernel)).o3 hC) (fa_c ((ok_calli (ret := some .boolean) (ix := 18) (i := iX13_init ad) (by decide +kernel) rfl rfl rfl (caX13_init ad) wt1312 wt1313).o3 hC) (fa_c ((ok_astore_n (ret := some .boolean) (j := 2) (by decide +kernel) rfl).o3 hC) (fa_c ((ok_iconst (ret := some .boolean) (n := 1) (by decide +kernel) (by decide)).o3 hC) (fa_c ((ok_nwa1 (ret := some .boolean) (by decide +kernel) wt102).o3 hC) (fa_c ((ok_astore_n (ret := some .boolean) (j := 3) (by decide +kernel) rfl).o3 hC) (fa_c ((ok_iconst (ret := some .boolean) (n := 0) (by decide +kernel) (by decide)).o3 hC) (fa_c ((ok_istore (ret := some .boolean) (by decide +kernel)).o3 hC) (fa_n)))))))))))))
theorem ls_start {ad : Nat → Nat} {b h : Nat} {M0 : Mm} (hz : M0.2 = (h, 0, 0)) (hS : aSt ad h M0) : Ev ad 20 (rSt ad ++ [(23, fHd b h (h + 73) (h + 89) 0)]) (0, [some (.ref b), none, none, none, none, none, none], [], M0) (fun v M' => v = none ∧ ∃ σ, lwI ad h M' σ 0) := by
  have z0 : M0.2.1 = h := by rw [hz]
  refine enwM rfl (fun M1 e1 => ?_)
  rw [z0]
  have ob : M1.1 h = some (.inr (11, [.null, .null, .null, .null, .null, .null, .null, .null, .null, .int 0])) := mk_w e1 z0
  have m1 : M1.2 = (h + 1, 1, 10) := by rw [e1]; show (M0.2.1 + 1, M0.2.2.1 + 1, M0.2.2.2 + 10) = _; rw [hz]
  have hS1 : aSt ad h M1 := fun j hj => ⟨(hS j hj).1, mk_k e1 (hS j hj).2 (by rw [z0]; exact (hS j hj).1)⟩
  repeat (first | refine es rfl rfl rfl ?_ | refine eslw rfl (by first | exact ixa1 _ | exact ixa2 _ | exact ixa3 _ | exact ixa4 _ | exact ixa5 _) ⟨by omega, hL⟩ ?_ | refine ehd rfl ?_)
  try dsimp only [set1, set2, kilP, List.set_cons_zero, List.set_cons_succ, List.getElem?_cons_zero, List.getElem?_cons_succ, List.nil_append, List.cons_append, Option.toList_some, Option.toList_none]
  refine eci rfl rfl rfl rfl rfl (i_X11 ob (by rw [m1]) hS1) (by first | rfl | exact Nat.blt_eq.mpr (by omega)) ?_
  rintro v M2 ⟨rfl, ⟨f, hf1, hf2, hX⟩, hG⟩
  have m2 : M2.2 = (h + 73, 73, 2093) := by rw [hG.2, m1]
  have z2 : M2.2.1 = h + 73 := by rw [m2]
  have hS2 : aSt ad h M2 := hS1.gw hG (Nat.le_refl _)
  try dsimp only [set1, set2, kilP, List.set_cons_zero, List.set_cons_succ, List.getElem?_cons_zero, List.getElem?_cons_succ, List.nil_append, List.cons_append, Option.toList_some, Option.toList_none]
  repeat (first | refine es rfl rfl rfl ?_ | refine eslw rfl (by first | exact ixa1 _ | exact ixa2 _ | exact ixa3 _ | exact ixa4 _ | exact ixa5 _) ⟨by omega, hL⟩ ?_ | refine ehd rfl ?_)
  try dsimp only [set1, set2, kilP, List.set_cons_zero, List.set_cons_succ, List.getElem?_cons_zero, List.getElem?_cons_succ, List.nil_append, List.cons_append, Option.toList_some, Option.toList_none]
  refine enwM rfl (fun M3 e3 => ?_)
  rw [z2]
  have ob3 : M3.1 (h + 73) = some (.inr (13, [.int 0, .int 0, .int 0, .null, .null, .null, .int 0, .int 0, .int 0, .int 0, .int 0, .int 0, .int 0, .int 0, .long 0, .null, .null, .null, .int 0, .int 0, .null, .null, .null, .int 0, .int 0, .null, .null, .null, .null, .null, .int 0, .int 0, .int 0, .null, .null, .int 0, .int 0, .null, .int 0])) := mk_w e3 z2
  have m3 : M3.2 = (h + 74, 74, 2132) := by rw [e3]; show (M2.2.1 + 1, M2.2.2.1 + 1, M2.2.2.2 + 39) = _; rw [m2]
  have k3 : ∀ q, q < h + 73 → M3.1 q = M2.1 q := fun q hq => mk_k e3 rfl (by rw [z2]; exact hq)
  try dsimp only [set1, set2, kilP, List.set_cons_zero, List.set_cons_succ, List.getElem?_cons_zero, List.getElem?_cons_succ, List.nil_append, List.cons_append, Option.toList_some, Option.toList_none]
  repeat (first | refine es rfl rfl rfl ?_ | refine eslw rfl (by first | exact ixa1 _ | exact ixa2 _ | exact ixa3 _ | exact ixa4 _ | exact ixa5 _) ⟨by omega, hL⟩ ?_ | refine ehd rfl ?_)
  try dsimp only [set1, set2, kilP, List.set_cons_zero, List.set_cons_succ, List.getElem?_cons_zero, List.getElem?_cons_succ, List.nil_append, List.cons_append, Option.toList_some, Option.toList_none]
  refine eci rfl rfl rfl rfl rfl (i_X13 ob3 (by rw [m3])) (by first | rfl | exact Nat.blt_eq.mpr (by omega)) ?_
  rintro v M4 ⟨rfl, hY, hG4⟩
  have m4 : M4.2 = (h + 89, 89, 3705) := by rw [hG4.2, m3]
  have z4 : M4.2.1 = h + 89 := by rw [m4]
  try dsimp only [set1, set2, kilP, List.set_cons_zero, List.set_cons_succ, List.getElem?_cons_zero, List.getElem?_cons_succ, List.nil_append, List.cons_append, Option.toList_some, Option.toList_none]
  repeat (first | refine es rfl rfl rfl ?_ | refine eslw rfl (by first | exact ixa1 _ | exact ixa2 _ | exact ixa3 _ | exact ixa4 _ | exact ixa5 _) ⟨by omega, hL⟩ ?_ | refine ehd rfl ?_)
  try dsimp only [set1, set2, kilP, List.set_cons_zero, List.set_cons_succ, List.getElem?_cons_zero, List.getElem?_cons_succ, List.nil_append, List.cons_append, Option.toList_some, Option.toList_none]
  refine enaM (n := 1) rfl rfl (fun M5 e5 => ?_)
  rw [z4]
  have ob5 : M5.1 (h + 89) = some (.inl (1, 1, .inr (fun _ => 0))) := mk_w e5 z4
  have m5 : M5.2 = (h + 90, 90, 3706) := by rw [e5]; show (M4.2.1 + 1, M4.2.2.1 + 1, M4.2.2.2 + 1) = _; rw [m4]
  have k5 : ∀ q, q < h + 89 → M5.1 q = M4.1 q := fun q hq => mk_k e5 rfl (by rw [z4]; exact hq)
  have k4 : ∀ q, q < h + 73 → M4.1 q = M3.1 q := hG4.1
  have k9 : ∀ q, q < h + 73 → M5.1 q = M2.1 q := fun q hq => (k5 q (by omega)).trans ((k4 q hq).trans (k3 q hq))
  try dsimp only [set1, set2, kilP, List.set_cons_zero, List.set_cons_succ, List.getElem?_cons_zero, List.getElem?_cons_succ, List.nil_append, List.cons_append, Option.toList_some, Option.toList_none]
  repeat (first | refine es rfl rfl rfl ?_ | refine eslw rfl (by first | exact ixa1 _ | exact ixa2 _ | exact ixa3 _ | exact ixa4 _ | exact ixa5 _) ⟨by omega, hL⟩ ?_ | refine ehd rfl ?_)
  refine ⟨rfl, (Z3, 0, zT, f, [], [], 0, 0, -1), hX.kept (fun q _ a2 => k9 q a2), ?_, ?_, fun j hj => ⟨(hS2 j hj).1, (k9 _ (by have := (hS2 j hj).1; omega)).trans (hS2 j hj).2⟩, ⟨_, ob5⟩, by rw [m5]; exact Nat.le_refl _, by rw [m5]; dsimp only; omega, by rw [m5]; dsimp only; omega⟩
  · refine y_start ⟨(k5 _ (by omega)).trans hY.1, fun j j1 j2 => (k5 _ (by omega)).trans (hY.2 j j1 j2)⟩ (by rw [m5]; dsimp only; omega) rfl rfl rfl rfl rfl rfl (fun _ _ => rfl)
  · exact ⟨fun q => absurd (show 0 < (0 : Nat) from q) (by omega), fun _ => ⟨⟨rfl, rfl, rfl, rfl, rfl, rfl⟩, fun j hj => hf1 j hj, hf2 7 (by omega), rfl, rfl⟩, (by decide : (0 : Nat) ≤ 1100), by decide⟩
