/-! The class's led, with its throw -/
theorem wt0 : (Cond.initialized "WrongRoomLaw") ∈ T0 := T0_a1 0 (by decide +kernel) rfl
theorem wt25 : (Cond.initialized "java/util/NoSuchElementException") ∈ T0 := T0_a1 25 (by decide +kernel) rfl
theorem wt1241 : (Cond.methodLink "WrongRoomLaw" (198 : Nat) ({ cls := "WrongRoomLaw", name := "led", desc := "(LWrongRoom;I[J)I" } : Jvm.MethodName)) ∈ T0 := T0_a6 41 (by decide +kernel) rfl
theorem wt1242 : (Cond.static ({ cls := "WrongRoomLaw", name := "led", desc := "(LWrongRoom;I[J)I" } : Jvm.MethodName)) ∈ T0 := T0_a6 42 (by decide +kernel) rfl
theorem wt1243 : (Cond.codeWith ({ cls := "WrongRoomLaw", name := "led", desc := "(LWrongRoom;I[J)I" } : Jvm.MethodName) method_3_code (4 : Nat) (Option.some Jvm.ClassFile.FieldType.int) [((0 : Nat), (9 : Nat), (12 : Nat), (13 : Nat))]) ∈ T0 := T0_a6 43 (by decide +kernel) rfl
theorem wt1244 : (Cond.classLink "WrongRoomLaw" (13 : Nat) "java/util/NoSuchElementException") ∈ T0 := T0_a6 44 (by decide +kernel) rfl
theorem wt1245 : (Cond.methodLink "WrongRoomLaw" (7 : Nat) ({ cls := "WrongRoom", name := "led", desc := "(I)I" } : Jvm.MethodName)) ∈ T0 := T0_a6 45 (by decide +kernel) rfl
theorem wt1246 : (Cond.instanceMethod ({ cls := "WrongRoom", name := "led", desc := "(I)I" } : Jvm.MethodName)) ∈ T0 := T0_a6 46 (by decide +kernel) rfl
theorem wt1247 : (Cond.selects "WrongRoom" ({ cls := "WrongRoom", name := "led", desc := "(I)I" } : Jvm.MethodName) ({ cls := "WrongRoom", name := "led", desc := "(I)I" } : Jvm.MethodName)) ∈ T0 := T0_a6 47 (by decide +kernel) rfl
theorem wt1249 : (Cond.classLink "WrongRoom" (377 : Nat) "java/util/NoSuchElementException") ∈ T0 := T0_a6 49 (by decide +kernel) rfl
/-- the class's led, with a stop where it throws -/
def rLd (ad : Nat → Nat) : List (Nat × Ins) := rX11_led ad ++ [(50, fRv)]
section XLED
variable {ad : Nat → Nat} {M : Mm} {b : Nat} {σ : Sg} {C : Nat}
theorem led_sub {x c : Int32} : x - c = 0 ↔ c = x := by
  constructor
  · intro h
    have h2 := Int32.sub_add_cancel x c
    rw [h, Int32.zero_add] at h2
    exact h2
  · intro h
    rw [h]
    exact Int32.sub_self x
theorem led_dec {x c : Int32} : x - c + (-1) = x - (c + 1) := by grind
theorem x_led_loop {x : Int32} (hX : XR M b σ) (hp4 : σ.T.np ≤ 4) : ∀ (n i : Nat) (c : Int32), i + n = σ.T.np → Ev ad 1 (rLd ad) (4, [some (.ref b), some (.int x), some (.int (x - c)), some (.int (nI i))], [], M) (fun v M' => v = (ledF σ.T σ.f x n i c).map (fun j => Value.int (nI j)) ∧ M' = M) := by
  obtain ⟨tb, sp, hts, h0, hRd, hT, hT2, hN, hTr, hPt, hWy, hFt, hSw, hRt⟩ := id hX
  unfold xTop at h0
  have t0 := hT.1.1
  have s0 := hT.2.1.1
  have s1 := hT.2.2.1.1
  have s2 := hT.2.2.2.1
  have n0 := hN.1
  have g7 := hT.1.2.2.1
  intro n
  induction n with
  | zero =>
    intro i c hi
    have e9 : i = σ.T.1.2.2.1 := hi
    repeat (first | refine es rfl rfl rfl ?_ | refine eg rfl (by assumption) rfl ?_ | refine eanE rfl (by assumption) (by with_reducible first | exact rfl | exact Int32.zero_add _ | exact ix8 _ | exact ix12 _ | exact ix7r _ _ | exact n7 | exact n0 | exact n1) (by assumption) rfl ?_ | refine eal rfl (by assumption) (by assumption) rfl ?_ | refine eri rfl ?_ | refine erv rfl ?_ | refine erl rfl ?_ | refine era rfl ?_ | refine erz0 rfl ?_ | refine erz1 rfl ?_)
    try dsimp only [set1, set2, kilP, List.set_cons_zero, List.set_cons_succ, List.getElem?_cons_zero, List.getElem?_cons_succ, List.nil_append, List.cons_append, Option.toList_some, Option.toList_none]
    refine ei _ rfl rfl (fun c1 => ?_) (fun c1 => ?_)
    · repeat (first | refine es rfl rfl rfl ?_ | refine eg rfl (by assumption) rfl ?_ | refine eanE rfl (by assumption) (by with_reducible first | exact rfl | exact Int32.zero_add _ | exact ix8 _ | exact ix12 _ | exact ix7r _ _ | exact n7 | exact n0 | exact n1) (by assumption) rfl ?_ | refine eal rfl (by assumption) (by assumption) rfl ?_ | refine eri rfl ?_ | refine erv rfl ?_ | refine erl rfl ?_ | refine era rfl ?_ | refine erz0 rfl ?_ | refine erz1 rfl ?_)
      try dsimp only [set1, set2, kilP, List.set_cons_zero, List.set_cons_succ, List.getElem?_cons_zero, List.getElem?_cons_succ, List.nil_append, List.cons_append, Option.toList_some, Option.toList_none]
      exact ⟨rfl, rfl⟩
    · exact absurd (by rw [e9]; exact Int32.le_refl _) c1
  | succ n ih =>
    intro i c hi
    have hi4 : i < 4 := by omega
    have hlt : i < σ.T.1.2.2.1 := by have : σ.T.1.2.2.1 = σ.T.np := rfl; omega
    have hn4 : σ.T.1.2.2.1 ≤ 4 := hp4
    rw [ledF]
    repeat (first | refine es rfl rfl rfl ?_ | refine eg rfl (by assumption) rfl ?_ | refine eanE rfl (by assumption) (by with_reducible first | exact rfl | exact Int32.zero_add _ | exact ix8 _ | exact ix12 _ | exact ix7r _ _ | exact n7 | exact n0 | exact n1) (by assumption) rfl ?_ | refine eal rfl (by assumption) (by assumption) rfl ?_ | refine eri rfl ?_ | refine erv rfl ?_ | refine erl rfl ?_ | refine era rfl ?_ | refine erz0 rfl ?_ | refine erz1 rfl ?_)
    try dsimp only [set1, set2, kilP, List.set_cons_zero, List.set_cons_succ, List.getElem?_cons_zero, List.getElem?_cons_succ, List.nil_append, List.cons_append, Option.toList_some, Option.toList_none]
    refine ei _ rfl rfl (fun c1 => ?_) (fun c1 => ?_)
    · exact absurd c1 (nI_ge (by omega) (by omega))
    repeat (first | refine es rfl rfl rfl ?_ | refine eg rfl (by assumption) rfl ?_ | refine eanE rfl (by assumption) (by with_reducible first | exact rfl | exact Int32.zero_add _ | exact ix8 _ | exact ix12 _ | exact ix7r _ _ | exact n7 | exact n0 | exact n1) (by assumption) rfl ?_ | refine eal rfl (by assumption) (by assumption) rfl ?_ | refine eri rfl ?_ | refine erv rfl ?_ | refine erl rfl ?_ | refine era rfl ?_ | refine erz0 rfl ?_ | refine erz1 rfl ?_)
    try dsimp only [set1, set2, kilP, List.set_cons_zero, List.set_cons_succ, List.getElem?_cons_zero, List.getElem?_cons_succ, List.nil_append, List.cons_append, Option.toList_some, Option.toList_none]
    refine ecr rfl rfl (by assumption) rfl rfl rfl (e3_placeOf hN hi4) (by first | rfl | exact Nat.blt_eq.mpr (by omega)) rfl ?_
    repeat (first | refine es rfl rfl rfl ?_ | refine eg rfl (by assumption) rfl ?_ | refine eanE rfl (by assumption) (by with_reducible first | exact rfl | exact Int32.zero_add _ | exact ix8 _ | exact ix12 _ | exact ix7r _ _ | exact n7 | exact n0 | exact n1) (by assumption) rfl ?_ | refine eal rfl (by assumption) (by assumption) rfl ?_ | refine eri rfl ?_ | refine erv rfl ?_ | refine erl rfl ?_ | refine era rfl ?_ | refine erz0 rfl ?_ | refine erz1 rfl ?_)
    try dsimp only [set1, set2, kilP, List.set_cons_zero, List.set_cons_succ, List.getElem?_cons_zero, List.getElem?_cons_succ, List.nil_append, List.cons_append, Option.toList_some, Option.toList_none]
    refine ei _ rfl rfl (fun c2 => ?_) (fun c2 => ?_)
    · rw [if_neg (show ¬ σ.f (8 + i) = σ.T.hm i from c2)]
      repeat (refine ng 4 rfl ?_; first | refine es rfl rfl rfl ?_ | refine eg rfl (by assumption) rfl ?_ | refine eanE rfl (by assumption) (by with_reducible first | exact rfl | exact Int32.zero_add _ | exact ix8 _ | exact ix12 _ | exact ix7r _ _ | exact n7 | exact n0 | exact n1) (by assumption) rfl ?_ | refine eal rfl (by assumption) (by assumption) rfl ?_ | refine eri rfl ?_ | refine erv rfl ?_ | refine erl rfl ?_ | refine era rfl ?_ | refine erz0 rfl ?_ | refine erz1 rfl ?_)
      try dsimp only [set1, set2, kilP, List.set_cons_zero, List.set_cons_succ, List.getElem?_cons_zero, List.getElem?_cons_succ, List.nil_append, List.cons_append, Option.toList_some, Option.toList_none]
      rw [← nI_succ]
      exact ih (i + 1) c (by omega)
    rw [if_pos (show σ.f (8 + i) = σ.T.hm i from Decidable.not_not.mp c2)]
    repeat (first | refine es rfl rfl rfl ?_ | refine eg rfl (by assumption) rfl ?_ | refine eanE rfl (by assumption) (by with_reducible first | exact rfl | exact Int32.zero_add _ | exact ix8 _ | exact ix12 _ | exact ix7r _ _ | exact n7 | exact n0 | exact n1) (by assumption) rfl ?_ | refine eal rfl (by assumption) (by assumption) rfl ?_ | refine eri rfl ?_ | refine erv rfl ?_ | refine erl rfl ?_ | refine era rfl ?_ | refine erz0 rfl ?_ | refine erz1 rfl ?_)
    try dsimp only [set1, set2, kilP, List.set_cons_zero, List.set_cons_succ, List.getElem?_cons_zero, List.getElem?_cons_succ, List.nil_append, List.cons_append, Option.toList_some, Option.toList_none]
    refine ei _ rfl rfl (fun c3 => ?_) (fun c3 => ?_)
    · rw [if_neg (fun q => c3 (led_sub.mpr q))]
      repeat (refine ng 4 rfl ?_; first | refine es rfl rfl rfl ?_ | refine eg rfl (by assumption) rfl ?_ | refine eanE rfl (by assumption) (by with_reducible first | exact rfl | exact Int32.zero_add _ | exact ix8 _ | exact ix12 _ | exact ix7r _ _ | exact n7 | exact n0 | exact n1) (by assumption) rfl ?_ | refine eal rfl (by assumption) (by assumption) rfl ?_ | refine eri rfl ?_ | refine erv rfl ?_ | refine erl rfl ?_ | refine era rfl ?_ | refine erz0 rfl ?_ | refine erz1 rfl ?_)
      try dsimp only [set1, set2, kilP, List.set_cons_zero, List.set_cons_succ, List.getElem?_cons_zero, List.getElem?_cons_succ, List.nil_append, List.cons_append, Option.toList_some, Option.toList_none]
      rw [led_dec, ← nI_succ]
      exact ih (i + 1) (c + 1) (by omega)
    · rw [if_pos (led_sub.mp (Decidable.not_not.mp c3))]
      repeat (first | refine es rfl rfl rfl ?_ | refine eg rfl (by assumption) rfl ?_ | refine eanE rfl (by assumption) (by with_reducible first | exact rfl | exact Int32.zero_add _ | exact ix8 _ | exact ix12 _ | exact ix7r _ _ | exact n7 | exact n0 | exact n1) (by assumption) rfl ?_ | refine eal rfl (by assumption) (by assumption) rfl ?_ | refine eri rfl ?_ | refine erv rfl ?_ | refine erl rfl ?_ | refine era rfl ?_ | refine erz0 rfl ?_ | refine erz1 rfl ?_)
      try dsimp only [set1, set2, kilP, List.set_cons_zero, List.set_cons_succ, List.getElem?_cons_zero, List.getElem?_cons_succ, List.nil_append, List.cons_append, Option.toList_some, Option.toList_none]
      exact ⟨rfl, rfl⟩
theorem x_led {x : Int32} (hX : XR M b σ) (hI : Inv σ C) : Ev ad 1 (rLd ad) (0, [some (.ref b), some (.int x), none, none], [], M) (fun v M' => v = (ledF σ.T σ.f x σ.T.np 0 0).map (fun j => Value.int (nI j)) ∧ M' = M) := by
  repeat (refine ng 4 rfl ?_; first | refine es rfl rfl rfl ?_ | refine eg rfl (by assumption) rfl ?_ | refine eanE rfl (by assumption) (by with_reducible first | exact rfl | exact Int32.zero_add _ | exact ix8 _ | exact ix12 _ | exact ix7r _ _ | exact n7 | exact n0 | exact n1) (by assumption) rfl ?_ | refine eal rfl (by assumption) (by assumption) rfl ?_ | refine eri rfl ?_ | refine erv rfl ?_ | refine erl rfl ?_ | refine era rfl ?_ | refine erz0 rfl ?_ | refine erz1 rfl ?_)
  try dsimp only [set1, set2, kilP, List.set_cons_zero, List.set_cons_succ, List.getElem?_cons_zero, List.getElem?_cons_succ, List.nil_append, List.cons_append, Option.toList_some, Option.toList_none]
  have h := x_led_loop (ad := ad) (x := x) hX hI.p4 σ.T.np 0 0 (by omega)
  rw [Int32.sub_zero] at h
  exact h
end XLED
/-! the machine -/
def ledM (M : Mm) : Mm := (M.1, M.2.1 + 1, M.2.2.1 + 1, M.2.2.2 + 6)
abbrev ledR : Room := { frames := 6, cells := 1, slots := 6, locals := 360 }
def ledN (M : Mm) : Mm := (M.1, M.2.1, M.2.2.1 + 1, M.2.2.2 + 6)
theorem pm_ext {g : Gm} {A : Nat → Prop} {H0 H H1 : Heap} {M : Mm} {locs : List Loc} (h : pmR g A H0 M H locs) (hz : H1.size = H.size + 1) (ho : ∀ q, q < H.size → H1[q]? = H[q]?) : pmR g A H0 (ledM M) H1 [] := by
  have hsz := h.2.2.1
  refine ⟨by rw [hz, h.1]; rfl, fun a y hy => ?_, by omega, fun q h1 h2 => ?_, fun _ hq => by cases hq⟩
  · rcases h.2.1 a y hy with h1 | h1
    · exact Or.inl ⟨h1.1.kept (ho a h1.1.lt), h1.2⟩
    · exact Or.inr h1
  · rw [ho q (by omega)]
    exact h.2.2.2.1 q h1 h2
theorem fRv_n : pmN (50, fRv) := by
  refine fun L st M => ⟨fun fr' hf => ?_, fun j as fr' hf => ?_, fun v M1 hf => ?_⟩
  all_goals
    unfold fRv at hf
    dsimp only at hf
    split at hf
    · cases hf <;> rfl
    · cases hf
theorem fRv_o {mt : List Mi} {X : Cxt} {nL : Nat} : pmO2 mt X nL (50, fRv) := by
  refine fun L st M => ⟨fun fr' hf => ?_, fun j as fr' hf => ?_⟩
  all_goals
    unfold fRv at hf
    dsimp only at hf
    split at hf
    · cases hf
    · cases hf
def ns9 : String := "java/util/NoSuchElementException"
def sup9 : List String := ["java/lang/RuntimeException", "java/lang/Exception"]
theorem at9_good : ∀ w ∈ (vx_at0 RX11 379 ns9 sup9).filter goodWord, w ∈ T0 := sub_tb _ [22, 1271, 1280, 1282, 1285, 1287, 1272, 1273, 32, 33, 1274, 1279, 1283, 1299, 1261, 1300, 1263, 1301, 1265, 1275, 1277, 1267, 1289, 1290, 1291, 1292, 1292, 1293, 1294, 1295, 1295, 1296, 1297, 1272, 1288, 1250, 1258, 1259, 1260, 1262, 1264, 1266, 1270, 1269, 1268] (by decide +kernel) (by decide +kernel)
theorem at9_bad : ∀ w ∈ (vx_at0 RX11 379 ns9 sup9).filter (fun w => !goodWord w), w ∈ DWs.map (fun x => Cond.declares x) ++ CWs.map (fun q => Cond.castable q.1 q.2) := by
  have h : ((vx_at0 RX11 379 ns9 sup9).filter (fun w => !goodWord w)).all (fun w => decide (w ∈ DWs.map (fun x => Cond.declares x) ++ CWs.map (fun q => Cond.castable q.1 q.2))) = true := by decide +kernel
  intro w hw
  simpa using List.all_eq_true.mp h w hw
theorem at9_ot : ∀ w ∈ Cond.classLink RX11 377 ns9 :: Cond.initialized ns9 :: vx_at0 RX11 379 ns9 sup9, vx_ot w = true := by
  have h : (Cond.classLink RX11 377 ns9 :: Cond.initialized ns9 :: vx_at0 RX11 379 ns9 sup9).all vx_ot = true := by decide +kernel
  exact fun w hw => List.all_eq_true.mp h w hw
theorem at9 {A0 : Array Value} {s : State} (hts : ∀ w ∈ T0, w.before A0 s = true) (hd : ∀ x ∈ DWs, va_Nw (.declares x) s) (hc : ∀ q ∈ CWs, va_Nw (.castable q.1 q.2) s) : ∀ w ∈ vx_at0 RX11 379 ns9 sup9, w.before A0 s = true := by
  intro w hw
  by_cases gw : goodWord w = true
  · exact hts w (at9_good w (List.mem_filter.mpr ⟨hw, gw⟩))
  · have h := at9_bad w (List.mem_filter.mpr ⟨hw, by show (!goodWord w) = true; cases hgw : goodWord w; (· rfl); (· exact absurd hgw gw)⟩)
    rcases List.mem_append.mp h with h | h
    · obtain ⟨x, h1, rfl⟩ := List.mem_map.mp h
      exact va_Nw.use (A := A0) rfl (hd x h1)
    · obtain ⟨x, h1, rfl⟩ := List.mem_map.mp h
      exact va_Nw.use (A := A0) rfl (hc x h1)
abbrev ledPre (g : Gm) (A : Nat → Prop) (M : Mm) : State → Prop := fun U => pmR g A U.heap M U.heap [] ∧ pmK g U ∧ pmX g A U U.heap ∧ ∀ q, U.heap.size ≤ q → A q
abbrev ledQ (g : Gm) (A : Nat → Prop) (M : Mm) (r : Option Nat) : Array Value → State → Outcome → State → Prop := fun _ st o t => (∃ j, r = some j ∧ o = .returned (some (.int (nI j)))) ∧ pmR g A st.heap M t.heap []
abbrev ledX (g : Gm) (A : Nat → Prop) (M : Mm) (r : Option Nat) : String → State → State → Prop := fun E st t => r = none ∧ E = ns9 ∧ pmR g A st.heap (ledM M) t.heap []
section MLED
variable {l : Launch} {g : Gm} {A : Nat → Prop} {ad : Nat → Nat} {M : Mm} {b : Nat} {σ : Sg} {C : Nat} {x : Int32}
set_option maxHeartbeats 1000000 in
theorem m_led (hl : l.stackTraces = false) (hg : g.2.2.1 = ad) (hX : XR M b σ) (hI : Inv σ C) : vx_Met l yX11_led (iX11_led ad).ws ledR (va_Pc [.ref b, .int x] (ledPre g A M)) (ledQ g A M (ledF σ.T σ.f x σ.T.np 0 0)) (ledX g A M (ledF σ.T σ.f x σ.T.np 0 0)) 1 6 A := by
  refine vx_ofW (cc := cX11_led) (maxL := 4) (ret := some .int) (by decide +kernel : plainName RX11 = true) rfl ?_
  intro p e s m args below meth c s₁ B hml hex hv
  obtain ⟨rfl, hR, hK, hXx, hA⟩ := hv
  have hts := atoms_spec (ws := (iX11_led ad).ws) B.pre
  have hfc : s.vm.findClass RX11 = some m.cls := findClass_of_methodNamed B.named
  have hr := B.returns
  have hlocks := B.notSynchronized
  rw [lg_entry_eq]
  have hlen : (pmIn [Value.ref b, .int x]).length ≤ 4 := Nat.le_of_ble_eq_true rfl
  have hle := pmL_entry hlen
  generalize (lg_sl [Value.ref b, .int x] ++ List.replicate (4 - (lg_sl [Value.ref b, .int x]).length) Slot.unset).toArray = ls at hle ⊢
  let X : Cxt := ((p, l, e, (headSpec (iX11_led ad).ws ledR).room, s), (m, [Value.ref b, .int x].toArray, below, meth, c), vx_MQ below (ledQ g A M (ledF σ.T σ.f x σ.T.np 0 0)) (ledX g A M (ledF σ.T σ.f x σ.T.np 0 0)) [Value.ref b, .int x].toArray s 1 6 A, A, g, M.2.2.1, M.2.2.2)
  have hT9 : ∀ w ∈ T0, w.before X.Ar X.St = true := fun w hw => hts w (List.mem_cons_of_mem _ hw)
  have hC : pmC X cX11_led 4 RX11 "led" ad := ⟨B.exec, B.bytes, hml, hfc, hT9, hK, hXx, hA, by show 5 ≤ 6; omega, by show 300 ≤ 360; omega, (name_of_methodNamed B.named B.method).1, hg⟩
  have hcel : X.Ro.cells = 1 := rfl
  have hslo : X.Ro.slots = 6 := rfl
  have key : pmS X 4 (0, [some (.ref b), some (.int x), none, none], [], M) := by
    refine ev_stop (hall ad) (X := X) hg (x_led (ad := ad) (x := x) hX hI) (fun q hq => ?_) (by show 1 + 5 ≤ 6; omega) (by show 60 * (1 + 5) ≤ 360; omega) (fun v M' hp => ?_)
    · rcases List.mem_append.mp hq with h | h
      · exact (kX11_led ad q h).o2 hC
      · rw [List.mem_singleton.mp h]
        exact ⟨fRv_n, fRv_o⟩
    · obtain ⟨hv, rfl⟩ := hp
      refine ⟨⟨Nat.le_add_right _ _, Nat.le_add_right _ _⟩, fun q hq L st hs => ?_⟩
      intro ls' H locs k n hL' hR' hk hn
      dsimp only at hL' hR' hk hn ⊢
      have hk0 : k = 0 := by have : M'.2.2.1 + k = M'.2.2.1 := hk; omega
      have hn0 : n = 0 := by have : M'.2.2.2 + n = M'.2.2.2 := hn; omega
      subst hk0; subst hn0
      cases hrr : ledF σ.T σ.f x σ.T.np 0 0 with
      | some j =>
        rw [hrr] at hv
        replace hv : v = some (.int (nI j)) := hv
        subst hv
        rcases List.mem_append.mp hq with h | h
        · obtain ⟨-, e2, e3⟩ := ((kX11_led ad q h).2 X hC L st M').2.2 _ _ hs
          rw [e2]
          rcases e3 with ⟨h1, -, -⟩ | ⟨y, ty, h1, h2, h3, h4⟩ | ⟨y, h1, -, -⟩ | ⟨y, rt, h1, -, -, -⟩
          · cases h1
          · cases h1
            refine W.widen (k := 1) (n := 6) (by omega) (by omega) (vx_ret (W.zret B.exec B.bytes (hr.trans h2) h3 (fun t ht hW => ?_) hR'.2.2.2.2 h4 hlocks))
            refine ⟨⟨j, hrr, rfl⟩, ?_⟩
            rw [ht]
            exact ⟨hR'.1, hR'.2.1, hR'.2.2.1, hR'.2.2.2.1, fun q hq => by cases hq⟩
          · cases h1
          · cases h1
        · rw [List.mem_singleton.mp h] at hs
          unfold fRv at hs
          dsimp only at hs
          split at hs
          · cases hs
          · cases hs
      | none =>
        rw [hrr] at hv
        replace hv : v = none := hv
        subst hv
        rcases List.mem_append.mp hq with h | h
        · obtain ⟨-, -, e3⟩ := ((kX11_led ad q h).2 X hC L st M').2.2 _ _ hs
          rcases e3 with ⟨-, h1, -⟩ | ⟨y, ty, h1, h2, h3, h4⟩ | ⟨y, h1, -, -⟩ | ⟨y, rt, h1, -, -, -⟩
          · cases h1
          · cases h1
          · cases h1
          · cases h1
        · rw [List.mem_singleton.mp h] at hs ⊢
          unfold fRv at hs
          dsimp only at hs
          split at hs
          · have hs9 := hs
            refine vy_throw0 (cc := cX11_led) (own := RX11) (cls := ns9) (names := sup9) (ik := 377) (ic := 379) (A := A) B.exec B.bytes hl hfc (by decide +kernel) (by decide +kernel) (hT9 _ wt1249) (hT9 _ wt25) (at9 hT9 hXx.2.2.2.2.2.1 hXx.2.2.2.2.2.2) at9_ot hXx.2.2.2.1 hXx.2.2.2.2.1 hR'.2.2 (by rw [hL'.1, hml]) (by decide +kernel) (by decide +kernel) (by decide +kernel) (by decide +kernel) (fun x hx => (hex x hx).elim) (by show 2 + 3 < 6; omega) (by show (0 : Nat) + (13 * (2 + 1) + 42) ≤ 360; omega) (by show 0 + 1 ≤ X.Ro.cells; rw [hcel]; omega) (by show 0 + 6 ≤ X.Ro.slots; rw [hslo]; omega) hlocks (fun t _ hz ho => ⟨hrr, rfl, pm_ext hR' hz ho⟩) hR'.2.2.2.2 (Nat.le_refl _) (Nat.le_refl _)
          · cases hs
  exact key ls s.heap [] 0 0 hle hR rfl rfl
end MLED
