/-! The law's led: behind the class's answer or throw -/
theorem YR.out {M M' : Mm} {b o : Nat} {σ : Sg} {f : Nat → Int64} (h : YR M b σ) (ho : M.1 o = some (.inl (1, 1, .inr f))) (hq : ∀ q, q ≠ o → M'.1 q = M.1 q) (hs : M.2.1 ≤ M'.2.1) (hb : b + 16 ≤ o) : YR M' b σ := by
  obtain ⟨y, A, h1, h2, h3, h4, h5, h6, h7, h8, h9, h10⟩ := h
  refine ⟨y, A, ⟨(hq _ (by omega)).trans h1.1, fun j j1 j2 => (hq _ (by omega)).trans (h1.2 j j1 j2)⟩, by omega, h3, h4, h5, h6, h7, h8, h9, ?_⟩
  rcases h10 with q | ⟨n1, a, t1, a1, a2, hM, r⟩
  · exact Or.inl q
  · have a3 : @LE.le Nat _ (@HAdd.hAdd Nat Nat Nat _ a 18) M.2.1 := a2
    refine Or.inr ⟨n1, a, t1, a1, Nat.le_trans a3 hs, hM.kept (fun q q1 q2 => hq q ?_), r⟩
    obtain ⟨kn, Am, Bm, m0, mc, -⟩ := id hM
    obtain ⟨m1, m2, m3, m4, m5, m6, m7, m8, m9, m10, m11, m12, m13, m14, m15, m16, m17⟩ := id mc
    intro e
    subst e
    obtain ⟨k, hk, rfl⟩ : ∃ k, k < 18 ∧ q = @HAdd.hAdd Nat Nat Nat _ a k := ⟨@HSub.hSub Nat Nat Nat _ q a, by omega, by omega⟩
    have hk2 : k = 0 ∨ k = 1 ∨ k = 2 ∨ k = 3 ∨ k = 4 ∨ k = 5 ∨ k = 6 ∨ k = 7 ∨ k = 8 ∨ k = 9 ∨ k = 10 ∨ k = 11 ∨ k = 12 ∨ k = 13 ∨ k = 14 ∨ k = 15 ∨ k = 16 ∨ k = 17 := by omega
    rcases hk2 with rfl | rfl | rfl | rfl | rfl | rfl | rfl | rfl | rfl | rfl | rfl | rfl | rfl | rfl | rfl | rfl | rfl | rfl
    · rw [Nat.add_zero, m0] at ho; cases ho
    · rw [m1] at ho; simp [ints, lngs] at ho
    · rw [m2] at ho; simp [ints, lngs] at ho
    · rw [m3] at ho; simp [ints, lngs] at ho
    · rw [m4] at ho; simp [ints, lngs] at ho
    · rw [m5] at ho; simp [ints, lngs] at ho
    · rw [m6] at ho; simp [ints, lngs] at ho
    · rw [m7] at ho; simp [ints, lngs] at ho
    · rw [m8] at ho; simp [ints, lngs] at ho
    · rw [m9] at ho; simp [ints, lngs] at ho
    · rw [m10] at ho; simp [ints, lngs] at ho
    · rw [m11] at ho; simp [ints, lngs] at ho
    · rw [m12] at ho; simp [ints, lngs] at ho
    · rw [m13] at ho; simp [ints, lngs] at ho
    · rw [m14] at ho; simp [ints, lngs] at ho
    · rw [m15] at ho; simp [ints, lngs] at ho
    · rw [m16] at ho; simp [ints, lngs] at ho
    · rw [m17] at ho; simp [ints, lngs] at ho
theorem updL_0 {f : Nat → Int64} {x : Int64} : vp_updL f 0 x 0 = x := by unfold vp_updL; simp
theorem lc42 {ad : Nat → Nat} {b L : Nat} {xs : Nat → Int32} {h C i : Nat} {M : Mm} {σ : Sg} {fo : Nat → Int64} {r : Option Nat} (hI : lwI ad h M σ C) (hc : C + 1 ≤ 600) (hi : i + 6 ≤ L) (hL : L ≤ 3072) (ho : M.1 (h + 89) = some (.inl (1, 1, .inr fo))) (er : r = ledF σ.T σ.f (xs (i + 1)) σ.T.np 0 0) : Ev ad 20 (rC42 ad b L xs ++ [(1686, fHd b h (h + 73) (h + 89) (nI i))]) (1603, [some (.ref b), some (.ref h), some (.ref (h + 73)), some (.ref (h + 89)), some (.int (nI i)), none, none], [.int (lledV r)], lledM M (h + 89) fo r) (lwP ad h C) := by
  obtain ⟨hX, hY, hIv, hS, -, hz1, hz2, hz3⟩ := id hI
  cases r with
  | some j =>
    generalize hMl : lledM M (h + 89) fo (some j) = Ml
    have e1 : Ml = up (ledN M) (h + 89) (.inl (1, 1, .inr (vp_updL fo 0 (nI j).toInt64))) := hMl.symm
    have kq : ∀ q, q ≠ h + 89 → Ml.1 q = M.1 q := fun q hq => by rw [e1]; exact if_neg hq
    have o1 : Ml.1 (h + 89) = some (.inl (1, 1, .inr (vp_updL fo 0 (nI j).toInt64))) := by rw [e1]; exact if_pos rfl
    have s1 : Ml.2 = (M.2.1, M.2.2.1 + 1, M.2.2.2 + 6) := by rw [e1]; rfl
    have hX1 : XR Ml h σ := hX.kept (fun q a1 a2 => kq q (by omega))
    have hY1 : YR Ml (h + 73) σ := hY.out ho kq (by rw [s1]; exact Nat.le_refl _) (by omega)
    obtain ⟨oy, Ay, hRy⟩ := id hY1
    have y0 := hRy.1.1
    show Ev ad 20 (rC42 ad b L xs ++ [(1686, fHd b h (h + 73) (h + 89) (nI i))]) (1603, [some (.ref b), some (.ref h), some (.ref (h + 73)), some (.ref (h + 89)), some (.int (nI i)), none, none], [.int 0], Ml) _
    repeat (first | refine es rfl rfl rfl ?_ | refine eslw rfl (by first | exact ixa1 _ | exact ixa2 _ | exact ixa3 _ | exact ixa4 _ | exact ixa5 _) ⟨by omega, hL⟩ ?_ | refine ehd rfl ?_)
    try dsimp only [set1, set2, kilP, List.set_cons_zero, List.set_cons_succ, List.getElem?_cons_zero, List.getElem?_cons_succ, List.nil_append, List.cons_append, Option.toList_some, Option.toList_none]
    refine ecv rfl rfl (by assumption) rfl rfl rfl (y_led hY1 hIv) (by first | rfl | exact Nat.blt_eq.mpr (by omega)) ?_
    rintro v M2 ⟨hF2, hP⟩
    rw [← er] at hP
    obtain ⟨rfl, oz, Az, hRz, hth⟩ := hP
    have z0 := hRz.1.1
    have o2 : M2.1 (h + 89) = some (.inl (1, 1, .inr (vp_updL fo 0 (nI j).toInt64))) := (hF2.1 _ (by omega)).trans o1
    try dsimp only [set1, set2, kilP, List.set_cons_zero, List.set_cons_succ, List.getElem?_cons_zero, List.getElem?_cons_succ, List.nil_append, List.cons_append, Option.toList_some, Option.toList_none]
    repeat (first | refine es rfl rfl rfl ?_ | refine eslw rfl (by first | exact ixa1 _ | exact ixa2 _ | exact ixa3 _ | exact ixa4 _ | exact ixa5 _) ⟨by omega, hL⟩ ?_ | refine ehd rfl ?_)
    try dsimp only [set1, set2, kilP, List.set_cons_zero, List.set_cons_succ, List.getElem?_cons_zero, List.getElem?_cons_succ, List.nil_append, List.cons_append, Option.toList_some, Option.toList_none]
    refine ecr rfl rfl (by assumption) rfl rfl rfl (y_thrown hRz) (by first | rfl | exact Nat.blt_eq.mpr (by omega)) rfl ?_
    rw [hth]
    have fin : lwP ad h C none M2 := ⟨rfl, σ, hX1.fr hF2 (Or.inl (by omega)), ⟨oz, Az, hRz⟩, hIv.same hc, fun q hq => ⟨(hS q hq).1, (hF2.1 _ (by have := (hS q hq).1; omega)).trans ((kq _ (by have := (hS q hq).1; omega)).trans (hS q hq).2)⟩, ⟨_, o2⟩, by rw [hF2.2, s1]; exact hz1, by rw [hF2.2, s1]; dsimp only; omega, by rw [hF2.2, s1]; dsimp only; omega⟩
    repeat (first | refine es rfl rfl rfl ?_ | refine eslw rfl (by first | exact ixa1 _ | exact ixa2 _ | exact ixa3 _ | exact ixa4 _ | exact ixa5 _) ⟨by omega, hL⟩ ?_ | refine ehd rfl ?_)
    try dsimp only [set1, set2, kilP, List.set_cons_zero, List.set_cons_succ, List.getElem?_cons_zero, List.getElem?_cons_succ, List.nil_append, List.cons_append, Option.toList_some, Option.toList_none]
    refine eal (j := 0) rfl o2 (by decide) rfl ?_
    rw [updL_0]
    repeat (first | refine es rfl rfl rfl ?_ | refine eslw rfl (by first | exact ixa1 _ | exact ixa2 _ | exact ixa3 _ | exact ixa4 _ | exact ixa5 _) ⟨by omega, hL⟩ ?_ | refine ehd rfl ?_)
    try dsimp only [set1, set2, kilP, List.set_cons_zero, List.set_cons_succ, List.getElem?_cons_zero, List.getElem?_cons_succ, List.nil_append, List.cons_append, Option.toList_some, Option.toList_none]
    refine ei _ rfl rfl (fun c7 => ?_) (fun c7 => ?_)
    · repeat (first | refine es rfl rfl rfl ?_ | refine eslw rfl (by first | exact ixa1 _ | exact ixa2 _ | exact ixa3 _ | exact ixa4 _ | exact ixa5 _) ⟨by omega, hL⟩ ?_ | refine ehd rfl ?_)
      exact fin
    · exact absurd (lg_cs _) c7
  | none =>
    generalize hMl : lledM M (h + 89) fo none = Ml
    have e1 : Ml = ledM M := hMl.symm
    have kq : ∀ q, Ml.1 q = M.1 q := fun q => by rw [e1]; rfl
    have s1 : Ml.2 = (M.2.1 + 1, M.2.2.1 + 1, M.2.2.2 + 6) := by rw [e1]; rfl
    have hX1 : XR Ml h σ := hX.kept (fun q a1 a2 => kq q)
    have hY1 : YR Ml (h + 73) σ := hY.kept (fun q _ _ => kq q) (by rw [s1]; exact Nat.le_succ _)
    obtain ⟨oy, Ay, hRy⟩ := id hY1
    have y0 := hRy.1.1
    show Ev ad 20 (rC42 ad b L xs ++ [(1686, fHd b h (h + 73) (h + 89) (nI i))]) (1603, [some (.ref b), some (.ref h), some (.ref (h + 73)), some (.ref (h + 89)), some (.int (nI i)), none, none], [.int 1], Ml) _
    repeat (first | refine es rfl rfl rfl ?_ | refine eslw rfl (by first | exact ixa1 _ | exact ixa2 _ | exact ixa3 _ | exact ixa4 _ | exact ixa5 _) ⟨by omega, hL⟩ ?_ | refine ehd rfl ?_)
    try dsimp only [set1, set2, kilP, List.set_cons_zero, List.set_cons_succ, List.getElem?_cons_zero, List.getElem?_cons_succ, List.nil_append, List.cons_append, Option.toList_some, Option.toList_none]
    refine ecv rfl rfl (by assumption) rfl rfl rfl (y_led hY1 hIv) (by first | rfl | exact Nat.blt_eq.mpr (by omega)) ?_
    rintro v M2 ⟨hF2, hP⟩
    rw [← er] at hP
    obtain ⟨rfl, oz, Az, hRz, hth⟩ := hP
    have z0 := hRz.1.1
    try dsimp only [set1, set2, kilP, List.set_cons_zero, List.set_cons_succ, List.getElem?_cons_zero, List.getElem?_cons_succ, List.nil_append, List.cons_append, Option.toList_some, Option.toList_none]
    repeat (first | refine es rfl rfl rfl ?_ | refine eslw rfl (by first | exact ixa1 _ | exact ixa2 _ | exact ixa3 _ | exact ixa4 _ | exact ixa5 _) ⟨by omega, hL⟩ ?_ | refine ehd rfl ?_)
    try dsimp only [set1, set2, kilP, List.set_cons_zero, List.set_cons_succ, List.getElem?_cons_zero, List.getElem?_cons_succ, List.nil_append, List.cons_append, Option.toList_some, Option.toList_none]
    refine ecr rfl rfl (by assumption) rfl rfl rfl (y_thrown hRz) (by first | rfl | exact Nat.blt_eq.mpr (by omega)) rfl ?_
    rw [hth]
    have fin : lwP ad h C none M2 := ⟨rfl, σ, hX1.fr hF2 (Or.inl (by omega)), ⟨oz, Az, hRz⟩, hIv.same hc, fun q hq => ⟨(hS q hq).1, (hF2.1 _ (by have := (hS q hq).1; omega)).trans ((kq _).trans (hS q hq).2)⟩, ⟨fo, (hF2.1 _ (by omega)).trans ((kq _).trans ho)⟩, by rw [hF2.2, s1]; dsimp only; omega, by rw [hF2.2, s1]; dsimp only; omega, by rw [hF2.2, s1]; dsimp only; omega⟩
    repeat (first | refine es rfl rfl rfl ?_ | refine eslw rfl (by first | exact ixa1 _ | exact ixa2 _ | exact ixa3 _ | exact ixa4 _ | exact ixa5 _) ⟨by omega, hL⟩ ?_ | refine ehd rfl ?_)
    try dsimp only [set1, set2, kilP, List.set_cons_zero, List.set_cons_succ, List.getElem?_cons_zero, List.getElem?_cons_succ, List.nil_append, List.cons_append, Option.toList_some, Option.toList_none]
    exact fin
