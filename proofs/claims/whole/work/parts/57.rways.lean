/-! The reference: ways -/
theorem unN_st {a c r : Nat} (hc : a ≤ c) (h23 : c ≤ 23) (hr : r < 1440) (h : ¬ unN a c r = 0) : unN a c r = (60 - r % 60) + unN a c ((r + (60 - r % 60)) % 1440) := by
  unfold unN at h ⊢
  by_cases q1 : r < 60 * a
  · rw [if_pos q1] at h ⊢
    have e : (r + (60 - r % 60)) % 1440 = r + (60 - r % 60) := Nat.mod_eq_of_lt (by omega)
    rw [e]
    split
    · omega
    · rw [if_pos (by omega)]; omega
  · rw [if_neg q1] at h ⊢
    by_cases q2 : r ≤ 60 * c + 59
    · rw [if_pos q2] at h; omega
    · rw [if_neg q2]
      by_cases q3 : r + (60 - r % 60) = 1440
      · rw [q3, Nat.mod_self]
        split
        · omega
        · rw [if_pos (by omega)]; omega
      · have e : (r + (60 - r % 60)) % 1440 = r + (60 - r % 60) := Nat.mod_eq_of_lt (by omega)
        rw [e, if_neg (by omega), if_neg (by omega)]
        omega
theorem uw_st {T : Tw} (hE : tE T) {h m : Nat} (hh : h < 7) (hz : ¬ untF T.hs.fr T.hs.tt h m = 0) : uwN T h m = (60 - m % 60) + uwN T h (m + (60 - m % 60)) ∧ uwN T h m ≤ 3000 := by
  rcases hE h hh with e | ⟨_, a, c, h1, h2, e1, e2⟩
  · exact absurd (by unfold untF; rw [if_pos e]) hz
  · have hr : m % 1440 < 1440 := Nat.mod_lt _ (by omega)
    have b1 : ∀ r, r < 1440 → unN a c r ≤ 3000 := by intro r hr; unfold unN; split; omega; split <;> omega
    unfold uwN
    rw [untF_a h1 h2 e1 e2, untF_a h1 h2 e1 e2, nI_clamp (by have := b1 _ hr; omega), nI_clamp (by have := b1 ((m + (60 - m % 60)) % 1440) (Nat.mod_lt _ (by omega)); omega)]
    have hu : ¬ unN a c (m % 1440) = 0 := fun q => hz (by rw [untF_a h1 h2 e1 e2, q]; rfl)
    have h3 := unN_st h1 h2 hr hu
    have e3 : m % 1440 % 60 = m % 60 := by omega
    have e4 : (m % 1440 + (60 - m % 60)) % 1440 = (m + (60 - m % 60)) % 1440 := by omega
    rw [e3, e4] at h3
    exact ⟨h3, b1 _ hr⟩
theorem and_not : ∀ s, s < 128 → ∀ g, g < 7 → s.testBit g = true → nI s &&& (((1 : Int32) <<< (nI g &&& 31)) ^^^ (-1)) = nI s ^^^ ((1 : Int32) <<< (nI g &&& 31)) := by decide +kernel
theorem bnR.del {bn : Int32} {p : List Nat} {k : Nat} (h : bnR bn (k :: p)) (hk : k < 7) (hp : k ∉ p) : bnR (bn &&& (((1 : Int32) <<< (nI k &&& 31)) ^^^ (-1))) p := by
  have h2 := h.xor hk hp
  obtain ⟨s, h1, rfl, h3⟩ := h
  rw [and_not s h1 k hk ((h3 k hk).mpr List.mem_cons_self)]
  exact h2
theorem nodup_le {N : Nat} {p : List Nat} (h : p.Nodup) (hl : ∀ x, x ∈ p → x < N) : p.length ≤ N := by
  rcases Nat.lt_or_ge N p.length with q | q
  · obtain ⟨i, j, h1, h2, h3⟩ := php N (fun i => (p[i]?).getD 0) (fun i hi => by
      have e : p[i]? = some (p[i]'(by omega)) := List.getElem?_eq_getElem (by omega)
      show (p[i]?).getD 0 < N
      rw [e]
      exact hl _ (List.getElem_mem _))
    have e1 : p[i]? = some (p[i]'(by omega)) := List.getElem?_eq_getElem (by omega)
    have e2 : p[j]? = some (p[j]'(by omega)) := List.getElem?_eq_getElem (by omega)
    rw [e1, e2] at h3
    exact absurd h3 (List.pairwise_iff_getElem.mp h i j (by omega) (by omega) h1)
  · exact q
theorem nodup_all {N : Nat} {p : List Nat} (h : p.Nodup) (hl : ∀ x, x ∈ p → x < N) (e : p.length = N) {g : Nat} (hg : g < N) : g ∈ p := by
  apply Classical.byContradiction
  intro q
  have := nodup_le (N := N) (p := g :: p) (List.nodup_cons.mpr ⟨q, h⟩) (fun x hx => by rcases List.mem_cons.mp hx with y | y; (rw [y]; exact hg); exact hl x y)
  rw [List.length_cons] at this
  omega
theorem lq_full {rc : List Nat → Nat → Nat → Ac → Ac} {τ : Nat → Nat → Nat → Option Nat} {p : List Nat} {h m N : Nat} (hp : ∀ g, g < N → g ∈ p) : ∀ c g ac, g + c = N → lqF rc τ p h m c g ac = ac
  | 0, g, ac, _ => rfl
  | c + 1, g, ac, hg => by
    rw [lqF, if_pos (hp g (by omega))]
    exact lq_full hp c (g + 1) ac (by omega)
theorem df_full {τ : Nat → Nat → Nat → Option Nat} {N go : Nat} {p : List Nat} {h m : Nat} (hp : ∀ g, g < N → g ∈ p) (hh : ¬ h = go) : ∀ n ac, dfB τ N go n p h m ac = ac
  | 0, ac => rfl
  | n + 1, ac => by rw [dfB, if_neg hh]; exact lq_full hp N 0 ac (by omega)
theorem wkR.top {wk : Nat → Int32} {p : List Nat} {x : Nat} (h : wkR wk (x :: p)) : wk p.length = nI x := by
  refine h p.length x ?_
  rw [List.reverse_cons, List.getElem?_append_right (by rw [List.length_reverse]; exact Nat.le_refl _), List.length_reverse, Nat.sub_self]
  rfl
theorem wkR.ext {wk : Nat → Int32} {p : List Nat} {x : Nat} (h : wkR wk p) (e : wk p.length = nI x) : wkR wk (x :: p) := by
  intro i y ei
  rw [List.reverse_cons] at ei
  rcases Nat.lt_or_ge i p.length with q | q
  · rw [List.getElem?_append_left (by rw [List.length_reverse]; exact q)] at ei
    exact h i y ei
  · rw [List.getElem?_append_right (by rw [List.length_reverse]; exact q), List.length_reverse] at ei
    have h0 : i - p.length = 0 := by have := (List.getElem?_eq_some_iff.mp ei).1; rw [List.length_singleton] at this; omega
    rw [h0] at ei
    injection ei with ei
    rw [show i = p.length by omega, e, ei]
theorem wkR.upd {wk : Nat → Int32} {p : List Nat} (h : wkR wk p) {k : Nat} {x : Int32} (hk : p.length ≤ k) : wkR (upd wk k x) p := by
  intro i y ei
  have hi : i < p.length := by have := (List.getElem?_eq_some_iff.mp ei).1; rw [List.length_reverse] at this; exact this
  rw [pk_un (by omega)]
  exact h i y ei
section RWAYS
variable {ad : Nat → Nat} {M : Mm} {b : Nat} {σ : Sg} {C : Nat} {a : Nat} {oa : Int32 × Int32 × Int32} {rd : Value} {oq : Yr × Yq}
theorem y_wait {A : Ar} {h : Nat} {x2 x3 x4 x5 : Int32} {P : Option Value → Mm → Prop} (hW : yW M b a σ oa rd oq A) (hI : Inv σ C) (hn : 0 < σ.T.hs.n) (hh : h < σ.T.hs.n) : ∀ (u t : Nat), uwN σ.T h t = u → t + u < 200000 → Ev ad 3 (rX13_steps ad) (110, [some (.ref b), some (.int (nI h)), some (.int x2), some (.int x3), some (.int x4), some (.int x5), some (.int (nI (t + u)))], [], M) P → Ev ad 3 (rX13_steps ad) (77, [some (.ref b), some (.int (nI h)), some (.int x2), some (.int x3), some (.int x4), some (.int x5), some (.int (nI t))], [], M) P := by
  obtain ⟨hy, ha, hM, hv⟩ := id hW
  obtain ⟨kn, Am, Bm, m0, -⟩ := id hM
  have h0 := hy.1
  have hn7 := hI.n7
  have hE := (hI.tI hn).2.2.2.2.1
  intro u
  induction u using Nat.strongRecOn with
  | ind u ih =>
    intro t hu ht k
    repeat (first | refine es rfl rfl rfl ?_ | refine eg rfl (by assumption) rfl ?_ | refine eanE rfl (by assumption) (by with_reducible first | exact rfl | exact Int32.zero_add _ | exact ix8 _ | exact ix12 _ | exact ix7r _ _ | exact n7 | exact n0 | exact n1) (by assumption) rfl ?_ | refine eal rfl (by assumption) (by assumption) rfl ?_ | refine eri rfl ?_ | refine erv rfl ?_ | refine erl rfl ?_ | refine era rfl ?_ | refine erz0 rfl ?_ | refine erz1 rfl ?_)
    try dsimp only [set1, set2, kilP, List.set_cons_zero, List.set_cons_succ, List.getElem?_cons_zero, List.getElem?_cons_succ, List.nil_append, List.cons_append, Option.toList_some, Option.toList_none]
    rw [show nI t - nI t / 1440 * 1440 = nI (t % 1440) from pk_rem (d := 1440) (by omega) (by omega) (by omega)]
    refine ecr rfl rfl (by assumption) rfl rfl rfl (t_hour hM hE hn7 hh (Nat.mod_lt _ (by omega))) (by first | rfl | exact Nat.blt_eq.mpr (by omega)) rfl ?_
    rw [show untF σ.T.hs.fr σ.T.hs.tt h (t % 1440) = untF σ.T.hs.fr σ.T.hs.tt h t by unfold untF; rw [Nat.mod_mod]]
    by_cases c : untF σ.T.hs.fr σ.T.hs.tt h t = 0
    · rw [show bI (untF σ.T.hs.fr σ.T.hs.tt h t = 0) = 1 from if_pos c]
      have hu0 : u = 0 := by rw [← hu]; unfold uwN; rw [c]; rfl
      subst hu0
      repeat (refine ng 110 rfl ?_; first | refine es rfl rfl rfl ?_ | refine eg rfl (by assumption) rfl ?_ | refine eanE rfl (by assumption) (by with_reducible first | exact rfl | exact Int32.zero_add _ | exact ix8 _ | exact ix12 _ | exact ix7r _ _ | exact n7 | exact n0 | exact n1) (by assumption) rfl ?_ | refine eal rfl (by assumption) (by assumption) rfl ?_ | refine eri rfl ?_ | refine erv rfl ?_ | refine erl rfl ?_ | refine era rfl ?_ | refine erz0 rfl ?_ | refine erz1 rfl ?_)
      try dsimp only [set1, set2, kilP, List.set_cons_zero, List.set_cons_succ, List.getElem?_cons_zero, List.getElem?_cons_succ, List.nil_append, List.cons_append, Option.toList_some, Option.toList_none]
      exact k
    · rw [show bI (untF σ.T.hs.fr σ.T.hs.tt h t = 0) = 0 from if_neg c]
      obtain ⟨s1, s2⟩ := uw_st hE (by omega) c
      have hm60 := Nat.mod_lt t (show 0 < 60 by omega)
      repeat (refine ng 77 rfl ?_; first | refine es rfl rfl rfl ?_ | refine eg rfl (by assumption) rfl ?_ | refine eanE rfl (by assumption) (by with_reducible first | exact rfl | exact Int32.zero_add _ | exact ix8 _ | exact ix12 _ | exact ix7r _ _ | exact n7 | exact n0 | exact n1) (by assumption) rfl ?_ | refine eal rfl (by assumption) (by assumption) rfl ?_ | refine eri rfl ?_ | refine erv rfl ?_ | refine erl rfl ?_ | refine era rfl ?_ | refine erz0 rfl ?_ | refine erz1 rfl ?_)
      try dsimp only [set1, set2, kilP, List.set_cons_zero, List.set_cons_succ, List.getElem?_cons_zero, List.getElem?_cons_succ, List.nil_append, List.cons_append, Option.toList_some, Option.toList_none]
      rw [show nI t - nI t / 60 * 60 = nI (t % 60) from pk_rem (d := 60) (by omega) (by omega) (by omega), show (60 : Int32) - nI (t % 60) = nI (60 - t % 60) from pk_sub (a := 60) (by omega), nI_add]
      refine ih (uwN σ.T h (t + (60 - t % 60))) (by omega) _ rfl (by omega) ?_
      rw [show t + (60 - t % 60) + uwN σ.T h (t + (60 - t % 60)) = t + u by omega]
      exact k
theorem y_steps2 {A : Ar} {h g m : Nat} {ds : Bool} (hW : yW M b a σ oa rd oq A) (hI : Inv σ C) (hn : 0 < σ.T.hs.n) (hh : h < σ.T.hs.n) (hg : g < σ.T.hs.n) (hm : m < 90000) (s : Option Nat) (hs : ∀ x, s = some x → x < 99999) : Ev ad 3 (rX13_steps ad) (40, [some (.ref b), some (.int (nI h)), some (.int (nI g)), some (.int (nI m)), some (.int (if ds then 1 else 0)), some (.int (nI (s.getD 99999))), none], [], M) (fun v' M' => v' = some (.int (nI ((oMin s (if ds = true ∧ σ.f h = nI g ∧ ¬ shutI (σ.f 7) h = 1 then some (m + uwN σ.T h m + σ.T.dr) else none)).getD 99999))) ∧ M' = M) := by
  obtain ⟨hy, ha, hM, hv⟩ := id hW
  obtain ⟨kn, Am, Bm, m0, -⟩ := id hM
  have h0 := hy.1
  have h2 := hy.c.2.1
  have hn7 := hI.n7
  have h7 : 7 < 16 := by omega
  have hh16 : h < 16 := by omega
  have wf := hI.wf hn
  have hd9 := wf.2.1
  have hu := (uwN_n wf (m := m) (show h < 7 by omega)).1
  have fin0 : ∀ c : Prop, ∀ [Decidable c], ¬ c → oMin s (if c then some (m + uwN σ.T h m + σ.T.dr) else none) = s := by
    intro c _ hc
    rw [if_neg hc]
    cases s <;> rfl
  cases ds with
  | false =>
    rw [fin0 _ (fun q => by cases q.1)]
    repeat (first | refine es rfl rfl rfl ?_ | refine eg rfl (by assumption) rfl ?_ | refine eanE rfl (by assumption) (by with_reducible first | exact rfl | exact Int32.zero_add _ | exact ix8 _ | exact ix12 _ | exact ix7r _ _ | exact n7 | exact n0 | exact n1) (by assumption) rfl ?_ | refine eal rfl (by assumption) (by assumption) rfl ?_ | refine eri rfl ?_ | refine erv rfl ?_ | refine erl rfl ?_ | refine era rfl ?_ | refine erz0 rfl ?_ | refine erz1 rfl ?_)
    try dsimp only [set1, set2, kilP, List.set_cons_zero, List.set_cons_succ, List.getElem?_cons_zero, List.getElem?_cons_succ, List.nil_append, List.cons_append, Option.toList_some, Option.toList_none]
    exact ⟨rfl, rfl⟩
  | true =>
    repeat (first | refine es rfl rfl rfl ?_ | refine eg rfl (by assumption) rfl ?_ | refine eanE rfl (by assumption) (by with_reducible first | exact rfl | exact Int32.zero_add _ | exact ix8 _ | exact ix12 _ | exact ix7r _ _ | exact n7 | exact n0 | exact n1) (by assumption) rfl ?_ | refine eal rfl (by assumption) (by assumption) rfl ?_ | refine eri rfl ?_ | refine erv rfl ?_ | refine erl rfl ?_ | refine era rfl ?_ | refine erz0 rfl ?_ | refine erz1 rfl ?_)
    try dsimp only [set1, set2, kilP, List.set_cons_zero, List.set_cons_succ, List.getElem?_cons_zero, List.getElem?_cons_succ, List.nil_append, List.cons_append, Option.toList_some, Option.toList_none]
    rw [hv h hh16]
    refine ei _ rfl rfl (fun c1 => ?_) (fun c1 => ?_)
    · rw [fin0 _ (fun q => c1 q.2.1)]
      repeat (first | refine es rfl rfl rfl ?_ | refine eg rfl (by assumption) rfl ?_ | refine eanE rfl (by assumption) (by with_reducible first | exact rfl | exact Int32.zero_add _ | exact ix8 _ | exact ix12 _ | exact ix7r _ _ | exact n7 | exact n0 | exact n1) (by assumption) rfl ?_ | refine eal rfl (by assumption) (by assumption) rfl ?_ | refine eri rfl ?_ | refine erv rfl ?_ | refine erl rfl ?_ | refine era rfl ?_ | refine erz0 rfl ?_ | refine erz1 rfl ?_)
      try dsimp only [set1, set2, kilP, List.set_cons_zero, List.set_cons_succ, List.getElem?_cons_zero, List.getElem?_cons_succ, List.nil_append, List.cons_append, Option.toList_some, Option.toList_none]
      exact ⟨rfl, rfl⟩
    have c1' := Decidable.not_not.mp c1
    repeat (first | refine es rfl rfl rfl ?_ | refine eg rfl (by assumption) rfl ?_ | refine eanE rfl (by assumption) (by with_reducible first | exact rfl | exact Int32.zero_add _ | exact ix8 _ | exact ix12 _ | exact ix7r _ _ | exact n7 | exact n0 | exact n1) (by assumption) rfl ?_ | refine eal rfl (by assumption) (by assumption) rfl ?_ | refine eri rfl ?_ | refine erv rfl ?_ | refine erl rfl ?_ | refine era rfl ?_ | refine erz0 rfl ?_ | refine erz1 rfl ?_)
    try dsimp only [set1, set2, kilP, List.set_cons_zero, List.set_cons_succ, List.getElem?_cons_zero, List.getElem?_cons_succ, List.nil_append, List.cons_append, Option.toList_some, Option.toList_none]
    rw [hv 7 h7]
    refine ecsr rfl rfl rfl rfl rfl rfl (y_bit) (by first | rfl | exact Nat.blt_eq.mpr (by omega)) rfl ?_
    by_cases c2 : shutI (σ.f 7) h = 1
    · rw [show bI (shutI (σ.f 7) h = 1) = 1 from if_pos c2, fin0 _ (fun q => q.2.2 c2)]
      repeat (first | refine es rfl rfl rfl ?_ | refine eg rfl (by assumption) rfl ?_ | refine eanE rfl (by assumption) (by with_reducible first | exact rfl | exact Int32.zero_add _ | exact ix8 _ | exact ix12 _ | exact ix7r _ _ | exact n7 | exact n0 | exact n1) (by assumption) rfl ?_ | refine eal rfl (by assumption) (by assumption) rfl ?_ | refine eri rfl ?_ | refine erv rfl ?_ | refine erl rfl ?_ | refine era rfl ?_ | refine erz0 rfl ?_ | refine erz1 rfl ?_)
      try dsimp only [set1, set2, kilP, List.set_cons_zero, List.set_cons_succ, List.getElem?_cons_zero, List.getElem?_cons_succ, List.nil_append, List.cons_append, Option.toList_some, Option.toList_none]
      exact ⟨rfl, rfl⟩
    rw [show bI (shutI (σ.f 7) h = 1) = 0 from if_neg c2, if_pos (show true = true ∧ σ.f h = nI g ∧ ¬ shutI (σ.f 7) h = 1 from ⟨rfl, c1', c2⟩)]
    repeat (refine ng 77 rfl ?_; first | refine es rfl rfl rfl ?_ | refine eg rfl (by assumption) rfl ?_ | refine eanE rfl (by assumption) (by with_reducible first | exact rfl | exact Int32.zero_add _ | exact ix8 _ | exact ix12 _ | exact ix7r _ _ | exact n7 | exact n0 | exact n1) (by assumption) rfl ?_ | refine eal rfl (by assumption) (by assumption) rfl ?_ | refine eri rfl ?_ | refine erv rfl ?_ | refine erl rfl ?_ | refine era rfl ?_ | refine erz0 rfl ?_ | refine erz1 rfl ?_)
    try dsimp only [set1, set2, kilP, List.set_cons_zero, List.set_cons_succ, List.getElem?_cons_zero, List.getElem?_cons_succ, List.nil_append, List.cons_append, Option.toList_some, Option.toList_none]
    refine y_wait hW hI hn hh _ m rfl (by omega) ?_
    repeat (first | refine es rfl rfl rfl ?_ | refine eg rfl (by assumption) rfl ?_ | refine eanE rfl (by assumption) (by with_reducible first | exact rfl | exact Int32.zero_add _ | exact ix8 _ | exact ix12 _ | exact ix7r _ _ | exact n7 | exact n0 | exact n1) (by assumption) rfl ?_ | refine eal rfl (by assumption) (by assumption) rfl ?_ | refine eri rfl ?_ | refine erv rfl ?_ | refine erl rfl ?_ | refine era rfl ?_ | refine erz0 rfl ?_ | refine erz1 rfl ?_)
    try dsimp only [set1, set2, kilP, List.set_cons_zero, List.set_cons_succ, List.getElem?_cons_zero, List.getElem?_cons_succ, List.nil_append, List.cons_append, Option.toList_some, Option.toList_none]
    rw [nI_add]
    have e : oMin s (some (m + uwN σ.T h m + σ.T.dr)) = some (if m + uwN σ.T h m + σ.T.dr < s.getD 99999 then m + uwN σ.T h m + σ.T.dr else s.getD 99999) := by
      cases s with
      | none => exact congrArg some (if_pos (show m + uwN σ.T h m + σ.T.dr < 99999 by omega)).symm
      | some x =>
        show some (min x _) = some (if _ < x then _ else x)
        congr 1
        split <;> omega
    rw [e]
    have hx : s.getD 99999 < 200000 := by
      cases s with
      | none => show 99999 < 200000; omega
      | some x => have := hs x rfl; show x < 200000; omega
    refine ei _ rfl rfl (fun c3 => ?_) (fun c3 => ?_)
    · repeat (first | refine es rfl rfl rfl ?_ | refine eg rfl (by assumption) rfl ?_ | refine eanE rfl (by assumption) (by with_reducible first | exact rfl | exact Int32.zero_add _ | exact ix8 _ | exact ix12 _ | exact ix7r _ _ | exact n7 | exact n0 | exact n1) (by assumption) rfl ?_ | refine eal rfl (by assumption) (by assumption) rfl ?_ | refine eri rfl ?_ | refine erv rfl ?_ | refine erl rfl ?_ | refine era rfl ?_ | refine erz0 rfl ?_ | refine erz1 rfl ?_)
      try dsimp only [set1, set2, kilP, List.set_cons_zero, List.set_cons_succ, List.getElem?_cons_zero, List.getElem?_cons_succ, List.nil_append, List.cons_append, Option.toList_some, Option.toList_none]
      rw [if_neg (fun q => absurd c3 (nI_ge q (by omega)))]
      exact ⟨rfl, rfl⟩
    · repeat (first | refine es rfl rfl rfl ?_ | refine eg rfl (by assumption) rfl ?_ | refine eanE rfl (by assumption) (by with_reducible first | exact rfl | exact Int32.zero_add _ | exact ix8 _ | exact ix12 _ | exact ix7r _ _ | exact n7 | exact n0 | exact n1) (by assumption) rfl ?_ | refine eal rfl (by assumption) (by assumption) rfl ?_ | refine eri rfl ?_ | refine erv rfl ?_ | refine erl rfl ?_ | refine era rfl ?_ | refine erz0 rfl ?_ | refine erz1 rfl ?_)
      try dsimp only [set1, set2, kilP, List.set_cons_zero, List.set_cons_succ, List.getElem?_cons_zero, List.getElem?_cons_succ, List.nil_append, List.cons_append, Option.toList_some, Option.toList_none]
      rw [nI_add, if_pos (Decidable.byContradiction (fun q => c3 (nI_le (by omega) (by omega))))]
      exact ⟨rfl, rfl⟩
theorem y_steps {A : Ar} {h g m : Nat} {ds : Bool} (hW : yW M b a σ oa rd oq A) (hI : Inv σ C) (hn : 0 < σ.T.hs.n) (hh : h < σ.T.hs.n) (hg : g < σ.T.hs.n) (hm : m < 90000) : Rd ad 3 (iX13_steps ad) [.ref b, .int (nI h), .int (nI g), .int (nI m), .int (if ds then 1 else 0)] M (some (.int (nI ((tauF σ.T σ.f ds h g m).getD 99999)))) := by
  obtain ⟨hy, ha, ⟨kn, Am, Bm, m0, mc, mH, mS, -⟩, hv⟩ := id hW
  have m8 := mc.2.2.2.2.2.2.2.1
  have h0 := hy.1
  have hn7 := hI.n7
  have hhg : 7 * h + g < 49 := by omega
  obtain ⟨k, hk, ek⟩ := (hI.wf hn).2.2.2.2.2.1 (7 * h + g) hhg
  unfold tauF
  rw [show h * 7 + g = 7 * h + g by omega, ek, nI_clamp (by omega)]
  refine ⟨Nat.le_of_ble_eq_true rfl, ?_⟩
  show Ev ad _ (rX13_steps ad) (0, [some (.ref b), some (.int (nI h)), some (.int (nI g)), some (.int (nI m)), some (.int (if ds then 1 else 0)), none, none], [], M) _
  repeat (first | refine es rfl rfl rfl ?_ | refine eg rfl (by assumption) rfl ?_ | refine eanE rfl (by assumption) (by with_reducible first | exact rfl | exact Int32.zero_add _ | exact ix8 _ | exact ix12 _ | exact ix7r _ _ | exact n7 | exact n0 | exact n1) (by assumption) rfl ?_ | refine eal rfl (by assumption) (by assumption) rfl ?_ | refine eri rfl ?_ | refine erv rfl ?_ | refine erl rfl ?_ | refine era rfl ?_ | refine erz0 rfl ?_ | refine erz1 rfl ?_)
  try dsimp only [set1, set2, kilP, List.set_cons_zero, List.set_cons_succ, List.getElem?_cons_zero, List.getElem?_cons_succ, List.nil_append, List.cons_append, Option.toList_some, Option.toList_none]
  rw [mS _ hhg, ek]
  refine ei _ rfl rfl (fun c => ?_) (fun c => ?_)
  · rw [if_neg (fun q => absurd q (Int32.not_lt.mpr c))]
    exact y_steps2 hW hI hn hh hg hm none (fun x q => by cases q)
  · rw [if_pos (Int32.not_le.mp c)]
    repeat (refine ng 40 rfl ?_; first | refine es rfl rfl rfl ?_ | refine eg rfl (by assumption) rfl ?_ | refine eanE rfl (by assumption) (by with_reducible first | exact rfl | exact Int32.zero_add _ | exact ix8 _ | exact ix12 _ | exact ix7r _ _ | exact n7 | exact n0 | exact n1) (by assumption) rfl ?_ | refine eal rfl (by assumption) (by assumption) rfl ?_ | refine eri rfl ?_ | refine erv rfl ?_ | refine erl rfl ?_ | refine era rfl ?_ | refine erz0 rfl ?_ | refine erz1 rfl ?_)
    try dsimp only [set1, set2, kilP, List.set_cons_zero, List.set_cons_succ, List.getElem?_cons_zero, List.getElem?_cons_succ, List.nil_append, List.cons_append, Option.toList_some, Option.toList_none]
    rw [mS _ hhg, ek, nI_add]
    exact y_steps2 hW hI hn hh hg hm (some (m + k)) (fun x q => by injection q with q; omega)
/-- rows of the search: the houses, their times, the best row -/
abbrev Y3 : Type := (Int32 × Int32 × Int32) × (Int32 × Int32) × Int32
def yV (M : Mm) (b a : Nat) (σ : Sg) (oa : Int32 × Int32 × Int32) (rd : Value) (r : Yr) (p1 : Int32 × Int32) (q3 : Y3) (M0 : Mm) (A0 : Ar) (bz bt : Int32) (A : Ar) : Prop := yW M b a σ oa rd (r, p1, (bz, bt), q3) A ∧ (∀ k, k ≠ 6 → k ≠ 7 → k ≠ 8 → A k = A0 k) ∧ Fr b 16 M0 M
variable {r : Yr} {p1 : Int32 × Int32} {q3 : Y3} {M0 : Mm} {A0 : Ar}
theorem yV.ar {A : Ar} {bz bt : Int32} {k : Nat} {g : Nat → Int32} {M2 : Mm} (h : yV M b a σ oa rd r p1 q3 M0 A0 bz bt A) (e : M2 = up M (b + k) (.inl (tyk k, szk k, .inl g))) (hk : k = 6 ∨ k = 7 ∨ k = 8) : yV M2 b a σ oa rd r p1 q3 M0 A0 bz bt (sA A k g) := by
  obtain ⟨⟨h1, h2, h3, h4⟩, h5, h6⟩ := h
  refine ⟨⟨h1.ar e (by omega), h2, h3.fr ((Fr.rf b 16 M).up e (by omega) (by omega)) (by omega), fun j hj => ?_⟩, fun j a1 a2 a3 => ?_, h6.up e (by omega) (by omega)⟩
  · rw [sA_n (by omega)]; exact h4 j hj
  · rw [sA_n (by omega)]; exact h5 j a1 a2 a3
theorem yV.ob {A : Ar} {bz bt bz2 bt2 : Int32} {M2 : Mm} (h : yV M b a σ oa rd r p1 q3 M0 A0 bz bt A) (e : M2 = up M b (.inr (13, yF b (oa, (.ref a, rd), r, p1, (bz2, bt2), q3)))) : yV M2 b a σ oa rd r p1 q3 M0 A0 bz2 bt2 A := by
  obtain ⟨⟨h1, h2, h3, h4⟩, h5, h6⟩ := h
  exact ⟨⟨h1.ob e, h2, h3.fr ((Fr.rf b 16 M).up e (by omega) (by omega)) (by omega), h4⟩, h5, h6.up e (by omega) (by omega)⟩
theorem y_canStep {A : Ar} {bz bt : Int32} {k h g m : Nat} {ds : Bool} (hV : yV M b a σ oa rd r p1 q3 M0 A0 bz bt A) (hI : Inv σ C) (hn : 0 < σ.T.hs.n) (hk1 : 1 ≤ k) (hk7 : k < 7) (hh : h < σ.T.hs.n) (hg : g < σ.T.hs.n) (hm : m < 90000) (e1 : A 6 (k - 1) = nI h) (e2 : A 6 k = nI g) (e3 : A 8 (k - 1) = nI m) : EvM ad 4 (iX13_canStep ad) [.ref b, .int (nI k), .int (if ds then 1 else 0)] M (fun v' M' => v' = some (.int (if (tauF σ.T σ.f ds h g m).isSome then 1 else 0)) ∧ M' = up M (b + 8) (.inl (0, 7, .inl (upd (A 8) k (nI ((tauF σ.T σ.f ds h g m).getD 99999)))))) := by
  have hW := hV.1
  have h0 := hW.1.1
  obtain ⟨h1', h2, h3, h4, h5, h6, h7, h8, -⟩ := hW.1.c
  have hn7 := hI.n7
  have wf := hI.wf hn
  have hk7' : k - 1 < 7 := by omega
  have ek : nI k - 1 = nI (k - 1) := by rw [show k = k - 1 + 1 by omega, nI_pred]; rfl
  refine ⟨Nat.le_of_ble_eq_true rfl, ?_⟩
  show Ev ad _ (rX13_canStep ad) (0, [some (.ref b), some (.int (nI k)), some (.int (if ds then 1 else 0))], [], M) _
  repeat (first | refine es rfl rfl rfl ?_ | refine eg rfl (by assumption) rfl ?_ | refine eanE rfl (by assumption) (by with_reducible first | exact rfl | exact Int32.zero_add _ | exact ix8 _ | exact ix12 _ | exact ix7r _ _ | exact n7 | exact n0 | exact n1) (by assumption) rfl ?_ | refine eal rfl (by assumption) (by assumption) rfl ?_ | refine eri rfl ?_ | refine erv rfl ?_ | refine erl rfl ?_ | refine era rfl ?_ | refine erz0 rfl ?_ | refine erz1 rfl ?_)
  try dsimp only [set1, set2, kilP, List.set_cons_zero, List.set_cons_succ, List.getElem?_cons_zero, List.getElem?_cons_succ, List.nil_append, List.cons_append, Option.toList_some, Option.toList_none]
  rw [ek]
  repeat (first | refine es rfl rfl rfl ?_ | refine eg rfl (by assumption) rfl ?_ | refine eanE rfl (by assumption) (by with_reducible first | exact rfl | exact Int32.zero_add _ | exact ix8 _ | exact ix12 _ | exact ix7r _ _ | exact n7 | exact n0 | exact n1) (by assumption) rfl ?_ | refine eal rfl (by assumption) (by assumption) rfl ?_ | refine eri rfl ?_ | refine erv rfl ?_ | refine erl rfl ?_ | refine era rfl ?_ | refine erz0 rfl ?_ | refine erz1 rfl ?_)
  try dsimp only [set1, set2, kilP, List.set_cons_zero, List.set_cons_succ, List.getElem?_cons_zero, List.getElem?_cons_succ, List.nil_append, List.cons_append, Option.toList_some, Option.toList_none]
  rw [e1, e2]
  repeat (first | refine es rfl rfl rfl ?_ | refine eg rfl (by assumption) rfl ?_ | refine eanE rfl (by assumption) (by with_reducible first | exact rfl | exact Int32.zero_add _ | exact ix8 _ | exact ix12 _ | exact ix7r _ _ | exact n7 | exact n0 | exact n1) (by assumption) rfl ?_ | refine eal rfl (by assumption) (by assumption) rfl ?_ | refine eri rfl ?_ | refine erv rfl ?_ | refine erl rfl ?_ | refine era rfl ?_ | refine erz0 rfl ?_ | refine erz1 rfl ?_)
  try dsimp only [set1, set2, kilP, List.set_cons_zero, List.set_cons_succ, List.getElem?_cons_zero, List.getElem?_cons_succ, List.nil_append, List.cons_append, Option.toList_some, Option.toList_none]
  rw [ek]
  repeat (first | refine es rfl rfl rfl ?_ | refine eg rfl (by assumption) rfl ?_ | refine eanE rfl (by assumption) (by with_reducible first | exact rfl | exact Int32.zero_add _ | exact ix8 _ | exact ix12 _ | exact ix7r _ _ | exact n7 | exact n0 | exact n1) (by assumption) rfl ?_ | refine eal rfl (by assumption) (by assumption) rfl ?_ | refine eri rfl ?_ | refine erv rfl ?_ | refine erl rfl ?_ | refine era rfl ?_ | refine erz0 rfl ?_ | refine erz1 rfl ?_)
  try dsimp only [set1, set2, kilP, List.set_cons_zero, List.set_cons_succ, List.getElem?_cons_zero, List.getElem?_cons_succ, List.nil_append, List.cons_append, Option.toList_some, Option.toList_none]
  rw [e3]
  repeat (first | refine es rfl rfl rfl ?_ | refine eg rfl (by assumption) rfl ?_ | refine eanE rfl (by assumption) (by with_reducible first | exact rfl | exact Int32.zero_add _ | exact ix8 _ | exact ix12 _ | exact ix7r _ _ | exact n7 | exact n0 | exact n1) (by assumption) rfl ?_ | refine eal rfl (by assumption) (by assumption) rfl ?_ | refine eri rfl ?_ | refine erv rfl ?_ | refine erl rfl ?_ | refine era rfl ?_ | refine erz0 rfl ?_ | refine erz1 rfl ?_)
  try dsimp only [set1, set2, kilP, List.set_cons_zero, List.set_cons_succ, List.getElem?_cons_zero, List.getElem?_cons_succ, List.nil_append, List.cons_append, Option.toList_some, Option.toList_none]
  refine ecr rfl rfl (by assumption) rfl rfl rfl (y_steps hW hI hn hh hg hm) (by first | rfl | exact Nat.blt_eq.mpr (by omega)) rfl ?_
  refine etM rfl h8 hk7 rfl (fun M2 eM => ?_)
  have hV2 := hV.ar (k := 8) eM (by omega)
  have k0 := hV2.1.1.1
  have k8 : M2.1 (b + 8) = ints 7 (upd (A 8) k (nI ((tauF σ.T σ.f ds h g m).getD 99999))) := hV2.1.1.c.2.2.2.2.2.2.2.1
  repeat (first | refine es rfl rfl rfl ?_ | refine eg rfl (by assumption) rfl ?_ | refine eanE rfl (by assumption) (by with_reducible first | exact rfl | exact Int32.zero_add _ | exact ix8 _ | exact ix12 _ | exact ix7r _ _ | exact n7 | exact n0 | exact n1) (by assumption) rfl ?_ | refine eal rfl (by assumption) (by assumption) rfl ?_ | refine eri rfl ?_ | refine erv rfl ?_ | refine erl rfl ?_ | refine era rfl ?_ | refine erz0 rfl ?_ | refine erz1 rfl ?_)
  try dsimp only [set1, set2, kilP, List.set_cons_zero, List.set_cons_succ, List.getElem?_cons_zero, List.getElem?_cons_succ, List.nil_append, List.cons_append, Option.toList_some, Option.toList_none]
  rw [pk_us]
  cases ht : tauF σ.T σ.f ds h g m with
  | none =>
    repeat (first | refine es rfl rfl rfl ?_ | refine eg rfl (by assumption) rfl ?_ | refine eanE rfl (by assumption) (by with_reducible first | exact rfl | exact Int32.zero_add _ | exact ix8 _ | exact ix12 _ | exact ix7r _ _ | exact n7 | exact n0 | exact n1) (by assumption) rfl ?_ | refine eal rfl (by assumption) (by assumption) rfl ?_ | refine eri rfl ?_ | refine erv rfl ?_ | refine erl rfl ?_ | refine era rfl ?_ | refine erz0 rfl ?_ | refine erz1 rfl ?_)
    try dsimp only [set1, set2, kilP, List.set_cons_zero, List.set_cons_succ, List.getElem?_cons_zero, List.getElem?_cons_succ, List.nil_append, List.cons_append, Option.toList_some, Option.toList_none]
    exact ⟨rfl, by rw [eM, ht]⟩
  | some t =>
    have hb := tau_b wf (by omega) (by omega) ht
    refine ei _ rfl rfl (fun c => ?_) (fun c => ?_)
    · exact absurd c (show ¬ (99999 : Int32) ≤ nI t from nI_ge (b := 99999) (by omega) (by omega))
    · repeat (first | refine es rfl rfl rfl ?_ | refine eg rfl (by assumption) rfl ?_ | refine eanE rfl (by assumption) (by with_reducible first | exact rfl | exact Int32.zero_add _ | exact ix8 _ | exact ix12 _ | exact ix7r _ _ | exact n7 | exact n0 | exact n1) (by assumption) rfl ?_ | refine eal rfl (by assumption) (by assumption) rfl ?_ | refine eri rfl ?_ | refine erv rfl ?_ | refine erl rfl ?_ | refine era rfl ?_ | refine erz0 rfl ?_ | refine erz1 rfl ?_)
      try dsimp only [set1, set2, kilP, List.set_cons_zero, List.set_cons_succ, List.getElem?_cons_zero, List.getElem?_cons_succ, List.nil_append, List.cons_append, Option.toList_some, Option.toList_none]
      exact ⟨rfl, by rw [eM, ht]⟩
def acR (bz bt : Int32) (bs : Nat → Int32) (ac : Ac) : Prop := match ac with
  | none => bz = 0 ∧ bt = 99999
  | some (t, q) => bz = nI q.length ∧ 0 < q.length ∧ q.length ≤ 7 ∧ bt = nI t ∧ t < 99999 ∧ ∀ i x, q[i]? = some x → bs i = nI x
theorem y_ends_loop {p : List Nat} {bz bt : Int32} (hp : p.length ≤ 7) : ∀ (n i : Nat) (M : Mm) (A : Ar), yV M b a σ oa rd r p1 q3 M0 A0 bz bt A → wkR (A 6) p → i + n = p.length → (∀ j, j < i → A 7 j = A 6 j) → Ev ad 0 (rX13_ends ad) (35, [some (.ref b), some (.int (nI p.length)), some (.int (nI i))], [], M) (fun v' M' => v' = none ∧ ∃ g, yV M' b a σ oa rd r p1 q3 M0 A0 bz bt (sA A 7 g) ∧ ∀ j, j < p.length → g j = A 6 j) := by
  intro n
  induction n with
  | zero =>
    intro i M A hV hwk hi hq
    have h0 := hV.1.1.1
    repeat (first | refine es rfl rfl rfl ?_ | refine eg rfl (by assumption) rfl ?_ | refine eanE rfl (by assumption) (by with_reducible first | exact rfl | exact Int32.zero_add _ | exact ix8 _ | exact ix12 _ | exact ix7r _ _ | exact n7 | exact n0 | exact n1) (by assumption) rfl ?_ | refine eal rfl (by assumption) (by assumption) rfl ?_ | refine eri rfl ?_ | refine erv rfl ?_ | refine erl rfl ?_ | refine era rfl ?_ | refine erz0 rfl ?_ | refine erz1 rfl ?_)
    try dsimp only [set1, set2, kilP, List.set_cons_zero, List.set_cons_succ, List.getElem?_cons_zero, List.getElem?_cons_succ, List.nil_append, List.cons_append, Option.toList_some, Option.toList_none]
    refine ei _ rfl rfl (fun c => ?_) (fun c => ?_)
    · repeat (first | refine es rfl rfl rfl ?_ | refine eg rfl (by assumption) rfl ?_ | refine eanE rfl (by assumption) (by with_reducible first | exact rfl | exact Int32.zero_add _ | exact ix8 _ | exact ix12 _ | exact ix7r _ _ | exact n7 | exact n0 | exact n1) (by assumption) rfl ?_ | refine eal rfl (by assumption) (by assumption) rfl ?_ | refine eri rfl ?_ | refine erv rfl ?_ | refine erl rfl ?_ | refine era rfl ?_ | refine erz0 rfl ?_ | refine erz1 rfl ?_)
      try dsimp only [set1, set2, kilP, List.set_cons_zero, List.set_cons_succ, List.getElem?_cons_zero, List.getElem?_cons_succ, List.nil_append, List.cons_append, Option.toList_some, Option.toList_none]
      exact ⟨rfl, A 7, by rw [sA_id]; exact hV, fun j hj => hq j (by omega)⟩
    · exact absurd (nI_le (by omega) (by omega)) c
  | succ n ih =>
    intro i M A hV hwk hi hq
    have h0 := hV.1.1.1
    obtain ⟨h1', h2, h3, h4, h5, h6, h7, h8, -⟩ := hV.1.1.c
    have hi7 : i < 7 := by omega
    repeat (first | refine es rfl rfl rfl ?_ | refine eg rfl (by assumption) rfl ?_ | refine eanE rfl (by assumption) (by with_reducible first | exact rfl | exact Int32.zero_add _ | exact ix8 _ | exact ix12 _ | exact ix7r _ _ | exact n7 | exact n0 | exact n1) (by assumption) rfl ?_ | refine eal rfl (by assumption) (by assumption) rfl ?_ | refine eri rfl ?_ | refine erv rfl ?_ | refine erl rfl ?_ | refine era rfl ?_ | refine erz0 rfl ?_ | refine erz1 rfl ?_)
    try dsimp only [set1, set2, kilP, List.set_cons_zero, List.set_cons_succ, List.getElem?_cons_zero, List.getElem?_cons_succ, List.nil_append, List.cons_append, Option.toList_some, Option.toList_none]
    refine ei _ rfl rfl (fun c => ?_) (fun c => ?_)
    · exact absurd c (nI_ge (by omega) (by omega))
    · repeat (first | refine es rfl rfl rfl ?_ | refine eg rfl (by assumption) rfl ?_ | refine eanE rfl (by assumption) (by with_reducible first | exact rfl | exact Int32.zero_add _ | exact ix8 _ | exact ix12 _ | exact ix7r _ _ | exact n7 | exact n0 | exact n1) (by assumption) rfl ?_ | refine eal rfl (by assumption) (by assumption) rfl ?_ | refine eri rfl ?_ | refine erv rfl ?_ | refine erl rfl ?_ | refine era rfl ?_ | refine erz0 rfl ?_ | refine erz1 rfl ?_)
      try dsimp only [set1, set2, kilP, List.set_cons_zero, List.set_cons_succ, List.getElem?_cons_zero, List.getElem?_cons_succ, List.nil_append, List.cons_append, Option.toList_some, Option.toList_none]
      refine etM rfl h7 hi7 rfl (fun M2 eM => ?_)
      repeat (refine ng 35 rfl ?_; first | refine es rfl rfl rfl ?_ | refine eg rfl (by assumption) rfl ?_ | refine eanE rfl (by assumption) (by with_reducible first | exact rfl | exact Int32.zero_add _ | exact ix8 _ | exact ix12 _ | exact ix7r _ _ | exact n7 | exact n0 | exact n1) (by assumption) rfl ?_ | refine eal rfl (by assumption) (by assumption) rfl ?_ | refine eri rfl ?_ | refine erv rfl ?_ | refine erl rfl ?_ | refine era rfl ?_ | refine erz0 rfl ?_ | refine erz1 rfl ?_)
      try dsimp only [set1, set2, kilP, List.set_cons_zero, List.set_cons_succ, List.getElem?_cons_zero, List.getElem?_cons_succ, List.nil_append, List.cons_append, Option.toList_some, Option.toList_none]
      rw [nI_1]
      refine (ih (i + 1) M2 _ (hV.ar (k := 7) eM (by omega)) hwk (by omega) (fun j hj => ?_)).im (fun v M' q => ?_)
      · show upd (A 7) i (A 6 i) j = A 6 j
        by_cases e : j = i
        · rw [e, pk_us]
        · rw [pk_un e]; exact hq j (by omega)
      · obtain ⟨q1, g, q2, q3'⟩ := q
        rw [sA_sA] at q2
        exact ⟨q1, g, q2, q3'⟩
theorem y_ends {A : Ar} {bz bt : Int32} {p : List Nat} {ac : Ac} {t : Nat} (hV : yV M b a σ oa rd r p1 q3 M0 A0 bz bt A) (hp0 : 0 < p.length) (hp : p.length ≤ 7) (hwk : wkR (A 6) p) (et : A 8 (p.length - 1) = nI t) (ht : t < 99999) (hac : acR bz bt (A 7) ac) : EvM ad 1 (iX13_ends ad) [.ref b, .int (nI p.length)] M (fun v' M' => v' = none ∧ ∃ bz' bt' g, yV M' b a σ oa rd r p1 q3 M0 A0 bz' bt' (sA A 7 g) ∧ acR bz' bt' g (acU t p ac)) := by
  have h0 := hV.1.1.1
  obtain ⟨h1', h2, h3, h4, h5, h6, h7, h8, -⟩ := hV.1.1.c
  have hl7 : p.length - 1 < 7 := by omega
  have ek : nI p.length - 1 = nI (p.length - 1) := by rw [show p.length = p.length - 1 + 1 by omega, nI_pred]; rfl
  refine ⟨Nat.le_of_ble_eq_true rfl, ?_⟩
  show Ev ad _ (rX13_ends ad) (0, [some (.ref b), some (.int (nI p.length)), none], [], M) _
  repeat (first | refine es rfl rfl rfl ?_ | refine eg rfl (by assumption) rfl ?_ | refine eanE rfl (by assumption) (by with_reducible first | exact rfl | exact Int32.zero_add _ | exact ix8 _ | exact ix12 _ | exact ix7r _ _ | exact n7 | exact n0 | exact n1) (by assumption) rfl ?_ | refine eal rfl (by assumption) (by assumption) rfl ?_ | refine eri rfl ?_ | refine erv rfl ?_ | refine erl rfl ?_ | refine era rfl ?_ | refine erz0 rfl ?_ | refine erz1 rfl ?_)
  try dsimp only [set1, set2, kilP, List.set_cons_zero, List.set_cons_succ, List.getElem?_cons_zero, List.getElem?_cons_succ, List.nil_append, List.cons_append, Option.toList_some, Option.toList_none]
  rw [ek]
  repeat (first | refine es rfl rfl rfl ?_ | refine eg rfl (by assumption) rfl ?_ | refine eanE rfl (by assumption) (by with_reducible first | exact rfl | exact Int32.zero_add _ | exact ix8 _ | exact ix12 _ | exact ix7r _ _ | exact n7 | exact n0 | exact n1) (by assumption) rfl ?_ | refine eal rfl (by assumption) (by assumption) rfl ?_ | refine eri rfl ?_ | refine erv rfl ?_ | refine erl rfl ?_ | refine era rfl ?_ | refine erz0 rfl ?_ | refine erz1 rfl ?_)
  try dsimp only [set1, set2, kilP, List.set_cons_zero, List.set_cons_succ, List.getElem?_cons_zero, List.getElem?_cons_succ, List.nil_append, List.cons_append, Option.toList_some, Option.toList_none]
  rw [et]
  have key : (nI t < bt ∧ acU t p ac = some (t, p.reverse)) ∨ (¬ nI t < bt ∧ acU t p ac = ac) := by
    cases ac with
    | none => exact Or.inl ⟨by rw [hac.2]; exact nI_lt (b := 99999) ht (by omega), rfl⟩
    | some tq =>
      obtain ⟨t2, q⟩ := tq
      obtain ⟨_, _, _, e4, e5, _⟩ := hac
      rw [e4, acU]
      by_cases c : t < t2
      · exact Or.inl ⟨nI_lt c (by omega), if_pos c⟩
      · exact Or.inr ⟨nI_nlt (by omega) (by omega), if_neg c⟩
  rcases key with ⟨k1, k2⟩ | ⟨k1, k2⟩
  · refine ei _ rfl rfl (fun c => ?_) (fun c => ?_)
    rotate_left
    · exact absurd k1 c
    repeat (first | refine es rfl rfl rfl ?_ | refine eg rfl (by assumption) rfl ?_ | refine eanE rfl (by assumption) (by with_reducible first | exact rfl | exact Int32.zero_add _ | exact ix8 _ | exact ix12 _ | exact ix7r _ _ | exact n7 | exact n0 | exact n1) (by assumption) rfl ?_ | refine eal rfl (by assumption) (by assumption) rfl ?_ | refine eri rfl ?_ | refine erv rfl ?_ | refine erl rfl ?_ | refine era rfl ?_ | refine erz0 rfl ?_ | refine erz1 rfl ?_)
    try dsimp only [set1, set2, kilP, List.set_cons_zero, List.set_cons_succ, List.getElem?_cons_zero, List.getElem?_cons_succ, List.nil_append, List.cons_append, Option.toList_some, Option.toList_none]
    rw [ek]
    repeat (first | refine es rfl rfl rfl ?_ | refine eg rfl (by assumption) rfl ?_ | refine eanE rfl (by assumption) (by with_reducible first | exact rfl | exact Int32.zero_add _ | exact ix8 _ | exact ix12 _ | exact ix7r _ _ | exact n7 | exact n0 | exact n1) (by assumption) rfl ?_ | refine eal rfl (by assumption) (by assumption) rfl ?_ | refine eri rfl ?_ | refine erv rfl ?_ | refine erl rfl ?_ | refine era rfl ?_ | refine erz0 rfl ?_ | refine erz1 rfl ?_)
    try dsimp only [set1, set2, kilP, List.set_cons_zero, List.set_cons_succ, List.getElem?_cons_zero, List.getElem?_cons_succ, List.nil_append, List.cons_append, Option.toList_some, Option.toList_none]
    rw [et]
    refine epM (fs' := yF b (oa, (.ref a, rd), r, p1, (bz, nI t), q3)) rfl h0 rfl rfl rfl (fun M2 eM => ?_)
    have hV2 := hV.ob eM
    have k0 := hV2.1.1.1
    repeat (first | refine es rfl rfl rfl ?_ | refine eg rfl (by assumption) rfl ?_ | refine eanE rfl (by assumption) (by with_reducible first | exact rfl | exact Int32.zero_add _ | exact ix8 _ | exact ix12 _ | exact ix7r _ _ | exact n7 | exact n0 | exact n1) (by assumption) rfl ?_ | refine eal rfl (by assumption) (by assumption) rfl ?_ | refine eri rfl ?_ | refine erv rfl ?_ | refine erl rfl ?_ | refine era rfl ?_ | refine erz0 rfl ?_ | refine erz1 rfl ?_)
    try dsimp only [set1, set2, kilP, List.set_cons_zero, List.set_cons_succ, List.getElem?_cons_zero, List.getElem?_cons_succ, List.nil_append, List.cons_append, Option.toList_some, Option.toList_none]
    refine epM (fs' := yF b (oa, (.ref a, rd), r, p1, (nI p.length, nI t), q3)) rfl k0 rfl rfl rfl (fun M3 eM3 => ?_)
    have hV3 := hV2.ob eM3
    repeat (refine ng 35 rfl ?_; first | refine es rfl rfl rfl ?_ | refine eg rfl (by assumption) rfl ?_ | refine eanE rfl (by assumption) (by with_reducible first | exact rfl | exact Int32.zero_add _ | exact ix8 _ | exact ix12 _ | exact ix7r _ _ | exact n7 | exact n0 | exact n1) (by assumption) rfl ?_ | refine eal rfl (by assumption) (by assumption) rfl ?_ | refine eri rfl ?_ | refine erv rfl ?_ | refine erl rfl ?_ | refine era rfl ?_ | refine erz0 rfl ?_ | refine erz1 rfl ?_)
    try dsimp only [set1, set2, kilP, List.set_cons_zero, List.set_cons_succ, List.getElem?_cons_zero, List.getElem?_cons_succ, List.nil_append, List.cons_append, Option.toList_some, Option.toList_none]
    refine (y_ends_loop hp p.length 0 M3 A hV3 hwk (by omega) (fun j hj => absurd hj (by omega))).up (Nat.zero_le _) |>.im (fun v M' q => ?_)
    obtain ⟨q1, g, q2, q3'⟩ := q
    refine ⟨q1, _, _, g, q2, ?_⟩
    rw [k2]
    refine ⟨by rw [List.length_reverse], by rw [List.length_reverse]; exact hp0, by rw [List.length_reverse]; exact hp, rfl, ht, fun i x ei => ?_⟩
    have hi : i < p.length := by have := (List.getElem?_eq_some_iff.mp ei).1; rw [List.length_reverse] at this; exact this
    rw [q3' i hi]
    exact hwk i x ei
  · refine ei _ rfl rfl (fun c => ?_) (fun c => ?_)
    · exact absurd c k1
    repeat (first | refine es rfl rfl rfl ?_ | refine eg rfl (by assumption) rfl ?_ | refine eanE rfl (by assumption) (by with_reducible first | exact rfl | exact Int32.zero_add _ | exact ix8 _ | exact ix12 _ | exact ix7r _ _ | exact n7 | exact n0 | exact n1) (by assumption) rfl ?_ | refine eal rfl (by assumption) (by assumption) rfl ?_ | refine eri rfl ?_ | refine erv rfl ?_ | refine erl rfl ?_ | refine era rfl ?_ | refine erz0 rfl ?_ | refine erz1 rfl ?_)
    try dsimp only [set1, set2, kilP, List.set_cons_zero, List.set_cons_succ, List.getElem?_cons_zero, List.getElem?_cons_succ, List.nil_append, List.cons_append, Option.toList_some, Option.toList_none]
    refine ⟨rfl, bz, bt, A 7, by rw [sA_id]; exact hV, ?_⟩
    rw [k2]
    exact hac
abbrev dI (ds : Bool) : Int32 := if ds then 1 else 0
/-- back at a level: the house that was tried is free again, the next is tried -/
theorem y_wlh {A : Ar} {bz bt us x1 x2 x3 x4 : Int32} {p : List Nat} {g : Nat} {P : Option Value → Mm → Prop} (hV : yV M b a σ oa rd r p1 q3 M0 A0 bz bt A) (hp1 : 1 ≤ p.length) (hp7 : p.length < 7) (e : A 6 p.length = nI g) (hg : g < 7) (hgp : g ∉ p) (hbn : bnR us (g :: p)) (k : ∀ M' us', yV M' b a σ oa rd r p1 q3 M0 A0 bz bt (sA A 6 (upd (A 6) p.length (nI (g + 1)))) → bnR us' p → Ev ad 5 (rX13_ways ad) (95, [some (.ref b), some (.int x1), some (.int x2), some (.int x3), some (.int x4), some (.int us'), some (.int (nI p.length))], [], M') P) : Ev ad 5 (rX13_ways ad) (52, [some (.ref b), some (.int x1), some (.int x2), some (.int x3), some (.int x4), some (.int us), some (.int (nI p.length))], [], M) P := by
  have h0 := hV.1.1.1
  obtain ⟨h1', h2, h3, h4, h5, h6, h7, h8, -⟩ := hV.1.1.c
  repeat (first | refine es rfl rfl rfl ?_ | refine eg rfl (by assumption) rfl ?_ | refine eanE rfl (by assumption) (by with_reducible first | exact rfl | exact Int32.zero_add _ | exact ix8 _ | exact ix12 _ | exact ix7r _ _ | exact n7 | exact n0 | exact n1) (by assumption) rfl ?_ | refine eal rfl (by assumption) (by assumption) rfl ?_ | refine eri rfl ?_ | refine erv rfl ?_ | refine erl rfl ?_ | refine era rfl ?_ | refine erz0 rfl ?_ | refine erz1 rfl ?_)
  try dsimp only [set1, set2, kilP, List.set_cons_zero, List.set_cons_succ, List.getElem?_cons_zero, List.getElem?_cons_succ, List.nil_append, List.cons_append, Option.toList_some, Option.toList_none]
  refine ei _ rfl rfl (fun c => ?_) (fun c => ?_)
  · exact absurd c (nI_nle hp1 (by omega))
  repeat (first | refine es rfl rfl rfl ?_ | refine eg rfl (by assumption) rfl ?_ | refine eanE rfl (by assumption) (by with_reducible first | exact rfl | exact Int32.zero_add _ | exact ix8 _ | exact ix12 _ | exact ix7r _ _ | exact n7 | exact n0 | exact n1) (by assumption) rfl ?_ | refine eal rfl (by assumption) (by assumption) rfl ?_ | refine eri rfl ?_ | refine erv rfl ?_ | refine erl rfl ?_ | refine era rfl ?_ | refine erz0 rfl ?_ | refine erz1 rfl ?_)
  try dsimp only [set1, set2, kilP, List.set_cons_zero, List.set_cons_succ, List.getElem?_cons_zero, List.getElem?_cons_succ, List.nil_append, List.cons_append, Option.toList_some, Option.toList_none]
  rw [e]
  refine ei _ rfl rfl (fun c2 => ?_) (fun c2 => ?_)
  · exact absurd c2 (nI_n1 (by omega))
  repeat (first | refine es rfl rfl rfl ?_ | refine eg rfl (by assumption) rfl ?_ | refine eanE rfl (by assumption) (by with_reducible first | exact rfl | exact Int32.zero_add _ | exact ix8 _ | exact ix12 _ | exact ix7r _ _ | exact n7 | exact n0 | exact n1) (by assumption) rfl ?_ | refine eal rfl (by assumption) (by assumption) rfl ?_ | refine eri rfl ?_ | refine erv rfl ?_ | refine erl rfl ?_ | refine era rfl ?_ | refine erz0 rfl ?_ | refine erz1 rfl ?_)
  try dsimp only [set1, set2, kilP, List.set_cons_zero, List.set_cons_succ, List.getElem?_cons_zero, List.getElem?_cons_succ, List.nil_append, List.cons_append, Option.toList_some, Option.toList_none]
  rw [e]
  refine etM rfl h6 hp7 rfl (fun M2 eM => ?_)
  rw [nI_1] at eM
  repeat (refine ng 95 rfl ?_; first | refine es rfl rfl rfl ?_ | refine eg rfl (by assumption) rfl ?_ | refine eanE rfl (by assumption) (by with_reducible first | exact rfl | exact Int32.zero_add _ | exact ix8 _ | exact ix12 _ | exact ix7r _ _ | exact n7 | exact n0 | exact n1) (by assumption) rfl ?_ | refine eal rfl (by assumption) (by assumption) rfl ?_ | refine eri rfl ?_ | refine erv rfl ?_ | refine erl rfl ?_ | refine era rfl ?_ | refine erz0 rfl ?_ | refine erz1 rfl ?_)
  try dsimp only [set1, set2, kilP, List.set_cons_zero, List.set_cons_succ, List.getElem?_cons_zero, List.getElem?_cons_succ, List.nil_append, List.cons_append, Option.toList_some, Option.toList_none]
  exact k M2 _ (hV.ar (k := 6) eM (by omega)) (hbn.del hg hgp)
/-- one level: hD says what becomes of a house that isn't the goal -/
theorem y_ways_l1 {to : Nat} {ds : Bool} {x1 x3 : Int32} {P : Option Value → Mm → Prop} (hI : Inv σ C) (hn : 0 < σ.T.hs.n) (hto : to < 7) {h m : Nat} {p ms : List Nat} (hl : (h :: p).length < σ.T.hs.n) (hall : ∀ x, x ∈ h :: p → x < σ.T.hs.n) (hms : ms.length = p.length) (hm : m < 60000)
    (hD : ∀ (g m' : Nat) (M : Mm) (A : Ar) (bz bt : Int32) (ac : Ac) (us : Int32), g ∉ h :: p → g < σ.T.hs.n → ¬ g = to → tauF σ.T σ.f ds h g m = some m' → yV M b a σ oa rd r p1 q3 M0 A0 bz bt A → wkR (A 6) (g :: h :: p) → wkR (A 8) (m' :: m :: ms) → acR bz bt (A 7) ac → bnR us (g :: h :: p) → (∀ M' A' bz' bt' us', yV M' b a σ oa rd r p1 q3 M0 A0 bz' bt' A' → wkR (A' 6) (g :: h :: p) → wkR (A' 8) (m :: ms) → acR bz' bt' (A' 7) (dfB (tauF σ.T σ.f ds) σ.T.hs.n to (7 - (h :: p).length) (g :: h :: p) g m' ac) → bnR us' (g :: h :: p) → Ev ad 5 (rX13_ways ad) (52, [some (.ref b), some (.int x1), some (.int (nI to)), some (.int x3), some (.int (dI ds)), some (.int us'), some (.int (nI (h :: p).length))], [], M') P) → Ev ad 5 (rX13_ways ad) (211, [some (.ref b), some (.int x1), some (.int (nI to)), some (.int x3), some (.int (dI ds)), some (.int us), some (.int (nI (h :: p).length))], [], M) P) :
    ∀ (cnt g : Nat) (M : Mm) (A : Ar) (bz bt : Int32) (ac : Ac) (us : Int32), g + cnt = σ.T.hs.n → yV M b a σ oa rd r p1 q3 M0 A0 bz bt A → wkR (A 6) (h :: p) → wkR (A 8) (m :: ms) → A 6 (h :: p).length = nI g → acR bz bt (A 7) ac → bnR us (h :: p) → (∀ M' A' bz' bt' us', yV M' b a σ oa rd r p1 q3 M0 A0 bz' bt' A' → wkR (A' 6) (h :: p) → wkR (A' 8) (m :: ms) → acR bz' bt' (A' 7) (lqF (dfB (tauF σ.T σ.f ds) σ.T.hs.n to (7 - (h :: p).length)) (tauF σ.T σ.f ds) (h :: p) h m cnt g ac) → bnR us' (h :: p) → Ev ad 5 (rX13_ways ad) (52, [some (.ref b), some (.int x1), some (.int (nI to)), some (.int x3), some (.int (dI ds)), some (.int us'), some (.int (nI p.length))], [], M') P) → Ev ad 5 (rX13_ways ad) (95, [some (.ref b), some (.int x1), some (.int (nI to)), some (.int x3), some (.int (dI ds)), some (.int us), some (.int (nI (h :: p).length))], [], M) P := by
  have hn7 := hI.n7
  have wf := hI.wf hn
  have hp7 : (h :: p).length < 7 := by omega
  have hpos : 1 ≤ (h :: p).length := by rw [List.length_cons]; omega
  intro cnt
  induction cnt with
  | zero =>
    intro g M A bz bt ac us hg hV hw1 hw2 e hac hbn K
    obtain ⟨_, _, ⟨kn, Am, Bm, m0, -⟩, _⟩ := hV.1
    have h0 := hV.1.1.1
    have h6 := hV.1.1.c.2.2.2.2.2.1
    repeat (first | refine es rfl rfl rfl ?_ | refine eg rfl (by assumption) rfl ?_ | refine eanE rfl (by assumption) (by with_reducible first | exact rfl | exact Int32.zero_add _ | exact ix8 _ | exact ix12 _ | exact ix7r _ _ | exact n7 | exact n0 | exact n1) (by assumption) rfl ?_ | refine eal rfl (by assumption) (by assumption) rfl ?_ | refine eri rfl ?_ | refine erv rfl ?_ | refine erl rfl ?_ | refine era rfl ?_ | refine erz0 rfl ?_ | refine erz1 rfl ?_)
    try dsimp only [set1, set2, kilP, List.set_cons_zero, List.set_cons_succ, List.getElem?_cons_zero, List.getElem?_cons_succ, List.nil_append, List.cons_append, Option.toList_some, Option.toList_none]
    rw [e]
    refine ei _ rfl rfl (fun c => ?_) (fun c => ?_)
    · repeat (first | refine es rfl rfl rfl ?_ | refine eg rfl (by assumption) rfl ?_ | refine eanE rfl (by assumption) (by with_reducible first | exact rfl | exact Int32.zero_add _ | exact ix8 _ | exact ix12 _ | exact ix7r _ _ | exact n7 | exact n0 | exact n1) (by assumption) rfl ?_ | refine eal rfl (by assumption) (by assumption) rfl ?_ | refine eri rfl ?_ | refine erv rfl ?_ | refine erl rfl ?_ | refine era rfl ?_ | refine erz0 rfl ?_ | refine erz1 rfl ?_)
      try dsimp only [set1, set2, kilP, List.set_cons_zero, List.set_cons_succ, List.getElem?_cons_zero, List.getElem?_cons_succ, List.nil_append, List.cons_append, Option.toList_some, Option.toList_none]
      rw [e]
      refine ei _ rfl rfl (fun c1 => ?_) (fun c1 => ?_)
      · exact absurd c1 (nI_nlt (by omega) (by omega))
      · repeat (refine ng 52 rfl ?_; first | refine es rfl rfl rfl ?_ | refine eg rfl (by assumption) rfl ?_ | refine eanE rfl (by assumption) (by with_reducible first | exact rfl | exact Int32.zero_add _ | exact ix8 _ | exact ix12 _ | exact ix7r _ _ | exact n7 | exact n0 | exact n1) (by assumption) rfl ?_ | refine eal rfl (by assumption) (by assumption) rfl ?_ | refine eri rfl ?_ | refine erv rfl ?_ | refine erl rfl ?_ | refine era rfl ?_ | refine erz0 rfl ?_ | refine erz1 rfl ?_)
        try dsimp only [set1, set2, kilP, List.set_cons_zero, List.set_cons_succ, List.getElem?_cons_zero, List.getElem?_cons_succ, List.nil_append, List.cons_append, Option.toList_some, Option.toList_none]
        rw [show nI (h :: p).length + (-1) = nI p.length from pk_m1 p.length]
        exact K M A bz bt us hV hw1 hw2 hac hbn
    · exact absurd (nI_le (by omega) (by omega)) c
  | succ cnt ihc =>
    intro g M A bz bt ac us hg hV hw1 hw2 e hac hbn K
    have hgn : g < σ.T.hs.n := by omega
    have hg7 : g < 7 := by omega
    have hnext : ∀ (M2 : Mm) (A2 : Ar) (bz2 bt2 : Int32) (ac2 : Ac) (us2 : Int32), ac2 = (if g ∈ h :: p then ac else match tauF σ.T σ.f ds h g m with
        | some m' => dfB (tauF σ.T σ.f ds) σ.T.hs.n to (7 - (h :: p).length) (g :: h :: p) g m' ac
        | none => ac) → yV M2 b a σ oa rd r p1 q3 M0 A0 bz2 bt2 A2 → wkR (A2 6) (h :: p) → wkR (A2 8) (m :: ms) → A2 6 (h :: p).length = nI (g + 1) → acR bz2 bt2 (A2 7) ac2 → bnR us2 (h :: p) → Ev ad 5 (rX13_ways ad) (95, [some (.ref b), some (.int x1), some (.int (nI to)), some (.int x3), some (.int (dI ds)), some (.int us2), some (.int (nI (h :: p).length))], [], M2) P := by
      intro M2 A2 bz2 bt2 ac2 us2 eac hV2 a1 a2 a3 a4 a5
      refine ihc (g + 1) M2 A2 bz2 bt2 ac2 us2 (by omega) hV2 a1 a2 a3 a4 a5 ?_
      rw [eac]
      exact K
    /- the next one, at once -/
    have hskip : ∀ (M2 : Mm) (A2 : Ar), yV M2 b a σ oa rd r p1 q3 M0 A0 bz bt A2 → A2 6 = A 6 → A2 7 = A 7 → wkR (A2 8) (m :: ms) → ac = (if g ∈ h :: p then ac else match tauF σ.T σ.f ds h g m with
        | some m' => dfB (tauF σ.T σ.f ds) σ.T.hs.n to (7 - (h :: p).length) (g :: h :: p) g m' ac
        | none => ac) → Ev ad 5 (rX13_ways ad) (138, [some (.ref b), some (.int x1), some (.int (nI to)), some (.int x3), some (.int (dI ds)), some (.int us), some (.int (nI (h :: p).length))], [], M2) P := by
      intro M2 A2 hV2 e6 e7 hw8 eac
      have h0 := hV2.1.1.1
      have h6 := hV2.1.1.c.2.2.2.2.2.1
      repeat (first | refine es rfl rfl rfl ?_ | refine eg rfl (by assumption) rfl ?_ | refine eanE rfl (by assumption) (by with_reducible first | exact rfl | exact Int32.zero_add _ | exact ix8 _ | exact ix12 _ | exact ix7r _ _ | exact n7 | exact n0 | exact n1) (by assumption) rfl ?_ | refine eal rfl (by assumption) (by assumption) rfl ?_ | refine eri rfl ?_ | refine erv rfl ?_ | refine erl rfl ?_ | refine era rfl ?_ | refine erz0 rfl ?_ | refine erz1 rfl ?_)
      try dsimp only [set1, set2, kilP, List.set_cons_zero, List.set_cons_succ, List.getElem?_cons_zero, List.getElem?_cons_succ, List.nil_append, List.cons_append, Option.toList_some, Option.toList_none]
      rw [e6, e]
      refine etM rfl h6 hp7 rfl (fun M3 eM => ?_)
      rw [nI_1] at eM
      repeat (refine ng 95 rfl ?_; first | refine es rfl rfl rfl ?_ | refine eg rfl (by assumption) rfl ?_ | refine eanE rfl (by assumption) (by with_reducible first | exact rfl | exact Int32.zero_add _ | exact ix8 _ | exact ix12 _ | exact ix7r _ _ | exact n7 | exact n0 | exact n1) (by assumption) rfl ?_ | refine eal rfl (by assumption) (by assumption) rfl ?_ | refine eri rfl ?_ | refine erv rfl ?_ | refine erl rfl ?_ | refine era rfl ?_ | refine erz0 rfl ?_ | refine erz1 rfl ?_)
      try dsimp only [set1, set2, kilP, List.set_cons_zero, List.set_cons_succ, List.getElem?_cons_zero, List.getElem?_cons_succ, List.nil_append, List.cons_append, Option.toList_some, Option.toList_none]
      refine hnext M3 _ bz bt ac us eac (hV2.ar (k := 6) eM (by omega)) ?_ hw8 ?_ ?_ hbn
      · show wkR (upd (A2 6) (h :: p).length (nI (g + 1))) _
        rw [e6]
        exact hw1.upd (Nat.le_refl _)
      · show upd (A2 6) (h :: p).length (nI (g + 1)) (h :: p).length = _
        rw [pk_us]
      · show acR bz bt (A2 7) ac
        rw [e7]
        exact hac
    obtain ⟨_, _, ⟨kn, Am, Bm, m0, -⟩, _⟩ := hV.1
    have h0 := hV.1.1.1
    have h6 := hV.1.1.c.2.2.2.2.2.1
    repeat (first | refine es rfl rfl rfl ?_ | refine eg rfl (by assumption) rfl ?_ | refine eanE rfl (by assumption) (by with_reducible first | exact rfl | exact Int32.zero_add _ | exact ix8 _ | exact ix12 _ | exact ix7r _ _ | exact n7 | exact n0 | exact n1) (by assumption) rfl ?_ | refine eal rfl (by assumption) (by assumption) rfl ?_ | refine eri rfl ?_ | refine erv rfl ?_ | refine erl rfl ?_ | refine era rfl ?_ | refine erz0 rfl ?_ | refine erz1 rfl ?_)
    try dsimp only [set1, set2, kilP, List.set_cons_zero, List.set_cons_succ, List.getElem?_cons_zero, List.getElem?_cons_succ, List.nil_append, List.cons_append, Option.toList_some, Option.toList_none]
    rw [e]
    refine ei _ rfl rfl (fun c => ?_) (fun c => ?_)
    · exact absurd c (nI_ge (by omega) (by omega))
    repeat (first | refine es rfl rfl rfl ?_ | refine eg rfl (by assumption) rfl ?_ | refine eanE rfl (by assumption) (by with_reducible first | exact rfl | exact Int32.zero_add _ | exact ix8 _ | exact ix12 _ | exact ix7r _ _ | exact n7 | exact n0 | exact n1) (by assumption) rfl ?_ | refine eal rfl (by assumption) (by assumption) rfl ?_ | refine eri rfl ?_ | refine erv rfl ?_ | refine erl rfl ?_ | refine era rfl ?_ | refine erz0 rfl ?_ | refine erz1 rfl ?_)
    try dsimp only [set1, set2, kilP, List.set_cons_zero, List.set_cons_succ, List.getElem?_cons_zero, List.getElem?_cons_succ, List.nil_append, List.cons_append, Option.toList_some, Option.toList_none]
    rw [e]
    refine ecsr rfl rfl rfl rfl rfl rfl (y_bit) (by first | rfl | exact Nat.blt_eq.mpr (by omega)) rfl ?_
    by_cases hin : g ∈ h :: p
    · rw [show bI (shutI us g = 1) = 1 from if_pos ((hbn.in1 hg7).mpr hin)]
      repeat (refine ng 138 rfl ?_; first | refine es rfl rfl rfl ?_ | refine eg rfl (by assumption) rfl ?_ | refine eanE rfl (by assumption) (by with_reducible first | exact rfl | exact Int32.zero_add _ | exact ix8 _ | exact ix12 _ | exact ix7r _ _ | exact n7 | exact n0 | exact n1) (by assumption) rfl ?_ | refine eal rfl (by assumption) (by assumption) rfl ?_ | refine eri rfl ?_ | refine erv rfl ?_ | refine erl rfl ?_ | refine era rfl ?_ | refine erz0 rfl ?_ | refine erz1 rfl ?_)
      try dsimp only [set1, set2, kilP, List.set_cons_zero, List.set_cons_succ, List.getElem?_cons_zero, List.getElem?_cons_succ, List.nil_append, List.cons_append, Option.toList_some, Option.toList_none]
      exact hskip M A hV rfl rfl hw2 (by rw [if_pos hin])
    rw [show bI (shutI us g = 1) = 0 from if_neg (fun q => hin ((hbn.in1 hg7).mp q))]
    have e1 : A 6 ((h :: p).length - 1) = nI h := hw1.top
    have e3 : A 8 ((h :: p).length - 1) = nI m := by
      have := hw2.top
      rw [hms] at this
      exact this
    repeat (first | refine es rfl rfl rfl ?_ | refine eg rfl (by assumption) rfl ?_ | refine eanE rfl (by assumption) (by with_reducible first | exact rfl | exact Int32.zero_add _ | exact ix8 _ | exact ix12 _ | exact ix7r _ _ | exact n7 | exact n0 | exact n1) (by assumption) rfl ?_ | refine eal rfl (by assumption) (by assumption) rfl ?_ | refine eri rfl ?_ | refine erv rfl ?_ | refine erl rfl ?_ | refine era rfl ?_ | refine erz0 rfl ?_ | refine erz1 rfl ?_)
    try dsimp only [set1, set2, kilP, List.set_cons_zero, List.set_cons_succ, List.getElem?_cons_zero, List.getElem?_cons_succ, List.nil_append, List.cons_append, Option.toList_some, Option.toList_none]
    refine ecv rfl rfl (by assumption) rfl rfl rfl (y_canStep hV hI hn hpos hp7 (hall h List.mem_cons_self) hgn (by omega) e1 e e3) (by first | rfl | exact Nat.blt_eq.mpr (by omega)) ?_
    rintro v M2 ⟨rfl, eM⟩
    have hV2 := hV.ar (k := 8) eM (by omega)
    have hw8 : wkR (upd (A 8) (h :: p).length (nI ((tauF σ.T σ.f ds h g m).getD 99999))) (m :: ms) := hw2.upd (by rw [List.length_cons, List.length_cons]; omega)
    cases ht : tauF σ.T σ.f ds h g m with
    | none =>
      try dsimp only [set1, set2, kilP, List.set_cons_zero, List.set_cons_succ, List.getElem?_cons_zero, List.getElem?_cons_succ, List.nil_append, List.cons_append, Option.toList_some, Option.toList_none]
      repeat (refine ng 138 rfl ?_; first | refine es rfl rfl rfl ?_ | refine eg rfl (by assumption) rfl ?_ | refine eanE rfl (by assumption) (by with_reducible first | exact rfl | exact Int32.zero_add _ | exact ix8 _ | exact ix12 _ | exact ix7r _ _ | exact n7 | exact n0 | exact n1) (by assumption) rfl ?_ | refine eal rfl (by assumption) (by assumption) rfl ?_ | refine eri rfl ?_ | refine erv rfl ?_ | refine erl rfl ?_ | refine era rfl ?_ | refine erz0 rfl ?_ | refine erz1 rfl ?_)
      try dsimp only [set1, set2, kilP, List.set_cons_zero, List.set_cons_succ, List.getElem?_cons_zero, List.getElem?_cons_succ, List.nil_append, List.cons_append, Option.toList_some, Option.toList_none]
      refine hskip M2 _ hV2 rfl rfl ?_ (by rw [if_neg hin, ht])
      exact hw8
    | some m' =>
      rw [ht] at hV2 hw8
      have hb := tau_b wf (by have := hall h List.mem_cons_self; omega) hg7 ht
      obtain ⟨_, _, ⟨kn, Am, Bm, n0, -⟩, _⟩ := hV2.1
      have k0 := hV2.1.1.1
      have k6 : M2.1 (b + 6) = ints 7 (A 6) := hV2.1.1.c.2.2.2.2.2.1
      have hw1' : wkR (A 6) (g :: h :: p) := hw1.ext e
      have hw8' : wkR (upd (A 8) (h :: p).length (nI m')) (m' :: m :: ms) := by
        refine wkR.ext (by exact hw8) ?_
        rw [show (m :: ms).length = (h :: p).length by rw [List.length_cons, List.length_cons, hms], pk_us]
      have hbn' := hbn.or hg7
      have hafter : ∀ (M4 : Mm) (A4 : Ar) (bz4 bt4 us4 : Int32), yV M4 b a σ oa rd r p1 q3 M0 A0 bz4 bt4 A4 → wkR (A4 6) (g :: h :: p) → wkR (A4 8) (m :: ms) → acR bz4 bt4 (A4 7) (dfB (tauF σ.T σ.f ds) σ.T.hs.n to (7 - (h :: p).length) (g :: h :: p) g m' ac) → bnR us4 (g :: h :: p) → Ev ad 5 (rX13_ways ad) (52, [some (.ref b), some (.int x1), some (.int (nI to)), some (.int x3), some (.int (dI ds)), some (.int us4), some (.int (nI (h :: p).length))], [], M4) P := by
        intro M4 A4 bz4 bt4 us4 hV4 w1 w2 w3 w4
        refine y_wlh hV4 hpos hp7 w1.top hg7 hin w4 (fun M5 us5 hV5 hbn5 => ?_)
        refine hnext M5 _ bz4 bt4 _ us5 ?_ hV5 ?_ w2 ?_ w3 hbn5
        · rw [if_neg hin, ht]
        · show wkR (upd (A4 6) (h :: p).length (nI (g + 1))) _
          exact w1.pop.upd (Nat.le_refl _)
        · show upd (A4 6) (h :: p).length (nI (g + 1)) (h :: p).length = _
          rw [pk_us]
      try dsimp only [set1, set2, kilP, List.set_cons_zero, List.set_cons_succ, List.getElem?_cons_zero, List.getElem?_cons_succ, List.nil_append, List.cons_append, Option.toList_some, Option.toList_none]
      repeat (first | refine es rfl rfl rfl ?_ | refine eg rfl (by assumption) rfl ?_ | refine eanE rfl (by assumption) (by with_reducible first | exact rfl | exact Int32.zero_add _ | exact ix8 _ | exact ix12 _ | exact ix7r _ _ | exact n7 | exact n0 | exact n1) (by assumption) rfl ?_ | refine eal rfl (by assumption) (by assumption) rfl ?_ | refine eri rfl ?_ | refine erv rfl ?_ | refine erl rfl ?_ | refine era rfl ?_ | refine erz0 rfl ?_ | refine erz1 rfl ?_)
      try dsimp only [set1, set2, kilP, List.set_cons_zero, List.set_cons_succ, List.getElem?_cons_zero, List.getElem?_cons_succ, List.nil_append, List.cons_append, Option.toList_some, Option.toList_none]
      rw [e]
      refine ei _ rfl rfl (fun c3 => ?_) (fun c3 => ?_)
      rotate_left
      · exact absurd (nI_lt hgn (by omega)) c3
      repeat (first | refine es rfl rfl rfl ?_ | refine eg rfl (by assumption) rfl ?_ | refine eanE rfl (by assumption) (by with_reducible first | exact rfl | exact Int32.zero_add _ | exact ix8 _ | exact ix12 _ | exact ix7r _ _ | exact n7 | exact n0 | exact n1) (by assumption) rfl ?_ | refine eal rfl (by assumption) (by assumption) rfl ?_ | refine eri rfl ?_ | refine erv rfl ?_ | refine erl rfl ?_ | refine era rfl ?_ | refine erz0 rfl ?_ | refine erz1 rfl ?_)
      try dsimp only [set1, set2, kilP, List.set_cons_zero, List.set_cons_succ, List.getElem?_cons_zero, List.getElem?_cons_succ, List.nil_append, List.cons_append, Option.toList_some, Option.toList_none]
      rw [e]
      refine ei _ rfl rfl (fun c4 => ?_) (fun c4 => ?_)
      · have hne : ¬ g = to := fun q => c4 (by rw [q])
        exact hD g m' M2 _ bz bt ac _ hin hgn hne ht hV2 hw1' hw8' hac hbn' (fun M4 A4 bz4 bt4 us4 v1 v2 v3 v4 v5 => hafter M4 A4 bz4 bt4 us4 v1 v2 v3 v4 v5)
      · have heq : g = to := (nI_eq (by omega) (by omega)).mp (Decidable.not_not.mp c4)
        repeat (first | refine es rfl rfl rfl ?_ | refine eg rfl (by assumption) rfl ?_ | refine eanE rfl (by assumption) (by with_reducible first | exact rfl | exact Int32.zero_add _ | exact ix8 _ | exact ix12 _ | exact ix7r _ _ | exact n7 | exact n0 | exact n1) (by assumption) rfl ?_ | refine eal rfl (by assumption) (by assumption) rfl ?_ | refine eri rfl ?_ | refine erv rfl ?_ | refine erl rfl ?_ | refine era rfl ?_ | refine erz0 rfl ?_ | refine erz1 rfl ?_)
        try dsimp only [set1, set2, kilP, List.set_cons_zero, List.set_cons_succ, List.getElem?_cons_zero, List.getElem?_cons_succ, List.nil_append, List.cons_append, Option.toList_some, Option.toList_none]
        rw [show nI (h :: p).length + 1 = nI (g :: h :: p).length from nI_1 _]
        have hml : m + 4000 < 99999 := by omega
        refine ecv rfl rfl (by assumption) rfl rfl rfl (y_ends (p := g :: h :: p) (t := m') hV2 (by rw [List.length_cons]; omega) (by rw [List.length_cons]; omega) hw1' (by show upd (A 8) (h :: p).length (nI m') ((g :: h :: p).length - 1) = nI m'; rw [show (g :: h :: p).length - 1 = (h :: p).length from rfl, pk_us]) (by omega) hac) (by first | rfl | exact Nat.blt_eq.mpr (by omega)) ?_
        rintro v M4 ⟨rfl, bz4, bt4, g4, hV4, hac4⟩
        try dsimp only [set1, set2, kilP, List.set_cons_zero, List.set_cons_succ, List.getElem?_cons_zero, List.getElem?_cons_succ, List.nil_append, List.cons_append, Option.toList_some, Option.toList_none]
        repeat (refine ng 52 rfl ?_; first | refine es rfl rfl rfl ?_ | refine eg rfl (by assumption) rfl ?_ | refine eanE rfl (by assumption) (by with_reducible first | exact rfl | exact Int32.zero_add _ | exact ix8 _ | exact ix12 _ | exact ix7r _ _ | exact n7 | exact n0 | exact n1) (by assumption) rfl ?_ | refine eal rfl (by assumption) (by assumption) rfl ?_ | refine eri rfl ?_ | refine erv rfl ?_ | refine erl rfl ?_ | refine era rfl ?_ | refine erz0 rfl ?_ | refine erz1 rfl ?_)
        try dsimp only [set1, set2, kilP, List.set_cons_zero, List.set_cons_succ, List.getElem?_cons_zero, List.getElem?_cons_succ, List.nil_append, List.cons_append, Option.toList_some, Option.toList_none]
        refine hafter M4 _ bz4 bt4 _ hV4 hw1' hw8'.pop ?_ hbn'
        rw [show 7 - (h :: p).length = (6 - (h :: p).length) + 1 by omega, dfB, if_pos heq]
        exact hac4
theorem y_ways_lv {to : Nat} {ds : Bool} {x1 x3 : Int32} {P : Option Value → Mm → Prop} (hI : Inv σ C) (hn : 0 < σ.T.hs.n) (hto : to < 7) : ∀ (lv h m : Nat) (p ms : List Nat), (h :: p).length + (lv + 1) = σ.T.hs.n → (h :: p).Nodup → (∀ x, x ∈ h :: p → x < σ.T.hs.n) → ms.length = p.length → m + 4000 * lv < 60000 → ∀ (cnt g : Nat) (M : Mm) (A : Ar) (bz bt : Int32) (ac : Ac) (us : Int32), g + cnt = σ.T.hs.n → yV M b a σ oa rd r p1 q3 M0 A0 bz bt A → wkR (A 6) (h :: p) → wkR (A 8) (m :: ms) → A 6 (h :: p).length = nI g → acR bz bt (A 7) ac → bnR us (h :: p) → (∀ M' A' bz' bt' us', yV M' b a σ oa rd r p1 q3 M0 A0 bz' bt' A' → wkR (A' 6) (h :: p) → wkR (A' 8) (m :: ms) → acR bz' bt' (A' 7) (lqF (dfB (tauF σ.T σ.f ds) σ.T.hs.n to (7 - (h :: p).length)) (tauF σ.T σ.f ds) (h :: p) h m cnt g ac) → bnR us' (h :: p) → Ev ad 5 (rX13_ways ad) (52, [some (.ref b), some (.int x1), some (.int (nI to)), some (.int x3), some (.int (dI ds)), some (.int us'), some (.int (nI p.length))], [], M') P) → Ev ad 5 (rX13_ways ad) (95, [some (.ref b), some (.int x1), some (.int (nI to)), some (.int x3), some (.int (dI ds)), some (.int us), some (.int (nI (h :: p).length))], [], M) P := by
  have hn7 := hI.n7
  have wf := hI.wf hn
  intro lv
  induction lv with
  | zero =>
    intro h m p ms hl hnd hall hms hm
    refine y_ways_l1 hI hn hto (by omega) hall hms (by omega) ?_
    intro g m' M A bz bt ac us hgp hgn hne ht hV w1 w2 hac hbn K
    obtain ⟨_, _, ⟨kn, Am, Bm, m0, -⟩, _⟩ := hV.1
    have h0 := hV.1.1.1
    repeat (first | refine es rfl rfl rfl ?_ | refine eg rfl (by assumption) rfl ?_ | refine eanE rfl (by assumption) (by with_reducible first | exact rfl | exact Int32.zero_add _ | exact ix8 _ | exact ix12 _ | exact ix7r _ _ | exact n7 | exact n0 | exact n1) (by assumption) rfl ?_ | refine eal rfl (by assumption) (by assumption) rfl ?_ | refine eri rfl ?_ | refine erv rfl ?_ | refine erl rfl ?_ | refine era rfl ?_ | refine erz0 rfl ?_ | refine erz1 rfl ?_)
    try dsimp only [set1, set2, kilP, List.set_cons_zero, List.set_cons_succ, List.getElem?_cons_zero, List.getElem?_cons_succ, List.nil_append, List.cons_append, Option.toList_some, Option.toList_none]
    rw [show nI (h :: p).length + 1 = nI ((h :: p).length + 1) from nI_1 _]
    refine ei _ rfl rfl (fun c => ?_) (fun c => ?_)
    · refine K M A bz bt us hV w1 w2.pop ?_ hbn
      rw [df_full (fun x hx => nodup_all (p := g :: h :: p) (List.nodup_cons.mpr ⟨hgp, hnd⟩) (fun y hy => by rcases List.mem_cons.mp hy with z | z; (rw [z]; exact hgn); exact hall y z) (by rw [List.length_cons]; omega) hx) hne]
      exact hac
    · exact absurd (nI_le (by omega) (by omega)) c
  | succ lv ih =>
    intro h m p ms hl hnd hall hms hm
    refine y_ways_l1 hI hn hto (by omega) hall hms (by omega) ?_
    intro g m' M A bz bt ac us hgp hgn hne ht hV w1 w2 hac hbn K
    have hb := tau_b wf (by have := hall h List.mem_cons_self; omega) (by omega) ht
    obtain ⟨_, _, ⟨kn, Am, Bm, m0, -⟩, _⟩ := hV.1
    have h0 := hV.1.1.1
    have h6 := hV.1.1.c.2.2.2.2.2.1
    have hg7 : (g :: h :: p).length < 7 := by rw [List.length_cons]; omega
    repeat (first | refine es rfl rfl rfl ?_ | refine eg rfl (by assumption) rfl ?_ | refine eanE rfl (by assumption) (by with_reducible first | exact rfl | exact Int32.zero_add _ | exact ix8 _ | exact ix12 _ | exact ix7r _ _ | exact n7 | exact n0 | exact n1) (by assumption) rfl ?_ | refine eal rfl (by assumption) (by assumption) rfl ?_ | refine eri rfl ?_ | refine erv rfl ?_ | refine erl rfl ?_ | refine era rfl ?_ | refine erz0 rfl ?_ | refine erz1 rfl ?_)
    try dsimp only [set1, set2, kilP, List.set_cons_zero, List.set_cons_succ, List.getElem?_cons_zero, List.getElem?_cons_succ, List.nil_append, List.cons_append, Option.toList_some, Option.toList_none]
    rw [show nI (h :: p).length + 1 = nI (g :: h :: p).length from nI_1 _]
    refine ei _ rfl rfl (fun c => ?_) (fun c => ?_)
    · exact absurd c (nI_ge (by rw [List.length_cons]; omega) (by omega))
    repeat (first | refine es rfl rfl rfl ?_ | refine eg rfl (by assumption) rfl ?_ | refine eanE rfl (by assumption) (by with_reducible first | exact rfl | exact Int32.zero_add _ | exact ix8 _ | exact ix12 _ | exact ix7r _ _ | exact n7 | exact n0 | exact n1) (by assumption) rfl ?_ | refine eal rfl (by assumption) (by assumption) rfl ?_ | refine eri rfl ?_ | refine erv rfl ?_ | refine erl rfl ?_ | refine era rfl ?_ | refine erz0 rfl ?_ | refine erz1 rfl ?_)
    try dsimp only [set1, set2, kilP, List.set_cons_zero, List.set_cons_succ, List.getElem?_cons_zero, List.getElem?_cons_succ, List.nil_append, List.cons_append, Option.toList_some, Option.toList_none]
    rw [show nI (h :: p).length + 1 = nI (g :: h :: p).length from nI_1 _]
    refine etM rfl h6 hg7 rfl (fun M2 eM => ?_)
    have hV2 := hV.ar (k := 6) eM (by omega)
    have k0 := hV2.1.1.1
    have k6 : M2.1 (b + 6) = ints 7 (upd (A 6) (g :: h :: p).length (-1)) := hV2.1.1.c.2.2.2.2.2.1
    repeat (first | refine es rfl rfl rfl ?_ | refine eg rfl (by assumption) rfl ?_ | refine eanE rfl (by assumption) (by with_reducible first | exact rfl | exact Int32.zero_add _ | exact ix8 _ | exact ix12 _ | exact ix7r _ _ | exact n7 | exact n0 | exact n1) (by assumption) rfl ?_ | refine eal rfl (by assumption) (by assumption) rfl ?_ | refine eri rfl ?_ | refine erv rfl ?_ | refine erl rfl ?_ | refine era rfl ?_ | refine erz0 rfl ?_ | refine erz1 rfl ?_)
    try dsimp only [set1, set2, kilP, List.set_cons_zero, List.set_cons_succ, List.getElem?_cons_zero, List.getElem?_cons_succ, List.nil_append, List.cons_append, Option.toList_some, Option.toList_none]
    refine ei _ rfl rfl (fun c2 => ?_) (fun c2 => ?_)
    · exact absurd c2 (nI_nle (by rw [List.length_cons]; omega) (by omega))
    repeat (first | refine es rfl rfl rfl ?_ | refine eg rfl (by assumption) rfl ?_ | refine eanE rfl (by assumption) (by with_reducible first | exact rfl | exact Int32.zero_add _ | exact ix8 _ | exact ix12 _ | exact ix7r _ _ | exact n7 | exact n0 | exact n1) (by assumption) rfl ?_ | refine eal rfl (by assumption) (by assumption) rfl ?_ | refine eri rfl ?_ | refine erv rfl ?_ | refine erl rfl ?_ | refine era rfl ?_ | refine erz0 rfl ?_ | refine erz1 rfl ?_)
    try dsimp only [set1, set2, kilP, List.set_cons_zero, List.set_cons_succ, List.getElem?_cons_zero, List.getElem?_cons_succ, List.nil_append, List.cons_append, Option.toList_some, Option.toList_none]
    rw [pk_us]
    repeat (first | refine es rfl rfl rfl ?_ | refine eg rfl (by assumption) rfl ?_ | refine eanE rfl (by assumption) (by with_reducible first | exact rfl | exact Int32.zero_add _ | exact ix8 _ | exact ix12 _ | exact ix7r _ _ | exact n7 | exact n0 | exact n1) (by assumption) rfl ?_ | refine eal rfl (by assumption) (by assumption) rfl ?_ | refine eri rfl ?_ | refine erv rfl ?_ | refine erl rfl ?_ | refine era rfl ?_ | refine erz0 rfl ?_ | refine erz1 rfl ?_)
    try dsimp only [set1, set2, kilP, List.set_cons_zero, List.set_cons_succ, List.getElem?_cons_zero, List.getElem?_cons_succ, List.nil_append, List.cons_append, Option.toList_some, Option.toList_none]
    rw [pk_us]
    refine etM rfl k6 hg7 rfl (fun M3 eM3 => ?_)
    have hV3 := hV2.ar (k := 6) eM3 (by omega)
    repeat (refine ng 95 rfl ?_; first | refine es rfl rfl rfl ?_ | refine eg rfl (by assumption) rfl ?_ | refine eanE rfl (by assumption) (by with_reducible first | exact rfl | exact Int32.zero_add _ | exact ix8 _ | exact ix12 _ | exact ix7r _ _ | exact n7 | exact n0 | exact n1) (by assumption) rfl ?_ | refine eal rfl (by assumption) (by assumption) rfl ?_ | refine eri rfl ?_ | refine erv rfl ?_ | refine erl rfl ?_ | refine era rfl ?_ | refine erz0 rfl ?_ | refine erz1 rfl ?_)
    try dsimp only [set1, set2, kilP, List.set_cons_zero, List.set_cons_succ, List.getElem?_cons_zero, List.getElem?_cons_succ, List.nil_append, List.cons_append, Option.toList_some, Option.toList_none]
    refine ih g m' (h :: p) (m :: ms) (by rw [List.length_cons]; omega) (List.nodup_cons.mpr ⟨hgp, hnd⟩) (fun y hy => by rcases List.mem_cons.mp hy with z | z; (rw [z]; exact hgn); exact hall y z) (by rw [List.length_cons, List.length_cons, hms]) (by omega) σ.T.hs.n 0 M3 _ bz bt ac us (by omega) hV3 ?_ w2 ?_ hac hbn ?_
    · show wkR (upd (upd (A 6) (g :: h :: p).length (-1)) (g :: h :: p).length _) _
      exact (w1.upd (Nat.le_refl _)).upd (Nat.le_refl _)
    · show upd (upd (A 6) (g :: h :: p).length (-1)) (g :: h :: p).length _ (g :: h :: p).length = _
      rw [pk_us]
      rfl
    · intro M4 A4 bz4 bt4 us4 v1 v2 v3 v4 v5
      refine K M4 A4 bz4 bt4 us4 v1 v2 v3.pop ?_ v5
      rw [show 7 - (h :: p).length = (7 - (g :: h :: p).length) + 1 by have e9 : (g :: h :: p).length = (h :: p).length + 1 := rfl; omega, dfB, if_neg hne]
      exact v4
end RWAYS
