/-! Reader: the text -/
def pFin : Except Er (Tw × Nat) → Except Er Tw
  | .error e => .error e
  | .ok (T', p) => if T'.hs.n < 2 then .error (6, p) else .ok (T'.1, T'.hs, (T'.ss.n, T'.ss.mi, mesF T'.ss.mi T'.ss.sh, T'.ss.ne), T'.cs)
theorem pTown_fin (tp : Nat → Int32) (sc : Nat → Int64) (le : Nat) (T : Tw) : pTown tp sc le T = pFin (pLoop tp sc le (le + 1) T 3 0 0) := by
  unfold pTown pFin
  rfl
theorem Fr2.tr {b tb : Nat} {M0 M M' : Mm} (h : Fr2 b tb M0 M) (h2 : Fr2 b tb M M') : Fr2 b tb M0 M' := ⟨fun q a c => (h2.1 q a c).trans (h.1 q a c), h2.2.trans h.2⟩
theorem aSt.fr2 {ad : Nat → Nat} {lo b tb : Nat} {M M' : Mm} (h : aSt ad lo M) (hF : Fr2 b tb M M') (hb : lo ≤ b) (htb : okTb b tb) : aSt ad lo M' := fun i hi => ⟨(h i hi).1, (hF.1 _ (by have := (h i hi).1; omega) (by have := (h i hi).1; unfold okTb at htb; omega)).trans (h i hi).2⟩
theorem e5_rt_end {ad : Nat → Nat} {M0 M : Mm} {b tb : Nat} {tp : Nat → Int32} {sc : Nat → Int64} {z : Rz} {a p : Nat} {q : Rq} {T : Tw} {L1 L2 : Option Value} (hq : rS M b tb tp sc z a q) (hst : q.st = p) (hT : aTw M tb T) (htb : okTb b tb) (hn7 : T.hs.n ≤ 7) (hG : Fr2 b tb M0 M) : Ev ad 6 (rX5_readTown ad) (94, [some (.ref b), L1, L2], [], M) (twP b tb tp sc z M0 (pFin (.ok (T, p)))) := by
  have h0 := hq.1.1
  unfold aR0 at h0
  have t0 := hT.1.1
  have s0 := hT.2.1.1
  have s1 := hT.2.2.1.1
  unfold pFin
  repeat (first | refine es rfl rfl rfl ?_ | refine eg rfl (by assumption) rfl ?_ | refine ean rfl (by assumption) (by assumption) rfl ?_ | refine eal rfl (by assumption) (by assumption) rfl ?_ | refine eri rfl ?_ | refine erv rfl ?_ | refine erl rfl ?_ | refine era rfl ?_ | refine erz0 rfl ?_ | refine erz1 rfl ?_)
  try dsimp only [set1, set2, kilP, List.set_cons_zero, List.set_cons_succ, List.getElem?_cons_zero, List.getElem?_cons_succ, List.nil_append, List.cons_append, Option.toList_some, Option.toList_none]
  by_cases hn : T.hs.n < 2
  · rw [if_pos hn]
    refine ei _ rfl rfl (fun c => ?_) (fun c => ?_)
    · exact absurd c (nI_ge (b := 2) (by omega) (by omega))
    · repeat (first | refine es rfl rfl rfl ?_ | refine eg rfl (by assumption) rfl ?_ | refine ean rfl (by assumption) (by assumption) rfl ?_ | refine eal rfl (by assumption) (by assumption) rfl ?_ | refine eri rfl ?_ | refine erv rfl ?_ | refine erl rfl ?_ | refine era rfl ?_ | refine erz0 rfl ?_ | refine erz1 rfl ?_)
      try dsimp only [set1, set2, kilP, List.set_cons_zero, List.set_cons_succ, List.getElem?_cons_zero, List.getElem?_cons_succ, List.nil_append, List.cons_append, Option.toList_some, Option.toList_none]
      refine ecv rfl rfl (by assumption) rfl rfl rfl (e5_fail hq.1) (by first | rfl | exact Nat.blt_eq.mpr (by omega)) ?_
      rintro v M2 ⟨rfl, hb2, hF2⟩
      try dsimp only [set1, set2, kilP, List.set_cons_zero, List.set_cons_succ, List.getElem?_cons_zero, List.getElem?_cons_succ, List.nil_append, List.cons_append, Option.toList_some, Option.toList_none]
      repeat (first | refine es rfl rfl rfl ?_ | refine eg rfl (by assumption) rfl ?_ | refine ean rfl (by assumption) (by assumption) rfl ?_ | refine eal rfl (by assumption) (by assumption) rfl ?_ | refine eri rfl ?_ | refine erv rfl ?_ | refine erl rfl ?_ | refine era rfl ?_ | refine erz0 rfl ?_ | refine erz1 rfl ?_)
      try dsimp only [set1, set2, kilP, List.set_cons_zero, List.set_cons_succ, List.getElem?_cons_zero, List.getElem?_cons_succ, List.nil_append, List.cons_append, Option.toList_some, Option.toList_none]
      exact ⟨hG.w hF2, rfl, ⟨_, hb2, rfl, congrArg nI hst, hq.2.2.2.1⟩, _, hT.fr hF2 (by unfold okTb at htb; omega)⟩
  · rw [if_neg hn]
    refine ei _ rfl rfl (fun c => ?_) (fun c => ?_)
    · repeat (first | refine es rfl rfl rfl ?_ | refine eg rfl (by assumption) rfl ?_ | refine ean rfl (by assumption) (by assumption) rfl ?_ | refine eal rfl (by assumption) (by assumption) rfl ?_ | refine eri rfl ?_ | refine erv rfl ?_ | refine erl rfl ?_ | refine era rfl ?_ | refine erz0 rfl ?_ | refine erz1 rfl ?_)
      try dsimp only [set1, set2, kilP, List.set_cons_zero, List.set_cons_succ, List.getElem?_cons_zero, List.getElem?_cons_succ, List.nil_append, List.cons_append, Option.toList_some, Option.toList_none]
      refine ecv rfl rfl (by assumption) rfl rfl rfl (e7_measure hT.2.2.1) (by first | rfl | exact Nat.blt_eq.mpr (by omega)) ?_
      rintro v M2 ⟨rfl, eM⟩
      have hq := hq.u eM (by unfold okTb at htb; omega)
      have hG := hG.u eM (by omega) (by omega)
      have hS2 : aSs M2 (tb + 10) (T.ss.n, T.ss.mi, mesF T.ss.mi T.ss.sh, T.ss.ne) := by rw [eM]; exact hT.2.2.1.psh _
      have hF : Fr (tb + 12) 1 M M2 := (Fr.rf _ _ _).up eM (by omega) (by omega)
      try dsimp only [set1, set2, kilP, List.set_cons_zero, List.set_cons_succ, List.getElem?_cons_zero, List.getElem?_cons_succ, List.nil_append, List.cons_append, Option.toList_some, Option.toList_none]
      repeat (first | refine es rfl rfl rfl ?_ | refine eg rfl (by assumption) rfl ?_ | refine ean rfl (by assumption) (by assumption) rfl ?_ | refine eal rfl (by assumption) (by assumption) rfl ?_ | refine eri rfl ?_ | refine erv rfl ?_ | refine erl rfl ?_ | refine era rfl ?_ | refine erz0 rfl ?_ | refine erz1 rfl ?_)
      try dsimp only [set1, set2, kilP, List.set_cons_zero, List.set_cons_succ, List.getElem?_cons_zero, List.getElem?_cons_succ, List.nil_append, List.cons_append, Option.toList_some, Option.toList_none]
      exact ⟨hG, rfl, ⟨q, hq.1, hq.2.1, hq.2.2.1, hq.2.2.2.1⟩, hT.1.kept (fun j hj => hF.1 j (by omega)), hT.2.1.fr hF (by omega), hS2, hT.2.2.2.fr hF (by omega)⟩
    · exact absurd (nI_le (a := 2) (by omega) (by omega)) c
theorem e5_rt_loop {ad : Nat → Nat} {M0 : Mm} {b tb lo : Nat} {tp : Nat → Int32} {sc : Nat → Int64} {z : Rz} {x1 : Int32} (hlo : lo ≤ b) (htb : okTb b tb) : ∀ (n i k a p : Nat) (M : Mm) (q : Rq) (T : Tw), i + n = z.2.2.2 + 1 → rS M b tb tp sc z a q → q.kd = k → q.st = p → k ≤ 4 → aTw M tb T → tI T → aSt ad lo M → Fr2 b tb M0 M → Ev ad 6 (rX5_readTown ad) (46, [some (.ref b), some (.int x1), some (.int (nI i))], [], M) (twP b tb tp sc z M0 (pFin (pLoop tp sc z.2.2.2 n T k a p))) := by
  intro n
  induction n with
  | zero =>
    intro i k a p M q T hn hq hk hp hk4 hT hI hS hG
    have h0 := hq.1.1
    unfold aR0 at h0
    have hle := hq.2.2.2.2.2.2.2
    have hle2 := hq.2.2.2.2.1
    rw [pLoop]
    repeat (first | refine es rfl rfl rfl ?_ | refine eg rfl (by assumption) rfl ?_ | refine ean rfl (by assumption) (by assumption) rfl ?_ | refine eal rfl (by assumption) (by assumption) rfl ?_ | refine eri rfl ?_ | refine erv rfl ?_ | refine erl rfl ?_ | refine era rfl ?_ | refine erz0 rfl ?_ | refine erz1 rfl ?_)
    try dsimp only [set1, set2, kilP, List.set_cons_zero, List.set_cons_succ, List.getElem?_cons_zero, List.getElem?_cons_succ, List.nil_append, List.cons_append, Option.toList_some, Option.toList_none]
    refine ei _ rfl rfl (fun c => ?_) (fun c => ?_)
    · exact e5_rt_end hq hp hT htb hI.1.1.1 hG
    · repeat (first | refine es rfl rfl rfl ?_ | refine eg rfl (by assumption) rfl ?_ | refine ean rfl (by assumption) (by assumption) rfl ?_ | refine eal rfl (by assumption) (by assumption) rfl ?_ | refine eri rfl ?_ | refine erv rfl ?_ | refine erl rfl ?_ | refine era rfl ?_ | refine erz0 rfl ?_ | refine erz1 rfl ?_)
      try dsimp only [set1, set2, kilP, List.set_cons_zero, List.set_cons_succ, List.getElem?_cons_zero, List.getElem?_cons_succ, List.nil_append, List.cons_append, Option.toList_some, Option.toList_none]
      refine ei _ rfl rfl (fun c2 => ?_) (fun c2 => ?_)
      · exact e5_rt_end hq hp hT htb hI.1.1.1 hG
      · exact absurd (nI_lt (by omega) (by omega)) c2
  | succ n ih =>
    intro i k a p M q T hn hq hk hp hk4 hT hI hS hG
    have h0 := hq.1.1
    unfold aR0 at h0
    have hle := hq.2.2.2.2.2.2.2
    have hle2 := hq.2.2.2.2.1
    rw [pLoop]
    rw [hk] at h0
    repeat (first | refine es rfl rfl rfl ?_ | refine eg rfl (by assumption) rfl ?_ | refine ean rfl (by assumption) (by assumption) rfl ?_ | refine eal rfl (by assumption) (by assumption) rfl ?_ | refine eri rfl ?_ | refine erv rfl ?_ | refine erl rfl ?_ | refine era rfl ?_ | refine erz0 rfl ?_ | refine erz1 rfl ?_)
    try dsimp only [set1, set2, kilP, List.set_cons_zero, List.set_cons_succ, List.getElem?_cons_zero, List.getElem?_cons_succ, List.nil_append, List.cons_append, Option.toList_some, Option.toList_none]
    by_cases hk0 : k = 0
    · rw [if_pos hk0]
      refine ei _ rfl rfl (fun c => ?_) (fun c => ?_)
      · exact e5_rt_end hq hp hT htb hI.1.1.1 hG
      · exact absurd (by rw [hk0]; rfl) c
    rw [if_neg hk0]
    refine ei _ rfl rfl (fun c => ?_) (fun c => ?_)
    · exact absurd c (nI_ne0 (by omega) (by omega))
    repeat (first | refine es rfl rfl rfl ?_ | refine eg rfl (by assumption) rfl ?_ | refine ean rfl (by assumption) (by assumption) rfl ?_ | refine eal rfl (by assumption) (by assumption) rfl ?_ | refine eri rfl ?_ | refine erv rfl ?_ | refine erl rfl ?_ | refine era rfl ?_ | refine erz0 rfl ?_ | refine erz1 rfl ?_)
    try dsimp only [set1, set2, kilP, List.set_cons_zero, List.set_cons_succ, List.getElem?_cons_zero, List.getElem?_cons_succ, List.nil_append, List.cons_append, Option.toList_some, Option.toList_none]
    refine ei _ rfl rfl (fun c2 => ?_) (fun c2 => ?_)
    · exact absurd c2 (nI_nlt (by omega) (by omega))
    repeat (first | refine es rfl rfl rfl ?_ | refine eg rfl (by assumption) rfl ?_ | refine ean rfl (by assumption) (by assumption) rfl ?_ | refine eal rfl (by assumption) (by assumption) rfl ?_ | refine eri rfl ?_ | refine erv rfl ?_ | refine erl rfl ?_ | refine era rfl ?_ | refine erz0 rfl ?_ | refine erz1 rfl ?_)
    try dsimp only [set1, set2, kilP, List.set_cons_zero, List.set_cons_succ, List.getElem?_cons_zero, List.getElem?_cons_succ, List.nil_append, List.cons_append, Option.toList_some, Option.toList_none]
    by_cases hk3 : k = 3
    rotate_left
    · rw [if_pos hk3]
      refine ei _ rfl rfl (fun c3 => ?_) (fun c3 => ?_)
      · exact absurd (nI_inj (b := 3) (by omega) (by omega) c3) hk3
      · repeat (first | refine es rfl rfl rfl ?_ | refine eg rfl (by assumption) rfl ?_ | refine ean rfl (by assumption) (by assumption) rfl ?_ | refine eal rfl (by assumption) (by assumption) rfl ?_ | refine eri rfl ?_ | refine erv rfl ?_ | refine erl rfl ?_ | refine era rfl ?_ | refine erz0 rfl ?_ | refine erz1 rfl ?_)
        try dsimp only [set1, set2, kilP, List.set_cons_zero, List.set_cons_succ, List.getElem?_cons_zero, List.getElem?_cons_succ, List.nil_append, List.cons_append, Option.toList_some, Option.toList_none]
        refine ecv rfl rfl (by assumption) rfl rfl rfl (e5_fail hq.1) (by first | rfl | exact Nat.blt_eq.mpr (by omega)) ?_
        rintro v M2 ⟨rfl, hb2, hF2⟩
        try dsimp only [set1, set2, kilP, List.set_cons_zero, List.set_cons_succ, List.getElem?_cons_zero, List.getElem?_cons_succ, List.nil_append, List.cons_append, Option.toList_some, Option.toList_none]
        repeat (first | refine es rfl rfl rfl ?_ | refine eg rfl (by assumption) rfl ?_ | refine ean rfl (by assumption) (by assumption) rfl ?_ | refine eal rfl (by assumption) (by assumption) rfl ?_ | refine eri rfl ?_ | refine erv rfl ?_ | refine erl rfl ?_ | refine era rfl ?_ | refine erz0 rfl ?_ | refine erz1 rfl ?_)
        try dsimp only [set1, set2, kilP, List.set_cons_zero, List.set_cons_succ, List.getElem?_cons_zero, List.getElem?_cons_succ, List.nil_append, List.cons_append, Option.toList_some, Option.toList_none]
        exact ⟨hG.w hF2, rfl, ⟨_, hb2, rfl, congrArg nI hp, hq.2.2.2.1⟩, _, hT.fr hF2 (by unfold okTb at htb; omega)⟩
    rw [if_neg (fun h => h hk3)]
    refine ei _ rfl rfl (fun c3 => ?_) (fun c3 => ?_)
    rotate_left
    · exact absurd (by rw [hk3]; rfl) c3
    repeat (first | refine es rfl rfl rfl ?_ | refine eg rfl (by assumption) rfl ?_ | refine ean rfl (by assumption) (by assumption) rfl ?_ | refine eal rfl (by assumption) (by assumption) rfl ?_ | refine eri rfl ?_ | refine erv rfl ?_ | refine erl rfl ?_ | refine era rfl ?_ | refine erz0 rfl ?_ | refine erz1 rfl ?_)
    try dsimp only [set1, set2, kilP, List.set_cons_zero, List.set_cons_succ, List.getElem?_cons_zero, List.getElem?_cons_succ, List.nil_append, List.cons_append, Option.toList_some, Option.toList_none]
    refine ecv rfl rfl (by assumption) rfl rfl rfl (e5_line hq hT hS hlo htb hI.1.1) (by first | rfl | exact Nat.blt_eq.mpr (by omega)) ?_
    rintro v M2 ⟨hG2, hm⟩
    have hG := hG.tr hG2
    have hS := hS.fr2 hG2 hlo htb
    rcases hp2 : pLn tp sc z.2.2.2 T a with e | ⟨T', a'⟩
    · rw [hp2] at hm
      obtain ⟨rfl, hE, T2, hT2⟩ := hm
      try dsimp only [set1, set2, kilP, List.set_cons_zero, List.set_cons_succ, List.getElem?_cons_zero, List.getElem?_cons_succ, List.nil_append, List.cons_append, Option.toList_some, Option.toList_none]
      repeat (first | refine es rfl rfl rfl ?_ | refine eg rfl (by assumption) rfl ?_ | refine ean rfl (by assumption) (by assumption) rfl ?_ | refine eal rfl (by assumption) (by assumption) rfl ?_ | refine eri rfl ?_ | refine erv rfl ?_ | refine erl rfl ?_ | refine era rfl ?_ | refine erz0 rfl ?_ | refine erz1 rfl ?_)
      try dsimp only [set1, set2, kilP, List.set_cons_zero, List.set_cons_succ, List.getElem?_cons_zero, List.getElem?_cons_succ, List.nil_append, List.cons_append, Option.toList_some, Option.toList_none]
      exact ⟨hG, rfl, hE, _, hT2⟩
    rw [hp2] at hm
    obtain ⟨rfl, ⟨q2, hq2⟩, hT2⟩ := hm
    have hI2 := tI_Ln hI hq.2.2.2.2.2.2.1 hp2
    have h0 := hq2.1.1
    unfold aR0 at h0
    try dsimp only [set1, set2, kilP, List.set_cons_zero, List.set_cons_succ, List.getElem?_cons_zero, List.getElem?_cons_succ, List.nil_append, List.cons_append, Option.toList_some, Option.toList_none]
    repeat (first | refine es rfl rfl rfl ?_ | refine eg rfl (by assumption) rfl ?_ | refine ean rfl (by assumption) (by assumption) rfl ?_ | refine eal rfl (by assumption) (by assumption) rfl ?_ | refine eri rfl ?_ | refine erv rfl ?_ | refine erl rfl ?_ | refine era rfl ?_ | refine erz0 rfl ?_ | refine erz1 rfl ?_)
    try dsimp only [set1, set2, kilP, List.set_cons_zero, List.set_cons_succ, List.getElem?_cons_zero, List.getElem?_cons_succ, List.nil_append, List.cons_append, Option.toList_some, Option.toList_none]
    refine ecv rfl rfl (by assumption) rfl rfl rfl (e5_advance hq2.1 (by have := hq2.2.2.2.2.1; omega) (by have := hq2.2.2.2.2.1; have := hq2.2.2.2.2.2.1; have := hq2.2.2.2.2.2.2; dsimp only at *; omega)) (by first | rfl | exact Nat.blt_eq.mpr (by omega)) ?_
    rintro v M3 ⟨rfl, hb3, hF3⟩
    have hq3 := hq2.a hb3
    have htk := adv_tk tp hq2.2.2.2.2.1 hq2.2.2.2.2.2.1
    try dsimp only [set1, set2, kilP, List.set_cons_zero, List.set_cons_succ, List.getElem?_cons_zero, List.getElem?_cons_succ, List.nil_append, List.cons_append, Option.toList_some, Option.toList_none]
    repeat (refine ng 46 rfl ?_; first | refine es rfl rfl rfl ?_ | refine eg rfl (by assumption) rfl ?_ | refine ean rfl (by assumption) (by assumption) rfl ?_ | refine eal rfl (by assumption) (by assumption) rfl ?_ | refine eri rfl ?_ | refine erv rfl ?_ | refine erl rfl ?_ | refine era rfl ?_ | refine erz0 rfl ?_ | refine erz1 rfl ?_)
    try dsimp only [set1, set2, kilP, List.set_cons_zero, List.set_cons_succ, List.getElem?_cons_zero, List.getElem?_cons_succ, List.nil_append, List.cons_append, Option.toList_some, Option.toList_none]
    rw [nI_1]
    exact ih (i + 1) _ _ _ M3 _ T' (by omega) hq3 htk.2.2.1 htk.1 (tk_b tp hI2.2.2).2.2.2.2 (hT2.fr hF3 (by unfold okTb at htb; omega)) hI2.1 (hS.fr hF3 hlo) (hG.w hF3)
theorem e5_readTown {ad : Nat → Nat} {M : Mm} {b tb lo n : Nat} {tp : Nat → Int32} {sc : Nat → Int64} {q : Rq} {T : Tw} (hlo : lo ≤ b) (htb : okTb b tb) (hq : aRq M b tb tp sc q) (hT : aTw M tb T) (hS : aSt ad lo M) (hts : q.ts ≤ 1100) (hn : n ≤ q.ts) : EvM ad 6 (iX5_readTown ad) [.ref b, .int (nI n)] M (fun v M' => ∃ T0, twE T0 ∧ twP b tb tp sc (0, -1, 0, n) M (pTown tp sc n T0) v M') := by
  obtain ⟨h0, h1, h2⟩ := hq
  unfold aR0 at h0
  have hG := Fr2.rf b tb M
  refine ⟨Nat.le_of_ble_eq_true rfl, ?_⟩
  show Ev ad _ (rX5_readTown ad) (0, [some (.ref b), some (.int (nI n)), none], [], M) _
  repeat (first | refine es rfl rfl rfl ?_ | refine eg rfl (by assumption) rfl ?_ | refine ean rfl (by assumption) (by assumption) rfl ?_ | refine eal rfl (by assumption) (by assumption) rfl ?_ | refine eri rfl ?_ | refine erv rfl ?_ | refine erl rfl ?_ | refine era rfl ?_ | refine erz0 rfl ?_ | refine erz1 rfl ?_)
  try dsimp only [set1, set2, kilP, List.set_cons_zero, List.set_cons_succ, List.getElem?_cons_zero, List.getElem?_cons_succ, List.nil_append, List.cons_append, Option.toList_some, Option.toList_none]
  refine ecsr rfl rfl rfl rfl rfl rfl (ej_min) (by first | rfl | exact Nat.blt_eq.mpr (by omega)) rfl ?_
  rw [show minF (nI n) (nI q.ts) = nI n from if_neg (nI_nlt (by omega) (by omega))]
  have hstep : ∀ {M M2 : Mm} {x : Ce}, aTw M tb T → M2 = up M b x → aTw M2 tb T := fun h e => h.fr ((Fr.rf b 1 _).up e (by omega) (by omega)) (by unfold okTb at htb; omega)
  have hstepS : ∀ {M M2 : Mm} {x : Ce}, aSt ad lo M → M2 = up M b x → aSt ad lo M2 := fun h e => h.fr ((Fr.rf b 1 _).up e (by omega) (by omega)) hlo
  have hstepG : ∀ {M M1 M2 : Mm} {x : Ce}, Fr2 b tb M M1 → M2 = up M1 b x → Fr2 b tb M M2 := fun h e => h.w ((Fr.rf b 1 _).up e (by omega) (by omega))
  refine epM rfl (by assumption) rfl rfl rfl (fun M2 eM => ?_)
  have k0 := up_w eM
  replace h1 := up_k eM h1 (by omega)
  replace h2 := up_k eM h2 (by omega)
  replace hT := hstep hT eM; replace hS := hstepS hS eM; replace hG := hstepG hG eM
  repeat (first | refine es rfl rfl rfl ?_ | refine eg rfl (by assumption) rfl ?_ | refine ean rfl (by assumption) (by assumption) rfl ?_ | refine eal rfl (by assumption) (by assumption) rfl ?_ | refine eri rfl ?_ | refine erv rfl ?_ | refine erl rfl ?_ | refine era rfl ?_ | refine erz0 rfl ?_ | refine erz1 rfl ?_)
  try dsimp only [set1, set2, kilP, List.set_cons_zero, List.set_cons_succ, List.getElem?_cons_zero, List.getElem?_cons_succ, List.nil_append, List.cons_append, Option.toList_some, Option.toList_none]
  refine epM rfl (by assumption) rfl rfl rfl (fun M3 eM3 => ?_)
  have k1 := up_w eM3
  replace h1 := up_k eM3 h1 (by omega)
  replace h2 := up_k eM3 h2 (by omega)
  replace hT := hstep hT eM3; replace hS := hstepS hS eM3; replace hG := hstepG hG eM3
  repeat (first | refine es rfl rfl rfl ?_ | refine eg rfl (by assumption) rfl ?_ | refine ean rfl (by assumption) (by assumption) rfl ?_ | refine eal rfl (by assumption) (by assumption) rfl ?_ | refine eri rfl ?_ | refine erv rfl ?_ | refine erl rfl ?_ | refine era rfl ?_ | refine erz0 rfl ?_ | refine erz1 rfl ?_)
  try dsimp only [set1, set2, kilP, List.set_cons_zero, List.set_cons_succ, List.getElem?_cons_zero, List.getElem?_cons_succ, List.nil_append, List.cons_append, Option.toList_some, Option.toList_none]
  refine epM rfl (by assumption) rfl rfl rfl (fun M4 eM4 => ?_)
  have k2 := up_w eM4
  replace h1 := up_k eM4 h1 (by omega)
  replace h2 := up_k eM4 h2 (by omega)
  replace hT := hstep hT eM4; replace hS := hstepS hS eM4; replace hG := hstepG hG eM4
  repeat (first | refine es rfl rfl rfl ?_ | refine eg rfl (by assumption) rfl ?_ | refine ean rfl (by assumption) (by assumption) rfl ?_ | refine eal rfl (by assumption) (by assumption) rfl ?_ | refine eri rfl ?_ | refine erv rfl ?_ | refine erl rfl ?_ | refine era rfl ?_ | refine erz0 rfl ?_ | refine erz1 rfl ?_)
  try dsimp only [set1, set2, kilP, List.set_cons_zero, List.set_cons_succ, List.getElem?_cons_zero, List.getElem?_cons_succ, List.nil_append, List.cons_append, Option.toList_some, Option.toList_none]
  refine epM rfl (by assumption) rfl rfl rfl (fun M5 eM5 => ?_)
  have k3 := up_w eM5
  replace h1 := up_k eM5 h1 (by omega)
  replace h2 := up_k eM5 h2 (by omega)
  replace hT := hstep hT eM5; replace hS := hstepS hS eM5; replace hG := hstepG hG eM5
  repeat (first | refine es rfl rfl rfl ?_ | refine eg rfl (by assumption) rfl ?_ | refine ean rfl (by assumption) (by assumption) rfl ?_ | refine eal rfl (by assumption) (by assumption) rfl ?_ | refine eri rfl ?_ | refine erv rfl ?_ | refine erl rfl ?_ | refine era rfl ?_ | refine erz0 rfl ?_ | refine erz1 rfl ?_)
  try dsimp only [set1, set2, kilP, List.set_cons_zero, List.set_cons_succ, List.getElem?_cons_zero, List.getElem?_cons_succ, List.nil_append, List.cons_append, Option.toList_some, Option.toList_none]
  refine epM rfl (by assumption) rfl rfl rfl (fun M6 eM6 => ?_)
  have k4 := up_w eM6
  replace h1 := up_k eM6 h1 (by omega)
  replace h2 := up_k eM6 h2 (by omega)
  replace hT := hstep hT eM6; replace hS := hstepS hS eM6; replace hG := hstepG hG eM6
  repeat (first | refine es rfl rfl rfl ?_ | refine eg rfl (by assumption) rfl ?_ | refine ean rfl (by assumption) (by assumption) rfl ?_ | refine eal rfl (by assumption) (by assumption) rfl ?_ | refine eri rfl ?_ | refine erv rfl ?_ | refine erl rfl ?_ | refine era rfl ?_ | refine erz0 rfl ?_ | refine erz1 rfl ?_)
  try dsimp only [set1, set2, kilP, List.set_cons_zero, List.set_cons_succ, List.getElem?_cons_zero, List.getElem?_cons_succ, List.nil_append, List.cons_append, Option.toList_some, Option.toList_none]
  refine epM rfl (by assumption) rfl rfl rfl (fun M7 eM7 => ?_)
  have k5 := up_w eM7
  replace h1 := up_k eM7 h1 (by omega)
  replace h2 := up_k eM7 h2 (by omega)
  replace hT := hstep hT eM7; replace hS := hstepS hS eM7; replace hG := hstepG hG eM7
  have t0 := hT.1.1
  repeat (first | refine es rfl rfl rfl ?_ | refine eg rfl (by assumption) rfl ?_ | refine ean rfl (by assumption) (by assumption) rfl ?_ | refine eal rfl (by assumption) (by assumption) rfl ?_ | refine eri rfl ?_ | refine erv rfl ?_ | refine erl rfl ?_ | refine era rfl ?_ | refine erz0 rfl ?_ | refine erz1 rfl ?_)
  try dsimp only [set1, set2, kilP, List.set_cons_zero, List.set_cons_succ, List.getElem?_cons_zero, List.getElem?_cons_succ, List.nil_append, List.cons_append, Option.toList_some, Option.toList_none]
  refine ecv rfl rfl (by assumption) rfl rfl rfl (e9_clear hT) (by first | rfl | exact Nat.blt_eq.mpr (by omega)) ?_
  rintro v M8 ⟨rfl, ⟨T0, hE, hT8⟩, hF8⟩
  try dsimp only [set1, set2, kilP, List.set_cons_zero, List.set_cons_succ, List.getElem?_cons_zero, List.getElem?_cons_succ, List.nil_append, List.cons_append, Option.toList_some, Option.toList_none]
  repeat (refine ng 46 rfl ?_; first | refine es rfl rfl rfl ?_ | refine eg rfl (by assumption) rfl ?_ | refine ean rfl (by assumption) (by assumption) rfl ?_ | refine eal rfl (by assumption) (by assumption) rfl ?_ | refine eri rfl ?_ | refine erv rfl ?_ | refine erl rfl ?_ | refine era rfl ?_ | refine erz0 rfl ?_ | refine erz1 rfl ?_)
  try dsimp only [set1, set2, kilP, List.set_cons_zero, List.set_cons_succ, List.getElem?_cons_zero, List.getElem?_cons_succ, List.nil_append, List.cons_append, Option.toList_some, Option.toList_none]
  have hq8 : rS M8 b tb tp sc (0, -1, 0, n) 0 (0, -1, 0, n, 0, 3, q.st, q.wd, q.wh, q.hr) := ⟨⟨(hF8.1 _ (by unfold okTb at htb; omega)).trans k5, (hF8.1 _ (by unfold okTb at htb; omega)).trans h1, (hF8.1 _ (by unfold okTb at htb; omega)).trans h2⟩, rfl, rfl, rfl, rfl, rfl, (show 0 ≤ n by omega), (show n ≤ 1100 by omega)⟩
  have hl := e5_rt_loop (ad := ad) (M0 := M) (x1 := nI n) hlo htb (n + 1) 0 3 0 q.st M8 _ T0 (by dsimp only; omega) hq8 rfl rfl (by omega) hT8 (twE_tI hE) (fun i hi => ⟨(hS i hi).1, (hF8.1 _ (by have := (hS i hi).1; unfold okTb at htb; omega)).trans (hS i hi).2⟩) (hG.t hF8 (by omega) (by omega))
  refine hl.im (fun v M' h => ⟨T0, hE, ?_⟩)
  rw [pTown_fin]
  exact h
theorem e5_change {ad : Nat → Nat} {M : Mm} {b tb tb2 : Nat} {tp : Nat → Int32} {sc : Nat → Int64} {q : Rq} (hq : aRq M b tb tp sc q) : EvM ad 0 (iX5_changeTown ad) [.ref b, .ref tb2] M (fun v' M' => v' = some (.ref tb) ∧ aRq M' b tb2 tp sc q ∧ Fr b 1 M M') := by
  obtain ⟨h0, h1, h2⟩ := hq
  unfold aR0 at h0
  refine ⟨Nat.le_of_ble_eq_true rfl, ?_⟩
  show Ev ad _ (rX5_changeTown ad) (0, [some (.ref b), some (.ref tb2), none], [], M) _
  repeat (first | refine es rfl rfl rfl ?_ | refine eg rfl (by assumption) rfl ?_ | refine ean rfl (by assumption) (by assumption) rfl ?_ | refine eal rfl (by assumption) (by assumption) rfl ?_ | refine eri rfl ?_ | refine erv rfl ?_ | refine erl rfl ?_ | refine era rfl ?_ | refine erz0 rfl ?_ | refine erz1 rfl ?_)
  try dsimp only [set1, set2, kilP, List.set_cons_zero, List.set_cons_succ, List.getElem?_cons_zero, List.getElem?_cons_succ, List.nil_append, List.cons_append, Option.toList_some, Option.toList_none]
  refine epM rfl (by assumption) rfl rfl rfl (fun M2 eM => ?_)
  have k0 := up_w eM
  replace h1 := up_k eM h1 (by omega)
  replace h2 := up_k eM h2 (by omega)
  repeat (first | refine es rfl rfl rfl ?_ | refine eg rfl (by assumption) rfl ?_ | refine ean rfl (by assumption) (by assumption) rfl ?_ | refine eal rfl (by assumption) (by assumption) rfl ?_ | refine eri rfl ?_ | refine erv rfl ?_ | refine erl rfl ?_ | refine era rfl ?_ | refine erz0 rfl ?_ | refine erz1 rfl ?_)
  try dsimp only [set1, set2, kilP, List.set_cons_zero, List.set_cons_succ, List.getElem?_cons_zero, List.getElem?_cons_succ, List.nil_append, List.cons_append, Option.toList_some, Option.toList_none]
  exact ⟨rfl, ⟨k0, h1, h2⟩, (Fr.rf b 1 M).up eM (by omega) (by omega)⟩
def btF (x i : Int32) : Int32 := x >>> ((8 * i) &&& 31) &&& 255
theorem bt_255 (y : Int32) : narT 2 ((y &&& 255).toUInt32 % 65536).toInt32 = y &&& 255 := by
  have h : (y &&& 255).toUInt32.toNat < 256 := by
    show (y.toBitVec &&& 255#32).toNat < 256
    rw [BitVec.toNat_and]
    exact Nat.lt_of_le_of_lt Nat.and_le_right (by decide)
  have h1 : ((y &&& 255).toUInt32 % 65536) = (y &&& 255).toUInt32 := by
    apply UInt32.toNat_inj.mp
    rw [UInt32.toNat_mod]
    exact Nat.mod_eq_of_lt (Nat.lt_trans h (by decide))
  unfold narT
  rw [h1, if_pos rfl]
  unfold vp_nar
  rw [show ((y &&& 255).toUInt32).toInt32 = y &&& 255 by simp, show narrow .char (.int (y &&& 255)) = .int ((y &&& 255).toUInt32 % 65536).toInt32 from rfl, h1]
  simp
theorem e5_put {ad : Nat → Nat} {M : Mm} {b tb : Nat} {tp : Nat → Int32} {sc : Nat → Int64} {q : Rq} {x : Int32} (hq : aRq M b tb tp sc q) (hts : q.ts + 4 ≤ 1100) : EvM ad 0 (iX5_putNumber ad) [.ref b, .int x] M (fun v' M' => v' = none ∧ aRq M' b tb (upd (upd (upd (upd tp q.ts (btF x 3)) (q.ts + 1) (btF x 2)) (q.ts + 2) (btF x 1)) (q.ts + 3) (btF x 0)) sc (q.fn, q.fp, q.ts + 4, q.le, q.at, q.kd, q.st, q.wd, q.wh, q.hr) ∧ Fr b 2 M M') := by
  obtain ⟨h0, h1, h2⟩ := hq
  unfold aR0 at h0
  have hF := Fr.rf b 2 M
  have l0 : q.ts < 1100 := by omega
  have l1 : q.ts + 1 < 1100 := by omega
  have l2 : q.ts + 1 + 1 < 1100 := by omega
  have l3 : q.ts + 1 + 1 + 1 < 1100 := by omega
  refine ⟨Nat.le_of_ble_eq_true rfl, ?_⟩
  show Ev ad _ (rX5_putNumber ad) (0, [some (.ref b), some (.int x), none], [], M) _
  repeat (first | refine es rfl rfl rfl ?_ | refine eg rfl (by assumption) rfl ?_ | refine ean rfl (by assumption) (by assumption) rfl ?_ | refine eal rfl (by assumption) (by assumption) rfl ?_ | refine eri rfl ?_ | refine erv rfl ?_ | refine erl rfl ?_ | refine era rfl ?_ | refine erz0 rfl ?_ | refine erz1 rfl ?_)
  try dsimp only [set1, set2, kilP, List.set_cons_zero, List.set_cons_succ, List.getElem?_cons_zero, List.getElem?_cons_succ, List.nil_append, List.cons_append, Option.toList_some, Option.toList_none]
  rw [show nI q.ts + 4 = nI (q.ts + 4) from nI_add _ 4]
  refine ei _ rfl rfl (fun c => ?_) (fun c => ?_)
  rotate_left
  · exact absurd (nI_le (b := 1100) (by omega) (by omega)) c
  repeat (first | refine es rfl rfl rfl ?_ | refine eg rfl (by assumption) rfl ?_ | refine ean rfl (by assumption) (by assumption) rfl ?_ | refine eal rfl (by assumption) (by assumption) rfl ?_ | refine eri rfl ?_ | refine erv rfl ?_ | refine erl rfl ?_ | refine era rfl ?_ | refine erz0 rfl ?_ | refine erz1 rfl ?_)
  try dsimp only [set1, set2, kilP, List.set_cons_zero, List.set_cons_succ, List.getElem?_cons_zero, List.getElem?_cons_succ, List.nil_append, List.cons_append, Option.toList_some, Option.toList_none]
  refine etxM rfl (by assumption) (by assumption) rfl (fun M2 eM => ?_)
  have k1 := up_w eM
  replace h0 := up_k eM h0 (by omega)
  replace h2 := up_k eM h2 (by omega)
  replace hF := hF.up eM (by omega) (by omega)
  repeat (first | refine es rfl rfl rfl ?_ | refine eg rfl (by assumption) rfl ?_ | refine ean rfl (by assumption) (by assumption) rfl ?_ | refine eal rfl (by assumption) (by assumption) rfl ?_ | refine eri rfl ?_ | refine erv rfl ?_ | refine erl rfl ?_ | refine era rfl ?_ | refine erz0 rfl ?_ | refine erz1 rfl ?_)
  try dsimp only [set1, set2, kilP, List.set_cons_zero, List.set_cons_succ, List.getElem?_cons_zero, List.getElem?_cons_succ, List.nil_append, List.cons_append, Option.toList_some, Option.toList_none]
  rw [nI_1]
  refine epM rfl (by assumption) rfl rfl rfl (fun M3 eM3 => ?_)
  have k0 := up_w eM3
  replace k1 := up_k eM3 k1 (by omega)
  replace h2 := up_k eM3 h2 (by omega)
  replace hF := hF.up eM3 (by omega) (by omega)
  repeat (first | refine es rfl rfl rfl ?_ | refine eg rfl (by assumption) rfl ?_ | refine ean rfl (by assumption) (by assumption) rfl ?_ | refine eal rfl (by assumption) (by assumption) rfl ?_ | refine eri rfl ?_ | refine erv rfl ?_ | refine erl rfl ?_ | refine era rfl ?_ | refine erz0 rfl ?_ | refine erz1 rfl ?_)
  try dsimp only [set1, set2, kilP, List.set_cons_zero, List.set_cons_succ, List.getElem?_cons_zero, List.getElem?_cons_succ, List.nil_append, List.cons_append, Option.toList_some, Option.toList_none]
  refine etxM rfl (by assumption) (by assumption) rfl (fun M4 eM4 => ?_)
  have k2 := up_w eM4
  replace k0 := up_k eM4 k0 (by omega)
  replace h2 := up_k eM4 h2 (by omega)
  replace hF := hF.up eM4 (by omega) (by omega)
  repeat (first | refine es rfl rfl rfl ?_ | refine eg rfl (by assumption) rfl ?_ | refine ean rfl (by assumption) (by assumption) rfl ?_ | refine eal rfl (by assumption) (by assumption) rfl ?_ | refine eri rfl ?_ | refine erv rfl ?_ | refine erl rfl ?_ | refine era rfl ?_ | refine erz0 rfl ?_ | refine erz1 rfl ?_)
  try dsimp only [set1, set2, kilP, List.set_cons_zero, List.set_cons_succ, List.getElem?_cons_zero, List.getElem?_cons_succ, List.nil_append, List.cons_append, Option.toList_some, Option.toList_none]
  rw [nI_1]
  refine epM rfl (by assumption) rfl rfl rfl (fun M5 eM5 => ?_)
  have k3 := up_w eM5
  replace k2 := up_k eM5 k2 (by omega)
  replace h2 := up_k eM5 h2 (by omega)
  replace hF := hF.up eM5 (by omega) (by omega)
  repeat (first | refine es rfl rfl rfl ?_ | refine eg rfl (by assumption) rfl ?_ | refine ean rfl (by assumption) (by assumption) rfl ?_ | refine eal rfl (by assumption) (by assumption) rfl ?_ | refine eri rfl ?_ | refine erv rfl ?_ | refine erl rfl ?_ | refine era rfl ?_ | refine erz0 rfl ?_ | refine erz1 rfl ?_)
  try dsimp only [set1, set2, kilP, List.set_cons_zero, List.set_cons_succ, List.getElem?_cons_zero, List.getElem?_cons_succ, List.nil_append, List.cons_append, Option.toList_some, Option.toList_none]
  refine etxM rfl (by assumption) (by assumption) rfl (fun M6 eM6 => ?_)
  have k4 := up_w eM6
  replace k3 := up_k eM6 k3 (by omega)
  replace h2 := up_k eM6 h2 (by omega)
  replace hF := hF.up eM6 (by omega) (by omega)
  repeat (first | refine es rfl rfl rfl ?_ | refine eg rfl (by assumption) rfl ?_ | refine ean rfl (by assumption) (by assumption) rfl ?_ | refine eal rfl (by assumption) (by assumption) rfl ?_ | refine eri rfl ?_ | refine erv rfl ?_ | refine erl rfl ?_ | refine era rfl ?_ | refine erz0 rfl ?_ | refine erz1 rfl ?_)
  try dsimp only [set1, set2, kilP, List.set_cons_zero, List.set_cons_succ, List.getElem?_cons_zero, List.getElem?_cons_succ, List.nil_append, List.cons_append, Option.toList_some, Option.toList_none]
  rw [nI_1]
  refine epM rfl (by assumption) rfl rfl rfl (fun M7 eM7 => ?_)
  have k5 := up_w eM7
  replace k4 := up_k eM7 k4 (by omega)
  replace h2 := up_k eM7 h2 (by omega)
  replace hF := hF.up eM7 (by omega) (by omega)
  repeat (first | refine es rfl rfl rfl ?_ | refine eg rfl (by assumption) rfl ?_ | refine ean rfl (by assumption) (by assumption) rfl ?_ | refine eal rfl (by assumption) (by assumption) rfl ?_ | refine eri rfl ?_ | refine erv rfl ?_ | refine erl rfl ?_ | refine era rfl ?_ | refine erz0 rfl ?_ | refine erz1 rfl ?_)
  try dsimp only [set1, set2, kilP, List.set_cons_zero, List.set_cons_succ, List.getElem?_cons_zero, List.getElem?_cons_succ, List.nil_append, List.cons_append, Option.toList_some, Option.toList_none]
  refine etxM rfl (by assumption) (by assumption) rfl (fun M8 eM8 => ?_)
  have k6 := up_w eM8
  replace k5 := up_k eM8 k5 (by omega)
  replace h2 := up_k eM8 h2 (by omega)
  replace hF := hF.up eM8 (by omega) (by omega)
  repeat (first | refine es rfl rfl rfl ?_ | refine eg rfl (by assumption) rfl ?_ | refine ean rfl (by assumption) (by assumption) rfl ?_ | refine eal rfl (by assumption) (by assumption) rfl ?_ | refine eri rfl ?_ | refine erv rfl ?_ | refine erl rfl ?_ | refine era rfl ?_ | refine erz0 rfl ?_ | refine erz1 rfl ?_)
  try dsimp only [set1, set2, kilP, List.set_cons_zero, List.set_cons_succ, List.getElem?_cons_zero, List.getElem?_cons_succ, List.nil_append, List.cons_append, Option.toList_some, Option.toList_none]
  rw [nI_1]
  refine epM rfl (by assumption) rfl rfl rfl (fun M9 eM9 => ?_)
  have k7 := up_w eM9
  replace k6 := up_k eM9 k6 (by omega)
  replace h2 := up_k eM9 h2 (by omega)
  replace hF := hF.up eM9 (by omega) (by omega)
  repeat (first | refine es rfl rfl rfl ?_ | refine eg rfl (by assumption) rfl ?_ | refine ean rfl (by assumption) (by assumption) rfl ?_ | refine eal rfl (by assumption) (by assumption) rfl ?_ | refine eri rfl ?_ | refine erv rfl ?_ | refine erl rfl ?_ | refine era rfl ?_ | refine erz0 rfl ?_ | refine erz1 rfl ?_)
  try dsimp only [set1, set2, kilP, List.set_cons_zero, List.set_cons_succ, List.getElem?_cons_zero, List.getElem?_cons_succ, List.nil_append, List.cons_append, Option.toList_some, Option.toList_none]
  rw [bt_255, bt_255, bt_255, bt_255] at k6
  exact ⟨rfl, ⟨k7, k6, h2⟩, hF⟩
/-! Now: the beginning -/
theorem e3_beg1 {ad : Nat → Nat} {b tb : Nat} {T : Tw} {P : Option Value → Mm → Prop} (hd : tb + 22 ≤ b ∨ b + 2 ≤ tb) : ∀ (n i : Nat) (M0 M : Mm) (f : Nat → Int32), aNw M b f → aTw M tb T → Fr b 2 M0 M → i + n = 7 → (∀ j, j < i → f j = T.hs.to j) → (∀ L2 M' f', (∀ j, j < 7 → f' j = T.hs.to j) → aNw M' b f' → aTw M' tb T → Fr b 2 M0 M' → Ev ad 0 (rX3_begin ad) (29, [some (.ref b), some (.ref tb), L2], [], M') P) → Ev ad 0 (rX3_begin ad) (2, [some (.ref b), some (.ref tb), some (.int (nI i))], [], M) P := by
  intro n
  induction n with
  | zero =>
    intro i M0 M f hb hT hF hn hz hk
    repeat (first | refine es rfl rfl rfl ?_ | refine eg rfl (by assumption) rfl ?_ | refine ean rfl (by assumption) (by assumption) rfl ?_ | refine eal rfl (by assumption) (by assumption) rfl ?_ | refine eri rfl ?_ | refine erv rfl ?_ | refine erl rfl ?_ | refine era rfl ?_ | refine erz0 rfl ?_ | refine erz1 rfl ?_)
    try dsimp only [set1, set2, kilP, List.set_cons_zero, List.set_cons_succ, List.getElem?_cons_zero, List.getElem?_cons_succ, List.nil_append, List.cons_append, Option.toList_some, Option.toList_none]
    refine ei _ rfl rfl (fun c => ?_) (fun c => ?_)
    · exact hk _ M f (fun j hj => hz j (by omega)) hb hT hF
    · exact absurd (nI_le (a := 7) (by omega) (by omega)) c
  | succ n ih =>
    intro i M0 M f hb hT hF hn hz hk
    have hb' := hb
    obtain ⟨h0, h1⟩ := hb
    have t0 := hT.1.1
    have s0 := hT.2.1.1
    have g6 := hT.2.1.2.2.2.2.2.2.1
    have hi : i < 7 := by omega
    have hi2 : i < 16 := by omega
    repeat (first | refine es rfl rfl rfl ?_ | refine eg rfl (by assumption) rfl ?_ | refine ean rfl (by assumption) (by assumption) rfl ?_ | refine eal rfl (by assumption) (by assumption) rfl ?_ | refine eri rfl ?_ | refine erv rfl ?_ | refine erl rfl ?_ | refine era rfl ?_ | refine erz0 rfl ?_ | refine erz1 rfl ?_)
    try dsimp only [set1, set2, kilP, List.set_cons_zero, List.set_cons_succ, List.getElem?_cons_zero, List.getElem?_cons_succ, List.nil_append, List.cons_append, Option.toList_some, Option.toList_none]
    refine ei _ rfl rfl (fun c => ?_) (fun c => ?_)
    · exact absurd c (nI_ge (b := 7) (by omega) (by omega))
    · repeat (first | refine es rfl rfl rfl ?_ | refine eg rfl (by assumption) rfl ?_ | refine ean rfl (by assumption) (by assumption) rfl ?_ | refine eal rfl (by assumption) (by assumption) rfl ?_ | refine eri rfl ?_ | refine erv rfl ?_ | refine erl rfl ?_ | refine era rfl ?_ | refine erz0 rfl ?_ | refine erz1 rfl ?_)
      try dsimp only [set1, set2, kilP, List.set_cons_zero, List.set_cons_succ, List.getElem?_cons_zero, List.getElem?_cons_succ, List.nil_append, List.cons_append, Option.toList_some, Option.toList_none]
      refine etM rfl (by assumption) (by assumption) rfl (fun M2 eM => ?_)
      have k1 := up_w eM
      replace h0 := up_k eM h0 (by omega)
      replace hF := hF.up eM (by omega) (by omega)
      replace hT := hT.fr (lo := b) (n := 2) ((Fr.rf b 2 M).up eM (by omega) (by omega)) (by omega)
      repeat (refine ng 2 rfl ?_; first | refine es rfl rfl rfl ?_ | refine eg rfl (by assumption) rfl ?_ | refine ean rfl (by assumption) (by assumption) rfl ?_ | refine eal rfl (by assumption) (by assumption) rfl ?_ | refine eri rfl ?_ | refine erv rfl ?_ | refine erl rfl ?_ | refine era rfl ?_ | refine erz0 rfl ?_ | refine erz1 rfl ?_)
      try dsimp only [set1, set2, kilP, List.set_cons_zero, List.set_cons_succ, List.getElem?_cons_zero, List.getElem?_cons_succ, List.nil_append, List.cons_append, Option.toList_some, Option.toList_none]
      rw [nI_1]
      refine ih (i + 1) M0 M2 _ ⟨h0, k1⟩ hT hF (by omega) (fun j hj => ?_) hk
      by_cases e : j = i
      · rw [e, pk_us]
      · rw [pk_un e]; exact hz j (by omega)
theorem e3_beg2 {ad : Nat → Nat} {b tb : Nat} {T : Tw} (hp4 : T.np ≤ 4) (hd : tb + 22 ≤ b ∨ b + 2 ≤ tb) : ∀ (n i : Nat) (M0 M : Mm) (f : Nat → Int32), aNw M b f → aTw M tb T → Fr b 2 M0 M → i + n = 4 → (∀ j, j < 7 → f j = T.hs.to j) → f 7 = 0 → (∀ p, p < i → f (8 + p) = (if p < T.np then T.pl p else 0) ∧ f (12 + p) = 0) → Ev ad 0 (rX3_begin ad) (39, [some (.ref b), some (.ref tb), some (.int (nI i))], [], M) (fun v' M' => v' = none ∧ (∃ f', (∀ j, j < 7 → f' j = T.hs.to j) ∧ f' 7 = 0 ∧ (∀ p, p < 4 → f' (8 + p) = (if p < T.np then T.pl p else 0) ∧ f' (12 + p) = 0) ∧ aNw M' b f') ∧ Fr b 2 M0 M') := by
  intro n
  induction n with
  | zero =>
    intro i M0 M f hb hT hF hn hz h7 hp
    repeat (first | refine es rfl rfl rfl ?_ | refine eg rfl (by assumption) rfl ?_ | refine ean rfl (by assumption) (by assumption) rfl ?_ | refine eal rfl (by assumption) (by assumption) rfl ?_ | refine eri rfl ?_ | refine erv rfl ?_ | refine erl rfl ?_ | refine era rfl ?_ | refine erz0 rfl ?_ | refine erz1 rfl ?_)
    try dsimp only [set1, set2, kilP, List.set_cons_zero, List.set_cons_succ, List.getElem?_cons_zero, List.getElem?_cons_succ, List.nil_append, List.cons_append, Option.toList_some, Option.toList_none]
    refine ei _ rfl rfl (fun c => ?_) (fun c => ?_)
    · repeat (first | refine es rfl rfl rfl ?_ | refine eg rfl (by assumption) rfl ?_ | refine ean rfl (by assumption) (by assumption) rfl ?_ | refine eal rfl (by assumption) (by assumption) rfl ?_ | refine eri rfl ?_ | refine erv rfl ?_ | refine erl rfl ?_ | refine era rfl ?_ | refine erz0 rfl ?_ | refine erz1 rfl ?_)
      try dsimp only [set1, set2, kilP, List.set_cons_zero, List.set_cons_succ, List.getElem?_cons_zero, List.getElem?_cons_succ, List.nil_append, List.cons_append, Option.toList_some, Option.toList_none]
      exact ⟨rfl, ⟨f, hz, h7, fun p q => hp p (by omega), hb⟩, hF⟩
    · exact absurd (nI_le (a := 4) (by omega) (by omega)) c
  | succ n ih =>
    intro i M0 M f hb hT hF hn hz h7 hp
    obtain ⟨h0, h1⟩ := hb
    have t0 := hT.1.1
    have g8 := hT.1.2.2.2
    have hi : i < 4 := by omega
    have hi2 : 8 + i < 16 := by omega
    have hi3 : 12 + i < 16 := by omega
    have key : ∀ x : Int32, x = (if i < T.np then T.pl i else 0) → Ev ad 0 (rX3_begin ad) (70, [some (.ref b), some (.ref tb), some (.int (nI i))], [.int x, .int (nI (8 + i)), .ref (b + 1)], M) (fun v' M' => v' = none ∧ (∃ f', (∀ j, j < 7 → f' j = T.hs.to j) ∧ f' 7 = 0 ∧ (∀ p, p < 4 → f' (8 + p) = (if p < T.np then T.pl p else 0) ∧ f' (12 + p) = 0) ∧ aNw M' b f') ∧ Fr b 2 M0 M') := by
      intro x hx
      refine etM rfl (by assumption) (by assumption) rfl (fun M2 eM => ?_)
      have k1 := up_w eM
      replace h0 := up_k eM h0 (by omega)
      have hF := hF.up eM (by omega) (by omega)
      have hT := hT.fr (lo := b) (n := 2) ((Fr.rf b 2 M).up eM (by omega) (by omega)) (by omega)
      repeat (first | refine es rfl rfl rfl ?_ | refine eg rfl (by assumption) rfl ?_ | refine ean rfl (by assumption) (by assumption) rfl ?_ | refine eal rfl (by assumption) (by assumption) rfl ?_ | refine eri rfl ?_ | refine erv rfl ?_ | refine erl rfl ?_ | refine era rfl ?_ | refine erz0 rfl ?_ | refine erz1 rfl ?_)
      try dsimp only [set1, set2, kilP, List.set_cons_zero, List.set_cons_succ, List.getElem?_cons_zero, List.getElem?_cons_succ, List.nil_append, List.cons_append, Option.toList_some, Option.toList_none]
      rw [show (12 : Int32) + nI i = nI (12 + i) from nI_add 12 i]
      refine etM rfl (by assumption) (by assumption) rfl (fun M3 eM3 => ?_)
      have k2 := up_w eM3
      replace h0 := up_k eM3 h0 (by omega)
      replace hF := hF.up eM3 (by omega) (by omega)
      replace hT := hT.fr (lo := b) (n := 2) ((Fr.rf b 2 M2).up eM3 (by omega) (by omega)) (by omega)
      repeat (refine ng 39 rfl ?_; first | refine es rfl rfl rfl ?_ | refine eg rfl (by assumption) rfl ?_ | refine ean rfl (by assumption) (by assumption) rfl ?_ | refine eal rfl (by assumption) (by assumption) rfl ?_ | refine eri rfl ?_ | refine erv rfl ?_ | refine erl rfl ?_ | refine era rfl ?_ | refine erz0 rfl ?_ | refine erz1 rfl ?_)
      try dsimp only [set1, set2, kilP, List.set_cons_zero, List.set_cons_succ, List.getElem?_cons_zero, List.getElem?_cons_succ, List.nil_append, List.cons_append, Option.toList_some, Option.toList_none]
      rw [nI_1]
      refine ih (i + 1) M0 M3 _ ⟨h0, k2⟩ hT hF (by omega) (fun j hj => ?_) ?_ (fun p hpp => ?_)
      · rw [pk_un (by omega), pk_un (by omega)]; exact hz j hj
      · rw [pk_un (by omega), pk_un (by omega)]; exact h7
      · by_cases e : p = i
        · subst e
          exact ⟨by rw [pk_un (by omega), pk_us]; exact hx, by rw [pk_us]⟩
        · rw [pk_un (by omega), pk_un (by omega), pk_un (by omega), pk_un (by omega)]
          exact hp p (by omega)
    repeat (first | refine es rfl rfl rfl ?_ | refine eg rfl (by assumption) rfl ?_ | refine ean rfl (by assumption) (by assumption) rfl ?_ | refine eal rfl (by assumption) (by assumption) rfl ?_ | refine eri rfl ?_ | refine erv rfl ?_ | refine erl rfl ?_ | refine era rfl ?_ | refine erz0 rfl ?_ | refine erz1 rfl ?_)
    try dsimp only [set1, set2, kilP, List.set_cons_zero, List.set_cons_succ, List.getElem?_cons_zero, List.getElem?_cons_succ, List.nil_append, List.cons_append, Option.toList_some, Option.toList_none]
    refine ei _ rfl rfl (fun c => ?_) (fun c => ?_)
    · exact absurd c (nI_ge (b := 4) (by omega) (by omega))
    · repeat (first | refine es rfl rfl rfl ?_ | refine eg rfl (by assumption) rfl ?_ | refine ean rfl (by assumption) (by assumption) rfl ?_ | refine eal rfl (by assumption) (by assumption) rfl ?_ | refine eri rfl ?_ | refine erv rfl ?_ | refine erl rfl ?_ | refine era rfl ?_ | refine erz0 rfl ?_ | refine erz1 rfl ?_)
      try dsimp only [set1, set2, kilP, List.set_cons_zero, List.set_cons_succ, List.getElem?_cons_zero, List.getElem?_cons_succ, List.nil_append, List.cons_append, Option.toList_some, Option.toList_none]
      rw [show (8 : Int32) + nI i = nI (8 + i) from nI_add 8 i]
      refine ei _ rfl rfl (fun c2 => ?_) (fun c2 => ?_)
      · repeat (refine ng 70 rfl ?_; first | refine es rfl rfl rfl ?_ | refine eg rfl (by assumption) rfl ?_ | refine ean rfl (by assumption) (by assumption) rfl ?_ | refine eal rfl (by assumption) (by assumption) rfl ?_ | refine eri rfl ?_ | refine erv rfl ?_ | refine erl rfl ?_ | refine era rfl ?_ | refine erz0 rfl ?_ | refine erz1 rfl ?_)
        try dsimp only [set1, set2, kilP, List.set_cons_zero, List.set_cons_succ, List.getElem?_cons_zero, List.getElem?_cons_succ, List.nil_append, List.cons_append, Option.toList_some, Option.toList_none]
        exact key 0 (by rw [if_neg (fun h => nI_ge (b := T.np) h (by omega) c2)])
      · repeat (refine ng 70 rfl ?_; first | refine es rfl rfl rfl ?_ | refine eg rfl (by assumption) rfl ?_ | refine ean rfl (by assumption) (by assumption) rfl ?_ | refine eal rfl (by assumption) (by assumption) rfl ?_ | refine eri rfl ?_ | refine erv rfl ?_ | refine erl rfl ?_ | refine era rfl ?_ | refine erz0 rfl ?_ | refine erz1 rfl ?_)
        try dsimp only [set1, set2, kilP, List.set_cons_zero, List.set_cons_succ, List.getElem?_cons_zero, List.getElem?_cons_succ, List.nil_append, List.cons_append, Option.toList_some, Option.toList_none]
        exact key _ (by rw [if_pos (Decidable.byContradiction fun h => c2 (nI_le (a := T.np) (by omega) (by omega)))])
theorem e3_begin {ad : Nat → Nat} {M : Mm} {b tb : Nat} {T : Tw} {f : Nat → Int32} (hb : aNw M b f) (hT : aTw M tb T) (hp4 : T.np ≤ 4) (hd : tb + 22 ≤ b ∨ b + 2 ≤ tb) : EvM ad 0 (iX3_begin ad) [.ref b, .ref tb] M (fun v' M' => v' = none ∧ (∃ f', (∀ j, j < 7 → f' j = T.hs.to j) ∧ f' 7 = 0 ∧ (∀ p, p < 4 → f' (8 + p) = (if p < T.np then T.pl p else 0) ∧ f' (12 + p) = 0) ∧ aNw M' b f') ∧ Fr b 2 M M') := by
  refine ⟨Nat.le_of_ble_eq_true rfl, ?_⟩
  show Ev ad _ (rX3_begin ad) (0, [some (.ref b), some (.ref tb), none], [], M) _
  repeat (refine ng 2 rfl ?_; first | refine es rfl rfl rfl ?_ | refine eg rfl (by assumption) rfl ?_ | refine ean rfl (by assumption) (by assumption) rfl ?_ | refine eal rfl (by assumption) (by assumption) rfl ?_ | refine eri rfl ?_ | refine erv rfl ?_ | refine erl rfl ?_ | refine era rfl ?_ | refine erz0 rfl ?_ | refine erz1 rfl ?_)
  try dsimp only [set1, set2, kilP, List.set_cons_zero, List.set_cons_succ, List.getElem?_cons_zero, List.getElem?_cons_succ, List.nil_append, List.cons_append, Option.toList_some, Option.toList_none]
  refine e3_beg1 hd 7 0 M M f hb hT (Fr.rf b 2 M) rfl (fun j hj => absurd hj (by omega)) (fun L2 M2 f2 hz hb2 hT2 hF2 => ?_)
  obtain ⟨h0, h1⟩ := hb2
  have h16 : 7 < 16 := by omega
  repeat (first | refine es rfl rfl rfl ?_ | refine eg rfl (by assumption) rfl ?_ | refine ean rfl (by assumption) (by assumption) rfl ?_ | refine eal rfl (by assumption) (by assumption) rfl ?_ | refine eri rfl ?_ | refine erv rfl ?_ | refine erl rfl ?_ | refine era rfl ?_ | refine erz0 rfl ?_ | refine erz1 rfl ?_)
  try dsimp only [set1, set2, kilP, List.set_cons_zero, List.set_cons_succ, List.getElem?_cons_zero, List.getElem?_cons_succ, List.nil_append, List.cons_append, Option.toList_some, Option.toList_none]
  refine etM (j := 7) rfl h1 h16 rfl (fun M3 eM => ?_)
  have k1 := up_w eM
  replace h0 := up_k eM h0 (by omega)
  have hF3 := hF2.up eM (by omega) (by omega)
  have hT3 := hT2.fr (lo := b) (n := 2) ((Fr.rf b 2 M2).up eM (by omega) (by omega)) (by omega)
  repeat (refine ng 39 rfl ?_; first | refine es rfl rfl rfl ?_ | refine eg rfl (by assumption) rfl ?_ | refine ean rfl (by assumption) (by assumption) rfl ?_ | refine eal rfl (by assumption) (by assumption) rfl ?_ | refine eri rfl ?_ | refine erv rfl ?_ | refine erl rfl ?_ | refine era rfl ?_ | refine erz0 rfl ?_ | refine erz1 rfl ?_)
  try dsimp only [set1, set2, kilP, List.set_cons_zero, List.set_cons_succ, List.getElem?_cons_zero, List.getElem?_cons_succ, List.nil_append, List.cons_append, Option.toList_some, Option.toList_none]
  exact e3_beg2 hp4 hd 4 0 M M3 _ ⟨h0, k1⟩ hT3 hF3 rfl (fun j hj => by rw [pk_un (by omega)]; exact hz j hj) pk_us (fun p hp => absurd hp (by omega))
