/-! What a text tells, as functions with errors; the Reader's lines -/
abbrev Er : Type := Nat × Nat
def tk (tp : Nat → Int32) (le a : Nat) : Tk := tokF tp le a 0 0
theorem tk_1 (tp : Nat → Int32) (le a : Nat) (w : Int64) (z : Int32) : (tokF tp le a w z).1 = (tk tp le a).1 ∧ (tokF tp le a w z).2.1 = (tk tp le a).2.1 ∧ (tokF tp le a w z).2.2.1 = (tk tp le a).2.2.1 ∧ ((tk tp le a).2.2.1 = 1 → (tokF tp le a w z).2.2.2.1 = (tk tp le a).2.2.2.1) ∧ ((tk tp le a).2.2.1 = 2 → (tokF tp le a w z).2.2.2.2 = (tk tp le a).2.2.2.2) := by
  unfold tk tokF tokS
  generalize spF tp (le - a) a = s
  split
  · exact ⟨rfl, rfl, rfl, fun h => absurd (show (0 : Nat) = 1 from h) (by decide), fun h => absurd (show (0 : Nat) = 2 from h) (by decide)⟩
  · split
    · refine ⟨rfl, rfl, rfl, fun _ => rfl, fun h => ?_⟩
      exfalso; revert h; dsimp only; split <;> decide
    · split
      · refine ⟨rfl, rfl, rfl, fun h => ?_, fun _ => rfl⟩
        exfalso; revert h; dsimp only; split <;> decide
      · refine ⟨rfl, rfl, rfl, fun h => ?_, fun h => ?_⟩ <;> (exfalso; revert h; dsimp only; split <;> decide)
def pAny (tp : Nat → Int32) (le a : Nat) : Except Er (Int64 × Nat) := if (tk tp le a).2.2.1 = 1 then .ok ((tk tp le a).2.2.2.1, (tk tp le a).2.1) else .error (1, (tk tp le a).1)
def pThis (tp : Nat → Int32) (le i a : Nat) : Except Er Nat := if (tk tp le a).2.2.1 = 1 ∧ (tk tp le a).2.2.2.1 = sC i then .ok (tk tp le a).2.1 else .error (1, (tk tp le a).1)
def pWh (tp : Nat → Int32) (le lo hi a : Nat) : Except Er (Nat × Nat) := if (tk tp le a).2.2.1 = 2 then if nI lo ≤ (tk tp le a).2.2.2.2 ∧ (tk tp le a).2.2.2.2 ≤ nI hi then .ok ((tk tp le a).2.2.2.2.toNatClampNeg, (tk tp le a).2.1) else .error (4, (tk tp le a).1) else .error (1, (tk tp le a).1)
def pNew (tp : Nat → Int32) (sc : Nat → Int64) (le : Nat) (T : Tw) (a : Nat) : Except Er (Int64 × Nat) := if (tk tp le a).2.2.1 = 1 ∧ sorF sc (tk tp le a).2.2.2.1 8 0 = -1 then if tldP T (tk tp le a).2.2.2.1 then .error (3, (tk tp le a).1) else .ok ((tk tp le a).2.2.2.1, (tk tp le a).2.1) else .error (1, (tk tp le a).1)
def pHou (tp : Nat → Int32) (sc : Nat → Int64) (le : Nat) (T : Tw) (a : Nat) : Except Er (Nat × Nat) := if (tk tp le a).2.2.1 = 1 ∧ sorF sc (tk tp le a).2.2.2.1 8 0 = -1 then if calF T.hs.nm (tk tp le a).2.2.2.1 T.hs.n 0 = -1 then .error (2, (tk tp le a).1) else .ok ((calF T.hs.nm (tk tp le a).2.2.2.1 T.hs.n 0).toNatClampNeg, (tk tp le a).2.1) else .error (1, (tk tp le a).1)
theorem calF_or (nm : Nat → Int64) (w : Int64) : ∀ n i, calF nm w n i = -1 ∨ ∃ k, i ≤ k ∧ k < i + n ∧ calF nm w n i = nI k ∧ nm k = w
  | 0, i => Or.inl rfl
  | n + 1, i => by
    rw [calF]
    split
    · rename_i h
      exact Or.inr ⟨i, by omega, by omega, rfl, h⟩
    · rcases calF_or nm w n (i + 1) with h | ⟨k, h1, h2, h3, h4⟩
      · exact Or.inl h
      · exact Or.inr ⟨k, by omega, by omega, h3, h4⟩
theorem nI_cl {x : Int32} (h : 0 ≤ x) : nI x.toNatClampNeg = x := by
  have hz0 : (0 : Int) ≤ x.toInt := by simpa using Int32.le_iff_toInt_le.mp h
  apply Int32.toInt_inj.mp
  rw [nI_toInt (by have := x.toInt_lt; show x.toInt.toNat < 2 ^ 31; omega)]
  show ((x.toInt.toNat : Nat) : Int) = x.toInt
  omega
theorem nI_leN {a b : Nat} (ha : a < 2 ^ 31) (hb : b < 2 ^ 31) : nI a ≤ nI b ↔ a ≤ b := by
  rw [Int32.le_iff_toInt_le, nI_toInt ha, nI_toInt hb]
  omega
theorem nI_bt {x : Int32} {lo hi : Nat} (hl : lo < 2 ^ 31) (hh : hi < 2 ^ 31) (h1 : nI lo ≤ x) (h2 : x ≤ nI hi) : nI x.toNatClampNeg = x ∧ lo ≤ x.toNatClampNeg ∧ x.toNatClampNeg ≤ hi := by
  have h0 : (0 : Int32) ≤ x := Int32.le_trans (by rw [show (0 : Int32) = nI 0 from rfl, nI_leN (by omega) hl]; omega) h1
  have e := nI_cl h0
  have hx : x.toNatClampNeg < 2 ^ 31 := by have := x.toInt_lt; show x.toInt.toNat < 2 ^ 31; omega
  rw [← e] at h1 h2
  exact ⟨e, (nI_leN hl hx).mp h1, (nI_leN hx hh).mp h2⟩
abbrev Rz : Type := Int32 × Int32 × Nat × Nat
def rS (M : Mm) (b tb : Nat) (tp : Nat → Int32) (sc : Nat → Int64) (z : Rz) (a : Nat) (q : Rq) : Prop := aRq M b tb tp sc q ∧ q.fn = z.1 ∧ q.fp = z.2.1 ∧ q.ts = z.2.2.1 ∧ q.le = z.2.2.2 ∧ q.at = a ∧ a ≤ z.2.2.2 ∧ z.2.2.2 ≤ 1100
def rE (M : Mm) (b tb : Nat) (tp : Nat → Int32) (sc : Nat → Int64) (z : Rz) (e : Er) : Prop := ∃ q, aRq M b tb tp sc q ∧ q.fn = nI e.1 ∧ q.fp = nI e.2 ∧ q.ts = z.2.2.1
theorem adv_tk (tp : Nat → Int32) {q : Rq} {le a : Nat} (e1 : q.le = le) (e2 : q.at = a) : (advF tp q).st = (tk tp le a).1 ∧ (advF tp q).at = (tk tp le a).2.1 ∧ (advF tp q).kd = (tk tp le a).2.2.1 ∧ ((tk tp le a).2.2.1 = 1 → (advF tp q).wd = (tk tp le a).2.2.2.1) ∧ ((tk tp le a).2.2.1 = 2 → (advF tp q).wh = (tk tp le a).2.2.2.2) := by
  subst e1; subst e2
  exact tk_1 tp q.le q.at q.wd q.wh
theorem rS.a {M M' : Mm} {b tb : Nat} {tp : Nat → Int32} {sc : Nat → Int64} {z : Rz} {a : Nat} {q : Rq} (h : rS M b tb tp sc z a q) (hb : aRq M' b tb tp sc (advF tp q)) : rS M' b tb tp sc z (tk tp z.2.2.2 a).2.1 (advF tp q) := by
  obtain ⟨h0, h1, h2, h3, h4, h5, h6, h7⟩ := h
  have ht := tok_at tp q (by omega)
  have hk := (adv_tk tp h4 h5).2.1
  exact ⟨hb, h1, h2, h3, h4, hk, by omega, h7⟩
theorem w_any {ad : Nat → Nat} {M : Mm} {b tb : Nat} {tp : Nat → Int32} {sc : Nat → Int64} {z : Rz} {a : Nat} {q : Rq} (h : rS M b tb tp sc z a q) : EvM ad 3 (iX5_anyWord ad) [.ref b] M (fun v' M' => Fr b 1 M M' ∧ match pAny tp z.2.2.2 a with
    | .ok x => v' = some (.int 1) ∧ ∃ q', rS M' b tb tp sc z x.2 q' ∧ q'.wd = x.1 ∧ q'.hr = q.hr ∧ q'.st = (tk tp z.2.2.2 a).1
    | .error e => v' = some (.int 0) ∧ rE M' b tb tp sc z e) := by
  have h' := h
  obtain ⟨h0, h1, h2, h3, h4, h5, h6, h7⟩ := h
  obtain ⟨t1, t2, t3, t4, t5⟩ := adv_tk tp h4 h5
  refine (e5_any h0 (by omega) (by omega)).im (fun v M' ⟨e, hb, hF⟩ => ⟨hF, ?_⟩)
  unfold pAny
  by_cases c : (tk tp z.2.2.2 a).2.2.1 = 1
  · rw [if_pos c]
    rw [if_pos (t3.trans c)] at hb
    rw [e, show bI ((advF tp q).kd = 1) = 1 from if_pos (t3.trans c)]
    exact ⟨rfl, _, h'.a hb, t4 c, rfl, t1⟩
  · rw [if_neg c]
    rw [if_neg (fun k => c (t3.symm.trans k))] at hb
    rw [e, show bI ((advF tp q).kd = 1) = 0 from if_neg (fun k => c (t3.symm.trans k))]
    exact ⟨rfl, _, hb, rfl, congrArg nI t1, h3⟩
theorem w_this {ad : Nat → Nat} {M : Mm} {b tb lo i : Nat} {tp : Nat → Int32} {sc : Nat → Int64} {z : Rz} {a : Nat} {q : Rq} (h : rS M b tb tp sc z a q) (hS : aSt ad lo M) (hlo : lo ≤ b) (hi : i < 20) : EvM ad 3 (iX5_thisWord ad) [.ref b, .ref (ad i)] M (fun v' M' => Fr b 1 M M' ∧ match pThis tp z.2.2.2 i a with
    | .ok x => v' = some (.int 1) ∧ ∃ q', rS M' b tb tp sc z x q' ∧ q'.hr = q.hr
    | .error e => v' = some (.int 0) ∧ rE M' b tb tp sc z e) := by
  have h' := h
  obtain ⟨h0, h1, h2, h3, h4, h5, h6, h7⟩ := h
  obtain ⟨t1, t2, t3, t4, t5⟩ := adv_tk tp h4 h5
  refine (e5_this h0 (by omega) (by omega) hS hlo hi).im (fun v M' ⟨e, hb, hF⟩ => ⟨hF, ?_⟩)
  unfold pThis
  by_cases c : (tk tp z.2.2.2 a).2.2.1 = 1 ∧ (tk tp z.2.2.2 a).2.2.2.1 = sC i
  · have c2 : thsP tp q i := ⟨t3.trans c.1, (t4 c.1).trans c.2⟩
    rw [if_pos c]
    rw [if_pos c2] at hb
    rw [e, show bI (thsP tp q i) = 1 from if_pos c2]
    exact ⟨rfl, _, h'.a hb, rfl⟩
  · have c2 : ¬ thsP tp q i := fun k => c ⟨t3.symm.trans k.1, (t4 (t3.symm.trans k.1)).symm.trans k.2⟩
    rw [if_neg c]
    rw [if_neg c2] at hb
    rw [e, show bI (thsP tp q i) = 0 from if_neg c2]
    exact ⟨rfl, _, hb, rfl, congrArg nI t1, h3⟩
theorem w_wh {ad : Nat → Nat} {M : Mm} {b tb lo hi : Nat} {tp : Nat → Int32} {sc : Nat → Int64} {z : Rz} {a : Nat} {q : Rq} (h : rS M b tb tp sc z a q) (hl : lo < 2 ^ 31) (hh : hi < 2 ^ 31) : EvM ad 3 (iX5_wholeWithin ad) [.ref b, .int (nI lo), .int (nI hi)] M (fun v' M' => Fr b 1 M M' ∧ match pWh tp z.2.2.2 lo hi a with
    | .ok x => v' = some (.int 1) ∧ ∃ q', rS M' b tb tp sc z x.2 q' ∧ q'.wh = nI x.1 ∧ q'.hr = q.hr ∧ lo ≤ x.1 ∧ x.1 ≤ hi
    | .error e => v' = some (.int 0) ∧ rE M' b tb tp sc z e) := by
  have h' := h
  obtain ⟨h0, h1, h2, h3, h4, h5, h6, h7⟩ := h
  obtain ⟨t1, t2, t3, t4, t5⟩ := adv_tk tp h4 h5
  refine (e5_within h0 (by omega) (by omega)).im (fun v M' ⟨e, hb, hF⟩ => ⟨hF, ?_⟩)
  unfold pWh
  by_cases c : (tk tp z.2.2.2 a).2.2.1 = 2
  · rw [if_pos c]
    rw [if_pos (t3.trans c)] at hb e
    by_cases c2 : nI lo ≤ (tk tp z.2.2.2 a).2.2.2.2 ∧ (tk tp z.2.2.2 a).2.2.2.2 ≤ nI hi
    · have c3 : whoP tp q (nI lo) (nI hi) := by rw [← t5 c] at c2; exact c2
      rw [if_pos c3] at hb
      rw [if_pos c2, e, show bI (whoP tp q (nI lo) (nI hi)) = 1 from if_pos c3]
      have h9 := nI_bt hl hh c2.1 c2.2
      exact ⟨rfl, _, h'.a hb, (t5 c).trans h9.1.symm, rfl, h9.2.1, h9.2.2⟩
    · have c3 : ¬ whoP tp q (nI lo) (nI hi) := by rw [← t5 c] at c2; exact c2
      rw [if_neg c3] at hb
      rw [if_neg c2, e, show bI (whoP tp q (nI lo) (nI hi)) = 0 from if_neg c3]
      exact ⟨rfl, _, hb, rfl, congrArg nI t1, h3⟩
  · rw [if_neg c]
    rw [if_neg (fun k => c (t3.symm.trans k))] at hb e
    exact ⟨e, _, hb, rfl, congrArg nI t1, h3⟩
theorem w_new {ad : Nat → Nat} {M : Mm} {b tb : Nat} {tp : Nat → Int32} {sc : Nat → Int64} {z : Rz} {a : Nat} {q : Rq} {T : Tw} (h : rS M b tb tp sc z a q) (hT : aTw M tb T) (hn7 : T.hs.n ≤ 7) (hp : T.np ≤ 4) (hd : ¬ (tb ≤ b ∧ b < tb + 22)) : EvM ad 3 (iX5_newName ad) [.ref b] M (fun v' M' => Fr b 1 M M' ∧ match pNew tp sc z.2.2.2 T a with
    | .ok x => v' = some (.int 1) ∧ ∃ q', rS M' b tb tp sc z x.2 q' ∧ q'.wd = x.1 ∧ q'.hr = q.hr
    | .error e => v' = some (.int 0) ∧ rE M' b tb tp sc z e) := by
  have h' := h
  obtain ⟨h0, h1, h2, h3, h4, h5, h6, h7⟩ := h
  obtain ⟨t1, t2, t3, t4, t5⟩ := adv_tk tp h4 h5
  refine (e5_new h0 hT hn7 hp hd (by omega) (by omega)).im (fun v M' ⟨e, hb, hF⟩ => ⟨hF, ?_⟩)
  unfold pNew
  by_cases c : (tk tp z.2.2.2 a).2.2.1 = 1 ∧ sorF sc (tk tp z.2.2.2 a).2.2.2.1 8 0 = -1
  · have ew := t4 c.1
    have c3 : nmP tp sc q := ⟨t3.trans c.1, by rw [ew]; exact c.2⟩
    rw [if_pos c]
    rw [if_pos c3] at hb e
    rw [ew] at hb e
    by_cases c2 : tldP T (tk tp z.2.2.2 a).2.2.2.1
    · rw [if_pos c2] at hb
      rw [if_pos c2, e, show bI (¬ tldP T (tk tp z.2.2.2 a).2.2.2.1) = 0 from if_neg (fun k => k c2)]
      exact ⟨rfl, _, hb, rfl, congrArg nI t1, h3⟩
    · rw [if_neg c2] at hb
      rw [if_neg c2, e, show bI (¬ tldP T (tk tp z.2.2.2 a).2.2.2.1) = 1 from if_pos c2]
      exact ⟨rfl, _, h'.a hb, ew, rfl⟩
  · have c3 : ¬ nmP tp sc q := fun k => c ⟨t3.symm.trans k.1, by rw [← t4 (t3.symm.trans k.1)]; exact k.2⟩
    rw [if_neg c]
    rw [if_neg c3] at hb e
    exact ⟨e, _, hb, rfl, congrArg nI t1, h3⟩
theorem w_told {ad : Nat → Nat} {M : Mm} {b tb : Nat} {tp : Nat → Int32} {sc : Nat → Int64} {z : Rz} {a : Nat} {q : Rq} {T : Tw} (h : rS M b tb tp sc z a q) (hT : aTw M tb T) (hn7 : T.hs.n ≤ 7) (hd : ¬ (tb ≤ b ∧ b < tb + 22)) : EvM ad 3 (iX5_toldHouse ad) [.ref b] M (fun v' M' => Fr b 1 M M' ∧ match pHou tp sc z.2.2.2 T a with
    | .ok x => v' = some (.int 1) ∧ ∃ q', rS M' b tb tp sc z x.2 q' ∧ q'.hr = nI x.1 ∧ x.1 < T.hs.n ∧ q'.st = (tk tp z.2.2.2 a).1
    | .error e => v' = some (.int 0) ∧ rE M' b tb tp sc z e) := by
  have h' := h
  obtain ⟨h0, h1, h2, h3, h4, h5, h6, h7⟩ := h
  obtain ⟨t1, t2, t3, t4, t5⟩ := adv_tk tp h4 h5
  refine (e5_told h0 hT hn7 hd (by omega) (by omega)).im (fun v M' ⟨e, hb, hF⟩ => ⟨hF, ?_⟩)
  unfold pHou
  by_cases c : (tk tp z.2.2.2 a).2.2.1 = 1 ∧ sorF sc (tk tp z.2.2.2 a).2.2.2.1 8 0 = -1
  · have ew := t4 c.1
    have c3 : nmP tp sc q := ⟨t3.trans c.1, by rw [ew]; exact c.2⟩
    rw [if_pos c]
    rw [if_pos c3] at hb e
    rw [ew] at hb e
    by_cases c2 : calF T.hs.nm (tk tp z.2.2.2 a).2.2.2.1 T.hs.n 0 = -1
    · rw [if_pos c2] at hb
      rw [if_pos c2, e, show bI (¬ calF T.hs.nm (tk tp z.2.2.2 a).2.2.2.1 T.hs.n 0 = -1) = 0 from if_neg (fun k => k c2)]
      exact ⟨rfl, _, hb, rfl, congrArg nI t1, h3⟩
    · rw [if_neg c2] at hb
      rw [if_neg c2, e, show bI (¬ calF T.hs.nm (tk tp z.2.2.2 a).2.2.2.1 T.hs.n 0 = -1) = 1 from if_pos c2]
      rcases calF_or T.hs.nm (tk tp z.2.2.2 a).2.2.2.1 T.hs.n 0 with h9 | ⟨k, _, k2, k3, _⟩
      · exact absurd h9 c2
      · have h8 : (calF T.hs.nm (tk tp z.2.2.2 a).2.2.2.1 T.hs.n 0).toNatClampNeg = k := by rw [k3, nI_clamp (by omega)]
        rw [k3] at hb
        refine ⟨rfl, _, ⟨hb, h1, h2, h3, h4, t2, ?_, h7⟩, ?_, ?_, t1⟩
        · have := tok_at tp q (by omega)
          dsimp only
          omega
        · dsimp only; rw [h8]; rfl
        · dsimp only; omega
  · have c3 : ¬ nmP tp sc q := fun k => c ⟨t3.symm.trans k.1, by rw [← t4 (t3.symm.trans k.1)]; exact k.2⟩
    rw [if_neg c]
    rw [if_neg c3] at hb e
    exact ⟨e, _, hb, rfl, congrArg nI t1, h3⟩
def Fr2 (b tb : Nat) (M M' : Mm) : Prop := (∀ q, q ≠ b → (q < tb ∨ tb + 22 ≤ q) → M'.1 q = M.1 q) ∧ M'.2 = M.2
theorem Fr2.rf (b tb : Nat) (M : Mm) : Fr2 b tb M M := ⟨fun _ _ _ => rfl, rfl⟩
theorem Fr2.w {b tb : Nat} {M0 M M' : Mm} (h : Fr2 b tb M0 M) (h2 : Fr b 1 M M') : Fr2 b tb M0 M' := ⟨fun q a c => (h2.1 q (by omega)).trans (h.1 q a c), h2.2.trans h.2⟩
theorem Fr2.t {b tb lo n : Nat} {M0 M M' : Mm} (h : Fr2 b tb M0 M) (h2 : Fr lo n M M') (a : tb ≤ lo) (c : lo + n ≤ tb + 22) : Fr2 b tb M0 M' := ⟨fun q a c => (h2.1 q (by omega)).trans (h.1 q a c), h2.2.trans h.2⟩
theorem Fr2.u {b tb y : Nat} {x : Ce} {M0 M M' : Mm} (h : Fr2 b tb M0 M) (e : M' = up M y x) (a : tb ≤ y) (c : y < tb + 22) : Fr2 b tb M0 M' := by
  subst e
  exact ⟨fun q a c => (up_n _ _ (by omega)).trans (h.1 q a c), h.2⟩
def lnP (b tb : Nat) (tp : Nat → Int32) (sc : Nat → Int64) (z : Rz) (M : Mm) (r : Except Er (Tw × Nat)) (v : Option Value) (M' : Mm) : Prop := Fr2 b tb M M' ∧ match r with
  | .ok x => v = some (.int 1) ∧ (∃ q', rS M' b tb tp sc z x.2 q') ∧ aTw M' tb x.1
  | .error e => v = some (.int 0) ∧ rE M' b tb tp sc z e ∧ ∃ T', aTw M' tb T'
theorem rS.k {M M' : Mm} {b tb : Nat} {tp : Nat → Int32} {sc : Nat → Int64} {z : Rz} {a : Nat} {q : Rq} (h : rS M b tb tp sc z a q) (h0 : M'.1 b = M.1 b) (h1 : M'.1 (b + 1) = M.1 (b + 1)) (h2 : M'.1 (b + 24) = M.1 (b + 24)) : rS M' b tb tp sc z a q := ⟨⟨h0.trans h.1.1, h1.trans h.1.2.1, h2.trans h.1.2.2⟩, h.2⟩
theorem rS.u {M M' : Mm} {b tb y : Nat} {x : Ce} {tp : Nat → Int32} {sc : Nat → Int64} {z : Rz} {a : Nat} {q : Rq} (h : rS M b tb tp sc z a q) (e : M' = up M y x) (h0 : y ≠ b ∧ y ≠ b + 1 ∧ y ≠ b + 24) : rS M' b tb tp sc z a q := by
  subst e
  exact h.k (up_n _ _ (Ne.symm h0.1)) (up_n _ _ (Ne.symm h0.2.1)) (up_n _ _ (Ne.symm h0.2.2))
theorem rS.f {M M' : Mm} {b tb lo n : Nat} {tp : Nat → Int32} {sc : Nat → Int64} {z : Rz} {a : Nat} {q : Rq} (h : rS M b tb tp sc z a q) (hF : Fr lo n M M') (h0 : ∀ j, j = b ∨ j = b + 1 ∨ j = b + 24 → j < lo ∨ lo + n ≤ j) : rS M' b tb tp sc z a q := h.k (hF.1 _ (h0 _ (by omega))) (hF.1 _ (h0 _ (by omega))) (hF.1 _ (h0 _ (by omega)))
/-- where the town that is read into may lie -/
def okTb (b tb : Nat) : Prop := tb = b + 2 ∨ tb = b + 25
def lnTown (tp : Nat → Int32) (sc : Nat → Int64) (le : Nat) (T : Tw) (a : Nat) : Except Er (Tw × Nat) :=
  match pThis tp le 8 a with
  | .error e => .error e
  | .ok a1 =>
  match pWh tp le 1 9 a1 with
  | .error e => .error e
  | .ok (d, a2) =>
  match pThis tp le 9 a2 with
  | .error e => .error e
  | .ok a3 =>
  match pWh tp le 0 9 a3 with
  | .error e => .error e
  | .ok (l, a4) =>
  .ok (((d, l, T.np, T.pn, T.hm, T.pl), T.hs, T.ss, T.cs), a4)
theorem e5_lnTown {ad : Nat → Nat} {M : Mm} {b tb lo : Nat} {tp : Nat → Int32} {sc : Nat → Int64} {z : Rz} {a : Nat} {q : Rq} {T : Tw} (hq : rS M b tb tp sc z a q) (hT : aTw M tb T) (hS : aSt ad lo M) (hlo : lo ≤ b) (htb : okTb b tb) (hn7 : T.hs.n ≤ 7) : EvM ad 4 (iX5_readTownLine ad) [.ref b] M (lnP b tb tp sc z M (lnTown tp sc z.2.2.2 T a)) := by
  generalize hr : lnTown tp sc z.2.2.2 T a = r
  unfold lnTown at hr
  have hG := Fr2.rf b tb M
  have h0 := hq.1.1
  unfold aR0 at h0
  have t0 := hT.1.1
  have s0 := hT.2.1.1
  refine ⟨Nat.le_of_ble_eq_true rfl, ?_⟩
  show Ev ad _ (rX5_readTownLine ad) (0, [some (.ref b), none], [], M) _
  repeat (first | refine es rfl rfl rfl ?_ | refine eg rfl (by assumption) rfl ?_ | refine ean rfl (by assumption) (by assumption) rfl ?_ | refine eal rfl (by assumption) (by assumption) rfl ?_ | refine eri rfl ?_ | refine erv rfl ?_ | refine erl rfl ?_ | refine era rfl ?_ | refine erz0 rfl ?_ | refine erz1 rfl ?_)
  try dsimp only [set1, set2, kilP, List.set_cons_zero, List.set_cons_succ, List.getElem?_cons_zero, List.getElem?_cons_succ, List.nil_append, List.cons_append, Option.toList_some, Option.toList_none]
  refine ecv rfl rfl (by assumption) rfl rfl rfl (w_this hq hS hlo (i := 8) (by omega)) (by first | rfl | exact Nat.blt_eq.mpr (by omega)) ?_
  rintro v M1 ⟨hF1, hm⟩
  have hT := hT.fr hF1 (by unfold okTb at htb; omega)
  have hS := hS.fr hF1 hlo
  have hG := hG.w hF1
  have t0 := hT.1.1
  have s0 := hT.2.1.1
  have s1 := hT.2.2.1.1
  have s2 := hT.2.2.2.1
  rcases hp : pThis tp z.2.2.2 8 a with e | a1
  · rw [hp] at hr hm
    dsimp only at hr hm
    subst hr
    obtain ⟨rfl, hE⟩ := hm
    try dsimp only [set1, set2, kilP, List.set_cons_zero, List.set_cons_succ, List.getElem?_cons_zero, List.getElem?_cons_succ, List.nil_append, List.cons_append, Option.toList_some, Option.toList_none]
    repeat (first | refine es rfl rfl rfl ?_ | refine eg rfl (by assumption) rfl ?_ | refine ean rfl (by assumption) (by assumption) rfl ?_ | refine eal rfl (by assumption) (by assumption) rfl ?_ | refine eri rfl ?_ | refine erv rfl ?_ | refine erl rfl ?_ | refine era rfl ?_ | refine erz0 rfl ?_ | refine erz1 rfl ?_)
    try dsimp only [set1, set2, kilP, List.set_cons_zero, List.set_cons_succ, List.getElem?_cons_zero, List.getElem?_cons_succ, List.nil_append, List.cons_append, Option.toList_some, Option.toList_none]
    exact ⟨hG, rfl, hE, _, hT⟩
  rw [hp] at hr hm
  dsimp only at hr hm
  obtain ⟨rfl, ⟨q, hq, hr'⟩⟩ := hm
  have h0 := hq.1.1
  unfold aR0 at h0
  try dsimp only [set1, set2, kilP, List.set_cons_zero, List.set_cons_succ, List.getElem?_cons_zero, List.getElem?_cons_succ, List.nil_append, List.cons_append, Option.toList_some, Option.toList_none]
  repeat (first | refine es rfl rfl rfl ?_ | refine eg rfl (by assumption) rfl ?_ | refine ean rfl (by assumption) (by assumption) rfl ?_ | refine eal rfl (by assumption) (by assumption) rfl ?_ | refine eri rfl ?_ | refine erv rfl ?_ | refine erl rfl ?_ | refine era rfl ?_ | refine erz0 rfl ?_ | refine erz1 rfl ?_)
  try dsimp only [set1, set2, kilP, List.set_cons_zero, List.set_cons_succ, List.getElem?_cons_zero, List.getElem?_cons_succ, List.nil_append, List.cons_append, Option.toList_some, Option.toList_none]
  refine ecv rfl rfl (by assumption) rfl rfl rfl (w_wh (lo := 1) (hi := 9) hq (by omega) (by omega)) (by first | rfl | exact Nat.blt_eq.mpr (by omega)) ?_
  rintro v M1 ⟨hF1, hm⟩
  have hT := hT.fr hF1 (by unfold okTb at htb; omega)
  have hS := hS.fr hF1 hlo
  have hG := hG.w hF1
  have t0 := hT.1.1
  have s0 := hT.2.1.1
  have s1 := hT.2.2.1.1
  have s2 := hT.2.2.2.1
  rcases hp : pWh tp z.2.2.2 1 9 a1 with e | ⟨d, a2⟩
  · rw [hp] at hr hm
    dsimp only at hr hm
    subst hr
    obtain ⟨rfl, hE⟩ := hm
    try dsimp only [set1, set2, kilP, List.set_cons_zero, List.set_cons_succ, List.getElem?_cons_zero, List.getElem?_cons_succ, List.nil_append, List.cons_append, Option.toList_some, Option.toList_none]
    repeat (first | refine es rfl rfl rfl ?_ | refine eg rfl (by assumption) rfl ?_ | refine ean rfl (by assumption) (by assumption) rfl ?_ | refine eal rfl (by assumption) (by assumption) rfl ?_ | refine eri rfl ?_ | refine erv rfl ?_ | refine erl rfl ?_ | refine era rfl ?_ | refine erz0 rfl ?_ | refine erz1 rfl ?_)
    try dsimp only [set1, set2, kilP, List.set_cons_zero, List.set_cons_succ, List.getElem?_cons_zero, List.getElem?_cons_succ, List.nil_append, List.cons_append, Option.toList_some, Option.toList_none]
    exact ⟨hG, rfl, hE, _, hT⟩
  rw [hp] at hr hm
  dsimp only at hr hm
  obtain ⟨rfl, ⟨q, hq, hw_a2, hr', hb1_a2, hb2_a2⟩⟩ := hm
  have h0 := hq.1.1
  unfold aR0 at h0
  try dsimp only [set1, set2, kilP, List.set_cons_zero, List.set_cons_succ, List.getElem?_cons_zero, List.getElem?_cons_succ, List.nil_append, List.cons_append, Option.toList_some, Option.toList_none]
  rw [hw_a2] at h0
  repeat (first | refine es rfl rfl rfl ?_ | refine eg rfl (by assumption) rfl ?_ | refine ean rfl (by assumption) (by assumption) rfl ?_ | refine eal rfl (by assumption) (by assumption) rfl ?_ | refine eri rfl ?_ | refine erv rfl ?_ | refine erl rfl ?_ | refine era rfl ?_ | refine erz0 rfl ?_ | refine erz1 rfl ?_)
  try dsimp only [set1, set2, kilP, List.set_cons_zero, List.set_cons_succ, List.getElem?_cons_zero, List.getElem?_cons_succ, List.nil_append, List.cons_append, Option.toList_some, Option.toList_none]
  refine ecv rfl rfl (by assumption) rfl rfl rfl (w_this hq hS hlo (i := 9) (by omega)) (by first | rfl | exact Nat.blt_eq.mpr (by omega)) ?_
  rintro v M1 ⟨hF1, hm⟩
  have hT := hT.fr hF1 (by unfold okTb at htb; omega)
  have hS := hS.fr hF1 hlo
  have hG := hG.w hF1
  have t0 := hT.1.1
  have s0 := hT.2.1.1
  have s1 := hT.2.2.1.1
  have s2 := hT.2.2.2.1
  rcases hp : pThis tp z.2.2.2 9 a2 with e | a3
  · rw [hp] at hr hm
    dsimp only at hr hm
    subst hr
    obtain ⟨rfl, hE⟩ := hm
    try dsimp only [set1, set2, kilP, List.set_cons_zero, List.set_cons_succ, List.getElem?_cons_zero, List.getElem?_cons_succ, List.nil_append, List.cons_append, Option.toList_some, Option.toList_none]
    repeat (first | refine es rfl rfl rfl ?_ | refine eg rfl (by assumption) rfl ?_ | refine ean rfl (by assumption) (by assumption) rfl ?_ | refine eal rfl (by assumption) (by assumption) rfl ?_ | refine eri rfl ?_ | refine erv rfl ?_ | refine erl rfl ?_ | refine era rfl ?_ | refine erz0 rfl ?_ | refine erz1 rfl ?_)
    try dsimp only [set1, set2, kilP, List.set_cons_zero, List.set_cons_succ, List.getElem?_cons_zero, List.getElem?_cons_succ, List.nil_append, List.cons_append, Option.toList_some, Option.toList_none]
    exact ⟨hG, rfl, hE, _, hT⟩
  rw [hp] at hr hm
  dsimp only at hr hm
  obtain ⟨rfl, ⟨q, hq, hr'⟩⟩ := hm
  have h0 := hq.1.1
  unfold aR0 at h0
  try dsimp only [set1, set2, kilP, List.set_cons_zero, List.set_cons_succ, List.getElem?_cons_zero, List.getElem?_cons_succ, List.nil_append, List.cons_append, Option.toList_some, Option.toList_none]
  repeat (first | refine es rfl rfl rfl ?_ | refine eg rfl (by assumption) rfl ?_ | refine ean rfl (by assumption) (by assumption) rfl ?_ | refine eal rfl (by assumption) (by assumption) rfl ?_ | refine eri rfl ?_ | refine erv rfl ?_ | refine erl rfl ?_ | refine era rfl ?_ | refine erz0 rfl ?_ | refine erz1 rfl ?_)
  try dsimp only [set1, set2, kilP, List.set_cons_zero, List.set_cons_succ, List.getElem?_cons_zero, List.getElem?_cons_succ, List.nil_append, List.cons_append, Option.toList_some, Option.toList_none]
  refine ecv rfl rfl (by assumption) rfl rfl rfl (w_wh (lo := 0) (hi := 9) hq (by omega) (by omega)) (by first | rfl | exact Nat.blt_eq.mpr (by omega)) ?_
  rintro v M1 ⟨hF1, hm⟩
  have hT := hT.fr hF1 (by unfold okTb at htb; omega)
  have hS := hS.fr hF1 hlo
  have hG := hG.w hF1
  have t0 := hT.1.1
  have s0 := hT.2.1.1
  have s1 := hT.2.2.1.1
  have s2 := hT.2.2.2.1
  rcases hp : pWh tp z.2.2.2 0 9 a3 with e | ⟨l, a4⟩
  · rw [hp] at hr hm
    dsimp only at hr hm
    subst hr
    obtain ⟨rfl, hE⟩ := hm
    try dsimp only [set1, set2, kilP, List.set_cons_zero, List.set_cons_succ, List.getElem?_cons_zero, List.getElem?_cons_succ, List.nil_append, List.cons_append, Option.toList_some, Option.toList_none]
    repeat (first | refine es rfl rfl rfl ?_ | refine eg rfl (by assumption) rfl ?_ | refine ean rfl (by assumption) (by assumption) rfl ?_ | refine eal rfl (by assumption) (by assumption) rfl ?_ | refine eri rfl ?_ | refine erv rfl ?_ | refine erl rfl ?_ | refine era rfl ?_ | refine erz0 rfl ?_ | refine erz1 rfl ?_)
    try dsimp only [set1, set2, kilP, List.set_cons_zero, List.set_cons_succ, List.getElem?_cons_zero, List.getElem?_cons_succ, List.nil_append, List.cons_append, Option.toList_some, Option.toList_none]
    exact ⟨hG, rfl, hE, _, hT⟩
  rw [hp] at hr hm
  dsimp only at hr hm
  obtain ⟨rfl, ⟨q, hq, hw_a4, hr', hb1_a4, hb2_a4⟩⟩ := hm
  have h0 := hq.1.1
  unfold aR0 at h0
  try dsimp only [set1, set2, kilP, List.set_cons_zero, List.set_cons_succ, List.getElem?_cons_zero, List.getElem?_cons_succ, List.nil_append, List.cons_append, Option.toList_some, Option.toList_none]
  rw [hw_a4] at h0
  obtain ⟨⟨_, k1, k2, k3⟩, hH, hSs, hC⟩ := hT
  repeat (first | refine es rfl rfl rfl ?_ | refine eg rfl (by assumption) rfl ?_ | refine ean rfl (by assumption) (by assumption) rfl ?_ | refine eal rfl (by assumption) (by assumption) rfl ?_ | refine eri rfl ?_ | refine erv rfl ?_ | refine erl rfl ?_ | refine era rfl ?_ | refine erz0 rfl ?_ | refine erz1 rfl ?_)
  try dsimp only [set1, set2, kilP, List.set_cons_zero, List.set_cons_succ, List.getElem?_cons_zero, List.getElem?_cons_succ, List.nil_append, List.cons_append, Option.toList_some, Option.toList_none]
  refine epM rfl (by assumption) rfl rfl rfl (fun M2 eM => ?_)
  have k0 := up_w eM
  replace k1 := up_k eM k1 (by omega)
  replace k2 := up_k eM k2 (by omega)
  replace k3 := up_k eM k3 (by omega)
  have hq := hq.u eM (by unfold okTb at htb; omega)
  have hG := hG.u eM (by omega) (by omega)
  replace hH := hH.kept (M' := M2) (fun j a1 a2 => by rw [eM, up_n _ _ (by omega)])
  replace hSs := hSs.kept (M' := M2) (fun j a1 a2 => by rw [eM, up_n _ _ (by omega)])
  replace hC := hC.kept (M' := M2) (fun j a1 a2 => by rw [eM, up_n _ _ (by omega)])
  have h0 := hq.1.1
  unfold aR0 at h0
  rw [hw_a4] at h0
  repeat (first | refine es rfl rfl rfl ?_ | refine eg rfl (by assumption) rfl ?_ | refine ean rfl (by assumption) (by assumption) rfl ?_ | refine eal rfl (by assumption) (by assumption) rfl ?_ | refine eri rfl ?_ | refine erv rfl ?_ | refine erl rfl ?_ | refine era rfl ?_ | refine erz0 rfl ?_ | refine erz1 rfl ?_)
  try dsimp only [set1, set2, kilP, List.set_cons_zero, List.set_cons_succ, List.getElem?_cons_zero, List.getElem?_cons_succ, List.nil_append, List.cons_append, Option.toList_some, Option.toList_none]
  refine epM rfl (by assumption) rfl rfl rfl (fun M3 eM3 => ?_)
  have k4 := up_w eM3
  replace k1 := up_k eM3 k1 (by omega)
  replace k2 := up_k eM3 k2 (by omega)
  replace k3 := up_k eM3 k3 (by omega)
  have hq := hq.u eM3 (by unfold okTb at htb; omega)
  have hG := hG.u eM3 (by omega) (by omega)
  replace hH := hH.kept (M' := M3) (fun j a1 a2 => by rw [eM3, up_n _ _ (by omega)])
  replace hSs := hSs.kept (M' := M3) (fun j a1 a2 => by rw [eM3, up_n _ _ (by omega)])
  replace hC := hC.kept (M' := M3) (fun j a1 a2 => by rw [eM3, up_n _ _ (by omega)])
  repeat (first | refine es rfl rfl rfl ?_ | refine eg rfl (by assumption) rfl ?_ | refine ean rfl (by assumption) (by assumption) rfl ?_ | refine eal rfl (by assumption) (by assumption) rfl ?_ | refine eri rfl ?_ | refine erv rfl ?_ | refine erl rfl ?_ | refine era rfl ?_ | refine erz0 rfl ?_ | refine erz1 rfl ?_)
  try dsimp only [set1, set2, kilP, List.set_cons_zero, List.set_cons_succ, List.getElem?_cons_zero, List.getElem?_cons_succ, List.nil_append, List.cons_append, Option.toList_some, Option.toList_none]
  subst hr
  exact ⟨hG, rfl, ⟨_, hq⟩, ⟨k4, k1, k2, k3⟩, hH, hSs, hC⟩
theorem aTw.ph {M M' : Mm} {tb y : Nat} {x : Ce} {T : Tw} {H : Hs} (h : aTw M tb T) (e : M' = up M y x) (a : tb + 1 ≤ y) (c : y < tb + 10) (hH : aHs M' (tb + 1) H) : aTw M' tb (T.1, H, T.ss, T.cs) := by
  subst e
  exact ⟨h.1.kept (fun j hj => up_n _ _ (by omega)), hH, h.2.2.1.kept (fun j a1 a2 => up_n _ _ (by omega)), h.2.2.2.kept (fun j a1 a2 => up_n _ _ (by omega))⟩
theorem iso01 (to : Nat → Int32) (x : Int32) : ∀ n i, isoF to x n i = 0 ∨ isoF to x n i = 1
  | 0, _ => Or.inl rfl
  | n + 1, i => by
    rw [isoF]
    split
    · exact Or.inr rfl
    · exact iso01 to x n (i + 1)
def lnHouse (tp : Nat → Int32) (sc : Nat → Int64) (le : Nat) (T : Tw) (a : Nat) : Except Er (Tw × Nat) :=
  match pNew tp sc le T a with
  | .error e => .error e
  | .ok (w, a1) =>
  match pThis tp le 10 a1 with
  | .error e => .error e
  | .ok a2 =>
  match pWh tp le 1 9 a2 with
  | .error e => .error e
  | .ok (r, a3) =>
  match pThis tp le 11 a3 with
  | .error e => .error e
  | .ok a4 =>
  match pWh tp le 1 99 a4 with
  | .error e => .error e
  | .ok (e, a5) =>
  match pThis tp le 12 a5 with
  | .error e => .error e
  | .ok a6 =>
  match pWh tp le 0 999 a6 with
  | .error e => .error e
  | .ok (c, a7) =>
  match pThis tp le 13 a7 with
  | .error e => .error e
  | .ok a8 =>
  match pAny tp le a8 with
  | .error e => .error e
  | .ok (s, a9) =>
  .ok ((T.1, (T.hs.n + 1, vp_updL T.hs.nm T.hs.n w, upd T.hs.ro T.hs.n (nI r), upd T.hs.re T.hs.n (nI e), upd T.hs.bi T.hs.n (nI c), vp_updL T.hs.sm T.hs.n s, T.hs.to, T.hs.fr, T.hs.tt), T.ss, T.cs), a9)
theorem e5_lnHouse {ad : Nat → Nat} {M : Mm} {b tb lo : Nat} {tp : Nat → Int32} {sc : Nat → Int64} {z : Rz} {a : Nat} {q : Rq} {T : Tw} (hq : rS M b tb tp sc z a q) (hT : aTw M tb T) (hS : aSt ad lo M) (hlo : lo ≤ b) (htb : okTb b tb) (hn7 : T.hs.n ≤ 7) (hp4 : T.np ≤ 4) (hn6 : T.hs.n < 7) : EvM ad 4 (iX5_readHouseLine ad) [.ref b] M (lnP b tb tp sc z M (lnHouse tp sc z.2.2.2 T a)) := by
  generalize hr : lnHouse tp sc z.2.2.2 T a = r
  unfold lnHouse at hr
  have hG := Fr2.rf b tb M
  have h0 := hq.1.1
  unfold aR0 at h0
  have t0 := hT.1.1
  have s0 := hT.2.1.1
  refine ⟨Nat.le_of_ble_eq_true rfl, ?_⟩
  show Ev ad _ (rX5_readHouseLine ad) (0, [some (.ref b), none, none], [], M) _
  repeat (first | refine es rfl rfl rfl ?_ | refine eg rfl (by assumption) rfl ?_ | refine ean rfl (by assumption) (by assumption) rfl ?_ | refine eal rfl (by assumption) (by assumption) rfl ?_ | refine eri rfl ?_ | refine erv rfl ?_ | refine erl rfl ?_ | refine era rfl ?_ | refine erz0 rfl ?_ | refine erz1 rfl ?_)
  try dsimp only [set1, set2, kilP, List.set_cons_zero, List.set_cons_succ, List.getElem?_cons_zero, List.getElem?_cons_succ, List.nil_append, List.cons_append, Option.toList_some, Option.toList_none]
  refine ecv rfl rfl (by assumption) rfl rfl rfl (w_new hq hT hn7 hp4 (by unfold okTb at htb; omega)) (by first | rfl | exact Nat.blt_eq.mpr (by omega)) ?_
  rintro v M1 ⟨hF1, hm⟩
  have hT := hT.fr hF1 (by unfold okTb at htb; omega)
  have hS := hS.fr hF1 hlo
  have hG := hG.w hF1
  have t0 := hT.1.1
  have s0 := hT.2.1.1
  have s1 := hT.2.2.1.1
  have s2 := hT.2.2.2.1
  rcases hp : pNew tp sc z.2.2.2 T a with e | ⟨w, a1⟩
  · rw [hp] at hr hm
    dsimp only at hr hm
    subst hr
    obtain ⟨rfl, hE⟩ := hm
    try dsimp only [set1, set2, kilP, List.set_cons_zero, List.set_cons_succ, List.getElem?_cons_zero, List.getElem?_cons_succ, List.nil_append, List.cons_append, Option.toList_some, Option.toList_none]
    repeat (first | refine es rfl rfl rfl ?_ | refine eg rfl (by assumption) rfl ?_ | refine ean rfl (by assumption) (by assumption) rfl ?_ | refine eal rfl (by assumption) (by assumption) rfl ?_ | refine eri rfl ?_ | refine erv rfl ?_ | refine erl rfl ?_ | refine era rfl ?_ | refine erz0 rfl ?_ | refine erz1 rfl ?_)
    try dsimp only [set1, set2, kilP, List.set_cons_zero, List.set_cons_succ, List.getElem?_cons_zero, List.getElem?_cons_succ, List.nil_append, List.cons_append, Option.toList_some, Option.toList_none]
    exact ⟨hG, rfl, hE, _, hT⟩
  rw [hp] at hr hm
  dsimp only at hr hm
  obtain ⟨rfl, ⟨q, hq, hw_a1, hr'⟩⟩ := hm
  have h0 := hq.1.1
  unfold aR0 at h0
  try dsimp only [set1, set2, kilP, List.set_cons_zero, List.set_cons_succ, List.getElem?_cons_zero, List.getElem?_cons_succ, List.nil_append, List.cons_append, Option.toList_some, Option.toList_none]
  rw [hw_a1] at h0
  obtain ⟨g0, g1, g2, g3, g4, g5, g6, g7, g8⟩ := hT.2.1
  repeat (first | refine es rfl rfl rfl ?_ | refine eg rfl (by assumption) rfl ?_ | refine ean rfl (by assumption) (by assumption) rfl ?_ | refine eal rfl (by assumption) (by assumption) rfl ?_ | refine eri rfl ?_ | refine erv rfl ?_ | refine erl rfl ?_ | refine era rfl ?_ | refine erz0 rfl ?_ | refine erz1 rfl ?_)
  try dsimp only [set1, set2, kilP, List.set_cons_zero, List.set_cons_succ, List.getElem?_cons_zero, List.getElem?_cons_succ, List.nil_append, List.cons_append, Option.toList_some, Option.toList_none]
  refine etlM rfl (by assumption) (by assumption) rfl (fun M2 eM => ?_)
  have kk := up_w eM
  replace g0 := up_k eM g0 (by omega)
  replace g2 := up_k eM g2 (by omega)
  replace g3 := up_k eM g3 (by omega)
  replace g4 := up_k eM g4 (by omega)
  replace g5 := up_k eM g5 (by omega)
  replace g6 := up_k eM g6 (by omega)
  replace g7 := up_k eM g7 (by omega)
  replace g8 := up_k eM g8 (by omega)
  have hT := hT.ph eM (by omega) (by omega) (H := (T.hs.n, vp_updL T.hs.nm T.hs.n w, T.hs.ro, T.hs.re, T.hs.bi, T.hs.sm, T.hs.to, T.hs.fr, T.hs.tt)) ⟨g0, kk, g2, g3, g4, g5, g6, g7, g8⟩
  have hq := hq.u eM (by unfold okTb at htb; omega)
  have hG := hG.u eM (by omega) (by omega)
  have hS : aSt ad lo M2 := fun i hi => ⟨(hS i hi).1, up_k eM (hS i hi).2 (by have := (hS i hi).1; unfold okTb at htb; omega)⟩
  have t0 := hT.1.1
  have s0 := hT.2.1.1
  have h0 := hq.1.1
  unfold aR0 at h0
  repeat (first | refine es rfl rfl rfl ?_ | refine eg rfl (by assumption) rfl ?_ | refine ean rfl (by assumption) (by assumption) rfl ?_ | refine eal rfl (by assumption) (by assumption) rfl ?_ | refine eri rfl ?_ | refine erv rfl ?_ | refine erl rfl ?_ | refine era rfl ?_ | refine erz0 rfl ?_ | refine erz1 rfl ?_)
  try dsimp only [set1, set2, kilP, List.set_cons_zero, List.set_cons_succ, List.getElem?_cons_zero, List.getElem?_cons_succ, List.nil_append, List.cons_append, Option.toList_some, Option.toList_none]
  refine ecv rfl rfl (by assumption) rfl rfl rfl (w_this hq hS hlo (i := 10) (by omega)) (by first | rfl | exact Nat.blt_eq.mpr (by omega)) ?_
  rintro v M1 ⟨hF1, hm⟩
  have hT := hT.fr hF1 (by unfold okTb at htb; omega)
  have hS := hS.fr hF1 hlo
  have hG := hG.w hF1
  have t0 := hT.1.1
  have s0 := hT.2.1.1
  have s1 := hT.2.2.1.1
  have s2 := hT.2.2.2.1
  rcases hp : pThis tp z.2.2.2 10 a1 with e | a2
  · rw [hp] at hr hm
    dsimp only at hr hm
    subst hr
    obtain ⟨rfl, hE⟩ := hm
    try dsimp only [set1, set2, kilP, List.set_cons_zero, List.set_cons_succ, List.getElem?_cons_zero, List.getElem?_cons_succ, List.nil_append, List.cons_append, Option.toList_some, Option.toList_none]
    repeat (first | refine es rfl rfl rfl ?_ | refine eg rfl (by assumption) rfl ?_ | refine ean rfl (by assumption) (by assumption) rfl ?_ | refine eal rfl (by assumption) (by assumption) rfl ?_ | refine eri rfl ?_ | refine erv rfl ?_ | refine erl rfl ?_ | refine era rfl ?_ | refine erz0 rfl ?_ | refine erz1 rfl ?_)
    try dsimp only [set1, set2, kilP, List.set_cons_zero, List.set_cons_succ, List.getElem?_cons_zero, List.getElem?_cons_succ, List.nil_append, List.cons_append, Option.toList_some, Option.toList_none]
    exact ⟨hG, rfl, hE, _, hT⟩
  rw [hp] at hr hm
  dsimp only at hr hm
  obtain ⟨rfl, ⟨q, hq, hr'⟩⟩ := hm
  have h0 := hq.1.1
  unfold aR0 at h0
  try dsimp only [set1, set2, kilP, List.set_cons_zero, List.set_cons_succ, List.getElem?_cons_zero, List.getElem?_cons_succ, List.nil_append, List.cons_append, Option.toList_some, Option.toList_none]
  repeat (first | refine es rfl rfl rfl ?_ | refine eg rfl (by assumption) rfl ?_ | refine ean rfl (by assumption) (by assumption) rfl ?_ | refine eal rfl (by assumption) (by assumption) rfl ?_ | refine eri rfl ?_ | refine erv rfl ?_ | refine erl rfl ?_ | refine era rfl ?_ | refine erz0 rfl ?_ | refine erz1 rfl ?_)
  try dsimp only [set1, set2, kilP, List.set_cons_zero, List.set_cons_succ, List.getElem?_cons_zero, List.getElem?_cons_succ, List.nil_append, List.cons_append, Option.toList_some, Option.toList_none]
  refine ecv rfl rfl (by assumption) rfl rfl rfl (w_wh (lo := 1) (hi := 9) hq (by omega) (by omega)) (by first | rfl | exact Nat.blt_eq.mpr (by omega)) ?_
  rintro v M1 ⟨hF1, hm⟩
  have hT := hT.fr hF1 (by unfold okTb at htb; omega)
  have hS := hS.fr hF1 hlo
  have hG := hG.w hF1
  have t0 := hT.1.1
  have s0 := hT.2.1.1
  have s1 := hT.2.2.1.1
  have s2 := hT.2.2.2.1
  rcases hp : pWh tp z.2.2.2 1 9 a2 with e | ⟨r, a3⟩
  · rw [hp] at hr hm
    dsimp only at hr hm
    subst hr
    obtain ⟨rfl, hE⟩ := hm
    try dsimp only [set1, set2, kilP, List.set_cons_zero, List.set_cons_succ, List.getElem?_cons_zero, List.getElem?_cons_succ, List.nil_append, List.cons_append, Option.toList_some, Option.toList_none]
    repeat (first | refine es rfl rfl rfl ?_ | refine eg rfl (by assumption) rfl ?_ | refine ean rfl (by assumption) (by assumption) rfl ?_ | refine eal rfl (by assumption) (by assumption) rfl ?_ | refine eri rfl ?_ | refine erv rfl ?_ | refine erl rfl ?_ | refine era rfl ?_ | refine erz0 rfl ?_ | refine erz1 rfl ?_)
    try dsimp only [set1, set2, kilP, List.set_cons_zero, List.set_cons_succ, List.getElem?_cons_zero, List.getElem?_cons_succ, List.nil_append, List.cons_append, Option.toList_some, Option.toList_none]
    exact ⟨hG, rfl, hE, _, hT⟩
  rw [hp] at hr hm
  dsimp only at hr hm
  obtain ⟨rfl, ⟨q, hq, hw_a3, hr', hb1_a3, hb2_a3⟩⟩ := hm
  have h0 := hq.1.1
  unfold aR0 at h0
  try dsimp only [set1, set2, kilP, List.set_cons_zero, List.set_cons_succ, List.getElem?_cons_zero, List.getElem?_cons_succ, List.nil_append, List.cons_append, Option.toList_some, Option.toList_none]
  rw [hw_a3] at h0
  obtain ⟨g0, g1, g2, g3, g4, g5, g6, g7, g8⟩ := hT.2.1
  repeat (first | refine es rfl rfl rfl ?_ | refine eg rfl (by assumption) rfl ?_ | refine ean rfl (by assumption) (by assumption) rfl ?_ | refine eal rfl (by assumption) (by assumption) rfl ?_ | refine eri rfl ?_ | refine erv rfl ?_ | refine erl rfl ?_ | refine era rfl ?_ | refine erz0 rfl ?_ | refine erz1 rfl ?_)
  try dsimp only [set1, set2, kilP, List.set_cons_zero, List.set_cons_succ, List.getElem?_cons_zero, List.getElem?_cons_succ, List.nil_append, List.cons_append, Option.toList_some, Option.toList_none]
  refine etM rfl (by assumption) (by assumption) rfl (fun M2 eM => ?_)
  have kk := up_w eM
  replace g0 := up_k eM g0 (by omega)
  replace g1 := up_k eM g1 (by omega)
  replace g3 := up_k eM g3 (by omega)
  replace g4 := up_k eM g4 (by omega)
  replace g5 := up_k eM g5 (by omega)
  replace g6 := up_k eM g6 (by omega)
  replace g7 := up_k eM g7 (by omega)
  replace g8 := up_k eM g8 (by omega)
  have hT := hT.ph eM (by omega) (by omega) (H := (T.hs.n, vp_updL T.hs.nm T.hs.n w, upd T.hs.ro T.hs.n (nI r), T.hs.re, T.hs.bi, T.hs.sm, T.hs.to, T.hs.fr, T.hs.tt)) ⟨g0, g1, kk, g3, g4, g5, g6, g7, g8⟩
  have hq := hq.u eM (by unfold okTb at htb; omega)
  have hG := hG.u eM (by omega) (by omega)
  have hS : aSt ad lo M2 := fun i hi => ⟨(hS i hi).1, up_k eM (hS i hi).2 (by have := (hS i hi).1; unfold okTb at htb; omega)⟩
  have t0 := hT.1.1
  have s0 := hT.2.1.1
  have h0 := hq.1.1
  unfold aR0 at h0
  repeat (first | refine es rfl rfl rfl ?_ | refine eg rfl (by assumption) rfl ?_ | refine ean rfl (by assumption) (by assumption) rfl ?_ | refine eal rfl (by assumption) (by assumption) rfl ?_ | refine eri rfl ?_ | refine erv rfl ?_ | refine erl rfl ?_ | refine era rfl ?_ | refine erz0 rfl ?_ | refine erz1 rfl ?_)
  try dsimp only [set1, set2, kilP, List.set_cons_zero, List.set_cons_succ, List.getElem?_cons_zero, List.getElem?_cons_succ, List.nil_append, List.cons_append, Option.toList_some, Option.toList_none]
  refine ecv rfl rfl (by assumption) rfl rfl rfl (w_this hq hS hlo (i := 11) (by omega)) (by first | rfl | exact Nat.blt_eq.mpr (by omega)) ?_
  rintro v M1 ⟨hF1, hm⟩
  have hT := hT.fr hF1 (by unfold okTb at htb; omega)
  have hS := hS.fr hF1 hlo
  have hG := hG.w hF1
  have t0 := hT.1.1
  have s0 := hT.2.1.1
  have s1 := hT.2.2.1.1
  have s2 := hT.2.2.2.1
  rcases hp : pThis tp z.2.2.2 11 a3 with e | a4
  · rw [hp] at hr hm
    dsimp only at hr hm
    subst hr
    obtain ⟨rfl, hE⟩ := hm
    try dsimp only [set1, set2, kilP, List.set_cons_zero, List.set_cons_succ, List.getElem?_cons_zero, List.getElem?_cons_succ, List.nil_append, List.cons_append, Option.toList_some, Option.toList_none]
    repeat (first | refine es rfl rfl rfl ?_ | refine eg rfl (by assumption) rfl ?_ | refine ean rfl (by assumption) (by assumption) rfl ?_ | refine eal rfl (by assumption) (by assumption) rfl ?_ | refine eri rfl ?_ | refine erv rfl ?_ | refine erl rfl ?_ | refine era rfl ?_ | refine erz0 rfl ?_ | refine erz1 rfl ?_)
    try dsimp only [set1, set2, kilP, List.set_cons_zero, List.set_cons_succ, List.getElem?_cons_zero, List.getElem?_cons_succ, List.nil_append, List.cons_append, Option.toList_some, Option.toList_none]
    exact ⟨hG, rfl, hE, _, hT⟩
  rw [hp] at hr hm
  dsimp only at hr hm
  obtain ⟨rfl, ⟨q, hq, hr'⟩⟩ := hm
  have h0 := hq.1.1
  unfold aR0 at h0
  try dsimp only [set1, set2, kilP, List.set_cons_zero, List.set_cons_succ, List.getElem?_cons_zero, List.getElem?_cons_succ, List.nil_append, List.cons_append, Option.toList_some, Option.toList_none]
  repeat (first | refine es rfl rfl rfl ?_ | refine eg rfl (by assumption) rfl ?_ | refine ean rfl (by assumption) (by assumption) rfl ?_ | refine eal rfl (by assumption) (by assumption) rfl ?_ | refine eri rfl ?_ | refine erv rfl ?_ | refine erl rfl ?_ | refine era rfl ?_ | refine erz0 rfl ?_ | refine erz1 rfl ?_)
  try dsimp only [set1, set2, kilP, List.set_cons_zero, List.set_cons_succ, List.getElem?_cons_zero, List.getElem?_cons_succ, List.nil_append, List.cons_append, Option.toList_some, Option.toList_none]
  refine ecv rfl rfl (by assumption) rfl rfl rfl (w_wh (lo := 1) (hi := 99) hq (by omega) (by omega)) (by first | rfl | exact Nat.blt_eq.mpr (by omega)) ?_
  rintro v M1 ⟨hF1, hm⟩
  have hT := hT.fr hF1 (by unfold okTb at htb; omega)
  have hS := hS.fr hF1 hlo
  have hG := hG.w hF1
  have t0 := hT.1.1
  have s0 := hT.2.1.1
  have s1 := hT.2.2.1.1
  have s2 := hT.2.2.2.1
  rcases hp : pWh tp z.2.2.2 1 99 a4 with e | ⟨e, a5⟩
  · rw [hp] at hr hm
    dsimp only at hr hm
    subst hr
    obtain ⟨rfl, hE⟩ := hm
    try dsimp only [set1, set2, kilP, List.set_cons_zero, List.set_cons_succ, List.getElem?_cons_zero, List.getElem?_cons_succ, List.nil_append, List.cons_append, Option.toList_some, Option.toList_none]
    repeat (first | refine es rfl rfl rfl ?_ | refine eg rfl (by assumption) rfl ?_ | refine ean rfl (by assumption) (by assumption) rfl ?_ | refine eal rfl (by assumption) (by assumption) rfl ?_ | refine eri rfl ?_ | refine erv rfl ?_ | refine erl rfl ?_ | refine era rfl ?_ | refine erz0 rfl ?_ | refine erz1 rfl ?_)
    try dsimp only [set1, set2, kilP, List.set_cons_zero, List.set_cons_succ, List.getElem?_cons_zero, List.getElem?_cons_succ, List.nil_append, List.cons_append, Option.toList_some, Option.toList_none]
    exact ⟨hG, rfl, hE, _, hT⟩
  rw [hp] at hr hm
  dsimp only at hr hm
  obtain ⟨rfl, ⟨q, hq, hw_a5, hr', hb1_a5, hb2_a5⟩⟩ := hm
  have h0 := hq.1.1
  unfold aR0 at h0
  try dsimp only [set1, set2, kilP, List.set_cons_zero, List.set_cons_succ, List.getElem?_cons_zero, List.getElem?_cons_succ, List.nil_append, List.cons_append, Option.toList_some, Option.toList_none]
  rw [hw_a5] at h0
  obtain ⟨g0, g1, g2, g3, g4, g5, g6, g7, g8⟩ := hT.2.1
  repeat (first | refine es rfl rfl rfl ?_ | refine eg rfl (by assumption) rfl ?_ | refine ean rfl (by assumption) (by assumption) rfl ?_ | refine eal rfl (by assumption) (by assumption) rfl ?_ | refine eri rfl ?_ | refine erv rfl ?_ | refine erl rfl ?_ | refine era rfl ?_ | refine erz0 rfl ?_ | refine erz1 rfl ?_)
  try dsimp only [set1, set2, kilP, List.set_cons_zero, List.set_cons_succ, List.getElem?_cons_zero, List.getElem?_cons_succ, List.nil_append, List.cons_append, Option.toList_some, Option.toList_none]
  refine etM rfl (by assumption) (by assumption) rfl (fun M2 eM => ?_)
  have kk := up_w eM
  replace g0 := up_k eM g0 (by omega)
  replace g1 := up_k eM g1 (by omega)
  replace g2 := up_k eM g2 (by omega)
  replace g4 := up_k eM g4 (by omega)
  replace g5 := up_k eM g5 (by omega)
  replace g6 := up_k eM g6 (by omega)
  replace g7 := up_k eM g7 (by omega)
  replace g8 := up_k eM g8 (by omega)
  have hT := hT.ph eM (by omega) (by omega) (H := (T.hs.n, vp_updL T.hs.nm T.hs.n w, upd T.hs.ro T.hs.n (nI r), upd T.hs.re T.hs.n (nI e), T.hs.bi, T.hs.sm, T.hs.to, T.hs.fr, T.hs.tt)) ⟨g0, g1, g2, kk, g4, g5, g6, g7, g8⟩
  have hq := hq.u eM (by unfold okTb at htb; omega)
  have hG := hG.u eM (by omega) (by omega)
  have hS : aSt ad lo M2 := fun i hi => ⟨(hS i hi).1, up_k eM (hS i hi).2 (by have := (hS i hi).1; unfold okTb at htb; omega)⟩
  have t0 := hT.1.1
  have s0 := hT.2.1.1
  have h0 := hq.1.1
  unfold aR0 at h0
  repeat (first | refine es rfl rfl rfl ?_ | refine eg rfl (by assumption) rfl ?_ | refine ean rfl (by assumption) (by assumption) rfl ?_ | refine eal rfl (by assumption) (by assumption) rfl ?_ | refine eri rfl ?_ | refine erv rfl ?_ | refine erl rfl ?_ | refine era rfl ?_ | refine erz0 rfl ?_ | refine erz1 rfl ?_)
  try dsimp only [set1, set2, kilP, List.set_cons_zero, List.set_cons_succ, List.getElem?_cons_zero, List.getElem?_cons_succ, List.nil_append, List.cons_append, Option.toList_some, Option.toList_none]
  refine ecv rfl rfl (by assumption) rfl rfl rfl (w_this hq hS hlo (i := 12) (by omega)) (by first | rfl | exact Nat.blt_eq.mpr (by omega)) ?_
  rintro v M1 ⟨hF1, hm⟩
  have hT := hT.fr hF1 (by unfold okTb at htb; omega)
  have hS := hS.fr hF1 hlo
  have hG := hG.w hF1
  have t0 := hT.1.1
  have s0 := hT.2.1.1
  have s1 := hT.2.2.1.1
  have s2 := hT.2.2.2.1
  rcases hp : pThis tp z.2.2.2 12 a5 with e | a6
  · rw [hp] at hr hm
    dsimp only at hr hm
    subst hr
    obtain ⟨rfl, hE⟩ := hm
    try dsimp only [set1, set2, kilP, List.set_cons_zero, List.set_cons_succ, List.getElem?_cons_zero, List.getElem?_cons_succ, List.nil_append, List.cons_append, Option.toList_some, Option.toList_none]
    repeat (first | refine es rfl rfl rfl ?_ | refine eg rfl (by assumption) rfl ?_ | refine ean rfl (by assumption) (by assumption) rfl ?_ | refine eal rfl (by assumption) (by assumption) rfl ?_ | refine eri rfl ?_ | refine erv rfl ?_ | refine erl rfl ?_ | refine era rfl ?_ | refine erz0 rfl ?_ | refine erz1 rfl ?_)
    try dsimp only [set1, set2, kilP, List.set_cons_zero, List.set_cons_succ, List.getElem?_cons_zero, List.getElem?_cons_succ, List.nil_append, List.cons_append, Option.toList_some, Option.toList_none]
    exact ⟨hG, rfl, hE, _, hT⟩
  rw [hp] at hr hm
  dsimp only at hr hm
  obtain ⟨rfl, ⟨q, hq, hr'⟩⟩ := hm
  have h0 := hq.1.1
  unfold aR0 at h0
  try dsimp only [set1, set2, kilP, List.set_cons_zero, List.set_cons_succ, List.getElem?_cons_zero, List.getElem?_cons_succ, List.nil_append, List.cons_append, Option.toList_some, Option.toList_none]
  repeat (first | refine es rfl rfl rfl ?_ | refine eg rfl (by assumption) rfl ?_ | refine ean rfl (by assumption) (by assumption) rfl ?_ | refine eal rfl (by assumption) (by assumption) rfl ?_ | refine eri rfl ?_ | refine erv rfl ?_ | refine erl rfl ?_ | refine era rfl ?_ | refine erz0 rfl ?_ | refine erz1 rfl ?_)
  try dsimp only [set1, set2, kilP, List.set_cons_zero, List.set_cons_succ, List.getElem?_cons_zero, List.getElem?_cons_succ, List.nil_append, List.cons_append, Option.toList_some, Option.toList_none]
  refine ecv rfl rfl (by assumption) rfl rfl rfl (w_wh (lo := 0) (hi := 999) hq (by omega) (by omega)) (by first | rfl | exact Nat.blt_eq.mpr (by omega)) ?_
  rintro v M1 ⟨hF1, hm⟩
  have hT := hT.fr hF1 (by unfold okTb at htb; omega)
  have hS := hS.fr hF1 hlo
  have hG := hG.w hF1
  have t0 := hT.1.1
  have s0 := hT.2.1.1
  have s1 := hT.2.2.1.1
  have s2 := hT.2.2.2.1
  rcases hp : pWh tp z.2.2.2 0 999 a6 with e | ⟨c, a7⟩
  · rw [hp] at hr hm
    dsimp only at hr hm
    subst hr
    obtain ⟨rfl, hE⟩ := hm
    try dsimp only [set1, set2, kilP, List.set_cons_zero, List.set_cons_succ, List.getElem?_cons_zero, List.getElem?_cons_succ, List.nil_append, List.cons_append, Option.toList_some, Option.toList_none]
    repeat (first | refine es rfl rfl rfl ?_ | refine eg rfl (by assumption) rfl ?_ | refine ean rfl (by assumption) (by assumption) rfl ?_ | refine eal rfl (by assumption) (by assumption) rfl ?_ | refine eri rfl ?_ | refine erv rfl ?_ | refine erl rfl ?_ | refine era rfl ?_ | refine erz0 rfl ?_ | refine erz1 rfl ?_)
    try dsimp only [set1, set2, kilP, List.set_cons_zero, List.set_cons_succ, List.getElem?_cons_zero, List.getElem?_cons_succ, List.nil_append, List.cons_append, Option.toList_some, Option.toList_none]
    exact ⟨hG, rfl, hE, _, hT⟩
  rw [hp] at hr hm
  dsimp only at hr hm
  obtain ⟨rfl, ⟨q, hq, hw_a7, hr', hb1_a7, hb2_a7⟩⟩ := hm
  have h0 := hq.1.1
  unfold aR0 at h0
  try dsimp only [set1, set2, kilP, List.set_cons_zero, List.set_cons_succ, List.getElem?_cons_zero, List.getElem?_cons_succ, List.nil_append, List.cons_append, Option.toList_some, Option.toList_none]
  rw [hw_a7] at h0
  obtain ⟨g0, g1, g2, g3, g4, g5, g6, g7, g8⟩ := hT.2.1
  repeat (first | refine es rfl rfl rfl ?_ | refine eg rfl (by assumption) rfl ?_ | refine ean rfl (by assumption) (by assumption) rfl ?_ | refine eal rfl (by assumption) (by assumption) rfl ?_ | refine eri rfl ?_ | refine erv rfl ?_ | refine erl rfl ?_ | refine era rfl ?_ | refine erz0 rfl ?_ | refine erz1 rfl ?_)
  try dsimp only [set1, set2, kilP, List.set_cons_zero, List.set_cons_succ, List.getElem?_cons_zero, List.getElem?_cons_succ, List.nil_append, List.cons_append, Option.toList_some, Option.toList_none]
  refine etM rfl (by assumption) (by assumption) rfl (fun M2 eM => ?_)
  have kk := up_w eM
  replace g0 := up_k eM g0 (by omega)
  replace g1 := up_k eM g1 (by omega)
  replace g2 := up_k eM g2 (by omega)
  replace g3 := up_k eM g3 (by omega)
  replace g5 := up_k eM g5 (by omega)
  replace g6 := up_k eM g6 (by omega)
  replace g7 := up_k eM g7 (by omega)
  replace g8 := up_k eM g8 (by omega)
  have hT := hT.ph eM (by omega) (by omega) (H := (T.hs.n, vp_updL T.hs.nm T.hs.n w, upd T.hs.ro T.hs.n (nI r), upd T.hs.re T.hs.n (nI e), upd T.hs.bi T.hs.n (nI c), T.hs.sm, T.hs.to, T.hs.fr, T.hs.tt)) ⟨g0, g1, g2, g3, kk, g5, g6, g7, g8⟩
  have hq := hq.u eM (by unfold okTb at htb; omega)
  have hG := hG.u eM (by omega) (by omega)
  have hS : aSt ad lo M2 := fun i hi => ⟨(hS i hi).1, up_k eM (hS i hi).2 (by have := (hS i hi).1; unfold okTb at htb; omega)⟩
  have t0 := hT.1.1
  have s0 := hT.2.1.1
  have h0 := hq.1.1
  unfold aR0 at h0
  repeat (first | refine es rfl rfl rfl ?_ | refine eg rfl (by assumption) rfl ?_ | refine ean rfl (by assumption) (by assumption) rfl ?_ | refine eal rfl (by assumption) (by assumption) rfl ?_ | refine eri rfl ?_ | refine erv rfl ?_ | refine erl rfl ?_ | refine era rfl ?_ | refine erz0 rfl ?_ | refine erz1 rfl ?_)
  try dsimp only [set1, set2, kilP, List.set_cons_zero, List.set_cons_succ, List.getElem?_cons_zero, List.getElem?_cons_succ, List.nil_append, List.cons_append, Option.toList_some, Option.toList_none]
  refine ecv rfl rfl (by assumption) rfl rfl rfl (w_this hq hS hlo (i := 13) (by omega)) (by first | rfl | exact Nat.blt_eq.mpr (by omega)) ?_
  rintro v M1 ⟨hF1, hm⟩
  have hT := hT.fr hF1 (by unfold okTb at htb; omega)
  have hS := hS.fr hF1 hlo
  have hG := hG.w hF1
  have t0 := hT.1.1
  have s0 := hT.2.1.1
  have s1 := hT.2.2.1.1
  have s2 := hT.2.2.2.1
  rcases hp : pThis tp z.2.2.2 13 a7 with e | a8
  · rw [hp] at hr hm
    dsimp only at hr hm
    subst hr
    obtain ⟨rfl, hE⟩ := hm
    try dsimp only [set1, set2, kilP, List.set_cons_zero, List.set_cons_succ, List.getElem?_cons_zero, List.getElem?_cons_succ, List.nil_append, List.cons_append, Option.toList_some, Option.toList_none]
    repeat (first | refine es rfl rfl rfl ?_ | refine eg rfl (by assumption) rfl ?_ | refine ean rfl (by assumption) (by assumption) rfl ?_ | refine eal rfl (by assumption) (by assumption) rfl ?_ | refine eri rfl ?_ | refine erv rfl ?_ | refine erl rfl ?_ | refine era rfl ?_ | refine erz0 rfl ?_ | refine erz1 rfl ?_)
    try dsimp only [set1, set2, kilP, List.set_cons_zero, List.set_cons_succ, List.getElem?_cons_zero, List.getElem?_cons_succ, List.nil_append, List.cons_append, Option.toList_some, Option.toList_none]
    exact ⟨hG, rfl, hE, _, hT⟩
  rw [hp] at hr hm
  dsimp only at hr hm
  obtain ⟨rfl, ⟨q, hq, hr'⟩⟩ := hm
  have h0 := hq.1.1
  unfold aR0 at h0
  try dsimp only [set1, set2, kilP, List.set_cons_zero, List.set_cons_succ, List.getElem?_cons_zero, List.getElem?_cons_succ, List.nil_append, List.cons_append, Option.toList_some, Option.toList_none]
  repeat (first | refine es rfl rfl rfl ?_ | refine eg rfl (by assumption) rfl ?_ | refine ean rfl (by assumption) (by assumption) rfl ?_ | refine eal rfl (by assumption) (by assumption) rfl ?_ | refine eri rfl ?_ | refine erv rfl ?_ | refine erl rfl ?_ | refine era rfl ?_ | refine erz0 rfl ?_ | refine erz1 rfl ?_)
  try dsimp only [set1, set2, kilP, List.set_cons_zero, List.set_cons_succ, List.getElem?_cons_zero, List.getElem?_cons_succ, List.nil_append, List.cons_append, Option.toList_some, Option.toList_none]
  refine ecv rfl rfl (by assumption) rfl rfl rfl (w_any hq) (by first | rfl | exact Nat.blt_eq.mpr (by omega)) ?_
  rintro v M1 ⟨hF1, hm⟩
  have hT := hT.fr hF1 (by unfold okTb at htb; omega)
  have hS := hS.fr hF1 hlo
  have hG := hG.w hF1
  have t0 := hT.1.1
  have s0 := hT.2.1.1
  have s1 := hT.2.2.1.1
  have s2 := hT.2.2.2.1
  rcases hp : pAny tp z.2.2.2 a8 with e | ⟨s, a9⟩
  · rw [hp] at hr hm
    dsimp only at hr hm
    subst hr
    obtain ⟨rfl, hE⟩ := hm
    try dsimp only [set1, set2, kilP, List.set_cons_zero, List.set_cons_succ, List.getElem?_cons_zero, List.getElem?_cons_succ, List.nil_append, List.cons_append, Option.toList_some, Option.toList_none]
    repeat (first | refine es rfl rfl rfl ?_ | refine eg rfl (by assumption) rfl ?_ | refine ean rfl (by assumption) (by assumption) rfl ?_ | refine eal rfl (by assumption) (by assumption) rfl ?_ | refine eri rfl ?_ | refine erv rfl ?_ | refine erl rfl ?_ | refine era rfl ?_ | refine erz0 rfl ?_ | refine erz1 rfl ?_)
    try dsimp only [set1, set2, kilP, List.set_cons_zero, List.set_cons_succ, List.getElem?_cons_zero, List.getElem?_cons_succ, List.nil_append, List.cons_append, Option.toList_some, Option.toList_none]
    exact ⟨hG, rfl, hE, _, hT⟩
  rw [hp] at hr hm
  dsimp only at hr hm
  obtain ⟨rfl, ⟨q, hq, hw_a9, hr', hst⟩⟩ := hm
  have h0 := hq.1.1
  unfold aR0 at h0
  try dsimp only [set1, set2, kilP, List.set_cons_zero, List.set_cons_succ, List.getElem?_cons_zero, List.getElem?_cons_succ, List.nil_append, List.cons_append, Option.toList_some, Option.toList_none]
  rw [hw_a9] at h0
  obtain ⟨g0, g1, g2, g3, g4, g5, g6, g7, g8⟩ := hT.2.1
  repeat (first | refine es rfl rfl rfl ?_ | refine eg rfl (by assumption) rfl ?_ | refine ean rfl (by assumption) (by assumption) rfl ?_ | refine eal rfl (by assumption) (by assumption) rfl ?_ | refine eri rfl ?_ | refine erv rfl ?_ | refine erl rfl ?_ | refine era rfl ?_ | refine erz0 rfl ?_ | refine erz1 rfl ?_)
  try dsimp only [set1, set2, kilP, List.set_cons_zero, List.set_cons_succ, List.getElem?_cons_zero, List.getElem?_cons_succ, List.nil_append, List.cons_append, Option.toList_some, Option.toList_none]
  refine etlM rfl (by assumption) (by assumption) rfl (fun M2 eM => ?_)
  have kk := up_w eM
  replace g0 := up_k eM g0 (by omega)
  replace g1 := up_k eM g1 (by omega)
  replace g2 := up_k eM g2 (by omega)
  replace g3 := up_k eM g3 (by omega)
  replace g4 := up_k eM g4 (by omega)
  replace g6 := up_k eM g6 (by omega)
  replace g7 := up_k eM g7 (by omega)
  replace g8 := up_k eM g8 (by omega)
  have hT := hT.ph eM (by omega) (by omega) (H := (T.hs.n, vp_updL T.hs.nm T.hs.n w, upd T.hs.ro T.hs.n (nI r), upd T.hs.re T.hs.n (nI e), upd T.hs.bi T.hs.n (nI c), vp_updL T.hs.sm T.hs.n s, T.hs.to, T.hs.fr, T.hs.tt)) ⟨g0, g1, g2, g3, g4, kk, g6, g7, g8⟩
  have hq := hq.u eM (by unfold okTb at htb; omega)
  have hG := hG.u eM (by omega) (by omega)
  have hS : aSt ad lo M2 := fun i hi => ⟨(hS i hi).1, up_k eM (hS i hi).2 (by have := (hS i hi).1; unfold okTb at htb; omega)⟩
  have t0 := hT.1.1
  have s0 := hT.2.1.1
  have h0 := hq.1.1
  unfold aR0 at h0
  obtain ⟨g0, g1, g2, g3, g4, g5, g6, g7, g8⟩ := hT.2.1
  repeat (first | refine es rfl rfl rfl ?_ | refine eg rfl (by assumption) rfl ?_ | refine ean rfl (by assumption) (by assumption) rfl ?_ | refine eal rfl (by assumption) (by assumption) rfl ?_ | refine eri rfl ?_ | refine erv rfl ?_ | refine erl rfl ?_ | refine era rfl ?_ | refine erz0 rfl ?_ | refine erz1 rfl ?_)
  try dsimp only [set1, set2, kilP, List.set_cons_zero, List.set_cons_succ, List.getElem?_cons_zero, List.getElem?_cons_succ, List.nil_append, List.cons_append, Option.toList_some, Option.toList_none]
  rw [nI_1]
  refine epM rfl (by assumption) rfl rfl rfl (fun M2 eM => ?_)
  have kk := up_w eM
  replace g1 := up_k eM g1 (by omega)
  replace g2 := up_k eM g2 (by omega)
  replace g3 := up_k eM g3 (by omega)
  replace g4 := up_k eM g4 (by omega)
  replace g5 := up_k eM g5 (by omega)
  replace g6 := up_k eM g6 (by omega)
  replace g7 := up_k eM g7 (by omega)
  replace g8 := up_k eM g8 (by omega)
  have hT := hT.ph eM (by omega) (by omega) (H := (T.hs.n + 1, vp_updL T.hs.nm T.hs.n w, upd T.hs.ro T.hs.n (nI r), upd T.hs.re T.hs.n (nI e), upd T.hs.bi T.hs.n (nI c), vp_updL T.hs.sm T.hs.n s, T.hs.to, T.hs.fr, T.hs.tt)) ⟨kk, g1, g2, g3, g4, g5, g6, g7, g8⟩
  have hq := hq.u eM (by unfold okTb at htb; omega)
  have hG := hG.u eM (by omega) (by omega)
  have hS : aSt ad lo M2 := fun i hi => ⟨(hS i hi).1, up_k eM (hS i hi).2 (by have := (hS i hi).1; unfold okTb at htb; omega)⟩
  have t0 := hT.1.1
  have s0 := hT.2.1.1
  have h0 := hq.1.1
  unfold aR0 at h0
  repeat (first | refine es rfl rfl rfl ?_ | refine eg rfl (by assumption) rfl ?_ | refine ean rfl (by assumption) (by assumption) rfl ?_ | refine eal rfl (by assumption) (by assumption) rfl ?_ | refine eri rfl ?_ | refine erv rfl ?_ | refine erl rfl ?_ | refine era rfl ?_ | refine erz0 rfl ?_ | refine erz1 rfl ?_)
  try dsimp only [set1, set2, kilP, List.set_cons_zero, List.set_cons_succ, List.getElem?_cons_zero, List.getElem?_cons_succ, List.nil_append, List.cons_append, Option.toList_some, Option.toList_none]
  subst hr
  exact ⟨hG, rfl, ⟨_, hq⟩, hT⟩
def lnWrong (tp : Nat → Int32) (sc : Nat → Int64) (le : Nat) (T : Tw) (a : Nat) : Except Er (Tw × Nat) :=
  match pHou tp sc le T a with
  | .error e => .error e
  | .ok (f, a1) =>
  if ¬ T.hs.to f = -2 then .error (3, (tk tp le a).1) else
  match pThis tp le 14 a1 with
  | .error e => .error e
  | .ok a2 =>
  match pHou tp sc le T a2 with
  | .error e => .error e
  | .ok (g, a3) =>
  if g = f ∨ isoF T.hs.to (nI g) T.hs.n 0 = 1 then .error (3, (tk tp le a2).1) else
  .ok ((T.1, (T.hs.n, T.hs.nm, T.hs.ro, T.hs.re, T.hs.bi, T.hs.sm, upd T.hs.to f (nI g), T.hs.fr, T.hs.tt), T.ss, T.cs), a3)
theorem e5_lnWrong {ad : Nat → Nat} {M : Mm} {b tb lo : Nat} {tp : Nat → Int32} {sc : Nat → Int64} {z : Rz} {a : Nat} {q : Rq} {T : Tw} (hq : rS M b tb tp sc z a q) (hT : aTw M tb T) (hS : aSt ad lo M) (hlo : lo ≤ b) (htb : okTb b tb) (hn7 : T.hs.n ≤ 7) : EvM ad 4 (iX5_readWrongLine ad) [.ref b] M (lnP b tb tp sc z M (lnWrong tp sc z.2.2.2 T a)) := by
  generalize hr : lnWrong tp sc z.2.2.2 T a = r
  unfold lnWrong at hr
  have hG := Fr2.rf b tb M
  have h0 := hq.1.1
  unfold aR0 at h0
  have t0 := hT.1.1
  have s0 := hT.2.1.1
  refine ⟨Nat.le_of_ble_eq_true rfl, ?_⟩
  show Ev ad _ (rX5_readWrongLine ad) (0, [some (.ref b), none], [], M) _
  repeat (first | refine es rfl rfl rfl ?_ | refine eg rfl (by assumption) rfl ?_ | refine ean rfl (by assumption) (by assumption) rfl ?_ | refine eal rfl (by assumption) (by assumption) rfl ?_ | refine eri rfl ?_ | refine erv rfl ?_ | refine erl rfl ?_ | refine era rfl ?_ | refine erz0 rfl ?_ | refine erz1 rfl ?_)
  try dsimp only [set1, set2, kilP, List.set_cons_zero, List.set_cons_succ, List.getElem?_cons_zero, List.getElem?_cons_succ, List.nil_append, List.cons_append, Option.toList_some, Option.toList_none]
  refine ecv rfl rfl (by assumption) rfl rfl rfl (w_told hq hT hn7 (by unfold okTb at htb; omega)) (by first | rfl | exact Nat.blt_eq.mpr (by omega)) ?_
  rintro v M1 ⟨hF1, hm⟩
  have hT := hT.fr hF1 (by unfold okTb at htb; omega)
  have hS := hS.fr hF1 hlo
  have hG := hG.w hF1
  have t0 := hT.1.1
  have s0 := hT.2.1.1
  have s1 := hT.2.2.1.1
  have s2 := hT.2.2.2.1
  rcases hp : pHou tp sc z.2.2.2 T a with e | ⟨f, a1⟩
  · rw [hp] at hr hm
    dsimp only at hr hm
    subst hr
    obtain ⟨rfl, hE⟩ := hm
    try dsimp only [set1, set2, kilP, List.set_cons_zero, List.set_cons_succ, List.getElem?_cons_zero, List.getElem?_cons_succ, List.nil_append, List.cons_append, Option.toList_some, Option.toList_none]
    repeat (first | refine es rfl rfl rfl ?_ | refine eg rfl (by assumption) rfl ?_ | refine ean rfl (by assumption) (by assumption) rfl ?_ | refine eal rfl (by assumption) (by assumption) rfl ?_ | refine eri rfl ?_ | refine erv rfl ?_ | refine erl rfl ?_ | refine era rfl ?_ | refine erz0 rfl ?_ | refine erz1 rfl ?_)
    try dsimp only [set1, set2, kilP, List.set_cons_zero, List.set_cons_succ, List.getElem?_cons_zero, List.getElem?_cons_succ, List.nil_append, List.cons_append, Option.toList_some, Option.toList_none]
    exact ⟨hG, rfl, hE, _, hT⟩
  rw [hp] at hr hm
  dsimp only at hr hm
  obtain ⟨rfl, ⟨q, hq, hh_a1, hl_a1, hst⟩⟩ := hm
  have h0 := hq.1.1
  unfold aR0 at h0
  try dsimp only [set1, set2, kilP, List.set_cons_zero, List.set_cons_succ, List.getElem?_cons_zero, List.getElem?_cons_succ, List.nil_append, List.cons_append, Option.toList_some, Option.toList_none]
  rw [hh_a1] at h0
  have hf7 : f < 7 := by omega
  have g6 := hT.2.1.2.2.2.2.2.2.1
  repeat (first | refine es rfl rfl rfl ?_ | refine eg rfl (by assumption) rfl ?_ | refine ean rfl (by assumption) (by assumption) rfl ?_ | refine eal rfl (by assumption) (by assumption) rfl ?_ | refine eri rfl ?_ | refine erv rfl ?_ | refine erl rfl ?_ | refine era rfl ?_ | refine erz0 rfl ?_ | refine erz1 rfl ?_)
  try dsimp only [set1, set2, kilP, List.set_cons_zero, List.set_cons_succ, List.getElem?_cons_zero, List.getElem?_cons_succ, List.nil_append, List.cons_append, Option.toList_some, Option.toList_none]
  by_cases hc : T.hs.to f = -2
  rotate_left
  · rw [if_pos hc] at hr
    refine ei _ rfl rfl (fun c => ?_) (fun c => ?_)
    · exact absurd c hc
    · repeat (first | refine es rfl rfl rfl ?_ | refine eg rfl (by assumption) rfl ?_ | refine ean rfl (by assumption) (by assumption) rfl ?_ | refine eal rfl (by assumption) (by assumption) rfl ?_ | refine eri rfl ?_ | refine erv rfl ?_ | refine erl rfl ?_ | refine era rfl ?_ | refine erz0 rfl ?_ | refine erz1 rfl ?_)
      try dsimp only [set1, set2, kilP, List.set_cons_zero, List.set_cons_succ, List.getElem?_cons_zero, List.getElem?_cons_succ, List.nil_append, List.cons_append, Option.toList_some, Option.toList_none]
      refine ecv rfl rfl (by assumption) rfl rfl rfl (e5_fail hq.1) (by first | rfl | exact Nat.blt_eq.mpr (by omega)) ?_
      rintro v M2 ⟨rfl, hb2, hF2⟩
      try dsimp only [set1, set2, kilP, List.set_cons_zero, List.set_cons_succ, List.getElem?_cons_zero, List.getElem?_cons_succ, List.nil_append, List.cons_append, Option.toList_some, Option.toList_none]
      repeat (first | refine es rfl rfl rfl ?_ | refine eg rfl (by assumption) rfl ?_ | refine ean rfl (by assumption) (by assumption) rfl ?_ | refine eal rfl (by assumption) (by assumption) rfl ?_ | refine eri rfl ?_ | refine erv rfl ?_ | refine erl rfl ?_ | refine era rfl ?_ | refine erz0 rfl ?_ | refine erz1 rfl ?_)
      try dsimp only [set1, set2, kilP, List.set_cons_zero, List.set_cons_succ, List.getElem?_cons_zero, List.getElem?_cons_succ, List.nil_append, List.cons_append, Option.toList_some, Option.toList_none]
      subst hr
      exact ⟨hG.w hF2, rfl, ⟨_, hb2, rfl, congrArg nI hst, hq.2.2.2.1⟩, _, hT.fr hF2 (by unfold okTb at htb; omega)⟩
  rw [if_neg (fun h => h hc)] at hr
  refine ei _ rfl rfl (fun c => ?_) (fun c => ?_)
  rotate_left
  · exact absurd hc c
  repeat (first | refine es rfl rfl rfl ?_ | refine eg rfl (by assumption) rfl ?_ | refine ean rfl (by assumption) (by assumption) rfl ?_ | refine eal rfl (by assumption) (by assumption) rfl ?_ | refine eri rfl ?_ | refine erv rfl ?_ | refine erl rfl ?_ | refine era rfl ?_ | refine erz0 rfl ?_ | refine erz1 rfl ?_)
  try dsimp only [set1, set2, kilP, List.set_cons_zero, List.set_cons_succ, List.getElem?_cons_zero, List.getElem?_cons_succ, List.nil_append, List.cons_append, Option.toList_some, Option.toList_none]
  refine ecv rfl rfl (by assumption) rfl rfl rfl (w_this hq hS hlo (i := 14) (by omega)) (by first | rfl | exact Nat.blt_eq.mpr (by omega)) ?_
  rintro v M1 ⟨hF1, hm⟩
  have hT := hT.fr hF1 (by unfold okTb at htb; omega)
  have hS := hS.fr hF1 hlo
  have hG := hG.w hF1
  have t0 := hT.1.1
  have s0 := hT.2.1.1
  have s1 := hT.2.2.1.1
  have s2 := hT.2.2.2.1
  rcases hp : pThis tp z.2.2.2 14 a1 with e | a2
  · rw [hp] at hr hm
    dsimp only at hr hm
    subst hr
    obtain ⟨rfl, hE⟩ := hm
    try dsimp only [set1, set2, kilP, List.set_cons_zero, List.set_cons_succ, List.getElem?_cons_zero, List.getElem?_cons_succ, List.nil_append, List.cons_append, Option.toList_some, Option.toList_none]
    repeat (first | refine es rfl rfl rfl ?_ | refine eg rfl (by assumption) rfl ?_ | refine ean rfl (by assumption) (by assumption) rfl ?_ | refine eal rfl (by assumption) (by assumption) rfl ?_ | refine eri rfl ?_ | refine erv rfl ?_ | refine erl rfl ?_ | refine era rfl ?_ | refine erz0 rfl ?_ | refine erz1 rfl ?_)
    try dsimp only [set1, set2, kilP, List.set_cons_zero, List.set_cons_succ, List.getElem?_cons_zero, List.getElem?_cons_succ, List.nil_append, List.cons_append, Option.toList_some, Option.toList_none]
    exact ⟨hG, rfl, hE, _, hT⟩
  rw [hp] at hr hm
  dsimp only at hr hm
  obtain ⟨rfl, ⟨q, hq, hr'⟩⟩ := hm
  have h0 := hq.1.1
  unfold aR0 at h0
  try dsimp only [set1, set2, kilP, List.set_cons_zero, List.set_cons_succ, List.getElem?_cons_zero, List.getElem?_cons_succ, List.nil_append, List.cons_append, Option.toList_some, Option.toList_none]
  repeat (first | refine es rfl rfl rfl ?_ | refine eg rfl (by assumption) rfl ?_ | refine ean rfl (by assumption) (by assumption) rfl ?_ | refine eal rfl (by assumption) (by assumption) rfl ?_ | refine eri rfl ?_ | refine erv rfl ?_ | refine erl rfl ?_ | refine era rfl ?_ | refine erz0 rfl ?_ | refine erz1 rfl ?_)
  try dsimp only [set1, set2, kilP, List.set_cons_zero, List.set_cons_succ, List.getElem?_cons_zero, List.getElem?_cons_succ, List.nil_append, List.cons_append, Option.toList_some, Option.toList_none]
  refine ecv rfl rfl (by assumption) rfl rfl rfl (w_told hq hT hn7 (by unfold okTb at htb; omega)) (by first | rfl | exact Nat.blt_eq.mpr (by omega)) ?_
  rintro v M1 ⟨hF1, hm⟩
  have hT := hT.fr hF1 (by unfold okTb at htb; omega)
  have hS := hS.fr hF1 hlo
  have hG := hG.w hF1
  have t0 := hT.1.1
  have s0 := hT.2.1.1
  have s1 := hT.2.2.1.1
  have s2 := hT.2.2.2.1
  rcases hp : pHou tp sc z.2.2.2 T a2 with e | ⟨g, a3⟩
  · rw [hp] at hr hm
    dsimp only at hr hm
    subst hr
    obtain ⟨rfl, hE⟩ := hm
    try dsimp only [set1, set2, kilP, List.set_cons_zero, List.set_cons_succ, List.getElem?_cons_zero, List.getElem?_cons_succ, List.nil_append, List.cons_append, Option.toList_some, Option.toList_none]
    repeat (first | refine es rfl rfl rfl ?_ | refine eg rfl (by assumption) rfl ?_ | refine ean rfl (by assumption) (by assumption) rfl ?_ | refine eal rfl (by assumption) (by assumption) rfl ?_ | refine eri rfl ?_ | refine erv rfl ?_ | refine erl rfl ?_ | refine era rfl ?_ | refine erz0 rfl ?_ | refine erz1 rfl ?_)
    try dsimp only [set1, set2, kilP, List.set_cons_zero, List.set_cons_succ, List.getElem?_cons_zero, List.getElem?_cons_succ, List.nil_append, List.cons_append, Option.toList_some, Option.toList_none]
    exact ⟨hG, rfl, hE, _, hT⟩
  rw [hp] at hr hm
  dsimp only at hr hm
  obtain ⟨rfl, ⟨q, hq, hh_a3, hl_a3, hst⟩⟩ := hm
  have h0 := hq.1.1
  unfold aR0 at h0
  try dsimp only [set1, set2, kilP, List.set_cons_zero, List.set_cons_succ, List.getElem?_cons_zero, List.getElem?_cons_succ, List.nil_append, List.cons_append, Option.toList_some, Option.toList_none]
  rw [hh_a3] at h0
  have hg7 : g < 7 := by omega
  have g6 := hT.2.1.2.2.2.2.2.2.1
  repeat (first | refine es rfl rfl rfl ?_ | refine eg rfl (by assumption) rfl ?_ | refine ean rfl (by assumption) (by assumption) rfl ?_ | refine eal rfl (by assumption) (by assumption) rfl ?_ | refine eri rfl ?_ | refine erv rfl ?_ | refine erl rfl ?_ | refine era rfl ?_ | refine erz0 rfl ?_ | refine erz1 rfl ?_)
  try dsimp only [set1, set2, kilP, List.set_cons_zero, List.set_cons_succ, List.getElem?_cons_zero, List.getElem?_cons_succ, List.nil_append, List.cons_append, Option.toList_some, Option.toList_none]
  by_cases hc2 : g = f
  · rw [if_pos (Or.inl hc2)] at hr
    refine ei _ rfl rfl (fun c => ?_) (fun c => ?_)
    · repeat (first | refine es rfl rfl rfl ?_ | refine eg rfl (by assumption) rfl ?_ | refine ean rfl (by assumption) (by assumption) rfl ?_ | refine eal rfl (by assumption) (by assumption) rfl ?_ | refine eri rfl ?_ | refine erv rfl ?_ | refine erl rfl ?_ | refine era rfl ?_ | refine erz0 rfl ?_ | refine erz1 rfl ?_)
      try dsimp only [set1, set2, kilP, List.set_cons_zero, List.set_cons_succ, List.getElem?_cons_zero, List.getElem?_cons_succ, List.nil_append, List.cons_append, Option.toList_some, Option.toList_none]
      refine ecv rfl rfl (by assumption) rfl rfl rfl (e5_fail hq.1) (by first | rfl | exact Nat.blt_eq.mpr (by omega)) ?_
      rintro v M2 ⟨rfl, hb2, hF2⟩
      try dsimp only [set1, set2, kilP, List.set_cons_zero, List.set_cons_succ, List.getElem?_cons_zero, List.getElem?_cons_succ, List.nil_append, List.cons_append, Option.toList_some, Option.toList_none]
      repeat (first | refine es rfl rfl rfl ?_ | refine eg rfl (by assumption) rfl ?_ | refine ean rfl (by assumption) (by assumption) rfl ?_ | refine eal rfl (by assumption) (by assumption) rfl ?_ | refine eri rfl ?_ | refine erv rfl ?_ | refine erl rfl ?_ | refine era rfl ?_ | refine erz0 rfl ?_ | refine erz1 rfl ?_)
      try dsimp only [set1, set2, kilP, List.set_cons_zero, List.set_cons_succ, List.getElem?_cons_zero, List.getElem?_cons_succ, List.nil_append, List.cons_append, Option.toList_some, Option.toList_none]
      subst hr
      exact ⟨hG.w hF2, rfl, ⟨_, hb2, rfl, congrArg nI hst, hq.2.2.2.1⟩, _, hT.fr hF2 (by unfold okTb at htb; omega)⟩
    · exact absurd (congrArg nI hc2) c
  refine ei _ rfl rfl (fun c2 => ?_) (fun c2 => ?_)
  · exact absurd (nI_inj (by omega) (by omega) c2) hc2
  repeat (first | refine es rfl rfl rfl ?_ | refine eg rfl (by assumption) rfl ?_ | refine ean rfl (by assumption) (by assumption) rfl ?_ | refine eal rfl (by assumption) (by assumption) rfl ?_ | refine eri rfl ?_ | refine erv rfl ?_ | refine erl rfl ?_ | refine era rfl ?_ | refine erz0 rfl ?_ | refine erz1 rfl ?_)
  try dsimp only [set1, set2, kilP, List.set_cons_zero, List.set_cons_succ, List.getElem?_cons_zero, List.getElem?_cons_succ, List.nil_append, List.cons_append, Option.toList_some, Option.toList_none]
  refine ecr rfl rfl (by assumption) rfl rfl rfl (e2_iso hT.2.1 hn7) (by first | rfl | exact Nat.blt_eq.mpr (by omega)) rfl ?_
  by_cases hc3 : isoF T.hs.to (nI g) T.hs.n 0 = 1
  · rw [if_pos (Or.inr hc3)] at hr
    rw [hc3]
    repeat (first | refine es rfl rfl rfl ?_ | refine eg rfl (by assumption) rfl ?_ | refine ean rfl (by assumption) (by assumption) rfl ?_ | refine eal rfl (by assumption) (by assumption) rfl ?_ | refine eri rfl ?_ | refine erv rfl ?_ | refine erl rfl ?_ | refine era rfl ?_ | refine erz0 rfl ?_ | refine erz1 rfl ?_)
    try dsimp only [set1, set2, kilP, List.set_cons_zero, List.set_cons_succ, List.getElem?_cons_zero, List.getElem?_cons_succ, List.nil_append, List.cons_append, Option.toList_some, Option.toList_none]
    refine ecv rfl rfl (by assumption) rfl rfl rfl (e5_fail hq.1) (by first | rfl | exact Nat.blt_eq.mpr (by omega)) ?_
    rintro v M2 ⟨rfl, hb2, hF2⟩
    try dsimp only [set1, set2, kilP, List.set_cons_zero, List.set_cons_succ, List.getElem?_cons_zero, List.getElem?_cons_succ, List.nil_append, List.cons_append, Option.toList_some, Option.toList_none]
    repeat (first | refine es rfl rfl rfl ?_ | refine eg rfl (by assumption) rfl ?_ | refine ean rfl (by assumption) (by assumption) rfl ?_ | refine eal rfl (by assumption) (by assumption) rfl ?_ | refine eri rfl ?_ | refine erv rfl ?_ | refine erl rfl ?_ | refine era rfl ?_ | refine erz0 rfl ?_ | refine erz1 rfl ?_)
    try dsimp only [set1, set2, kilP, List.set_cons_zero, List.set_cons_succ, List.getElem?_cons_zero, List.getElem?_cons_succ, List.nil_append, List.cons_append, Option.toList_some, Option.toList_none]
    subst hr
    exact ⟨hG.w hF2, rfl, ⟨_, hb2, rfl, congrArg nI hst, hq.2.2.2.1⟩, _, hT.fr hF2 (by unfold okTb at htb; omega)⟩
  rw [if_neg (fun h => h.elim hc2 hc3)] at hr
  rw [(iso01 _ _ _ _).resolve_right hc3]
  obtain ⟨g0, g1, g2, g3, g4, g5, g6, g7, g8⟩ := hT.2.1
  repeat (first | refine es rfl rfl rfl ?_ | refine eg rfl (by assumption) rfl ?_ | refine ean rfl (by assumption) (by assumption) rfl ?_ | refine eal rfl (by assumption) (by assumption) rfl ?_ | refine eri rfl ?_ | refine erv rfl ?_ | refine erl rfl ?_ | refine era rfl ?_ | refine erz0 rfl ?_ | refine erz1 rfl ?_)
  try dsimp only [set1, set2, kilP, List.set_cons_zero, List.set_cons_succ, List.getElem?_cons_zero, List.getElem?_cons_succ, List.nil_append, List.cons_append, Option.toList_some, Option.toList_none]
  refine etM rfl (by assumption) (by assumption) rfl (fun M2 eM => ?_)
  have kk := up_w eM
  replace g0 := up_k eM g0 (by omega)
  replace g1 := up_k eM g1 (by omega)
  replace g2 := up_k eM g2 (by omega)
  replace g3 := up_k eM g3 (by omega)
  replace g4 := up_k eM g4 (by omega)
  replace g5 := up_k eM g5 (by omega)
  replace g7 := up_k eM g7 (by omega)
  replace g8 := up_k eM g8 (by omega)
  have hT := hT.ph eM (by omega) (by omega) (H := (T.hs.n, T.hs.nm, T.hs.ro, T.hs.re, T.hs.bi, T.hs.sm, upd T.hs.to f (nI g), T.hs.fr, T.hs.tt)) ⟨g0, g1, g2, g3, g4, g5, kk, g7, g8⟩
  have hq := hq.u eM (by unfold okTb at htb; omega)
  have hG := hG.u eM (by omega) (by omega)
  have hS : aSt ad lo M2 := fun i hi => ⟨(hS i hi).1, up_k eM (hS i hi).2 (by have := (hS i hi).1; unfold okTb at htb; omega)⟩
  have t0 := hT.1.1
  have s0 := hT.2.1.1
  have h0 := hq.1.1
  unfold aR0 at h0
  repeat (first | refine es rfl rfl rfl ?_ | refine eg rfl (by assumption) rfl ?_ | refine ean rfl (by assumption) (by assumption) rfl ?_ | refine eal rfl (by assumption) (by assumption) rfl ?_ | refine eri rfl ?_ | refine erv rfl ?_ | refine erl rfl ?_ | refine era rfl ?_ | refine erz0 rfl ?_ | refine erz1 rfl ?_)
  try dsimp only [set1, set2, kilP, List.set_cons_zero, List.set_cons_succ, List.getElem?_cons_zero, List.getElem?_cons_succ, List.nil_append, List.cons_append, Option.toList_some, Option.toList_none]
  subst hr
  exact ⟨hG, rfl, ⟨_, hq⟩, hT⟩
def lnOpen (tp : Nat → Int32) (sc : Nat → Int64) (le : Nat) (T : Tw) (a : Nat) : Except Er (Tw × Nat) :=
  match pHou tp sc le T a with
  | .error e => .error e
  | .ok (h, a1) =>
  if ¬ T.hs.fr h = -2 then .error (3, (tk tp le a).1) else
  match pThis tp le 15 a1 with
  | .error e => .error e
  | .ok a2 =>
  match pWh tp le 0 23 a2 with
  | .error e => .error e
  | .ok (f, a3) =>
  match pThis tp le 16 a3 with
  | .error e => .error e
  | .ok a4 =>
  match pWh tp le f 23 a4 with
  | .error e => .error e
  | .ok (c, a5) =>
  .ok ((T.1, (T.hs.n, T.hs.nm, T.hs.ro, T.hs.re, T.hs.bi, T.hs.sm, T.hs.to, upd T.hs.fr h (nI f), upd T.hs.tt h (nI c)), T.ss, T.cs), a5)
theorem e5_lnOpen {ad : Nat → Nat} {M : Mm} {b tb lo : Nat} {tp : Nat → Int32} {sc : Nat → Int64} {z : Rz} {a : Nat} {q : Rq} {T : Tw} (hq : rS M b tb tp sc z a q) (hT : aTw M tb T) (hS : aSt ad lo M) (hlo : lo ≤ b) (htb : okTb b tb) (hn7 : T.hs.n ≤ 7) : EvM ad 4 (iX5_readOpenLine ad) [.ref b] M (lnP b tb tp sc z M (lnOpen tp sc z.2.2.2 T a)) := by
  generalize hr : lnOpen tp sc z.2.2.2 T a = r
  unfold lnOpen at hr
  have hG := Fr2.rf b tb M
  have h0 := hq.1.1
  unfold aR0 at h0
  have t0 := hT.1.1
  have s0 := hT.2.1.1
  refine ⟨Nat.le_of_ble_eq_true rfl, ?_⟩
  show Ev ad _ (rX5_readOpenLine ad) (0, [some (.ref b), none, none], [], M) _
  repeat (first | refine es rfl rfl rfl ?_ | refine eg rfl (by assumption) rfl ?_ | refine ean rfl (by assumption) (by assumption) rfl ?_ | refine eal rfl (by assumption) (by assumption) rfl ?_ | refine eri rfl ?_ | refine erv rfl ?_ | refine erl rfl ?_ | refine era rfl ?_ | refine erz0 rfl ?_ | refine erz1 rfl ?_)
  try dsimp only [set1, set2, kilP, List.set_cons_zero, List.set_cons_succ, List.getElem?_cons_zero, List.getElem?_cons_succ, List.nil_append, List.cons_append, Option.toList_some, Option.toList_none]
  refine ecv rfl rfl (by assumption) rfl rfl rfl (w_told hq hT hn7 (by unfold okTb at htb; omega)) (by first | rfl | exact Nat.blt_eq.mpr (by omega)) ?_
  rintro v M1 ⟨hF1, hm⟩
  have hT := hT.fr hF1 (by unfold okTb at htb; omega)
  have hS := hS.fr hF1 hlo
  have hG := hG.w hF1
  have t0 := hT.1.1
  have s0 := hT.2.1.1
  have s1 := hT.2.2.1.1
  have s2 := hT.2.2.2.1
  rcases hp : pHou tp sc z.2.2.2 T a with e | ⟨h, a1⟩
  · rw [hp] at hr hm
    dsimp only at hr hm
    subst hr
    obtain ⟨rfl, hE⟩ := hm
    try dsimp only [set1, set2, kilP, List.set_cons_zero, List.set_cons_succ, List.getElem?_cons_zero, List.getElem?_cons_succ, List.nil_append, List.cons_append, Option.toList_some, Option.toList_none]
    repeat (first | refine es rfl rfl rfl ?_ | refine eg rfl (by assumption) rfl ?_ | refine ean rfl (by assumption) (by assumption) rfl ?_ | refine eal rfl (by assumption) (by assumption) rfl ?_ | refine eri rfl ?_ | refine erv rfl ?_ | refine erl rfl ?_ | refine era rfl ?_ | refine erz0 rfl ?_ | refine erz1 rfl ?_)
    try dsimp only [set1, set2, kilP, List.set_cons_zero, List.set_cons_succ, List.getElem?_cons_zero, List.getElem?_cons_succ, List.nil_append, List.cons_append, Option.toList_some, Option.toList_none]
    exact ⟨hG, rfl, hE, _, hT⟩
  rw [hp] at hr hm
  dsimp only at hr hm
  obtain ⟨rfl, ⟨q, hq, hh_a1, hl_a1, hst⟩⟩ := hm
  have h0 := hq.1.1
  unfold aR0 at h0
  try dsimp only [set1, set2, kilP, List.set_cons_zero, List.set_cons_succ, List.getElem?_cons_zero, List.getElem?_cons_succ, List.nil_append, List.cons_append, Option.toList_some, Option.toList_none]
  rw [hh_a1] at h0
  have hf7 : h < 7 := by omega
  have g7 := hT.2.1.2.2.2.2.2.2.2.1
  repeat (first | refine es rfl rfl rfl ?_ | refine eg rfl (by assumption) rfl ?_ | refine ean rfl (by assumption) (by assumption) rfl ?_ | refine eal rfl (by assumption) (by assumption) rfl ?_ | refine eri rfl ?_ | refine erv rfl ?_ | refine erl rfl ?_ | refine era rfl ?_ | refine erz0 rfl ?_ | refine erz1 rfl ?_)
  try dsimp only [set1, set2, kilP, List.set_cons_zero, List.set_cons_succ, List.getElem?_cons_zero, List.getElem?_cons_succ, List.nil_append, List.cons_append, Option.toList_some, Option.toList_none]
  by_cases hc : T.hs.fr h = -2
  rotate_left
  · rw [if_pos hc] at hr
    refine ei _ rfl rfl (fun c => ?_) (fun c => ?_)
    · exact absurd c hc
    · repeat (first | refine es rfl rfl rfl ?_ | refine eg rfl (by assumption) rfl ?_ | refine ean rfl (by assumption) (by assumption) rfl ?_ | refine eal rfl (by assumption) (by assumption) rfl ?_ | refine eri rfl ?_ | refine erv rfl ?_ | refine erl rfl ?_ | refine era rfl ?_ | refine erz0 rfl ?_ | refine erz1 rfl ?_)
      try dsimp only [set1, set2, kilP, List.set_cons_zero, List.set_cons_succ, List.getElem?_cons_zero, List.getElem?_cons_succ, List.nil_append, List.cons_append, Option.toList_some, Option.toList_none]
      refine ecv rfl rfl (by assumption) rfl rfl rfl (e5_fail hq.1) (by first | rfl | exact Nat.blt_eq.mpr (by omega)) ?_
      rintro v M2 ⟨rfl, hb2, hF2⟩
      try dsimp only [set1, set2, kilP, List.set_cons_zero, List.set_cons_succ, List.getElem?_cons_zero, List.getElem?_cons_succ, List.nil_append, List.cons_append, Option.toList_some, Option.toList_none]
      repeat (first | refine es rfl rfl rfl ?_ | refine eg rfl (by assumption) rfl ?_ | refine ean rfl (by assumption) (by assumption) rfl ?_ | refine eal rfl (by assumption) (by assumption) rfl ?_ | refine eri rfl ?_ | refine erv rfl ?_ | refine erl rfl ?_ | refine era rfl ?_ | refine erz0 rfl ?_ | refine erz1 rfl ?_)
      try dsimp only [set1, set2, kilP, List.set_cons_zero, List.set_cons_succ, List.getElem?_cons_zero, List.getElem?_cons_succ, List.nil_append, List.cons_append, Option.toList_some, Option.toList_none]
      subst hr
      exact ⟨hG.w hF2, rfl, ⟨_, hb2, rfl, congrArg nI hst, hq.2.2.2.1⟩, _, hT.fr hF2 (by unfold okTb at htb; omega)⟩
  rw [if_neg (fun h => h hc)] at hr
  refine ei _ rfl rfl (fun c => ?_) (fun c => ?_)
  rotate_left
  · exact absurd hc c
  repeat (first | refine es rfl rfl rfl ?_ | refine eg rfl (by assumption) rfl ?_ | refine ean rfl (by assumption) (by assumption) rfl ?_ | refine eal rfl (by assumption) (by assumption) rfl ?_ | refine eri rfl ?_ | refine erv rfl ?_ | refine erl rfl ?_ | refine era rfl ?_ | refine erz0 rfl ?_ | refine erz1 rfl ?_)
  try dsimp only [set1, set2, kilP, List.set_cons_zero, List.set_cons_succ, List.getElem?_cons_zero, List.getElem?_cons_succ, List.nil_append, List.cons_append, Option.toList_some, Option.toList_none]
  refine ecv rfl rfl (by assumption) rfl rfl rfl (w_this hq hS hlo (i := 15) (by omega)) (by first | rfl | exact Nat.blt_eq.mpr (by omega)) ?_
  rintro v M1 ⟨hF1, hm⟩
  have hT := hT.fr hF1 (by unfold okTb at htb; omega)
  have hS := hS.fr hF1 hlo
  have hG := hG.w hF1
  have t0 := hT.1.1
  have s0 := hT.2.1.1
  have s1 := hT.2.2.1.1
  have s2 := hT.2.2.2.1
  rcases hp : pThis tp z.2.2.2 15 a1 with e | a2
  · rw [hp] at hr hm
    dsimp only at hr hm
    subst hr
    obtain ⟨rfl, hE⟩ := hm
    try dsimp only [set1, set2, kilP, List.set_cons_zero, List.set_cons_succ, List.getElem?_cons_zero, List.getElem?_cons_succ, List.nil_append, List.cons_append, Option.toList_some, Option.toList_none]
    repeat (first | refine es rfl rfl rfl ?_ | refine eg rfl (by assumption) rfl ?_ | refine ean rfl (by assumption) (by assumption) rfl ?_ | refine eal rfl (by assumption) (by assumption) rfl ?_ | refine eri rfl ?_ | refine erv rfl ?_ | refine erl rfl ?_ | refine era rfl ?_ | refine erz0 rfl ?_ | refine erz1 rfl ?_)
    try dsimp only [set1, set2, kilP, List.set_cons_zero, List.set_cons_succ, List.getElem?_cons_zero, List.getElem?_cons_succ, List.nil_append, List.cons_append, Option.toList_some, Option.toList_none]
    exact ⟨hG, rfl, hE, _, hT⟩
  rw [hp] at hr hm
  dsimp only at hr hm
  obtain ⟨rfl, ⟨q, hq, hr'⟩⟩ := hm
  have h0 := hq.1.1
  unfold aR0 at h0
  try dsimp only [set1, set2, kilP, List.set_cons_zero, List.set_cons_succ, List.getElem?_cons_zero, List.getElem?_cons_succ, List.nil_append, List.cons_append, Option.toList_some, Option.toList_none]
  repeat (first | refine es rfl rfl rfl ?_ | refine eg rfl (by assumption) rfl ?_ | refine ean rfl (by assumption) (by assumption) rfl ?_ | refine eal rfl (by assumption) (by assumption) rfl ?_ | refine eri rfl ?_ | refine erv rfl ?_ | refine erl rfl ?_ | refine era rfl ?_ | refine erz0 rfl ?_ | refine erz1 rfl ?_)
  try dsimp only [set1, set2, kilP, List.set_cons_zero, List.set_cons_succ, List.getElem?_cons_zero, List.getElem?_cons_succ, List.nil_append, List.cons_append, Option.toList_some, Option.toList_none]
  refine ecv rfl rfl (by assumption) rfl rfl rfl (w_wh (lo := 0) (hi := 23) hq (by omega) (by omega)) (by first | rfl | exact Nat.blt_eq.mpr (by omega)) ?_
  rintro v M1 ⟨hF1, hm⟩
  have hT := hT.fr hF1 (by unfold okTb at htb; omega)
  have hS := hS.fr hF1 hlo
  have hG := hG.w hF1
  have t0 := hT.1.1
  have s0 := hT.2.1.1
  have s1 := hT.2.2.1.1
  have s2 := hT.2.2.2.1
  rcases hp : pWh tp z.2.2.2 0 23 a2 with e | ⟨f, a3⟩
  · rw [hp] at hr hm
    dsimp only at hr hm
    subst hr
    obtain ⟨rfl, hE⟩ := hm
    try dsimp only [set1, set2, kilP, List.set_cons_zero, List.set_cons_succ, List.getElem?_cons_zero, List.getElem?_cons_succ, List.nil_append, List.cons_append, Option.toList_some, Option.toList_none]
    repeat (first | refine es rfl rfl rfl ?_ | refine eg rfl (by assumption) rfl ?_ | refine ean rfl (by assumption) (by assumption) rfl ?_ | refine eal rfl (by assumption) (by assumption) rfl ?_ | refine eri rfl ?_ | refine erv rfl ?_ | refine erl rfl ?_ | refine era rfl ?_ | refine erz0 rfl ?_ | refine erz1 rfl ?_)
    try dsimp only [set1, set2, kilP, List.set_cons_zero, List.set_cons_succ, List.getElem?_cons_zero, List.getElem?_cons_succ, List.nil_append, List.cons_append, Option.toList_some, Option.toList_none]
    exact ⟨hG, rfl, hE, _, hT⟩
  rw [hp] at hr hm
  dsimp only at hr hm
  obtain ⟨rfl, ⟨q, hq, hw_a3, hr', hb1_a3, hb2_a3⟩⟩ := hm
  have h0 := hq.1.1
  unfold aR0 at h0
  try dsimp only [set1, set2, kilP, List.set_cons_zero, List.set_cons_succ, List.getElem?_cons_zero, List.getElem?_cons_succ, List.nil_append, List.cons_append, Option.toList_some, Option.toList_none]
  rw [hw_a3] at h0
  repeat (first | refine es rfl rfl rfl ?_ | refine eg rfl (by assumption) rfl ?_ | refine ean rfl (by assumption) (by assumption) rfl ?_ | refine eal rfl (by assumption) (by assumption) rfl ?_ | refine eri rfl ?_ | refine erv rfl ?_ | refine erl rfl ?_ | refine era rfl ?_ | refine erz0 rfl ?_ | refine erz1 rfl ?_)
  try dsimp only [set1, set2, kilP, List.set_cons_zero, List.set_cons_succ, List.getElem?_cons_zero, List.getElem?_cons_succ, List.nil_append, List.cons_append, Option.toList_some, Option.toList_none]
  refine ecv rfl rfl (by assumption) rfl rfl rfl (w_this hq hS hlo (i := 16) (by omega)) (by first | rfl | exact Nat.blt_eq.mpr (by omega)) ?_
  rintro v M1 ⟨hF1, hm⟩
  have hT := hT.fr hF1 (by unfold okTb at htb; omega)
  have hS := hS.fr hF1 hlo
  have hG := hG.w hF1
  have t0 := hT.1.1
  have s0 := hT.2.1.1
  have s1 := hT.2.2.1.1
  have s2 := hT.2.2.2.1
  rcases hp : pThis tp z.2.2.2 16 a3 with e | a4
  · rw [hp] at hr hm
    dsimp only at hr hm
    subst hr
    obtain ⟨rfl, hE⟩ := hm
    try dsimp only [set1, set2, kilP, List.set_cons_zero, List.set_cons_succ, List.getElem?_cons_zero, List.getElem?_cons_succ, List.nil_append, List.cons_append, Option.toList_some, Option.toList_none]
    repeat (first | refine es rfl rfl rfl ?_ | refine eg rfl (by assumption) rfl ?_ | refine ean rfl (by assumption) (by assumption) rfl ?_ | refine eal rfl (by assumption) (by assumption) rfl ?_ | refine eri rfl ?_ | refine erv rfl ?_ | refine erl rfl ?_ | refine era rfl ?_ | refine erz0 rfl ?_ | refine erz1 rfl ?_)
    try dsimp only [set1, set2, kilP, List.set_cons_zero, List.set_cons_succ, List.getElem?_cons_zero, List.getElem?_cons_succ, List.nil_append, List.cons_append, Option.toList_some, Option.toList_none]
    exact ⟨hG, rfl, hE, _, hT⟩
  rw [hp] at hr hm
  dsimp only at hr hm
  obtain ⟨rfl, ⟨q, hq, hr'⟩⟩ := hm
  have h0 := hq.1.1
  unfold aR0 at h0
  try dsimp only [set1, set2, kilP, List.set_cons_zero, List.set_cons_succ, List.getElem?_cons_zero, List.getElem?_cons_succ, List.nil_append, List.cons_append, Option.toList_some, Option.toList_none]
  repeat (first | refine es rfl rfl rfl ?_ | refine eg rfl (by assumption) rfl ?_ | refine ean rfl (by assumption) (by assumption) rfl ?_ | refine eal rfl (by assumption) (by assumption) rfl ?_ | refine eri rfl ?_ | refine erv rfl ?_ | refine erl rfl ?_ | refine era rfl ?_ | refine erz0 rfl ?_ | refine erz1 rfl ?_)
  try dsimp only [set1, set2, kilP, List.set_cons_zero, List.set_cons_succ, List.getElem?_cons_zero, List.getElem?_cons_succ, List.nil_append, List.cons_append, Option.toList_some, Option.toList_none]
  refine ecv rfl rfl (by assumption) rfl rfl rfl (w_wh (lo := f) (hi := 23) hq (by omega) (by omega)) (by first | rfl | exact Nat.blt_eq.mpr (by omega)) ?_
  rintro v M1 ⟨hF1, hm⟩
  have hT := hT.fr hF1 (by unfold okTb at htb; omega)
  have hS := hS.fr hF1 hlo
  have hG := hG.w hF1
  have t0 := hT.1.1
  have s0 := hT.2.1.1
  have s1 := hT.2.2.1.1
  have s2 := hT.2.2.2.1
  rcases hp : pWh tp z.2.2.2 f 23 a4 with e | ⟨c, a5⟩
  · rw [hp] at hr hm
    dsimp only at hr hm
    subst hr
    obtain ⟨rfl, hE⟩ := hm
    try dsimp only [set1, set2, kilP, List.set_cons_zero, List.set_cons_succ, List.getElem?_cons_zero, List.getElem?_cons_succ, List.nil_append, List.cons_append, Option.toList_some, Option.toList_none]
    repeat (first | refine es rfl rfl rfl ?_ | refine eg rfl (by assumption) rfl ?_ | refine ean rfl (by assumption) (by assumption) rfl ?_ | refine eal rfl (by assumption) (by assumption) rfl ?_ | refine eri rfl ?_ | refine erv rfl ?_ | refine erl rfl ?_ | refine era rfl ?_ | refine erz0 rfl ?_ | refine erz1 rfl ?_)
    try dsimp only [set1, set2, kilP, List.set_cons_zero, List.set_cons_succ, List.getElem?_cons_zero, List.getElem?_cons_succ, List.nil_append, List.cons_append, Option.toList_some, Option.toList_none]
    exact ⟨hG, rfl, hE, _, hT⟩
  rw [hp] at hr hm
  dsimp only at hr hm
  obtain ⟨rfl, ⟨q, hq, hw_a5, hr', hb1_a5, hb2_a5⟩⟩ := hm
  have h0 := hq.1.1
  unfold aR0 at h0
  try dsimp only [set1, set2, kilP, List.set_cons_zero, List.set_cons_succ, List.getElem?_cons_zero, List.getElem?_cons_succ, List.nil_append, List.cons_append, Option.toList_some, Option.toList_none]
  rw [hw_a5] at h0
  obtain ⟨g0, g1, g2, g3, g4, g5, g6, g7, g8⟩ := hT.2.1
  repeat (first | refine es rfl rfl rfl ?_ | refine eg rfl (by assumption) rfl ?_ | refine ean rfl (by assumption) (by assumption) rfl ?_ | refine eal rfl (by assumption) (by assumption) rfl ?_ | refine eri rfl ?_ | refine erv rfl ?_ | refine erl rfl ?_ | refine era rfl ?_ | refine erz0 rfl ?_ | refine erz1 rfl ?_)
  try dsimp only [set1, set2, kilP, List.set_cons_zero, List.set_cons_succ, List.getElem?_cons_zero, List.getElem?_cons_succ, List.nil_append, List.cons_append, Option.toList_some, Option.toList_none]
  refine etM rfl (by assumption) (by assumption) rfl (fun M2 eM => ?_)
  have kk := up_w eM
  replace g0 := up_k eM g0 (by omega)
  replace g1 := up_k eM g1 (by omega)
  replace g2 := up_k eM g2 (by omega)
  replace g3 := up_k eM g3 (by omega)
  replace g4 := up_k eM g4 (by omega)
  replace g5 := up_k eM g5 (by omega)
  replace g6 := up_k eM g6 (by omega)
  replace g8 := up_k eM g8 (by omega)
  have hT := hT.ph eM (by omega) (by omega) (H := (T.hs.n, T.hs.nm, T.hs.ro, T.hs.re, T.hs.bi, T.hs.sm, T.hs.to, upd T.hs.fr h (nI f), T.hs.tt)) ⟨g0, g1, g2, g3, g4, g5, g6, kk, g8⟩
  have hq := hq.u eM (by unfold okTb at htb; omega)
  have hG := hG.u eM (by omega) (by omega)
  have hS : aSt ad lo M2 := fun i hi => ⟨(hS i hi).1, up_k eM (hS i hi).2 (by have := (hS i hi).1; unfold okTb at htb; omega)⟩
  have t0 := hT.1.1
  have s0 := hT.2.1.1
  have h0 := hq.1.1
  unfold aR0 at h0
  rw [hw_a5] at h0
  obtain ⟨g0, g1, g2, g3, g4, g5, g6, g7, g8⟩ := hT.2.1
  repeat (first | refine es rfl rfl rfl ?_ | refine eg rfl (by assumption) rfl ?_ | refine ean rfl (by assumption) (by assumption) rfl ?_ | refine eal rfl (by assumption) (by assumption) rfl ?_ | refine eri rfl ?_ | refine erv rfl ?_ | refine erl rfl ?_ | refine era rfl ?_ | refine erz0 rfl ?_ | refine erz1 rfl ?_)
  try dsimp only [set1, set2, kilP, List.set_cons_zero, List.set_cons_succ, List.getElem?_cons_zero, List.getElem?_cons_succ, List.nil_append, List.cons_append, Option.toList_some, Option.toList_none]
  refine etM rfl (by assumption) (by assumption) rfl (fun M2 eM => ?_)
  have kk := up_w eM
  replace g0 := up_k eM g0 (by omega)
  replace g1 := up_k eM g1 (by omega)
  replace g2 := up_k eM g2 (by omega)
  replace g3 := up_k eM g3 (by omega)
  replace g4 := up_k eM g4 (by omega)
  replace g5 := up_k eM g5 (by omega)
  replace g6 := up_k eM g6 (by omega)
  replace g7 := up_k eM g7 (by omega)
  have hT := hT.ph eM (by omega) (by omega) (H := (T.hs.n, T.hs.nm, T.hs.ro, T.hs.re, T.hs.bi, T.hs.sm, T.hs.to, upd T.hs.fr h (nI f), upd T.hs.tt h (nI c))) ⟨g0, g1, g2, g3, g4, g5, g6, g7, kk⟩
  have hq := hq.u eM (by unfold okTb at htb; omega)
  have hG := hG.u eM (by omega) (by omega)
  have hS : aSt ad lo M2 := fun i hi => ⟨(hS i hi).1, up_k eM (hS i hi).2 (by have := (hS i hi).1; unfold okTb at htb; omega)⟩
  have t0 := hT.1.1
  have s0 := hT.2.1.1
  have h0 := hq.1.1
  unfold aR0 at h0
  repeat (first | refine es rfl rfl rfl ?_ | refine eg rfl (by assumption) rfl ?_ | refine ean rfl (by assumption) (by assumption) rfl ?_ | refine eal rfl (by assumption) (by assumption) rfl ?_ | refine eri rfl ?_ | refine erv rfl ?_ | refine erl rfl ?_ | refine era rfl ?_ | refine erz0 rfl ?_ | refine erz1 rfl ?_)
  try dsimp only [set1, set2, kilP, List.set_cons_zero, List.set_cons_succ, List.getElem?_cons_zero, List.getElem?_cons_succ, List.nil_append, List.cons_append, Option.toList_some, Option.toList_none]
  subst hr
  exact ⟨hG, rfl, ⟨_, hq⟩, hT⟩
def lnStreet (tp : Nat → Int32) (sc : Nat → Int64) (le : Nat) (T : Tw) (a : Nat) : Except Er (Tw × Nat) :=
  match pHou tp sc le T a with
  | .error e => .error e
  | .ok (f, a1) =>
  match pHou tp sc le T a1 with
  | .error e => .error e
  | .ok (g, a2) =>
  if g = f ∨ 0 < T.ss.mi (f * 7 + g) then .error (3, (tk tp le a1).1) else
  match pThis tp le 17 a2 with
  | .error e => .error e
  | .ok a3 =>
  match pWh tp le 1 99 a3 with
  | .error e => .error e
  | .ok (m, a4) =>
  .ok ((T.1, T.hs, (T.ss.n + 1, upd (upd T.ss.mi (f * 7 + g) (nI m)) (g * 7 + f) (nI m), T.ss.sh, T.ss.ne), T.cs), a4)
theorem e5_lnStreet {ad : Nat → Nat} {M : Mm} {b tb lo : Nat} {tp : Nat → Int32} {sc : Nat → Int64} {z : Rz} {a : Nat} {q : Rq} {T : Tw} (hq : rS M b tb tp sc z a q) (hT : aTw M tb T) (hS : aSt ad lo M) (hlo : lo ≤ b) (htb : okTb b tb) (hn7 : T.hs.n ≤ 7) : EvM ad 4 (iX5_readStreetLine ad) [.ref b] M (lnP b tb tp sc z M (lnStreet tp sc z.2.2.2 T a)) := by
  generalize hr : lnStreet tp sc z.2.2.2 T a = r
  unfold lnStreet at hr
  have hG := Fr2.rf b tb M
  have h0 := hq.1.1
  unfold aR0 at h0
  have t0 := hT.1.1
  have s0 := hT.2.1.1
  refine ⟨Nat.le_of_ble_eq_true rfl, ?_⟩
  show Ev ad _ (rX5_readStreetLine ad) (0, [some (.ref b), none, none], [], M) _
  repeat (first | refine es rfl rfl rfl ?_ | refine eg rfl (by assumption) rfl ?_ | refine ean rfl (by assumption) (by assumption) rfl ?_ | refine eal rfl (by assumption) (by assumption) rfl ?_ | refine eri rfl ?_ | refine erv rfl ?_ | refine erl rfl ?_ | refine era rfl ?_ | refine erz0 rfl ?_ | refine erz1 rfl ?_)
  try dsimp only [set1, set2, kilP, List.set_cons_zero, List.set_cons_succ, List.getElem?_cons_zero, List.getElem?_cons_succ, List.nil_append, List.cons_append, Option.toList_some, Option.toList_none]
  refine ecv rfl rfl (by assumption) rfl rfl rfl (w_told hq hT hn7 (by unfold okTb at htb; omega)) (by first | rfl | exact Nat.blt_eq.mpr (by omega)) ?_
  rintro v M1 ⟨hF1, hm⟩
  have hT := hT.fr hF1 (by unfold okTb at htb; omega)
  have hS := hS.fr hF1 hlo
  have hG := hG.w hF1
  have t0 := hT.1.1
  have s0 := hT.2.1.1
  have s1 := hT.2.2.1.1
  have s2 := hT.2.2.2.1
  rcases hp : pHou tp sc z.2.2.2 T a with e | ⟨f, a1⟩
  · rw [hp] at hr hm
    dsimp only at hr hm
    subst hr
    obtain ⟨rfl, hE⟩ := hm
    try dsimp only [set1, set2, kilP, List.set_cons_zero, List.set_cons_succ, List.getElem?_cons_zero, List.getElem?_cons_succ, List.nil_append, List.cons_append, Option.toList_some, Option.toList_none]
    repeat (first | refine es rfl rfl rfl ?_ | refine eg rfl (by assumption) rfl ?_ | refine ean rfl (by assumption) (by assumption) rfl ?_ | refine eal rfl (by assumption) (by assumption) rfl ?_ | refine eri rfl ?_ | refine erv rfl ?_ | refine erl rfl ?_ | refine era rfl ?_ | refine erz0 rfl ?_ | refine erz1 rfl ?_)
    try dsimp only [set1, set2, kilP, List.set_cons_zero, List.set_cons_succ, List.getElem?_cons_zero, List.getElem?_cons_succ, List.nil_append, List.cons_append, Option.toList_some, Option.toList_none]
    exact ⟨hG, rfl, hE, _, hT⟩
  rw [hp] at hr hm
  dsimp only at hr hm
  obtain ⟨rfl, ⟨q, hq, hh_a1, hl_a1, hst⟩⟩ := hm
  have h0 := hq.1.1
  unfold aR0 at h0
  try dsimp only [set1, set2, kilP, List.set_cons_zero, List.set_cons_succ, List.getElem?_cons_zero, List.getElem?_cons_succ, List.nil_append, List.cons_append, Option.toList_some, Option.toList_none]
  rw [hh_a1] at h0
  repeat (first | refine es rfl rfl rfl ?_ | refine eg rfl (by assumption) rfl ?_ | refine ean rfl (by assumption) (by assumption) rfl ?_ | refine eal rfl (by assumption) (by assumption) rfl ?_ | refine eri rfl ?_ | refine erv rfl ?_ | refine erl rfl ?_ | refine era rfl ?_ | refine erz0 rfl ?_ | refine erz1 rfl ?_)
  try dsimp only [set1, set2, kilP, List.set_cons_zero, List.set_cons_succ, List.getElem?_cons_zero, List.getElem?_cons_succ, List.nil_append, List.cons_append, Option.toList_some, Option.toList_none]
  refine ecv rfl rfl (by assumption) rfl rfl rfl (w_told hq hT hn7 (by unfold okTb at htb; omega)) (by first | rfl | exact Nat.blt_eq.mpr (by omega)) ?_
  rintro v M1 ⟨hF1, hm⟩
  have hT := hT.fr hF1 (by unfold okTb at htb; omega)
  have hS := hS.fr hF1 hlo
  have hG := hG.w hF1
  have t0 := hT.1.1
  have s0 := hT.2.1.1
  have s1 := hT.2.2.1.1
  have s2 := hT.2.2.2.1
  rcases hp : pHou tp sc z.2.2.2 T a1 with e | ⟨g, a2⟩
  · rw [hp] at hr hm
    dsimp only at hr hm
    subst hr
    obtain ⟨rfl, hE⟩ := hm
    try dsimp only [set1, set2, kilP, List.set_cons_zero, List.set_cons_succ, List.getElem?_cons_zero, List.getElem?_cons_succ, List.nil_append, List.cons_append, Option.toList_some, Option.toList_none]
    repeat (first | refine es rfl rfl rfl ?_ | refine eg rfl (by assumption) rfl ?_ | refine ean rfl (by assumption) (by assumption) rfl ?_ | refine eal rfl (by assumption) (by assumption) rfl ?_ | refine eri rfl ?_ | refine erv rfl ?_ | refine erl rfl ?_ | refine era rfl ?_ | refine erz0 rfl ?_ | refine erz1 rfl ?_)
    try dsimp only [set1, set2, kilP, List.set_cons_zero, List.set_cons_succ, List.getElem?_cons_zero, List.getElem?_cons_succ, List.nil_append, List.cons_append, Option.toList_some, Option.toList_none]
    exact ⟨hG, rfl, hE, _, hT⟩
  rw [hp] at hr hm
  dsimp only at hr hm
  obtain ⟨rfl, ⟨q, hq, hh_a2, hl_a2, hst⟩⟩ := hm
  have h0 := hq.1.1
  unfold aR0 at h0
  try dsimp only [set1, set2, kilP, List.set_cons_zero, List.set_cons_succ, List.getElem?_cons_zero, List.getElem?_cons_succ, List.nil_append, List.cons_append, Option.toList_some, Option.toList_none]
  rw [hh_a2] at h0
  have hf7 : f < 7 := by omega
  have hg7 : g < 7 := by omega
  repeat (first | refine es rfl rfl rfl ?_ | refine eg rfl (by assumption) rfl ?_ | refine ean rfl (by assumption) (by assumption) rfl ?_ | refine eal rfl (by assumption) (by assumption) rfl ?_ | refine eri rfl ?_ | refine erv rfl ?_ | refine erl rfl ?_ | refine era rfl ?_ | refine erz0 rfl ?_ | refine erz1 rfl ?_)
  try dsimp only [set1, set2, kilP, List.set_cons_zero, List.set_cons_succ, List.getElem?_cons_zero, List.getElem?_cons_succ, List.nil_append, List.cons_append, Option.toList_some, Option.toList_none]
  by_cases hc2 : g = f
  · rw [if_pos (Or.inl hc2)] at hr
    refine ei _ rfl rfl (fun c => ?_) (fun c => ?_)
    · repeat (first | refine es rfl rfl rfl ?_ | refine eg rfl (by assumption) rfl ?_ | refine ean rfl (by assumption) (by assumption) rfl ?_ | refine eal rfl (by assumption) (by assumption) rfl ?_ | refine eri rfl ?_ | refine erv rfl ?_ | refine erl rfl ?_ | refine era rfl ?_ | refine erz0 rfl ?_ | refine erz1 rfl ?_)
      try dsimp only [set1, set2, kilP, List.set_cons_zero, List.set_cons_succ, List.getElem?_cons_zero, List.getElem?_cons_succ, List.nil_append, List.cons_append, Option.toList_some, Option.toList_none]
      refine ecv rfl rfl (by assumption) rfl rfl rfl (e5_fail hq.1) (by first | rfl | exact Nat.blt_eq.mpr (by omega)) ?_
      rintro v M2 ⟨rfl, hb2, hF2⟩
      try dsimp only [set1, set2, kilP, List.set_cons_zero, List.set_cons_succ, List.getElem?_cons_zero, List.getElem?_cons_succ, List.nil_append, List.cons_append, Option.toList_some, Option.toList_none]
      repeat (first | refine es rfl rfl rfl ?_ | refine eg rfl (by assumption) rfl ?_ | refine ean rfl (by assumption) (by assumption) rfl ?_ | refine eal rfl (by assumption) (by assumption) rfl ?_ | refine eri rfl ?_ | refine erv rfl ?_ | refine erl rfl ?_ | refine era rfl ?_ | refine erz0 rfl ?_ | refine erz1 rfl ?_)
      try dsimp only [set1, set2, kilP, List.set_cons_zero, List.set_cons_succ, List.getElem?_cons_zero, List.getElem?_cons_succ, List.nil_append, List.cons_append, Option.toList_some, Option.toList_none]
      subst hr
      exact ⟨hG.w hF2, rfl, ⟨_, hb2, rfl, congrArg nI hst, hq.2.2.2.1⟩, _, hT.fr hF2 (by unfold okTb at htb; omega)⟩
    · exact absurd (congrArg nI hc2) c
  refine ei _ rfl rfl (fun c2 => ?_) (fun c2 => ?_)
  · exact absurd (nI_inj (by omega) (by omega) c2) hc2
  repeat (first | refine es rfl rfl rfl ?_ | refine eg rfl (by assumption) rfl ?_ | refine ean rfl (by assumption) (by assumption) rfl ?_ | refine eal rfl (by assumption) (by assumption) rfl ?_ | refine eri rfl ?_ | refine erv rfl ?_ | refine erl rfl ?_ | refine era rfl ?_ | refine erz0 rfl ?_ | refine erz1 rfl ?_)
  try dsimp only [set1, set2, kilP, List.set_cons_zero, List.set_cons_succ, List.getElem?_cons_zero, List.getElem?_cons_succ, List.nil_append, List.cons_append, Option.toList_some, Option.toList_none]
  refine ecr rfl rfl (by assumption) rfl rfl rfl (e7_between hT.2.2.1 hf7 hg7) (by first | rfl | exact Nat.blt_eq.mpr (by omega)) rfl ?_
  by_cases hc3 : 0 < T.ss.mi (f * 7 + g)
  · rw [if_pos (Or.inr hc3)] at hr
    refine ei _ rfl rfl (fun c => ?_) (fun c => ?_)
    · exact absurd c (Int32.not_le.mpr hc3)
    · repeat (first | refine es rfl rfl rfl ?_ | refine eg rfl (by assumption) rfl ?_ | refine ean rfl (by assumption) (by assumption) rfl ?_ | refine eal rfl (by assumption) (by assumption) rfl ?_ | refine eri rfl ?_ | refine erv rfl ?_ | refine erl rfl ?_ | refine era rfl ?_ | refine erz0 rfl ?_ | refine erz1 rfl ?_)
      try dsimp only [set1, set2, kilP, List.set_cons_zero, List.set_cons_succ, List.getElem?_cons_zero, List.getElem?_cons_succ, List.nil_append, List.cons_append, Option.toList_some, Option.toList_none]
      refine ecv rfl rfl (by assumption) rfl rfl rfl (e5_fail hq.1) (by first | rfl | exact Nat.blt_eq.mpr (by omega)) ?_
      rintro v M2 ⟨rfl, hb2, hF2⟩
      try dsimp only [set1, set2, kilP, List.set_cons_zero, List.set_cons_succ, List.getElem?_cons_zero, List.getElem?_cons_succ, List.nil_append, List.cons_append, Option.toList_some, Option.toList_none]
      repeat (first | refine es rfl rfl rfl ?_ | refine eg rfl (by assumption) rfl ?_ | refine ean rfl (by assumption) (by assumption) rfl ?_ | refine eal rfl (by assumption) (by assumption) rfl ?_ | refine eri rfl ?_ | refine erv rfl ?_ | refine erl rfl ?_ | refine era rfl ?_ | refine erz0 rfl ?_ | refine erz1 rfl ?_)
      try dsimp only [set1, set2, kilP, List.set_cons_zero, List.set_cons_succ, List.getElem?_cons_zero, List.getElem?_cons_succ, List.nil_append, List.cons_append, Option.toList_some, Option.toList_none]
      subst hr
      exact ⟨hG.w hF2, rfl, ⟨_, hb2, rfl, congrArg nI hst, hq.2.2.2.1⟩, _, hT.fr hF2 (by unfold okTb at htb; omega)⟩
  rw [if_neg (fun h => h.elim hc2 hc3)] at hr
  refine ei _ rfl rfl (fun c => ?_) (fun c => ?_)
  rotate_left
  · exact absurd (Int32.not_lt.mp hc3) c
  repeat (first | refine es rfl rfl rfl ?_ | refine eg rfl (by assumption) rfl ?_ | refine ean rfl (by assumption) (by assumption) rfl ?_ | refine eal rfl (by assumption) (by assumption) rfl ?_ | refine eri rfl ?_ | refine erv rfl ?_ | refine erl rfl ?_ | refine era rfl ?_ | refine erz0 rfl ?_ | refine erz1 rfl ?_)
  try dsimp only [set1, set2, kilP, List.set_cons_zero, List.set_cons_succ, List.getElem?_cons_zero, List.getElem?_cons_succ, List.nil_append, List.cons_append, Option.toList_some, Option.toList_none]
  refine ecv rfl rfl (by assumption) rfl rfl rfl (w_this hq hS hlo (i := 17) (by omega)) (by first | rfl | exact Nat.blt_eq.mpr (by omega)) ?_
  rintro v M1 ⟨hF1, hm⟩
  have hT := hT.fr hF1 (by unfold okTb at htb; omega)
  have hS := hS.fr hF1 hlo
  have hG := hG.w hF1
  have t0 := hT.1.1
  have s0 := hT.2.1.1
  have s1 := hT.2.2.1.1
  have s2 := hT.2.2.2.1
  rcases hp : pThis tp z.2.2.2 17 a2 with e | a3
  · rw [hp] at hr hm
    dsimp only at hr hm
    subst hr
    obtain ⟨rfl, hE⟩ := hm
    try dsimp only [set1, set2, kilP, List.set_cons_zero, List.set_cons_succ, List.getElem?_cons_zero, List.getElem?_cons_succ, List.nil_append, List.cons_append, Option.toList_some, Option.toList_none]
    repeat (first | refine es rfl rfl rfl ?_ | refine eg rfl (by assumption) rfl ?_ | refine ean rfl (by assumption) (by assumption) rfl ?_ | refine eal rfl (by assumption) (by assumption) rfl ?_ | refine eri rfl ?_ | refine erv rfl ?_ | refine erl rfl ?_ | refine era rfl ?_ | refine erz0 rfl ?_ | refine erz1 rfl ?_)
    try dsimp only [set1, set2, kilP, List.set_cons_zero, List.set_cons_succ, List.getElem?_cons_zero, List.getElem?_cons_succ, List.nil_append, List.cons_append, Option.toList_some, Option.toList_none]
    exact ⟨hG, rfl, hE, _, hT⟩
  rw [hp] at hr hm
  dsimp only at hr hm
  obtain ⟨rfl, ⟨q, hq, hr'⟩⟩ := hm
  have h0 := hq.1.1
  unfold aR0 at h0
  try dsimp only [set1, set2, kilP, List.set_cons_zero, List.set_cons_succ, List.getElem?_cons_zero, List.getElem?_cons_succ, List.nil_append, List.cons_append, Option.toList_some, Option.toList_none]
  repeat (first | refine es rfl rfl rfl ?_ | refine eg rfl (by assumption) rfl ?_ | refine ean rfl (by assumption) (by assumption) rfl ?_ | refine eal rfl (by assumption) (by assumption) rfl ?_ | refine eri rfl ?_ | refine erv rfl ?_ | refine erl rfl ?_ | refine era rfl ?_ | refine erz0 rfl ?_ | refine erz1 rfl ?_)
  try dsimp only [set1, set2, kilP, List.set_cons_zero, List.set_cons_succ, List.getElem?_cons_zero, List.getElem?_cons_succ, List.nil_append, List.cons_append, Option.toList_some, Option.toList_none]
  refine ecv rfl rfl (by assumption) rfl rfl rfl (w_wh (lo := 1) (hi := 99) hq (by omega) (by omega)) (by first | rfl | exact Nat.blt_eq.mpr (by omega)) ?_
  rintro v M1 ⟨hF1, hm⟩
  have hT := hT.fr hF1 (by unfold okTb at htb; omega)
  have hS := hS.fr hF1 hlo
  have hG := hG.w hF1
  have t0 := hT.1.1
  have s0 := hT.2.1.1
  have s1 := hT.2.2.1.1
  have s2 := hT.2.2.2.1
  rcases hp : pWh tp z.2.2.2 1 99 a3 with e | ⟨m, a4⟩
  · rw [hp] at hr hm
    dsimp only at hr hm
    subst hr
    obtain ⟨rfl, hE⟩ := hm
    try dsimp only [set1, set2, kilP, List.set_cons_zero, List.set_cons_succ, List.getElem?_cons_zero, List.getElem?_cons_succ, List.nil_append, List.cons_append, Option.toList_some, Option.toList_none]
    repeat (first | refine es rfl rfl rfl ?_ | refine eg rfl (by assumption) rfl ?_ | refine ean rfl (by assumption) (by assumption) rfl ?_ | refine eal rfl (by assumption) (by assumption) rfl ?_ | refine eri rfl ?_ | refine erv rfl ?_ | refine erl rfl ?_ | refine era rfl ?_ | refine erz0 rfl ?_ | refine erz1 rfl ?_)
    try dsimp only [set1, set2, kilP, List.set_cons_zero, List.set_cons_succ, List.getElem?_cons_zero, List.getElem?_cons_succ, List.nil_append, List.cons_append, Option.toList_some, Option.toList_none]
    exact ⟨hG, rfl, hE, _, hT⟩
  rw [hp] at hr hm
  dsimp only at hr hm
  obtain ⟨rfl, ⟨q, hq, hw_a4, hr', hb1_a4, hb2_a4⟩⟩ := hm
  have h0 := hq.1.1
  unfold aR0 at h0
  try dsimp only [set1, set2, kilP, List.set_cons_zero, List.set_cons_succ, List.getElem?_cons_zero, List.getElem?_cons_succ, List.nil_append, List.cons_append, Option.toList_some, Option.toList_none]
  rw [hw_a4] at h0
  repeat (first | refine es rfl rfl rfl ?_ | refine eg rfl (by assumption) rfl ?_ | refine ean rfl (by assumption) (by assumption) rfl ?_ | refine eal rfl (by assumption) (by assumption) rfl ?_ | refine eri rfl ?_ | refine erv rfl ?_ | refine erl rfl ?_ | refine era rfl ?_ | refine erz0 rfl ?_ | refine erz1 rfl ?_)
  try dsimp only [set1, set2, kilP, List.set_cons_zero, List.set_cons_succ, List.getElem?_cons_zero, List.getElem?_cons_succ, List.nil_append, List.cons_append, Option.toList_some, Option.toList_none]
  refine ecv rfl rfl (by assumption) rfl rfl rfl (e7_add hT.2.2.1 hf7 hg7) (by first | rfl | exact Nat.blt_eq.mpr (by omega)) ?_
  rintro v M2 ⟨rfl, hA, hA2, hA3⟩
  have hFr : Fr (tb + 10) 4 M1 M2 := ⟨hA2, hA3⟩
  have hq := hq.f hFr (by unfold okTb at htb; omega)
  have hG := hG.t hFr (by omega) (by omega)
  try dsimp only [set1, set2, kilP, List.set_cons_zero, List.set_cons_succ, List.getElem?_cons_zero, List.getElem?_cons_succ, List.nil_append, List.cons_append, Option.toList_some, Option.toList_none]
  repeat (first | refine es rfl rfl rfl ?_ | refine eg rfl (by assumption) rfl ?_ | refine ean rfl (by assumption) (by assumption) rfl ?_ | refine eal rfl (by assumption) (by assumption) rfl ?_ | refine eri rfl ?_ | refine erv rfl ?_ | refine erl rfl ?_ | refine era rfl ?_ | refine erz0 rfl ?_ | refine erz1 rfl ?_)
  try dsimp only [set1, set2, kilP, List.set_cons_zero, List.set_cons_succ, List.getElem?_cons_zero, List.getElem?_cons_succ, List.nil_append, List.cons_append, Option.toList_some, Option.toList_none]
  subst hr
  exact ⟨hG, rfl, ⟨_, hq⟩, hT.1.kept (fun j hj => hFr.1 j (by omega)), hT.2.1.fr hFr (by omega), hA, hT.2.2.2.fr hFr (by omega)⟩
def lnPerson (tp : Nat → Int32) (sc : Nat → Int64) (le : Nat) (T : Tw) (a : Nat) : Except Er (Tw × Nat) :=
  match pNew tp sc le T a with
  | .error e => .error e
  | .ok (w, a1) =>
  match pThis tp le 18 a1 with
  | .error e => .error e
  | .ok a2 =>
  match pHou tp sc le T a2 with
  | .error e => .error e
  | .ok (h, a3) =>
  match pThis tp le 19 a3 with
  | .error e => .error e
  | .ok a4 =>
  match pHou tp sc le T a4 with
  | .error e => .error e
  | .ok (p, a5) =>
  .ok (((T.dr, T.lk, T.np + 1, vp_updL T.pn T.np w, upd T.hm T.np (nI h), upd T.pl T.np (nI p)), T.hs, T.ss, T.cs), a5)
theorem e5_lnPerson {ad : Nat → Nat} {M : Mm} {b tb lo : Nat} {tp : Nat → Int32} {sc : Nat → Int64} {z : Rz} {a : Nat} {q : Rq} {T : Tw} (hq : rS M b tb tp sc z a q) (hT : aTw M tb T) (hS : aSt ad lo M) (hlo : lo ≤ b) (htb : okTb b tb) (hn7 : T.hs.n ≤ 7) (hp4 : T.np ≤ 4) (hp3 : T.np < 4) : EvM ad 4 (iX5_readPersonLine ad) [.ref b] M (lnP b tb tp sc z M (lnPerson tp sc z.2.2.2 T a)) := by
  generalize hr : lnPerson tp sc z.2.2.2 T a = r
  unfold lnPerson at hr
  have hG := Fr2.rf b tb M
  have h0 := hq.1.1
  unfold aR0 at h0
  have t0 := hT.1.1
  have s0 := hT.2.1.1
  refine ⟨Nat.le_of_ble_eq_true rfl, ?_⟩
  show Ev ad _ (rX5_readPersonLine ad) (0, [some (.ref b), none, none, none], [], M) _
  repeat (first | refine es rfl rfl rfl ?_ | refine eg rfl (by assumption) rfl ?_ | refine ean rfl (by assumption) (by assumption) rfl ?_ | refine eal rfl (by assumption) (by assumption) rfl ?_ | refine eri rfl ?_ | refine erv rfl ?_ | refine erl rfl ?_ | refine era rfl ?_ | refine erz0 rfl ?_ | refine erz1 rfl ?_)
  try dsimp only [set1, set2, kilP, List.set_cons_zero, List.set_cons_succ, List.getElem?_cons_zero, List.getElem?_cons_succ, List.nil_append, List.cons_append, Option.toList_some, Option.toList_none]
  refine ecv rfl rfl (by assumption) rfl rfl rfl (w_new hq hT hn7 hp4 (by unfold okTb at htb; omega)) (by first | rfl | exact Nat.blt_eq.mpr (by omega)) ?_
  rintro v M1 ⟨hF1, hm⟩
  have hT := hT.fr hF1 (by unfold okTb at htb; omega)
  have hS := hS.fr hF1 hlo
  have hG := hG.w hF1
  have t0 := hT.1.1
  have s0 := hT.2.1.1
  have s1 := hT.2.2.1.1
  have s2 := hT.2.2.2.1
  rcases hp : pNew tp sc z.2.2.2 T a with e | ⟨w, a1⟩
  · rw [hp] at hr hm
    dsimp only at hr hm
    subst hr
    obtain ⟨rfl, hE⟩ := hm
    try dsimp only [set1, set2, kilP, List.set_cons_zero, List.set_cons_succ, List.getElem?_cons_zero, List.getElem?_cons_succ, List.nil_append, List.cons_append, Option.toList_some, Option.toList_none]
    repeat (first | refine es rfl rfl rfl ?_ | refine eg rfl (by assumption) rfl ?_ | refine ean rfl (by assumption) (by assumption) rfl ?_ | refine eal rfl (by assumption) (by assumption) rfl ?_ | refine eri rfl ?_ | refine erv rfl ?_ | refine erl rfl ?_ | refine era rfl ?_ | refine erz0 rfl ?_ | refine erz1 rfl ?_)
    try dsimp only [set1, set2, kilP, List.set_cons_zero, List.set_cons_succ, List.getElem?_cons_zero, List.getElem?_cons_succ, List.nil_append, List.cons_append, Option.toList_some, Option.toList_none]
    exact ⟨hG, rfl, hE, _, hT⟩
  rw [hp] at hr hm
  dsimp only at hr hm
  obtain ⟨rfl, ⟨q, hq, hw_a1, hr'⟩⟩ := hm
  have h0 := hq.1.1
  unfold aR0 at h0
  try dsimp only [set1, set2, kilP, List.set_cons_zero, List.set_cons_succ, List.getElem?_cons_zero, List.getElem?_cons_succ, List.nil_append, List.cons_append, Option.toList_some, Option.toList_none]
  rw [hw_a1] at h0
  repeat (first | refine es rfl rfl rfl ?_ | refine eg rfl (by assumption) rfl ?_ | refine ean rfl (by assumption) (by assumption) rfl ?_ | refine eal rfl (by assumption) (by assumption) rfl ?_ | refine eri rfl ?_ | refine erv rfl ?_ | refine erl rfl ?_ | refine era rfl ?_ | refine erz0 rfl ?_ | refine erz1 rfl ?_)
  try dsimp only [set1, set2, kilP, List.set_cons_zero, List.set_cons_succ, List.getElem?_cons_zero, List.getElem?_cons_succ, List.nil_append, List.cons_append, Option.toList_some, Option.toList_none]
  refine ecv rfl rfl (by assumption) rfl rfl rfl (w_this hq hS hlo (i := 18) (by omega)) (by first | rfl | exact Nat.blt_eq.mpr (by omega)) ?_
  rintro v M1 ⟨hF1, hm⟩
  have hT := hT.fr hF1 (by unfold okTb at htb; omega)
  have hS := hS.fr hF1 hlo
  have hG := hG.w hF1
  have t0 := hT.1.1
  have s0 := hT.2.1.1
  have s1 := hT.2.2.1.1
  have s2 := hT.2.2.2.1
  rcases hp : pThis tp z.2.2.2 18 a1 with e | a2
  · rw [hp] at hr hm
    dsimp only at hr hm
    subst hr
    obtain ⟨rfl, hE⟩ := hm
    try dsimp only [set1, set2, kilP, List.set_cons_zero, List.set_cons_succ, List.getElem?_cons_zero, List.getElem?_cons_succ, List.nil_append, List.cons_append, Option.toList_some, Option.toList_none]
    repeat (first | refine es rfl rfl rfl ?_ | refine eg rfl (by assumption) rfl ?_ | refine ean rfl (by assumption) (by assumption) rfl ?_ | refine eal rfl (by assumption) (by assumption) rfl ?_ | refine eri rfl ?_ | refine erv rfl ?_ | refine erl rfl ?_ | refine era rfl ?_ | refine erz0 rfl ?_ | refine erz1 rfl ?_)
    try dsimp only [set1, set2, kilP, List.set_cons_zero, List.set_cons_succ, List.getElem?_cons_zero, List.getElem?_cons_succ, List.nil_append, List.cons_append, Option.toList_some, Option.toList_none]
    exact ⟨hG, rfl, hE, _, hT⟩
  rw [hp] at hr hm
  dsimp only at hr hm
  obtain ⟨rfl, ⟨q, hq, hr'⟩⟩ := hm
  have h0 := hq.1.1
  unfold aR0 at h0
  try dsimp only [set1, set2, kilP, List.set_cons_zero, List.set_cons_succ, List.getElem?_cons_zero, List.getElem?_cons_succ, List.nil_append, List.cons_append, Option.toList_some, Option.toList_none]
  repeat (first | refine es rfl rfl rfl ?_ | refine eg rfl (by assumption) rfl ?_ | refine ean rfl (by assumption) (by assumption) rfl ?_ | refine eal rfl (by assumption) (by assumption) rfl ?_ | refine eri rfl ?_ | refine erv rfl ?_ | refine erl rfl ?_ | refine era rfl ?_ | refine erz0 rfl ?_ | refine erz1 rfl ?_)
  try dsimp only [set1, set2, kilP, List.set_cons_zero, List.set_cons_succ, List.getElem?_cons_zero, List.getElem?_cons_succ, List.nil_append, List.cons_append, Option.toList_some, Option.toList_none]
  refine ecv rfl rfl (by assumption) rfl rfl rfl (w_told hq hT hn7 (by unfold okTb at htb; omega)) (by first | rfl | exact Nat.blt_eq.mpr (by omega)) ?_
  rintro v M1 ⟨hF1, hm⟩
  have hT := hT.fr hF1 (by unfold okTb at htb; omega)
  have hS := hS.fr hF1 hlo
  have hG := hG.w hF1
  have t0 := hT.1.1
  have s0 := hT.2.1.1
  have s1 := hT.2.2.1.1
  have s2 := hT.2.2.2.1
  rcases hp : pHou tp sc z.2.2.2 T a2 with e | ⟨h, a3⟩
  · rw [hp] at hr hm
    dsimp only at hr hm
    subst hr
    obtain ⟨rfl, hE⟩ := hm
    try dsimp only [set1, set2, kilP, List.set_cons_zero, List.set_cons_succ, List.getElem?_cons_zero, List.getElem?_cons_succ, List.nil_append, List.cons_append, Option.toList_some, Option.toList_none]
    repeat (first | refine es rfl rfl rfl ?_ | refine eg rfl (by assumption) rfl ?_ | refine ean rfl (by assumption) (by assumption) rfl ?_ | refine eal rfl (by assumption) (by assumption) rfl ?_ | refine eri rfl ?_ | refine erv rfl ?_ | refine erl rfl ?_ | refine era rfl ?_ | refine erz0 rfl ?_ | refine erz1 rfl ?_)
    try dsimp only [set1, set2, kilP, List.set_cons_zero, List.set_cons_succ, List.getElem?_cons_zero, List.getElem?_cons_succ, List.nil_append, List.cons_append, Option.toList_some, Option.toList_none]
    exact ⟨hG, rfl, hE, _, hT⟩
  rw [hp] at hr hm
  dsimp only at hr hm
  obtain ⟨rfl, ⟨q, hq, hh_a3, hl_a3, hst⟩⟩ := hm
  have h0 := hq.1.1
  unfold aR0 at h0
  try dsimp only [set1, set2, kilP, List.set_cons_zero, List.set_cons_succ, List.getElem?_cons_zero, List.getElem?_cons_succ, List.nil_append, List.cons_append, Option.toList_some, Option.toList_none]
  rw [hh_a3] at h0
  repeat (first | refine es rfl rfl rfl ?_ | refine eg rfl (by assumption) rfl ?_ | refine ean rfl (by assumption) (by assumption) rfl ?_ | refine eal rfl (by assumption) (by assumption) rfl ?_ | refine eri rfl ?_ | refine erv rfl ?_ | refine erl rfl ?_ | refine era rfl ?_ | refine erz0 rfl ?_ | refine erz1 rfl ?_)
  try dsimp only [set1, set2, kilP, List.set_cons_zero, List.set_cons_succ, List.getElem?_cons_zero, List.getElem?_cons_succ, List.nil_append, List.cons_append, Option.toList_some, Option.toList_none]
  refine ecv rfl rfl (by assumption) rfl rfl rfl (w_this hq hS hlo (i := 19) (by omega)) (by first | rfl | exact Nat.blt_eq.mpr (by omega)) ?_
  rintro v M1 ⟨hF1, hm⟩
  have hT := hT.fr hF1 (by unfold okTb at htb; omega)
  have hS := hS.fr hF1 hlo
  have hG := hG.w hF1
  have t0 := hT.1.1
  have s0 := hT.2.1.1
  have s1 := hT.2.2.1.1
  have s2 := hT.2.2.2.1
  rcases hp : pThis tp z.2.2.2 19 a3 with e | a4
  · rw [hp] at hr hm
    dsimp only at hr hm
    subst hr
    obtain ⟨rfl, hE⟩ := hm
    try dsimp only [set1, set2, kilP, List.set_cons_zero, List.set_cons_succ, List.getElem?_cons_zero, List.getElem?_cons_succ, List.nil_append, List.cons_append, Option.toList_some, Option.toList_none]
    repeat (first | refine es rfl rfl rfl ?_ | refine eg rfl (by assumption) rfl ?_ | refine ean rfl (by assumption) (by assumption) rfl ?_ | refine eal rfl (by assumption) (by assumption) rfl ?_ | refine eri rfl ?_ | refine erv rfl ?_ | refine erl rfl ?_ | refine era rfl ?_ | refine erz0 rfl ?_ | refine erz1 rfl ?_)
    try dsimp only [set1, set2, kilP, List.set_cons_zero, List.set_cons_succ, List.getElem?_cons_zero, List.getElem?_cons_succ, List.nil_append, List.cons_append, Option.toList_some, Option.toList_none]
    exact ⟨hG, rfl, hE, _, hT⟩
  rw [hp] at hr hm
  dsimp only at hr hm
  obtain ⟨rfl, ⟨q, hq, hr'⟩⟩ := hm
  have h0 := hq.1.1
  unfold aR0 at h0
  try dsimp only [set1, set2, kilP, List.set_cons_zero, List.set_cons_succ, List.getElem?_cons_zero, List.getElem?_cons_succ, List.nil_append, List.cons_append, Option.toList_some, Option.toList_none]
  repeat (first | refine es rfl rfl rfl ?_ | refine eg rfl (by assumption) rfl ?_ | refine ean rfl (by assumption) (by assumption) rfl ?_ | refine eal rfl (by assumption) (by assumption) rfl ?_ | refine eri rfl ?_ | refine erv rfl ?_ | refine erl rfl ?_ | refine era rfl ?_ | refine erz0 rfl ?_ | refine erz1 rfl ?_)
  try dsimp only [set1, set2, kilP, List.set_cons_zero, List.set_cons_succ, List.getElem?_cons_zero, List.getElem?_cons_succ, List.nil_append, List.cons_append, Option.toList_some, Option.toList_none]
  refine ecv rfl rfl (by assumption) rfl rfl rfl (w_told hq hT hn7 (by unfold okTb at htb; omega)) (by first | rfl | exact Nat.blt_eq.mpr (by omega)) ?_
  rintro v M1 ⟨hF1, hm⟩
  have hT := hT.fr hF1 (by unfold okTb at htb; omega)
  have hS := hS.fr hF1 hlo
  have hG := hG.w hF1
  have t0 := hT.1.1
  have s0 := hT.2.1.1
  have s1 := hT.2.2.1.1
  have s2 := hT.2.2.2.1
  rcases hp : pHou tp sc z.2.2.2 T a4 with e | ⟨p, a5⟩
  · rw [hp] at hr hm
    dsimp only at hr hm
    subst hr
    obtain ⟨rfl, hE⟩ := hm
    try dsimp only [set1, set2, kilP, List.set_cons_zero, List.set_cons_succ, List.getElem?_cons_zero, List.getElem?_cons_succ, List.nil_append, List.cons_append, Option.toList_some, Option.toList_none]
    repeat (first | refine es rfl rfl rfl ?_ | refine eg rfl (by assumption) rfl ?_ | refine ean rfl (by assumption) (by assumption) rfl ?_ | refine eal rfl (by assumption) (by assumption) rfl ?_ | refine eri rfl ?_ | refine erv rfl ?_ | refine erl rfl ?_ | refine era rfl ?_ | refine erz0 rfl ?_ | refine erz1 rfl ?_)
    try dsimp only [set1, set2, kilP, List.set_cons_zero, List.set_cons_succ, List.getElem?_cons_zero, List.getElem?_cons_succ, List.nil_append, List.cons_append, Option.toList_some, Option.toList_none]
    exact ⟨hG, rfl, hE, _, hT⟩
  rw [hp] at hr hm
  dsimp only at hr hm
  obtain ⟨rfl, ⟨q, hq, hh_a5, hl_a5, hst⟩⟩ := hm
  have h0 := hq.1.1
  unfold aR0 at h0
  try dsimp only [set1, set2, kilP, List.set_cons_zero, List.set_cons_succ, List.getElem?_cons_zero, List.getElem?_cons_succ, List.nil_append, List.cons_append, Option.toList_some, Option.toList_none]
  rw [hh_a5] at h0
  repeat (first | refine es rfl rfl rfl ?_ | refine eg rfl (by assumption) rfl ?_ | refine ean rfl (by assumption) (by assumption) rfl ?_ | refine eal rfl (by assumption) (by assumption) rfl ?_ | refine eri rfl ?_ | refine erv rfl ?_ | refine erl rfl ?_ | refine era rfl ?_ | refine erz0 rfl ?_ | refine erz1 rfl ?_)
  try dsimp only [set1, set2, kilP, List.set_cons_zero, List.set_cons_succ, List.getElem?_cons_zero, List.getElem?_cons_succ, List.nil_append, List.cons_append, Option.toList_some, Option.toList_none]
  refine ecv rfl rfl (by assumption) rfl rfl rfl (e9_add hT hp3) (by first | rfl | exact Nat.blt_eq.mpr (by omega)) ?_
  rintro v M2 ⟨rfl, hA, hFr⟩
  have hq := hq.f hFr (by unfold okTb at htb; omega)
  have hG := hG.t hFr (by omega) (by omega)
  try dsimp only [set1, set2, kilP, List.set_cons_zero, List.set_cons_succ, List.getElem?_cons_zero, List.getElem?_cons_succ, List.nil_append, List.cons_append, Option.toList_some, Option.toList_none]
  repeat (first | refine es rfl rfl rfl ?_ | refine eg rfl (by assumption) rfl ?_ | refine ean rfl (by assumption) (by assumption) rfl ?_ | refine eal rfl (by assumption) (by assumption) rfl ?_ | refine eri rfl ?_ | refine erv rfl ?_ | refine erl rfl ?_ | refine era rfl ?_ | refine erz0 rfl ?_ | refine erz1 rfl ?_)
  try dsimp only [set1, set2, kilP, List.set_cons_zero, List.set_cons_succ, List.getElem?_cons_zero, List.getElem?_cons_succ, List.nil_append, List.cons_append, Option.toList_some, Option.toList_none]
  subst hr
  exact ⟨hG, rfl, ⟨_, hq⟩, hA⟩
def lnSign (tp : Nat → Int32) (sc : Nat → Int64) (le : Nat) (T : Tw) (a : Nat) : Except Er (Tw × Nat) :=
  match pHou tp sc le T a with
  | .error e => .error e
  | .ok (h, a1) =>
  match pAny tp le a1 with
  | .error e => .error e
  | .ok (w, a2) =>
  .ok ((T.1, T.hs, T.ss, (T.cs.sg + 1, upd T.cs.sh T.cs.sg (nI h), vp_updL T.cs.ss T.cs.sg w, T.cs.nz, T.cs.nh, T.cs.nr)), a2)
theorem e5_lnSign {ad : Nat → Nat} {M : Mm} {b tb lo : Nat} {tp : Nat → Int32} {sc : Nat → Int64} {z : Rz} {a : Nat} {q : Rq} {T : Tw} (hq : rS M b tb tp sc z a q) (hT : aTw M tb T) (hS : aSt ad lo M) (hlo : lo ≤ b) (htb : okTb b tb) (hn7 : T.hs.n ≤ 7) (hs8 : T.cs.sg < 8) : EvM ad 4 (iX5_readSignLine ad) [.ref b] M (lnP b tb tp sc z M (lnSign tp sc z.2.2.2 T a)) := by
  generalize hr : lnSign tp sc z.2.2.2 T a = r
  unfold lnSign at hr
  have hG := Fr2.rf b tb M
  have h0 := hq.1.1
  unfold aR0 at h0
  have t0 := hT.1.1
  have s0 := hT.2.1.1
  refine ⟨Nat.le_of_ble_eq_true rfl, ?_⟩
  show Ev ad _ (rX5_readSignLine ad) (0, [some (.ref b)], [], M) _
  repeat (first | refine es rfl rfl rfl ?_ | refine eg rfl (by assumption) rfl ?_ | refine ean rfl (by assumption) (by assumption) rfl ?_ | refine eal rfl (by assumption) (by assumption) rfl ?_ | refine eri rfl ?_ | refine erv rfl ?_ | refine erl rfl ?_ | refine era rfl ?_ | refine erz0 rfl ?_ | refine erz1 rfl ?_)
  try dsimp only [set1, set2, kilP, List.set_cons_zero, List.set_cons_succ, List.getElem?_cons_zero, List.getElem?_cons_succ, List.nil_append, List.cons_append, Option.toList_some, Option.toList_none]
  refine ecv rfl rfl (by assumption) rfl rfl rfl (w_told hq hT hn7 (by unfold okTb at htb; omega)) (by first | rfl | exact Nat.blt_eq.mpr (by omega)) ?_
  rintro v M1 ⟨hF1, hm⟩
  have hT := hT.fr hF1 (by unfold okTb at htb; omega)
  have hS := hS.fr hF1 hlo
  have hG := hG.w hF1
  have t0 := hT.1.1
  have s0 := hT.2.1.1
  have s1 := hT.2.2.1.1
  have s2 := hT.2.2.2.1
  rcases hp : pHou tp sc z.2.2.2 T a with e | ⟨h, a1⟩
  · rw [hp] at hr hm
    dsimp only at hr hm
    subst hr
    obtain ⟨rfl, hE⟩ := hm
    try dsimp only [set1, set2, kilP, List.set_cons_zero, List.set_cons_succ, List.getElem?_cons_zero, List.getElem?_cons_succ, List.nil_append, List.cons_append, Option.toList_some, Option.toList_none]
    repeat (first | refine es rfl rfl rfl ?_ | refine eg rfl (by assumption) rfl ?_ | refine ean rfl (by assumption) (by assumption) rfl ?_ | refine eal rfl (by assumption) (by assumption) rfl ?_ | refine eri rfl ?_ | refine erv rfl ?_ | refine erl rfl ?_ | refine era rfl ?_ | refine erz0 rfl ?_ | refine erz1 rfl ?_)
    try dsimp only [set1, set2, kilP, List.set_cons_zero, List.set_cons_succ, List.getElem?_cons_zero, List.getElem?_cons_succ, List.nil_append, List.cons_append, Option.toList_some, Option.toList_none]
    exact ⟨hG, rfl, hE, _, hT⟩
  rw [hp] at hr hm
  dsimp only at hr hm
  obtain ⟨rfl, ⟨q, hq, hh_a1, hl_a1, hst⟩⟩ := hm
  have h0 := hq.1.1
  unfold aR0 at h0
  try dsimp only [set1, set2, kilP, List.set_cons_zero, List.set_cons_succ, List.getElem?_cons_zero, List.getElem?_cons_succ, List.nil_append, List.cons_append, Option.toList_some, Option.toList_none]
  rw [hh_a1] at h0
  repeat (first | refine es rfl rfl rfl ?_ | refine eg rfl (by assumption) rfl ?_ | refine ean rfl (by assumption) (by assumption) rfl ?_ | refine eal rfl (by assumption) (by assumption) rfl ?_ | refine eri rfl ?_ | refine erv rfl ?_ | refine erl rfl ?_ | refine era rfl ?_ | refine erz0 rfl ?_ | refine erz1 rfl ?_)
  try dsimp only [set1, set2, kilP, List.set_cons_zero, List.set_cons_succ, List.getElem?_cons_zero, List.getElem?_cons_succ, List.nil_append, List.cons_append, Option.toList_some, Option.toList_none]
  refine ecv rfl rfl (by assumption) rfl rfl rfl (w_any hq) (by first | rfl | exact Nat.blt_eq.mpr (by omega)) ?_
  rintro v M1 ⟨hF1, hm⟩
  have hT := hT.fr hF1 (by unfold okTb at htb; omega)
  have hS := hS.fr hF1 hlo
  have hG := hG.w hF1
  have t0 := hT.1.1
  have s0 := hT.2.1.1
  have s1 := hT.2.2.1.1
  have s2 := hT.2.2.2.1
  rcases hp : pAny tp z.2.2.2 a1 with e | ⟨w, a2⟩
  · rw [hp] at hr hm
    dsimp only at hr hm
    subst hr
    obtain ⟨rfl, hE⟩ := hm
    try dsimp only [set1, set2, kilP, List.set_cons_zero, List.set_cons_succ, List.getElem?_cons_zero, List.getElem?_cons_succ, List.nil_append, List.cons_append, Option.toList_some, Option.toList_none]
    repeat (first | refine es rfl rfl rfl ?_ | refine eg rfl (by assumption) rfl ?_ | refine ean rfl (by assumption) (by assumption) rfl ?_ | refine eal rfl (by assumption) (by assumption) rfl ?_ | refine eri rfl ?_ | refine erv rfl ?_ | refine erl rfl ?_ | refine era rfl ?_ | refine erz0 rfl ?_ | refine erz1 rfl ?_)
    try dsimp only [set1, set2, kilP, List.set_cons_zero, List.set_cons_succ, List.getElem?_cons_zero, List.getElem?_cons_succ, List.nil_append, List.cons_append, Option.toList_some, Option.toList_none]
    exact ⟨hG, rfl, hE, _, hT⟩
  rw [hp] at hr hm
  dsimp only at hr hm
  obtain ⟨rfl, ⟨q, hq, hw_a2, hr', hst⟩⟩ := hm
  have h0 := hq.1.1
  unfold aR0 at h0
  try dsimp only [set1, set2, kilP, List.set_cons_zero, List.set_cons_succ, List.getElem?_cons_zero, List.getElem?_cons_succ, List.nil_append, List.cons_append, Option.toList_some, Option.toList_none]
  rw [hw_a2] at h0
  rw [hr'.trans hh_a1] at h0
  repeat (first | refine es rfl rfl rfl ?_ | refine eg rfl (by assumption) rfl ?_ | refine ean rfl (by assumption) (by assumption) rfl ?_ | refine eal rfl (by assumption) (by assumption) rfl ?_ | refine eri rfl ?_ | refine erv rfl ?_ | refine erl rfl ?_ | refine era rfl ?_ | refine erz0 rfl ?_ | refine erz1 rfl ?_)
  try dsimp only [set1, set2, kilP, List.set_cons_zero, List.set_cons_succ, List.getElem?_cons_zero, List.getElem?_cons_succ, List.nil_append, List.cons_append, Option.toList_some, Option.toList_none]
  refine ecv rfl rfl (by assumption) rfl rfl rfl (e0_addSign hT.2.2.2 hs8) (by first | rfl | exact Nat.blt_eq.mpr (by omega)) ?_
  rintro v M2 ⟨rfl, hA, hFr⟩
  have hq := hq.f hFr (by unfold okTb at htb; omega)
  have hG := hG.t hFr (by omega) (by omega)
  try dsimp only [set1, set2, kilP, List.set_cons_zero, List.set_cons_succ, List.getElem?_cons_zero, List.getElem?_cons_succ, List.nil_append, List.cons_append, Option.toList_some, Option.toList_none]
  repeat (first | refine es rfl rfl rfl ?_ | refine eg rfl (by assumption) rfl ?_ | refine ean rfl (by assumption) (by assumption) rfl ?_ | refine eal rfl (by assumption) (by assumption) rfl ?_ | refine eri rfl ?_ | refine erv rfl ?_ | refine erl rfl ?_ | refine era rfl ?_ | refine erz0 rfl ?_ | refine erz1 rfl ?_)
  try dsimp only [set1, set2, kilP, List.set_cons_zero, List.set_cons_succ, List.getElem?_cons_zero, List.getElem?_cons_succ, List.nil_append, List.cons_append, Option.toList_some, Option.toList_none]
  subst hr
  exact ⟨hG, rfl, ⟨_, hq⟩, hT.1.kept (fun j hj => hFr.1 j (by omega)), hT.2.1.fr hFr (by omega), hT.2.2.1.fr hFr (by omega), hA⟩
def lnNoise (tp : Nat → Int32) (sc : Nat → Int64) (le : Nat) (T : Tw) (a : Nat) : Except Er (Tw × Nat) :=
  match pHou tp sc le T a with
  | .error e => .error e
  | .ok (h, a1) =>
  match pWh tp le 1 9 a1 with
  | .error e => .error e
  | .ok (k, a2) =>
  .ok ((T.1, T.hs, T.ss, (T.cs.sg, T.cs.sh, T.cs.ss, T.cs.nz + 1, upd T.cs.nh T.cs.nz (nI h), upd T.cs.nr T.cs.nz (nI k))), a2)
theorem e5_lnNoise {ad : Nat → Nat} {M : Mm} {b tb lo : Nat} {tp : Nat → Int32} {sc : Nat → Int64} {z : Rz} {a : Nat} {q : Rq} {T : Tw} (hq : rS M b tb tp sc z a q) (hT : aTw M tb T) (hS : aSt ad lo M) (hlo : lo ≤ b) (htb : okTb b tb) (hn7 : T.hs.n ≤ 7) (hz4 : T.cs.nz < 4) : EvM ad 4 (iX5_readNoiseLine ad) [.ref b] M (lnP b tb tp sc z M (lnNoise tp sc z.2.2.2 T a)) := by
  generalize hr : lnNoise tp sc z.2.2.2 T a = r
  unfold lnNoise at hr
  have hG := Fr2.rf b tb M
  have h0 := hq.1.1
  unfold aR0 at h0
  have t0 := hT.1.1
  have s0 := hT.2.1.1
  refine ⟨Nat.le_of_ble_eq_true rfl, ?_⟩
  show Ev ad _ (rX5_readNoiseLine ad) (0, [some (.ref b)], [], M) _
  repeat (first | refine es rfl rfl rfl ?_ | refine eg rfl (by assumption) rfl ?_ | refine ean rfl (by assumption) (by assumption) rfl ?_ | refine eal rfl (by assumption) (by assumption) rfl ?_ | refine eri rfl ?_ | refine erv rfl ?_ | refine erl rfl ?_ | refine era rfl ?_ | refine erz0 rfl ?_ | refine erz1 rfl ?_)
  try dsimp only [set1, set2, kilP, List.set_cons_zero, List.set_cons_succ, List.getElem?_cons_zero, List.getElem?_cons_succ, List.nil_append, List.cons_append, Option.toList_some, Option.toList_none]
  refine ecv rfl rfl (by assumption) rfl rfl rfl (w_told hq hT hn7 (by unfold okTb at htb; omega)) (by first | rfl | exact Nat.blt_eq.mpr (by omega)) ?_
  rintro v M1 ⟨hF1, hm⟩
  have hT := hT.fr hF1 (by unfold okTb at htb; omega)
  have hS := hS.fr hF1 hlo
  have hG := hG.w hF1
  have t0 := hT.1.1
  have s0 := hT.2.1.1
  have s1 := hT.2.2.1.1
  have s2 := hT.2.2.2.1
  rcases hp : pHou tp sc z.2.2.2 T a with e | ⟨h, a1⟩
  · rw [hp] at hr hm
    dsimp only at hr hm
    subst hr
    obtain ⟨rfl, hE⟩ := hm
    try dsimp only [set1, set2, kilP, List.set_cons_zero, List.set_cons_succ, List.getElem?_cons_zero, List.getElem?_cons_succ, List.nil_append, List.cons_append, Option.toList_some, Option.toList_none]
    repeat (first | refine es rfl rfl rfl ?_ | refine eg rfl (by assumption) rfl ?_ | refine ean rfl (by assumption) (by assumption) rfl ?_ | refine eal rfl (by assumption) (by assumption) rfl ?_ | refine eri rfl ?_ | refine erv rfl ?_ | refine erl rfl ?_ | refine era rfl ?_ | refine erz0 rfl ?_ | refine erz1 rfl ?_)
    try dsimp only [set1, set2, kilP, List.set_cons_zero, List.set_cons_succ, List.getElem?_cons_zero, List.getElem?_cons_succ, List.nil_append, List.cons_append, Option.toList_some, Option.toList_none]
    exact ⟨hG, rfl, hE, _, hT⟩
  rw [hp] at hr hm
  dsimp only at hr hm
  obtain ⟨rfl, ⟨q, hq, hh_a1, hl_a1, hst⟩⟩ := hm
  have h0 := hq.1.1
  unfold aR0 at h0
  try dsimp only [set1, set2, kilP, List.set_cons_zero, List.set_cons_succ, List.getElem?_cons_zero, List.getElem?_cons_succ, List.nil_append, List.cons_append, Option.toList_some, Option.toList_none]
  rw [hh_a1] at h0
  repeat (first | refine es rfl rfl rfl ?_ | refine eg rfl (by assumption) rfl ?_ | refine ean rfl (by assumption) (by assumption) rfl ?_ | refine eal rfl (by assumption) (by assumption) rfl ?_ | refine eri rfl ?_ | refine erv rfl ?_ | refine erl rfl ?_ | refine era rfl ?_ | refine erz0 rfl ?_ | refine erz1 rfl ?_)
  try dsimp only [set1, set2, kilP, List.set_cons_zero, List.set_cons_succ, List.getElem?_cons_zero, List.getElem?_cons_succ, List.nil_append, List.cons_append, Option.toList_some, Option.toList_none]
  refine ecv rfl rfl (by assumption) rfl rfl rfl (w_wh (lo := 1) (hi := 9) hq (by omega) (by omega)) (by first | rfl | exact Nat.blt_eq.mpr (by omega)) ?_
  rintro v M1 ⟨hF1, hm⟩
  have hT := hT.fr hF1 (by unfold okTb at htb; omega)
  have hS := hS.fr hF1 hlo
  have hG := hG.w hF1
  have t0 := hT.1.1
  have s0 := hT.2.1.1
  have s1 := hT.2.2.1.1
  have s2 := hT.2.2.2.1
  rcases hp : pWh tp z.2.2.2 1 9 a1 with e | ⟨k, a2⟩
  · rw [hp] at hr hm
    dsimp only at hr hm
    subst hr
    obtain ⟨rfl, hE⟩ := hm
    try dsimp only [set1, set2, kilP, List.set_cons_zero, List.set_cons_succ, List.getElem?_cons_zero, List.getElem?_cons_succ, List.nil_append, List.cons_append, Option.toList_some, Option.toList_none]
    repeat (first | refine es rfl rfl rfl ?_ | refine eg rfl (by assumption) rfl ?_ | refine ean rfl (by assumption) (by assumption) rfl ?_ | refine eal rfl (by assumption) (by assumption) rfl ?_ | refine eri rfl ?_ | refine erv rfl ?_ | refine erl rfl ?_ | refine era rfl ?_ | refine erz0 rfl ?_ | refine erz1 rfl ?_)
    try dsimp only [set1, set2, kilP, List.set_cons_zero, List.set_cons_succ, List.getElem?_cons_zero, List.getElem?_cons_succ, List.nil_append, List.cons_append, Option.toList_some, Option.toList_none]
    exact ⟨hG, rfl, hE, _, hT⟩
  rw [hp] at hr hm
  dsimp only at hr hm
  obtain ⟨rfl, ⟨q, hq, hw_a2, hr', hb1_a2, hb2_a2⟩⟩ := hm
  have h0 := hq.1.1
  unfold aR0 at h0
  try dsimp only [set1, set2, kilP, List.set_cons_zero, List.set_cons_succ, List.getElem?_cons_zero, List.getElem?_cons_succ, List.nil_append, List.cons_append, Option.toList_some, Option.toList_none]
  rw [hw_a2] at h0
  rw [hr'.trans hh_a1] at h0
  repeat (first | refine es rfl rfl rfl ?_ | refine eg rfl (by assumption) rfl ?_ | refine ean rfl (by assumption) (by assumption) rfl ?_ | refine eal rfl (by assumption) (by assumption) rfl ?_ | refine eri rfl ?_ | refine erv rfl ?_ | refine erl rfl ?_ | refine era rfl ?_ | refine erz0 rfl ?_ | refine erz1 rfl ?_)
  try dsimp only [set1, set2, kilP, List.set_cons_zero, List.set_cons_succ, List.getElem?_cons_zero, List.getElem?_cons_succ, List.nil_append, List.cons_append, Option.toList_some, Option.toList_none]
  refine ecv rfl rfl (by assumption) rfl rfl rfl (e0_addNoise hT.2.2.2 hz4) (by first | rfl | exact Nat.blt_eq.mpr (by omega)) ?_
  rintro v M2 ⟨rfl, hA, hFr⟩
  have hq := hq.f hFr (by unfold okTb at htb; omega)
  have hG := hG.t hFr (by omega) (by omega)
  try dsimp only [set1, set2, kilP, List.set_cons_zero, List.set_cons_succ, List.getElem?_cons_zero, List.getElem?_cons_succ, List.nil_append, List.cons_append, Option.toList_some, Option.toList_none]
  repeat (first | refine es rfl rfl rfl ?_ | refine eg rfl (by assumption) rfl ?_ | refine ean rfl (by assumption) (by assumption) rfl ?_ | refine eal rfl (by assumption) (by assumption) rfl ?_ | refine eri rfl ?_ | refine erv rfl ?_ | refine erl rfl ?_ | refine era rfl ?_ | refine erz0 rfl ?_ | refine erz1 rfl ?_)
  try dsimp only [set1, set2, kilP, List.set_cons_zero, List.set_cons_succ, List.getElem?_cons_zero, List.getElem?_cons_succ, List.nil_append, List.cons_append, Option.toList_some, Option.toList_none]
  subst hr
  exact ⟨hG, rfl, ⟨_, hq⟩, hT.1.kept (fun j hj => hFr.1 j (by omega)), hT.2.1.fr hFr (by omega), hT.2.2.1.fr hFr (by omega), hA⟩
