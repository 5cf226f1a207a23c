/-! One state for the class and the reference -/
abbrev Sg : Type := (Nat → Int32) × Nat × Tw × (Nat → Int32) × List (Nat → Int32) × List (Nat → Int32) × Int32 × Int32 × Int32
abbrev Sg.tp (σ : Sg) : Nat → Int32 := σ.1
abbrev Sg.ts (σ : Sg) : Nat := σ.2.1
abbrev Sg.T (σ : Sg) : Tw := σ.2.2.1
abbrev Sg.f (σ : Sg) : Nat → Int32 := σ.2.2.2.1
abbrev Sg.ac (σ : Sg) : List (Nat → Int32) := σ.2.2.2.2.1
abbrev Sg.mk (σ : Sg) : List (Nat → Int32) := σ.2.2.2.2.2.1
abbrev Sg.tr (σ : Sg) : Int32 := σ.2.2.2.2.2.2.1
abbrev Sg.fn (σ : Sg) : Int32 := σ.2.2.2.2.2.2.2.1
abbrev Sg.fp (σ : Sg) : Int32 := σ.2.2.2.2.2.2.2.2
def Sg.wt (σ : Sg) (t : Int32) : Sg := (σ.tp, σ.ts, σ.T, σ.f, σ.ac, σ.mk, t, σ.fn, σ.fp)
def xTop (M : Mm) (b tb : Nat) (t : Int32) : Prop := M.1 b = some (.inr (11, [.ref (b + 1), .ref tb, .ref (b + 48), .ref (b + 50), .ref (b + 52), .ref (b + 55), .ref (b + 59), .ref (b + 64), .ref (b + 70), .int t]))
def xRd (M : Mm) (b sp : Nat) (σ : Sg) : Prop := ∃ (q : Rq) (sc : Nat → Int64), aRq M (b + 1) sp σ.tp sc q ∧ (∀ j, j < 8 → sc j = sC j) ∧ q.fn = σ.fn ∧ q.fp = σ.fp ∧ q.ts = σ.ts
def ptR (p : Pt4) (ac mk : List (Nat → Int32)) : Prop := p.2.1 < 16 ∧ p.2.2.1 = ac.length ∧ ac.length ≤ 16 ∧ p.2.2.2.2 = mk.length ∧ mk.length ≤ 3 ∧ (∀ i r, ac[i]? = some r → ∀ j, j < 16 → p.1 (((p.2.1 + 15 - i) % 16) * 16 + j) = r j) ∧ ∀ i r, mk[i]? = some r → ∀ j, j < 16 → p.2.2.2.1 (i * 16 + j) = r j
/-- the rows counted, from blank counts -/
def ctd (T : Tw) (s : Fs4) : Prop := ∃ mb ct pl fi : Nat → Int32, (∀ j, j < 7 → mb j = abF T j T.hs.n) ∧ (∀ j, j < 49 → ct j = 0) ∧ s = ((plF T.hs mb T.hs.n 0 0 (ct, pl, fi, 0)).2.1, (plF T.hs mb T.hs.n 0 0 (ct, pl, fi, 0)).2.2.1, (plF T.hs mb T.hs.n 0 0 (ct, pl, fi, 0)).2.2.2.1, (plF T.hs mb T.hs.n 0 0 (ct, pl, fi, 0)).1)
def ftR (w : Ft) (T : Tw) : Prop := (w.2.2 = 0 ∨ w.2.2 = 1) ∧ (w.2.2 = 1 → ctd T w.2.1)
def swR (w : Sw) : Prop := (w.2.1 = 0 ∨ w.2.1 = 1) ∧ (w.2.1 = 1 → bestR w.1 w.2.2.2)
def tsp (b tb sp : Nat) : Prop := (tb = b + 26 ∧ sp = b + 3) ∨ (tb = b + 3 ∧ sp = b + 26)
def XR (M : Mm) (b : Nat) (σ : Sg) : Prop := ∃ tb sp, tsp b tb sp ∧ xTop M b tb σ.tr ∧ xRd M b sp σ ∧ aTw M tb σ.T ∧ (∃ T2, aTw M sp T2) ∧ aNw M (b + 48) σ.f ∧ (∃ r, aNw M (b + 50) r) ∧ (∃ p, aPt M (b + 52) p ∧ ptR p σ.ac σ.mk) ∧ (∃ w, aWy M (b + 55) w) ∧ (∃ w, aFt M (b + 59) w ∧ ftR w σ.T) ∧ (∃ w, aSw M (b + 64) w ∧ swR w) ∧ ∃ r, aRt M (b + 70) r
theorem aWy.fr {M M' : Mm} {b lo n : Nat} {p : Wy} (hb : aWy M b p) (hF : Fr lo n M M') (hq : b + 4 ≤ lo ∨ lo + n ≤ b) : aWy M' b p := by
  obtain ⟨h0, h1, h2, h3⟩ := hb
  exact ⟨(hF.1 _ (by omega)).trans h0, (hF.1 _ (by omega)).trans h1, (hF.1 _ (by omega)).trans h2, (hF.1 _ (by omega)).trans h3⟩
theorem aFt.fr {M M' : Mm} {b lo n : Nat} {p : Ft} (hb : aFt M b p) (hF : Fr lo n M M') (hq : b + 5 ≤ lo ∨ lo + n ≤ b) : aFt M' b p := by
  obtain ⟨h0, h1, h2, h3, h4⟩ := hb
  exact ⟨(hF.1 _ (by omega)).trans h0, (hF.1 _ (by omega)).trans h1, (hF.1 _ (by omega)).trans h2, (hF.1 _ (by omega)).trans h3, (hF.1 _ (by omega)).trans h4⟩
theorem aSw.fr {M M' : Mm} {b lo n : Nat} {p : Sw} (hb : aSw M b p) (hF : Fr lo n M M') (hq : b + 6 ≤ lo ∨ lo + n ≤ b) : aSw M' b p := hb.kept (fun q a1 a2 => hF.1 q (by omega))
theorem aRt.fr {M M' : Mm} {b lo n : Nat} {p : Rt} (hb : aRt M b p) (hF : Fr lo n M M') (hq : b + 3 ≤ lo ∨ lo + n ≤ b) : aRt M' b p := by
  obtain ⟨h0, h1, h2⟩ := hb
  exact ⟨(hF.1 _ (by omega)).trans h0, (hF.1 _ (by omega)).trans h1, (hF.1 _ (by omega)).trans h2⟩
theorem aRq.fr {M M' : Mm} {b t lo n : Nat} {tp : Nat → Int32} {sc : Nat → Int64} {q : Rq} (hb : aRq M b t tp sc q) (hF : Fr lo n M M') (hq : ∀ j, j = b ∨ j = b + 1 ∨ j = b + 24 → j < lo ∨ lo + n ≤ j) : aRq M' b t tp sc q := ⟨(hF.1 _ (hq _ (by omega))).trans hb.1, (hF.1 _ (hq _ (by omega))).trans hb.2.1, (hF.1 _ (hq _ (by omega))).trans hb.2.2⟩
theorem xRd.fr {M M' : Mm} {b sp lo n : Nat} {σ : Sg} (hb : xRd M b sp σ) (hF : Fr lo n M M') (hq : ∀ j, j = b + 1 ∨ j = b + 2 ∨ j = b + 25 → j < lo ∨ lo + n ≤ j) : xRd M' b sp σ := by
  obtain ⟨q, sc, h, h2⟩ := hb
  exact ⟨q, sc, h.fr hF (fun j hj => hq j (by omega)), h2⟩
section XRL
variable {M M' : Mm} {b : Nat} {σ : Sg}
/-- nothing of the object has changed -/
theorem XR.fr {lo n : Nat} (h : XR M b σ) (hF : Fr lo n M M') (hd : b + 73 ≤ lo ∨ lo + n ≤ b) : XR M' b σ := by
  obtain ⟨tb, sp, hts, h0, hRd, hT, ⟨T2, hT2⟩, hN, ⟨r, hTr⟩, ⟨p, hPt, hp⟩, ⟨w, hWy⟩, ⟨w2, hFt, hf⟩, ⟨w3, hSw, hs⟩, ⟨r2, hRt⟩⟩ := h
  unfold tsp at hts
  exact ⟨tb, sp, hts, (hF.1 _ (by omega)).trans h0, hRd.fr hF (by omega), hT.fr hF (by omega), ⟨T2, hT2.fr hF (by omega)⟩, hN.fr hF (by omega), ⟨r, hTr.fr hF (by omega)⟩, ⟨p, hPt.fr hF (by omega), hp⟩, ⟨w, hWy.fr hF (by omega)⟩, ⟨w2, hFt.fr hF (by omega), hf⟩, ⟨w3, hSw.fr hF (by omega), hs⟩, ⟨r2, hRt.fr hF (by omega)⟩⟩
theorem XR.wt {t : Int32} {tb : Nat} (h : XR M b σ) (e : M' = up M b (.inr (11, [.ref (b + 1), .ref tb, .ref (b + 48), .ref (b + 50), .ref (b + 52), .ref (b + 55), .ref (b + 59), .ref (b + 64), .ref (b + 70), .int t]))) (ht : xTop M b tb σ.tr) : XR M' b (σ.wt t) := by
  obtain ⟨tb2, sp, hts, h0, hRd, hT, ⟨T2, hT2⟩, hN, ⟨r, hTr⟩, ⟨p, hPt, hp⟩, ⟨w, hWy⟩, ⟨w2, hFt, hf⟩, ⟨w3, hSw, hs⟩, ⟨r2, hRt⟩⟩ := h
  have e9 : tb2 = tb := by
    have h9 := h0.symm.trans ht
    injection h9 with h9
    injection h9 with h9
    injection h9 with h8 h9
    injection h9 with _ h9
    injection h9 with h9 _
    injection h9
  subst e9
  have hF : Fr b 1 M M' := (Fr.rf b 1 M).up e (by omega) (by omega)
  unfold tsp at hts
  exact ⟨tb2, sp, hts, up_w e, (show xRd M' b sp σ from hRd.fr hF (by omega)), hT.fr hF (by omega), ⟨T2, hT2.fr hF (by omega)⟩, hN.fr hF (by omega), ⟨r, hTr.fr hF (by omega)⟩, ⟨p, hPt.fr hF (by omega), hp⟩, ⟨w, hWy.fr hF (by omega)⟩, ⟨w2, hFt.fr hF (by omega), hf⟩, ⟨w3, hSw.fr hF (by omega), hs⟩, ⟨r2, hRt.fr hF (by omega)⟩⟩
theorem XR.wy {w' : Wy} (h : XR M b σ) (hF : Fr (b + 55) 4 M M') (hw : aWy M' (b + 55) w') : XR M' b σ := by
  obtain ⟨tb, sp, hts, h0, hRd, hT, ⟨T2, hT2⟩, hN, ⟨r, hTr⟩, ⟨p, hPt, hp⟩, ⟨w, hWy⟩, ⟨w2, hFt, hf⟩, ⟨w3, hSw, hs⟩, ⟨r2, hRt⟩⟩ := h
  unfold tsp at hts
  exact ⟨tb, sp, hts, (hF.1 _ (by omega)).trans h0, hRd.fr hF (by omega), hT.fr hF (by omega), ⟨T2, hT2.fr hF (by omega)⟩, hN.fr hF (by omega), ⟨r, hTr.fr hF (by omega)⟩, ⟨p, hPt.fr hF (by omega), hp⟩, ⟨w', hw⟩, ⟨w2, hFt.fr hF (by omega), hf⟩, ⟨w3, hSw.fr hF (by omega), hs⟩, ⟨r2, hRt.fr hF (by omega)⟩⟩
theorem XR.ft {w' : Ft} (h : XR M b σ) (hF : Fr (b + 59) 5 M M') (hw : aFt M' (b + 59) w') (hr : ftR w' σ.T) : XR M' b σ := by
  obtain ⟨tb, sp, hts, h0, hRd, hT, ⟨T2, hT2⟩, hN, ⟨r, hTr⟩, ⟨p, hPt, hp⟩, ⟨w, hWy⟩, ⟨w2, hFt, hf⟩, ⟨w3, hSw, hs⟩, ⟨r2, hRt⟩⟩ := h
  unfold tsp at hts
  exact ⟨tb, sp, hts, (hF.1 _ (by omega)).trans h0, hRd.fr hF (by omega), hT.fr hF (by omega), ⟨T2, hT2.fr hF (by omega)⟩, hN.fr hF (by omega), ⟨r, hTr.fr hF (by omega)⟩, ⟨p, hPt.fr hF (by omega), hp⟩, ⟨w, hWy.fr hF (by omega)⟩, ⟨w', hw, hr⟩, ⟨w3, hSw.fr hF (by omega), hs⟩, ⟨r2, hRt.fr hF (by omega)⟩⟩
theorem XR.sw {w' : Sw} (h : XR M b σ) (hF : Fr (b + 64) 6 M M') (hw : aSw M' (b + 64) w') (hr : swR w') : XR M' b σ := by
  obtain ⟨tb, sp, hts, h0, hRd, hT, ⟨T2, hT2⟩, hN, ⟨r, hTr⟩, ⟨p, hPt, hp⟩, ⟨w, hWy⟩, ⟨w2, hFt, hf⟩, ⟨w3, hSw, hs⟩, ⟨r2, hRt⟩⟩ := h
  unfold tsp at hts
  exact ⟨tb, sp, hts, (hF.1 _ (by omega)).trans h0, hRd.fr hF (by omega), hT.fr hF (by omega), ⟨T2, hT2.fr hF (by omega)⟩, hN.fr hF (by omega), ⟨r, hTr.fr hF (by omega)⟩, ⟨p, hPt.fr hF (by omega), hp⟩, ⟨w, hWy.fr hF (by omega)⟩, ⟨w2, hFt.fr hF (by omega), hf⟩, ⟨w', hw, hr⟩, ⟨r2, hRt.fr hF (by omega)⟩⟩
theorem XR.rt {w' : Rt} (h : XR M b σ) (hF : Fr (b + 70) 3 M M') (hw : aRt M' (b + 70) w') : XR M' b σ := by
  obtain ⟨tb, sp, hts, h0, hRd, hT, ⟨T2, hT2⟩, hN, ⟨r, hTr⟩, ⟨p, hPt, hp⟩, ⟨w, hWy⟩, ⟨w2, hFt, hf⟩, ⟨w3, hSw, hs⟩, ⟨r2, hRt⟩⟩ := h
  unfold tsp at hts
  exact ⟨tb, sp, hts, (hF.1 _ (by omega)).trans h0, hRd.fr hF (by omega), hT.fr hF (by omega), ⟨T2, hT2.fr hF (by omega)⟩, hN.fr hF (by omega), ⟨r, hTr.fr hF (by omega)⟩, ⟨p, hPt.fr hF (by omega), hp⟩, ⟨w, hWy.fr hF (by omega)⟩, ⟨w2, hFt.fr hF (by omega), hf⟩, ⟨w3, hSw.fr hF (by omega), hs⟩, ⟨w', hw⟩⟩
theorem XR.trl {r' : Nat → Int32} (h : XR M b σ) (hF : Fr (b + 50) 2 M M') (hw : aNw M' (b + 50) r') : XR M' b σ := by
  obtain ⟨tb, sp, hts, h0, hRd, hT, ⟨T2, hT2⟩, hN, ⟨r, hTr⟩, ⟨p, hPt, hp⟩, ⟨w, hWy⟩, ⟨w2, hFt, hf⟩, ⟨w3, hSw, hs⟩, ⟨r2, hRt⟩⟩ := h
  unfold tsp at hts
  exact ⟨tb, sp, hts, (hF.1 _ (by omega)).trans h0, hRd.fr hF (by omega), hT.fr hF (by omega), ⟨T2, hT2.fr hF (by omega)⟩, hN.fr hF (by omega), ⟨r', hw⟩, ⟨p, hPt.fr hF (by omega), hp⟩, ⟨w, hWy.fr hF (by omega)⟩, ⟨w2, hFt.fr hF (by omega), hf⟩, ⟨w3, hSw.fr hF (by omega), hs⟩, ⟨r2, hRt.fr hF (by omega)⟩⟩
/-- the row of now, and the past -/
theorem XR.np {f' : Nat → Int32} {p' : Pt4} {ac' mk' : List (Nat → Int32)} (h : XR M b σ) (hF : Fr (b + 48) 7 M M') (hTr' : ∃ r, aNw M' (b + 50) r) (hn : aNw M' (b + 48) f') (hp' : aPt M' (b + 52) p') (hr : ptR p' ac' mk') : XR M' b (σ.tp, σ.ts, σ.T, f', ac', mk', σ.tr, σ.fn, σ.fp) := by
  obtain ⟨tb, sp, hts, h0, hRd, hT, ⟨T2, hT2⟩, hN, ⟨r, hTr⟩, ⟨p, hPt, hp⟩, ⟨w, hWy⟩, ⟨w2, hFt, hf⟩, ⟨w3, hSw, hs⟩, ⟨r2, hRt⟩⟩ := h
  unfold tsp at hts
  exact ⟨tb, sp, hts, (hF.1 _ (by omega)).trans h0, (show xRd M' b sp σ from hRd.fr hF (by omega)), hT.fr hF (by omega), ⟨T2, hT2.fr hF (by omega)⟩, hn, hTr', ⟨p', hp', hr⟩, ⟨w, hWy.fr hF (by omega)⟩, ⟨w2, hFt.fr hF (by omega), hf⟩, ⟨w3, hSw.fr hF (by omega), hs⟩, ⟨r2, hRt.fr hF (by omega)⟩⟩
end XRL
/-- a row of now, in a town, after at most C calls -/
def rowI (T : Tw) (C : Nat) (f : Nat → Int32) : Prop := (∀ h, h < 7 → f h = -2 ∨ (h < T.hs.n ∧ ∃ k, k < T.hs.n ∧ f h = nI k)) ∧ (∀ j k, j < 7 → k < 7 → f j = f k → f j = -2 ∨ j = k) ∧ (∃ s, s < 2 ^ T.hs.n ∧ f 7 = nI s) ∧ (∀ p, p < T.np → ∃ k, k < T.hs.n ∧ f (8 + p) = nI k) ∧ (∀ p, p < T.np → ∃ m, m ≤ 1000 * C ∧ f (12 + p) = nI m) ∧ (∀ h, h < 7 → (f h = -2 ↔ T.hs.to h = -2)) ∧ ∀ g, g < 7 → ((∃ h, h < 7 ∧ f h = nI g) ↔ ∃ h, h < 7 ∧ T.hs.to h = nI g)
def Inv (σ : Sg) (C : Nat) : Prop := (0 < σ.T.hs.n → tI σ.T ∧ 1 ≤ σ.T.dr ∧ 2 ≤ σ.T.hs.n ∧ (∃ s0, σ.T.ss.sh = mesF σ.T.ss.mi s0) ∧ rowI σ.T C σ.f ∧ (∀ r, r ∈ σ.ac → rowI σ.T C r) ∧ ∀ r, r ∈ σ.mk → rowI σ.T C r) ∧ (σ.T.hs.n = 0 → (σ.T.dr = 0 ∧ σ.T.lk = 0 ∧ σ.T.np = 0 ∧ σ.T.ss.n = 0 ∧ σ.T.cs.sg = 0 ∧ σ.T.cs.nz = 0) ∧ (∀ h, h < 7 → σ.f h = -2) ∧ σ.f 7 = 0 ∧ σ.ac = [] ∧ σ.mk = []) ∧ σ.ts ≤ 1100 ∧ C ≤ 600
theorem Inv.n7 {σ : Sg} {C : Nat} (h : Inv σ C) : σ.T.hs.n ≤ 7 := by
  by_cases q : 0 < σ.T.hs.n
  · exact (h.1 q).1.1.1.1
  · omega
theorem Inv.p4 {σ : Sg} {C : Nat} (h : Inv σ C) : σ.T.np ≤ 4 := by
  by_cases q : 0 < σ.T.hs.n
  · exact (h.1 q).1.1.1.2.1
  · have := (h.2.1 (by omega)).1.2.2.1; omega
theorem tI_wf {T : Tw} (h : tI T) (hd : 1 ≤ T.dr) : wfT T := by
  obtain ⟨⟨⟨r1, r2, r3, r4, r5, r6⟩, r7, r8⟩, hB, hC, hD, hE, hF, hG, hH, hJ, hK⟩ := h
  refine ⟨hd, r6, r7, r1, r2, fun i hi => ?_, fun k hk => ?_, r4, r5⟩
  · obtain ⟨k, k1, k2, _⟩ := hF (i / 7) (i % 7) (by omega) (by omega)
    exact ⟨k, k1, by rw [show i / 7 * 7 + i % 7 = i by omega] at k2; exact k2⟩
  · rcases hE k hk with q | ⟨_, q⟩
    · exact Or.inl q
    · exact Or.inr q
theorem rowI.ok {T : Tw} {C : Nat} {f : Nat → Int32} (h : rowI T C f) (hn : T.hs.n ≤ 7) : okR f := by
  intro k hk
  rcases h.1 k hk with q | ⟨_, j, q2, q3⟩
  · exact Or.inl q
  · exact Or.inr ⟨j, by omega, q3⟩
abbrev isH (σ : Sg) (x : Int32) : Prop := 0 ≤ x ∧ x < nI σ.T.hs.n
abbrev isP (σ : Sg) (x : Int32) : Prop := 0 ≤ x ∧ x < nI σ.T.np
abbrev isM (x : Int32) : Prop := 0 ≤ x ∧ x < 1440
abbrev isU (σ : Sg) (x y : Int32) : Prop := isH σ x ∧ isH σ y ∧ ¬ x = y
theorem nI_0k {x : Int32} {n : Nat} (hn : n < 2 ^ 31) (h : 0 ≤ x ∧ x < nI n) : ∃ k, k < n ∧ x = nI k := by
  have e := nI_cl h.1
  have hx : x.toNatClampNeg < 2 ^ 31 := by have := x.toInt_lt; show x.toInt.toNat < 2 ^ 31; omega
  refine ⟨x.toNatClampNeg, ?_, e.symm⟩
  have h2 := h.2
  rw [← e] at h2
  exact (nI_ltI hx hn).mp h2
theorem isH_k {σ : Sg} {x : Int32} (hn : σ.T.hs.n ≤ 7) (h : isH σ x) : ∃ k, k < σ.T.hs.n ∧ x = nI k := nI_0k (by omega) h
theorem isP_k {σ : Sg} {x : Int32} (hn : σ.T.np ≤ 4) (h : isP σ x) : ∃ k, k < σ.T.np ∧ x = nI k := nI_0k (by omega) h
theorem isM_k {x : Int32} (h : isM x) : ∃ k, k < 1440 ∧ x = nI k := nI_0k (n := 1440) (by omega) h
theorem isU_k {σ : Sg} {x y : Int32} (hn : σ.T.hs.n ≤ 7) (h : isU σ x y) : ∃ k j, k < σ.T.hs.n ∧ j < σ.T.hs.n ∧ ¬ k = j ∧ x = nI k ∧ y = nI j := by
  obtain ⟨k, hk, rfl⟩ := isH_k hn h.1
  obtain ⟨j, hj, rfl⟩ := isH_k hn h.2.1
  exact ⟨k, j, hk, hj, fun e => h.2.2 (by rw [e]), rfl, rfl⟩
/-- what a call leaves -/
def Po (b : Nat) (M : Mm) (S : Option Value → Sg → Prop) : Option Value → Mm → Prop := fun v M' => ∃ σ', S v σ' ∧ XR M' b σ' ∧ Fr b 73 M M'
def rf (σ : Sg) (t : Int32) : Option Value → Sg → Prop := fun v σ' => v = some (.int (-1)) ∧ σ' = σ.wt t
def an (σ : Sg) (x : Int32) : Option Value → Sg → Prop := fun v σ' => v = some (.int x) ∧ σ' = σ.wt 0
def dn (σ : Sg) (t : Int32) : Option Value → Sg → Prop := fun v σ' => v = some (.int 0) ∧ σ' = σ.wt t
def gr (σ : Sg) : Option Value → Sg → Prop := fun v σ' => v = some (.int 1) ∧ σ' = σ.wt 0
section XLF
variable {ad : Nat → Nat} {M : Mm} {b : Nat} {σ : Sg}
theorem x_ans {x : Int32} (hX : XR M b σ) : EvM ad 0 (iX11_answer ad) [.ref b, .int x] M (fun v' M' => v' = some (.int x) ∧ XR M' b (σ.wt 0) ∧ Fr b 1 M M') := by
  obtain ⟨tb, sp, hts, h0, hRd, hT, hT2, hN, hTr, hPt, hWy, hFt, hSw, hRt⟩ := id hX
  unfold xTop at h0
  have t0 := hT.1.1
  have s0 := hT.2.1.1
  have s1 := hT.2.2.1.1
  have s2 := hT.2.2.2.1
  have n0 := hN.1
  refine ⟨Nat.le_of_ble_eq_true rfl, ?_⟩
  show Ev ad _ (rX11_answer ad) (0, [some (.ref b), some (.int x)], [], M) _
  repeat (first | refine es rfl rfl rfl ?_ | refine eg rfl (by assumption) rfl ?_ | refine ean rfl (by assumption) (by assumption) rfl ?_ | refine eal rfl (by assumption) (by assumption) rfl ?_ | refine eri rfl ?_ | refine erv rfl ?_ | refine erl rfl ?_ | refine era rfl ?_ | refine erz0 rfl ?_ | refine erz1 rfl ?_)
  try dsimp only [set1, set2, kilP, List.set_cons_zero, List.set_cons_succ, List.getElem?_cons_zero, List.getElem?_cons_succ, List.nil_append, List.cons_append, Option.toList_some, Option.toList_none]
  refine epM rfl h0 rfl rfl rfl (fun M2 eM => ?_)
  have k0 := up_w eM
  repeat (first | refine es rfl rfl rfl ?_ | refine eg rfl (by assumption) rfl ?_ | refine ean rfl (by assumption) (by assumption) rfl ?_ | refine eal rfl (by assumption) (by assumption) rfl ?_ | refine eri rfl ?_ | refine erv rfl ?_ | refine erl rfl ?_ | refine era rfl ?_ | refine erz0 rfl ?_ | refine erz1 rfl ?_)
  try dsimp only [set1, set2, kilP, List.set_cons_zero, List.set_cons_succ, List.getElem?_cons_zero, List.getElem?_cons_succ, List.nil_append, List.cons_append, Option.toList_some, Option.toList_none]
  exact ⟨rfl, hX.wt eM h0, (Fr.rf b 1 M).up eM (by omega) (by omega)⟩
theorem x_ref {x : Int32} (hX : XR M b σ) : EvM ad 0 (iX11_refuse ad) [.ref b, .int x] M (fun v' M' => v' = some (.int (-1)) ∧ XR M' b (σ.wt x) ∧ Fr b 1 M M') := by
  obtain ⟨tb, sp, hts, h0, hRd, hT, hT2, hN, hTr, hPt, hWy, hFt, hSw, hRt⟩ := id hX
  unfold xTop at h0
  have t0 := hT.1.1
  have s0 := hT.2.1.1
  have s1 := hT.2.2.1.1
  have s2 := hT.2.2.2.1
  have n0 := hN.1
  refine ⟨Nat.le_of_ble_eq_true rfl, ?_⟩
  show Ev ad _ (rX11_refuse ad) (0, [some (.ref b), some (.int x)], [], M) _
  repeat (first | refine es rfl rfl rfl ?_ | refine eg rfl (by assumption) rfl ?_ | refine ean rfl (by assumption) (by assumption) rfl ?_ | refine eal rfl (by assumption) (by assumption) rfl ?_ | refine eri rfl ?_ | refine erv rfl ?_ | refine erl rfl ?_ | refine era rfl ?_ | refine erz0 rfl ?_ | refine erz1 rfl ?_)
  try dsimp only [set1, set2, kilP, List.set_cons_zero, List.set_cons_succ, List.getElem?_cons_zero, List.getElem?_cons_succ, List.nil_append, List.cons_append, Option.toList_some, Option.toList_none]
  refine epM rfl h0 rfl rfl rfl (fun M2 eM => ?_)
  have k0 := up_w eM
  repeat (first | refine es rfl rfl rfl ?_ | refine eg rfl (by assumption) rfl ?_ | refine ean rfl (by assumption) (by assumption) rfl ?_ | refine eal rfl (by assumption) (by assumption) rfl ?_ | refine eri rfl ?_ | refine erv rfl ?_ | refine erl rfl ?_ | refine era rfl ?_ | refine erz0 rfl ?_ | refine erz1 rfl ?_)
  try dsimp only [set1, set2, kilP, List.set_cons_zero, List.set_cons_succ, List.getElem?_cons_zero, List.getElem?_cons_succ, List.nil_append, List.cons_append, Option.toList_some, Option.toList_none]
  exact ⟨rfl, hX.wt eM h0, (Fr.rf b 1 M).up eM (by omega) (by omega)⟩
theorem x_deny {x : Int32} (hX : XR M b σ) : EvM ad 0 (iX11_deny ad) [.ref b, .int x] M (fun v' M' => v' = some (.int 0) ∧ XR M' b (σ.wt x) ∧ Fr b 1 M M') := by
  obtain ⟨tb, sp, hts, h0, hRd, hT, hT2, hN, hTr, hPt, hWy, hFt, hSw, hRt⟩ := id hX
  unfold xTop at h0
  have t0 := hT.1.1
  have s0 := hT.2.1.1
  have s1 := hT.2.2.1.1
  have s2 := hT.2.2.2.1
  have n0 := hN.1
  refine ⟨Nat.le_of_ble_eq_true rfl, ?_⟩
  show Ev ad _ (rX11_deny ad) (0, [some (.ref b), some (.int x)], [], M) _
  repeat (first | refine es rfl rfl rfl ?_ | refine eg rfl (by assumption) rfl ?_ | refine ean rfl (by assumption) (by assumption) rfl ?_ | refine eal rfl (by assumption) (by assumption) rfl ?_ | refine eri rfl ?_ | refine erv rfl ?_ | refine erl rfl ?_ | refine era rfl ?_ | refine erz0 rfl ?_ | refine erz1 rfl ?_)
  try dsimp only [set1, set2, kilP, List.set_cons_zero, List.set_cons_succ, List.getElem?_cons_zero, List.getElem?_cons_succ, List.nil_append, List.cons_append, Option.toList_some, Option.toList_none]
  refine epM rfl h0 rfl rfl rfl (fun M2 eM => ?_)
  have k0 := up_w eM
  repeat (first | refine es rfl rfl rfl ?_ | refine eg rfl (by assumption) rfl ?_ | refine ean rfl (by assumption) (by assumption) rfl ?_ | refine eal rfl (by assumption) (by assumption) rfl ?_ | refine eri rfl ?_ | refine erv rfl ?_ | refine erl rfl ?_ | refine era rfl ?_ | refine erz0 rfl ?_ | refine erz1 rfl ?_)
  try dsimp only [set1, set2, kilP, List.set_cons_zero, List.set_cons_succ, List.getElem?_cons_zero, List.getElem?_cons_succ, List.nil_append, List.cons_append, Option.toList_some, Option.toList_none]
  exact ⟨rfl, hX.wt eM h0, (Fr.rf b 1 M).up eM (by omega) (by omega)⟩
theorem x_grant (hX : XR M b σ) : EvM ad 0 (iX11_grant ad) [.ref b] M (fun v' M' => v' = some (.int 1) ∧ XR M' b (σ.wt 0) ∧ Fr b 1 M M') := by
  obtain ⟨tb, sp, hts, h0, hRd, hT, hT2, hN, hTr, hPt, hWy, hFt, hSw, hRt⟩ := id hX
  unfold xTop at h0
  have t0 := hT.1.1
  have s0 := hT.2.1.1
  have s1 := hT.2.2.1.1
  have s2 := hT.2.2.2.1
  have n0 := hN.1
  refine ⟨Nat.le_of_ble_eq_true rfl, ?_⟩
  show Ev ad _ (rX11_grant ad) (0, [some (.ref b)], [], M) _
  repeat (first | refine es rfl rfl rfl ?_ | refine eg rfl (by assumption) rfl ?_ | refine ean rfl (by assumption) (by assumption) rfl ?_ | refine eal rfl (by assumption) (by assumption) rfl ?_ | refine eri rfl ?_ | refine erv rfl ?_ | refine erl rfl ?_ | refine era rfl ?_ | refine erz0 rfl ?_ | refine erz1 rfl ?_)
  try dsimp only [set1, set2, kilP, List.set_cons_zero, List.set_cons_succ, List.getElem?_cons_zero, List.getElem?_cons_succ, List.nil_append, List.cons_append, Option.toList_some, Option.toList_none]
  refine epM rfl h0 rfl rfl rfl (fun M2 eM => ?_)
  have k0 := up_w eM
  repeat (first | refine es rfl rfl rfl ?_ | refine eg rfl (by assumption) rfl ?_ | refine ean rfl (by assumption) (by assumption) rfl ?_ | refine eal rfl (by assumption) (by assumption) rfl ?_ | refine eri rfl ?_ | refine erv rfl ?_ | refine erl rfl ?_ | refine era rfl ?_ | refine erz0 rfl ?_ | refine erz1 rfl ?_)
  try dsimp only [set1, set2, kilP, List.set_cons_zero, List.set_cons_succ, List.getElem?_cons_zero, List.getElem?_cons_succ, List.nil_append, List.cons_append, Option.toList_some, Option.toList_none]
  exact ⟨rfl, hX.wt eM h0, (Fr.rf b 1 M).up eM (by omega) (by omega)⟩
theorem x_isH {x : Int32} (hX : XR M b σ) : Rd ad 0 (iX11_isHouse ad) [.ref b, .int x] M (some (.int (bI (isH σ x)))) := by
  obtain ⟨tb, sp, hts, h0, hRd, hT, hT2, hN, hTr, hPt, hWy, hFt, hSw, hRt⟩ := id hX
  unfold xTop at h0
  have t0 := hT.1.1
  have s0 := hT.2.1.1
  have s1 := hT.2.2.1.1
  have s2 := hT.2.2.2.1
  have n0 := hN.1
  refine ⟨Nat.le_of_ble_eq_true rfl, ?_⟩
  show Ev ad _ (rX11_isHouse ad) (0, [some (.ref b), some (.int x)], [], M) _
  repeat (first | refine es rfl rfl rfl ?_ | refine eg rfl (by assumption) rfl ?_ | refine ean rfl (by assumption) (by assumption) rfl ?_ | refine eal rfl (by assumption) (by assumption) rfl ?_ | refine eri rfl ?_ | refine erv rfl ?_ | refine erl rfl ?_ | refine era rfl ?_ | refine erz0 rfl ?_ | refine erz1 rfl ?_)
  try dsimp only [set1, set2, kilP, List.set_cons_zero, List.set_cons_succ, List.getElem?_cons_zero, List.getElem?_cons_succ, List.nil_append, List.cons_append, Option.toList_some, Option.toList_none]
  refine ei _ rfl rfl (fun c => ?_) (fun c => ?_)
  · repeat (first | refine es rfl rfl rfl ?_ | refine eg rfl (by assumption) rfl ?_ | refine ean rfl (by assumption) (by assumption) rfl ?_ | refine eal rfl (by assumption) (by assumption) rfl ?_ | refine eri rfl ?_ | refine erv rfl ?_ | refine erl rfl ?_ | refine era rfl ?_ | refine erz0 rfl ?_ | refine erz1 rfl ?_)
    try dsimp only [set1, set2, kilP, List.set_cons_zero, List.set_cons_succ, List.getElem?_cons_zero, List.getElem?_cons_succ, List.nil_append, List.cons_append, Option.toList_some, Option.toList_none]
    rw [show bI (isH σ x) = 0 from if_neg (fun q => Int32.not_le.mpr c q.1)]
    exact ⟨rfl, rfl⟩
  · repeat (first | refine es rfl rfl rfl ?_ | refine eg rfl (by assumption) rfl ?_ | refine ean rfl (by assumption) (by assumption) rfl ?_ | refine eal rfl (by assumption) (by assumption) rfl ?_ | refine eri rfl ?_ | refine erv rfl ?_ | refine erl rfl ?_ | refine era rfl ?_ | refine erz0 rfl ?_ | refine erz1 rfl ?_)
    try dsimp only [set1, set2, kilP, List.set_cons_zero, List.set_cons_succ, List.getElem?_cons_zero, List.getElem?_cons_succ, List.nil_append, List.cons_append, Option.toList_some, Option.toList_none]
    refine ei _ rfl rfl (fun c2 => ?_) (fun c2 => ?_)
    · repeat (first | refine es rfl rfl rfl ?_ | refine eg rfl (by assumption) rfl ?_ | refine ean rfl (by assumption) (by assumption) rfl ?_ | refine eal rfl (by assumption) (by assumption) rfl ?_ | refine eri rfl ?_ | refine erv rfl ?_ | refine erl rfl ?_ | refine era rfl ?_ | refine erz0 rfl ?_ | refine erz1 rfl ?_)
      try dsimp only [set1, set2, kilP, List.set_cons_zero, List.set_cons_succ, List.getElem?_cons_zero, List.getElem?_cons_succ, List.nil_append, List.cons_append, Option.toList_some, Option.toList_none]
      rw [show bI (isH σ x) = 0 from if_neg (fun q => Int32.not_le.mpr q.2 c2)]
      exact ⟨rfl, rfl⟩
    · repeat (first | refine es rfl rfl rfl ?_ | refine eg rfl (by assumption) rfl ?_ | refine ean rfl (by assumption) (by assumption) rfl ?_ | refine eal rfl (by assumption) (by assumption) rfl ?_ | refine eri rfl ?_ | refine erv rfl ?_ | refine erl rfl ?_ | refine era rfl ?_ | refine erz0 rfl ?_ | refine erz1 rfl ?_)
      try dsimp only [set1, set2, kilP, List.set_cons_zero, List.set_cons_succ, List.getElem?_cons_zero, List.getElem?_cons_succ, List.nil_append, List.cons_append, Option.toList_some, Option.toList_none]
      rw [show bI (isH σ x) = 1 from if_pos ⟨Int32.not_lt.mp c, Int32.not_le.mp c2⟩]
      exact ⟨rfl, rfl⟩
theorem x_isP {x : Int32} (hX : XR M b σ) : Rd ad 0 (iX11_isPerson ad) [.ref b, .int x] M (some (.int (bI (isP σ x)))) := by
  obtain ⟨tb, sp, hts, h0, hRd, hT, hT2, hN, hTr, hPt, hWy, hFt, hSw, hRt⟩ := id hX
  unfold xTop at h0
  have t0 := hT.1.1
  have s0 := hT.2.1.1
  have s1 := hT.2.2.1.1
  have s2 := hT.2.2.2.1
  have n0 := hN.1
  refine ⟨Nat.le_of_ble_eq_true rfl, ?_⟩
  show Ev ad _ (rX11_isPerson ad) (0, [some (.ref b), some (.int x)], [], M) _
  repeat (first | refine es rfl rfl rfl ?_ | refine eg rfl (by assumption) rfl ?_ | refine ean rfl (by assumption) (by assumption) rfl ?_ | refine eal rfl (by assumption) (by assumption) rfl ?_ | refine eri rfl ?_ | refine erv rfl ?_ | refine erl rfl ?_ | refine era rfl ?_ | refine erz0 rfl ?_ | refine erz1 rfl ?_)
  try dsimp only [set1, set2, kilP, List.set_cons_zero, List.set_cons_succ, List.getElem?_cons_zero, List.getElem?_cons_succ, List.nil_append, List.cons_append, Option.toList_some, Option.toList_none]
  refine ei _ rfl rfl (fun c => ?_) (fun c => ?_)
  · repeat (first | refine es rfl rfl rfl ?_ | refine eg rfl (by assumption) rfl ?_ | refine ean rfl (by assumption) (by assumption) rfl ?_ | refine eal rfl (by assumption) (by assumption) rfl ?_ | refine eri rfl ?_ | refine erv rfl ?_ | refine erl rfl ?_ | refine era rfl ?_ | refine erz0 rfl ?_ | refine erz1 rfl ?_)
    try dsimp only [set1, set2, kilP, List.set_cons_zero, List.set_cons_succ, List.getElem?_cons_zero, List.getElem?_cons_succ, List.nil_append, List.cons_append, Option.toList_some, Option.toList_none]
    rw [show bI (isP σ x) = 0 from if_neg (fun q => Int32.not_le.mpr c q.1)]
    exact ⟨rfl, rfl⟩
  · repeat (first | refine es rfl rfl rfl ?_ | refine eg rfl (by assumption) rfl ?_ | refine ean rfl (by assumption) (by assumption) rfl ?_ | refine eal rfl (by assumption) (by assumption) rfl ?_ | refine eri rfl ?_ | refine erv rfl ?_ | refine erl rfl ?_ | refine era rfl ?_ | refine erz0 rfl ?_ | refine erz1 rfl ?_)
    try dsimp only [set1, set2, kilP, List.set_cons_zero, List.set_cons_succ, List.getElem?_cons_zero, List.getElem?_cons_succ, List.nil_append, List.cons_append, Option.toList_some, Option.toList_none]
    refine ei _ rfl rfl (fun c2 => ?_) (fun c2 => ?_)
    · repeat (first | refine es rfl rfl rfl ?_ | refine eg rfl (by assumption) rfl ?_ | refine ean rfl (by assumption) (by assumption) rfl ?_ | refine eal rfl (by assumption) (by assumption) rfl ?_ | refine eri rfl ?_ | refine erv rfl ?_ | refine erl rfl ?_ | refine era rfl ?_ | refine erz0 rfl ?_ | refine erz1 rfl ?_)
      try dsimp only [set1, set2, kilP, List.set_cons_zero, List.set_cons_succ, List.getElem?_cons_zero, List.getElem?_cons_succ, List.nil_append, List.cons_append, Option.toList_some, Option.toList_none]
      rw [show bI (isP σ x) = 0 from if_neg (fun q => Int32.not_le.mpr q.2 c2)]
      exact ⟨rfl, rfl⟩
    · repeat (first | refine es rfl rfl rfl ?_ | refine eg rfl (by assumption) rfl ?_ | refine ean rfl (by assumption) (by assumption) rfl ?_ | refine eal rfl (by assumption) (by assumption) rfl ?_ | refine eri rfl ?_ | refine erv rfl ?_ | refine erl rfl ?_ | refine era rfl ?_ | refine erz0 rfl ?_ | refine erz1 rfl ?_)
      try dsimp only [set1, set2, kilP, List.set_cons_zero, List.set_cons_succ, List.getElem?_cons_zero, List.getElem?_cons_succ, List.nil_append, List.cons_append, Option.toList_some, Option.toList_none]
      rw [show bI (isP σ x) = 1 from if_pos ⟨Int32.not_lt.mp c, Int32.not_le.mp c2⟩]
      exact ⟨rfl, rfl⟩
theorem x_isM {x : Int32} : Rd ad 0 (iX11_isMinute ad) [.int x] M (some (.int (bI (isM x)))) := by
  refine ⟨Nat.le_of_ble_eq_true rfl, ?_⟩
  show Ev ad _ (rX11_isMinute ad) (0, [some (.int x)], [], M) _
  repeat (first | refine es rfl rfl rfl ?_ | refine eg rfl (by assumption) rfl ?_ | refine ean rfl (by assumption) (by assumption) rfl ?_ | refine eal rfl (by assumption) (by assumption) rfl ?_ | refine eri rfl ?_ | refine erv rfl ?_ | refine erl rfl ?_ | refine era rfl ?_ | refine erz0 rfl ?_ | refine erz1 rfl ?_)
  try dsimp only [set1, set2, kilP, List.set_cons_zero, List.set_cons_succ, List.getElem?_cons_zero, List.getElem?_cons_succ, List.nil_append, List.cons_append, Option.toList_some, Option.toList_none]
  refine ei _ rfl rfl (fun c => ?_) (fun c => ?_)
  · repeat (first | refine es rfl rfl rfl ?_ | refine eg rfl (by assumption) rfl ?_ | refine ean rfl (by assumption) (by assumption) rfl ?_ | refine eal rfl (by assumption) (by assumption) rfl ?_ | refine eri rfl ?_ | refine erv rfl ?_ | refine erl rfl ?_ | refine era rfl ?_ | refine erz0 rfl ?_ | refine erz1 rfl ?_)
    try dsimp only [set1, set2, kilP, List.set_cons_zero, List.set_cons_succ, List.getElem?_cons_zero, List.getElem?_cons_succ, List.nil_append, List.cons_append, Option.toList_some, Option.toList_none]
    rw [show bI (isM x) = 0 from if_neg (fun q => Int32.not_le.mpr c q.1)]
    exact ⟨rfl, rfl⟩
  · repeat (first | refine es rfl rfl rfl ?_ | refine eg rfl (by assumption) rfl ?_ | refine ean rfl (by assumption) (by assumption) rfl ?_ | refine eal rfl (by assumption) (by assumption) rfl ?_ | refine eri rfl ?_ | refine erv rfl ?_ | refine erl rfl ?_ | refine era rfl ?_ | refine erz0 rfl ?_ | refine erz1 rfl ?_)
    try dsimp only [set1, set2, kilP, List.set_cons_zero, List.set_cons_succ, List.getElem?_cons_zero, List.getElem?_cons_succ, List.nil_append, List.cons_append, Option.toList_some, Option.toList_none]
    refine ei _ rfl rfl (fun c2 => ?_) (fun c2 => ?_)
    · repeat (first | refine es rfl rfl rfl ?_ | refine eg rfl (by assumption) rfl ?_ | refine ean rfl (by assumption) (by assumption) rfl ?_ | refine eal rfl (by assumption) (by assumption) rfl ?_ | refine eri rfl ?_ | refine erv rfl ?_ | refine erl rfl ?_ | refine era rfl ?_ | refine erz0 rfl ?_ | refine erz1 rfl ?_)
      try dsimp only [set1, set2, kilP, List.set_cons_zero, List.set_cons_succ, List.getElem?_cons_zero, List.getElem?_cons_succ, List.nil_append, List.cons_append, Option.toList_some, Option.toList_none]
      rw [show bI (isM x) = 0 from if_neg (fun q => Int32.not_le.mpr q.2 c2)]
      exact ⟨rfl, rfl⟩
    · repeat (first | refine es rfl rfl rfl ?_ | refine eg rfl (by assumption) rfl ?_ | refine ean rfl (by assumption) (by assumption) rfl ?_ | refine eal rfl (by assumption) (by assumption) rfl ?_ | refine eri rfl ?_ | refine erv rfl ?_ | refine erl rfl ?_ | refine era rfl ?_ | refine erz0 rfl ?_ | refine erz1 rfl ?_)
      try dsimp only [set1, set2, kilP, List.set_cons_zero, List.set_cons_succ, List.getElem?_cons_zero, List.getElem?_cons_succ, List.nil_append, List.cons_append, Option.toList_some, Option.toList_none]
      rw [show bI (isM x) = 1 from if_pos ⟨Int32.not_lt.mp c, Int32.not_le.mp c2⟩]
      exact ⟨rfl, rfl⟩
theorem x_noT (hX : XR M b σ) (hn7 : σ.T.hs.n ≤ 7) : Rd ad 0 (iX11_noTown ad) [.ref b] M (some (.int (bI (σ.T.hs.n = 0)))) := by
  obtain ⟨tb, sp, hts, h0, hRd, hT, hT2, hN, hTr, hPt, hWy, hFt, hSw, hRt⟩ := id hX
  unfold xTop at h0
  have t0 := hT.1.1
  have s0 := hT.2.1.1
  have s1 := hT.2.2.1.1
  have s2 := hT.2.2.2.1
  have n0 := hN.1
  refine ⟨Nat.le_of_ble_eq_true rfl, ?_⟩
  show Ev ad _ (rX11_noTown ad) (0, [some (.ref b)], [], M) _
  repeat (first | refine es rfl rfl rfl ?_ | refine eg rfl (by assumption) rfl ?_ | refine ean rfl (by assumption) (by assumption) rfl ?_ | refine eal rfl (by assumption) (by assumption) rfl ?_ | refine eri rfl ?_ | refine erv rfl ?_ | refine erl rfl ?_ | refine era rfl ?_ | refine erz0 rfl ?_ | refine erz1 rfl ?_)
  try dsimp only [set1, set2, kilP, List.set_cons_zero, List.set_cons_succ, List.getElem?_cons_zero, List.getElem?_cons_succ, List.nil_append, List.cons_append, Option.toList_some, Option.toList_none]
  refine ei _ rfl rfl (fun c => ?_) (fun c => ?_)
  · repeat (first | refine es rfl rfl rfl ?_ | refine eg rfl (by assumption) rfl ?_ | refine ean rfl (by assumption) (by assumption) rfl ?_ | refine eal rfl (by assumption) (by assumption) rfl ?_ | refine eri rfl ?_ | refine erv rfl ?_ | refine erl rfl ?_ | refine era rfl ?_ | refine erz0 rfl ?_ | refine erz1 rfl ?_)
    try dsimp only [set1, set2, kilP, List.set_cons_zero, List.set_cons_succ, List.getElem?_cons_zero, List.getElem?_cons_succ, List.nil_append, List.cons_append, Option.toList_some, Option.toList_none]
    rw [show bI (σ.T.hs.n = 0) = 0 from if_neg (fun q => c (show nI σ.T.hs.n = 0 from by rw [q]; rfl))]
    exact ⟨rfl, rfl⟩
  · repeat (first | refine es rfl rfl rfl ?_ | refine eg rfl (by assumption) rfl ?_ | refine ean rfl (by assumption) (by assumption) rfl ?_ | refine eal rfl (by assumption) (by assumption) rfl ?_ | refine eri rfl ?_ | refine erv rfl ?_ | refine erl rfl ?_ | refine era rfl ?_ | refine erz0 rfl ?_ | refine erz1 rfl ?_)
    try dsimp only [set1, set2, kilP, List.set_cons_zero, List.set_cons_succ, List.getElem?_cons_zero, List.getElem?_cons_succ, List.nil_append, List.cons_append, Option.toList_some, Option.toList_none]
    rw [show bI (σ.T.hs.n = 0) = 1 from if_pos (Decidable.byContradiction fun q => c (nI_ne0 (n := σ.T.hs.n) (by omega) (by omega)))]
    exact ⟨rfl, rfl⟩
theorem x_unl {x y : Int32} (hX : XR M b σ) : Rd ad 1 (iX11_areUnlikeHouses ad) [.ref b, .int x, .int y] M (some (.int (bI (isU σ x y)))) := by
  obtain ⟨tb, sp, hts, h0, hRd, hT, hT2, hN, hTr, hPt, hWy, hFt, hSw, hRt⟩ := id hX
  unfold xTop at h0
  have t0 := hT.1.1
  have s0 := hT.2.1.1
  have s1 := hT.2.2.1.1
  have s2 := hT.2.2.2.1
  have n0 := hN.1
  refine ⟨Nat.le_of_ble_eq_true rfl, ?_⟩
  show Ev ad _ (rX11_areUnlikeHouses ad) (0, [some (.ref b), some (.int x), some (.int y)], [], M) _
  repeat (first | refine es rfl rfl rfl ?_ | refine eg rfl (by assumption) rfl ?_ | refine ean rfl (by assumption) (by assumption) rfl ?_ | refine eal rfl (by assumption) (by assumption) rfl ?_ | refine eri rfl ?_ | refine erv rfl ?_ | refine erl rfl ?_ | refine era rfl ?_ | refine erz0 rfl ?_ | refine erz1 rfl ?_)
  try dsimp only [set1, set2, kilP, List.set_cons_zero, List.set_cons_succ, List.getElem?_cons_zero, List.getElem?_cons_succ, List.nil_append, List.cons_append, Option.toList_some, Option.toList_none]
  refine ecr rfl rfl (by assumption) rfl rfl rfl (x_isH hX) (by first | rfl | exact Nat.blt_eq.mpr (by omega)) rfl ?_
  by_cases c : isH σ x
  rotate_left
  · rw [show bI (isH σ x) = 0 from if_neg c, show bI (isU σ x y) = 0 from if_neg (fun q => c q.1)]
    repeat (first | refine es rfl rfl rfl ?_ | refine eg rfl (by assumption) rfl ?_ | refine ean rfl (by assumption) (by assumption) rfl ?_ | refine eal rfl (by assumption) (by assumption) rfl ?_ | refine eri rfl ?_ | refine erv rfl ?_ | refine erl rfl ?_ | refine era rfl ?_ | refine erz0 rfl ?_ | refine erz1 rfl ?_)
    try dsimp only [set1, set2, kilP, List.set_cons_zero, List.set_cons_succ, List.getElem?_cons_zero, List.getElem?_cons_succ, List.nil_append, List.cons_append, Option.toList_some, Option.toList_none]
    exact ⟨rfl, rfl⟩
  rw [show bI (isH σ x) = 1 from if_pos c]
  repeat (first | refine es rfl rfl rfl ?_ | refine eg rfl (by assumption) rfl ?_ | refine ean rfl (by assumption) (by assumption) rfl ?_ | refine eal rfl (by assumption) (by assumption) rfl ?_ | refine eri rfl ?_ | refine erv rfl ?_ | refine erl rfl ?_ | refine era rfl ?_ | refine erz0 rfl ?_ | refine erz1 rfl ?_)
  try dsimp only [set1, set2, kilP, List.set_cons_zero, List.set_cons_succ, List.getElem?_cons_zero, List.getElem?_cons_succ, List.nil_append, List.cons_append, Option.toList_some, Option.toList_none]
  refine ecr rfl rfl (by assumption) rfl rfl rfl (x_isH hX) (by first | rfl | exact Nat.blt_eq.mpr (by omega)) rfl ?_
  by_cases c1 : isH σ y
  rotate_left
  · rw [show bI (isH σ y) = 0 from if_neg c1, show bI (isU σ x y) = 0 from if_neg (fun q => c1 q.2.1)]
    repeat (first | refine es rfl rfl rfl ?_ | refine eg rfl (by assumption) rfl ?_ | refine ean rfl (by assumption) (by assumption) rfl ?_ | refine eal rfl (by assumption) (by assumption) rfl ?_ | refine eri rfl ?_ | refine erv rfl ?_ | refine erl rfl ?_ | refine era rfl ?_ | refine erz0 rfl ?_ | refine erz1 rfl ?_)
    try dsimp only [set1, set2, kilP, List.set_cons_zero, List.set_cons_succ, List.getElem?_cons_zero, List.getElem?_cons_succ, List.nil_append, List.cons_append, Option.toList_some, Option.toList_none]
    exact ⟨rfl, rfl⟩
  rw [show bI (isH σ y) = 1 from if_pos c1]
  repeat (first | refine es rfl rfl rfl ?_ | refine eg rfl (by assumption) rfl ?_ | refine ean rfl (by assumption) (by assumption) rfl ?_ | refine eal rfl (by assumption) (by assumption) rfl ?_ | refine eri rfl ?_ | refine erv rfl ?_ | refine erl rfl ?_ | refine era rfl ?_ | refine erz0 rfl ?_ | refine erz1 rfl ?_)
  try dsimp only [set1, set2, kilP, List.set_cons_zero, List.set_cons_succ, List.getElem?_cons_zero, List.getElem?_cons_succ, List.nil_append, List.cons_append, Option.toList_some, Option.toList_none]
  refine ei _ rfl rfl (fun c2 => ?_) (fun c2 => ?_)
  · repeat (first | refine es rfl rfl rfl ?_ | refine eg rfl (by assumption) rfl ?_ | refine ean rfl (by assumption) (by assumption) rfl ?_ | refine eal rfl (by assumption) (by assumption) rfl ?_ | refine eri rfl ?_ | refine erv rfl ?_ | refine erl rfl ?_ | refine era rfl ?_ | refine erz0 rfl ?_ | refine erz1 rfl ?_)
    try dsimp only [set1, set2, kilP, List.set_cons_zero, List.set_cons_succ, List.getElem?_cons_zero, List.getElem?_cons_succ, List.nil_append, List.cons_append, Option.toList_some, Option.toList_none]
    rw [show bI (isU σ x y) = 0 from if_neg (fun q => q.2.2 c2)]
    exact ⟨rfl, rfl⟩
  · repeat (first | refine es rfl rfl rfl ?_ | refine eg rfl (by assumption) rfl ?_ | refine ean rfl (by assumption) (by assumption) rfl ?_ | refine eal rfl (by assumption) (by assumption) rfl ?_ | refine eri rfl ?_ | refine erv rfl ?_ | refine erl rfl ?_ | refine era rfl ?_ | refine erz0 rfl ?_ | refine erz1 rfl ?_)
    try dsimp only [set1, set2, kilP, List.set_cons_zero, List.set_cons_succ, List.getElem?_cons_zero, List.getElem?_cons_succ, List.nil_append, List.cons_append, Option.toList_some, Option.toList_none]
    rw [show bI (isU σ x y) = 1 from if_pos ⟨c, c1, c2⟩]
    exact ⟨rfl, rfl⟩
end XLF
