/-! Methods of classes that also have natives: by their own names -/
theorem Met_ofF {l : Launch} {y : MethodName} {ws ws' : List Cond} {rm : Room} {Pc : Array Value → State → Prop} {Qc : Array Value → State → Outcome → State → Prop} {mc ms : Nat} {free : Addr → Prop} {cc : ByteArray} {maxL : Nat} {ret : Option FieldType}
    (hy : plainFor y = true) (hw : ws = Cond.code y cc maxL ret :: ws')
    (body : ∀ p e s m args below meth c s₁, BodyLoose p l y (headSpec ws rm) cc maxL ret e s m args below meth c s₁ → c.maxLocals = maxL → Pc args s →
      W p l e (headSpec ws rm).room s m args below meth c s.heap [] 0 0 (MQ below Qc args s mc ms free) (entryFrame m args maxL)) : Met l y ws rm Pc Qc mc ms free := by
  refine MetFree.of_bodySF (code := cc) (maxLocals := maxL) (ret := ret) hy ?_ ?_
  · intro args s m h hn
    obtain ⟨meth, c, h1, h2, h3, h4, h5, h6, -, -⟩ := Cond.code_spec hn (atoms_spec (ws := ws) h _ (by rw [hw]; exact List.mem_cons_self))
    exact ⟨meth, c, h1, h2, h3, h4, h5, h6⟩
  · intro p e s m args below meth c s₁ B hml hP _
    have hh0 : s₁.heap = s.heap := by rw [B.state]; rfl
    obtain ⟨t, a1, o, b1, b2, b3⟩ := body p e s m args below meth c s₁ B hml hP s₁ hh0 (Stand.of_body B)
    exact ⟨t, o, a1, b1, b2, ⟨b3.1, b3.2⟩⟩
def pmOkF (ad : Nat → Nat) (mt : List Mi) (i : Mi) : Prop := plainFor i.y = true ∧ i.own = i.y.cls ∧ i.nL ≤ 40 ∧ ∀ q ∈ i.rows, pmG mt i.cc i.nL i.own i.y.name ad i.ret q
set_option maxHeartbeats 1000000 in
theorem pm_metF {ad : Nat → Nat} {mt : List Mi} {n : Nat} (ih : pmIH ad mt n) {l : Launch} {g : Gm} {A : Nat → Prop} {d : Nat} {i : Mi} {as : List Value} {M : Mm} {v : Option Value} {M' : Mm} (hi : pmOkF ad mt i) (hg : g.2.2.1 = ad) (hlen : (pmIn as).length ≤ i.nL) (hle : pmLe M M') (hrun : pmRun mt n d i.rows (pmEn i.nL as M) = some (v, M')) : pmM l g A d i as M v M' := by
  obtain ⟨hpl, hown, -, hrows⟩ := hi
  refine Met_ofF (cc := i.cc) (maxL := i.nL) (ret := i.ret) hpl rfl ?_
  intro p e s m args below meth c s₁ B hml hv
  obtain ⟨rfl, hR, hK, hX, hA⟩ := hv
  have hts := atoms_spec (ws := i.ws) B.pre
  have hfc : s.vm.findClass i.own = some m.cls := by rw [hown]; exact findClass_of_methodNamed B.named
  have hr := B.returns
  have hlocks := B.notSynchronized
  rw [lg_entry_eq]
  have hl := pmL_entry hlen
  generalize (lg_sl as ++ List.replicate (i.nL - (lg_sl as).length) Slot.unset).toArray = ls at hl ⊢
  let X : Cxt := ((p, l, e, (headSpec i.ws (pmRm d M M')).room, s), (m, as.toArray, below, meth, c), MQ below (fun _ st o t => o = .returned v ∧ pmR g A st.heap M' t.heap []) as.toArray s (M'.2.2.1 - M.2.2.1) (M'.2.2.2 - M.2.2.2) A, A, g, M.2.2.1, M.2.2.2)
  have hC : pmC X i.cc i.nL i.own i.y.name ad := ⟨B.exec, B.bytes, hml, hfc, fun w hw => hts w (List.mem_cons_of_mem _ hw), hK, hX, hA, by show 5 ≤ d + 5; omega, by show 300 ≤ 60 * (d + 5); omega, (name_of_methodNamed B.named B.method).1, hg⟩
  refine ih d i.rows _ v M' X i.cc i.nL i.own i.y.name i.ret hrun hC (fun q hq => ⟨(hrows q hq).1, (hrows q hq).2 X hC⟩) (Nat.le_refl _) (Nat.le_refl _) ?_ ?_ ?_ ls s.heap [] 0 0 hl hR rfl rfl
  · show M'.2.2.1 ≤ M.2.2.1 + (M'.2.2.1 - M.2.2.1)
    have := hle.2.1; omega
  · show M'.2.2.2 ≤ M.2.2.2 + (M'.2.2.2 - M.2.2.2)
    have := hle.2.2; omega
  · intro pc ls' H locs k n' hret hR' hk hn
    have ek : k = M'.2.2.1 - M.2.2.1 := by
      have : M.2.2.1 + k = M'.2.2.1 := hk
      omega
    have en : n' = M'.2.2.2 - M.2.2.2 := by
      have : M.2.2.2 + n' = M'.2.2.2 := hn
      omega
    subst ek; subst en
    have hfree : ∀ q ∈ locs, A q.base := hR'.2.2.2.2
    have hend : ∀ t : State, t.heap = H → s.WarmedH t.vm → pmR g A s.heap M' t.heap [] := fun t ht _ => by
      rw [ht]
      exact ⟨hR'.1, hR'.2.1, hR'.2.2.1, hR'.2.2.2.1, fun q hq => by cases hq⟩
    rcases hret with ⟨rfl, h2, h3⟩ | ⟨x, ty, rfl, h2, h3, h4⟩ | ⟨x, rfl, h2, h3⟩ | ⟨a, rt, rfl, h2, h3, h4⟩
    · show W p l e (headSpec i.ws (pmRm d M M')).room s m as.toArray below meth c H locs (M'.2.2.1 - M.2.2.1) (M'.2.2.2 - M.2.2.2) (MQ below (fun _ st o t => o = .returned (none) ∧ pmR g A st.heap M' t.heap []) as.toArray s (M'.2.2.1 - M.2.2.1) (M'.2.2.2 - M.2.2.2) A) (F0 m pc ls' [])
      exact W.vret B.exec B.bytes (hr.trans h2) (fun t ht hW => ⟨rfl, hend t ht hW⟩) hfree h3 hlocks
    · show W p l e (headSpec i.ws (pmRm d M M')).room s m as.toArray below meth c H locs (M'.2.2.1 - M.2.2.1) (M'.2.2.2 - M.2.2.2) (MQ below (fun _ st o t => o = .returned (some (.int x)) ∧ pmR g A st.heap M' t.heap []) as.toArray s (M'.2.2.1 - M.2.2.1) (M'.2.2.2 - M.2.2.2) A) (F0 m pc ls' [.int x])
      exact W.zret B.exec B.bytes (hr.trans h2) h3 (fun t ht hW => ⟨rfl, hend t ht hW⟩) hfree h4 hlocks
    · show W p l e (headSpec i.ws (pmRm d M M')).room s m as.toArray below meth c H locs (M'.2.2.1 - M.2.2.1) (M'.2.2.2 - M.2.2.2) (MQ below (fun _ st o t => o = .returned (some (.long x)) ∧ pmR g A st.heap M' t.heap []) as.toArray s (M'.2.2.1 - M.2.2.1) (M'.2.2.2 - M.2.2.2) A) (F0 m pc ls' [.long x])
      exact W.lret B.exec B.bytes (hr.trans h2) (fun t ht hW => ⟨rfl, hend t ht hW⟩) hfree h3 hlocks
    · show W p l e (headSpec i.ws (pmRm d M M')).room s m as.toArray below meth c H locs (M'.2.2.1 - M.2.2.1) (M'.2.2.2 - M.2.2.2) (MQ below (fun _ st o t => o = .returned (some (.ref a)) ∧ pmR g A st.heap M' t.heap []) as.toArray s (M'.2.2.1 - M.2.2.1) (M'.2.2.2 - M.2.2.2) A) (F0 m pc ls' [.ref a])
      exact W.aret B.exec B.bytes (hr.trans h2) h3 (Or.inr ⟨a, rfl⟩) (fun t ht hW => ⟨rfl, hend t ht hW⟩) hfree h4 hlocks
set_option maxHeartbeats 1000000 in
theorem pm_soundF {ad : Nat → Nat} {mt : List Mi} (hall : ∀ i ∈ mt, pmOkF ad mt i) : ∀ n, pmIH ad mt n := by
  have hmono : ∀ i ∈ mt, ∀ q ∈ i.rows, pmN q := fun i hi q hq => ((hall i hi).2.2.2 q hq).1
  intro n
  induction n with
  | zero => intro d rows fr v M' X cc nL own nm ret h; simp [pmRun] at h
  | succ n ih =>
    intro d rows fr v M' X cc nL own nm ret h hC hrows hfr hlo hce hsl hfin
    have hmr : ∀ q ∈ rows, pmN q := fun q hq => (hrows q hq).1
    unfold pmRun at h
    cases ha : pmAt rows fr with
    | none => rw [ha] at h; cases h
    | some r =>
      rw [ha] at h
      obtain ⟨q, hq, hpc, hs⟩ := pmAt_some ha
      have hO := (hrows q hq).2 fr.2.1 fr.2.2.1 fr.2.2.2
      have efr : fr = (q.1, fr.2.1, fr.2.2.1, fr.2.2.2) := by rw [← hpc]
      rw [efr]
      rcases r with fr' | ⟨j, as, fr'⟩ | r
      · have hm := pm_mono hmono n d rows fr' v M' hmr h
        exact hO.1 fr' hs (Nat.le_trans hm.2.1 hce) (Nat.le_trans hm.2.2 hsl) (ih d rows fr' v M' X cc nL own nm ret h hC hrows hfr hlo hce hsl hfin)
      · have hM := ((hmr q hq) _ _ _).2.1 j as fr' hs
        dsimp only at h
        cases d with
        | zero => simp at h
        | succ d =>
          cases hj : mt[j]? with
          | none => rw [hj] at h; simp at h
          | some i =>
            rw [hj] at h
            dsimp only at h
            have hmem := List.mem_of_getElem? hj
            split at h
            next hlen =>
              cases hc : pmRun mt n d i.rows (pmEn i.nL as fr'.2.2.2) with
              | none => rw [hc] at h; cases h
              | some w =>
                obtain ⟨v1, M1⟩ := w
                rw [hc] at h
                have m1 := pm_mono hmono n d i.rows _ v1 M1 (hmono i hmem) hc
                have m2 := pm_mono hmono n (d + 1) rows _ v M' hmr h
                have m1' : pmLe fr'.2.2.2 M1 := m1
                rw [hM] at hc m1'
                have hmet := pm_metF (l := X.Lh) (g := X.Gx) (A := X.Ow) ih (hall i hmem) hC.2.2.2.2.2.2.2.2.2.2.2 hlen m1' hc
                exact hO.2.1 j as fr' hs i d v1 M1 hj (hall i hmem).2.2.1 (by omega) (by omega) hmet m1' (Nat.le_trans m2.2.1 hce) (Nat.le_trans m2.2.2 hsl) (ih (d + 1) rows _ v M' X cc nL own nm ret h hC hrows hfr hlo hce hsl hfin)
            next => cases h
      · obtain ⟨v1, M1⟩ := r
        obtain ⟨e1, e2, e3⟩ := hO.2.2 v1 M1 hs
        cases h
        intro ls H locs k n' hL hR hk hn
        subst e1
        show WX X H locs k n' (F0 X.Me q.1 ls fr.2.2.1)
        rw [e2]
        exact hfin q.1 ls H locs k n' e3 hR hk hn
/-! Runs of the pure machine to a stop: the rows need be right in one place of the machine alone -/
/-- what a row must say at a place of the machine: it goes on, or calls -/
def pmO2 (mt : List Mi) (X : Cxt) (nL : Nat) (q : Nat × Ins) : Prop := ∀ (L : Lc) (st : List Value) (M : Mm),
  (∀ fr' : Fm, q.2 (q.1, L, st, M) = some (.inl fr') → fr'.2.2.2.2.2.1 ≤ X.C0 + X.Ro.cells → fr'.2.2.2.2.2.2 ≤ X.S0 + X.Ro.slots → pmS X nL fr' → pmS X nL (q.1, L, st, M)) ∧
  (∀ (j : Nat) (as : List Value) (fr' : Fm), q.2 (q.1, L, st, M) = some (.inr (.inl (j, as, fr'))) → ∀ (i : Mi) (d : Nat) (v : Option Value) (M' : Mm), mt[j]? = some i → i.nL ≤ 40 → d + 6 ≤ X.Ro.frames → 60 * (d + 6) ≤ X.Ro.locals → pmM X.Lh X.Gx X.Ow d i as M v M' → pmLe M M' → M'.2.2.1 ≤ X.C0 + X.Ro.cells → M'.2.2.2 ≤ X.S0 + X.Ro.slots → pmS X nL (fr'.1, fr'.2.1, v.toList ++ fr'.2.2.1, M') → pmS X nL (q.1, L, st, M))
theorem pmG.o2 {mt : List Mi} {cc : ByteArray} {nL : Nat} {own nm : String} {ad : Nat → Nat} {ret : Option FieldType} {q : Nat × Ins} (h : pmG mt cc nL own nm ad ret q) {X : Cxt} (hC : pmC X cc nL own nm ad) : pmN q ∧ pmO2 mt X nL q := ⟨h.1, fun L st M => ⟨(h.2 X hC L st M).1, (h.2 X hC L st M).2.1⟩⟩
theorem pmO2.st {mt : List Mi} {X : Cxt} {nL : Nat} {pc : Nat} {I : Ins} (h : pmO2 mt X nL (pc, I)) {L : Lc} {st : List Value} {M : Mm} {fr' : Fm} (e : I (pc, L, st, M) = some (.inl fr')) (h1 : fr'.2.2.2.2.2.1 ≤ X.C0 + X.Ro.cells) (h2 : fr'.2.2.2.2.2.2 ≤ X.S0 + X.Ro.slots) (k : pmS X nL fr') : pmS X nL (pc, L, st, M) := (h L st M).1 fr' e h1 h2 k
set_option maxHeartbeats 1000000 in
theorem pm_stop {ad : Nat → Nat} {mt : List Mi} (hall : ∀ i ∈ mt, pmOkF ad mt i) {X : Cxt} (hg : X.Gx.2.2.1 = ad) {nL : Nat} : ∀ (n d : Nat) (rows : List (Nat × Ins)) (fr : Fm) (v : Option Value) (M' : Mm), pmRun mt n d rows fr = some (v, M') → (∀ q ∈ rows, pmN q ∧ pmO2 mt X nL q) → d + 5 ≤ X.Ro.frames → 60 * (d + 5) ≤ X.Ro.locals → M'.2.2.1 ≤ X.C0 + X.Ro.cells → M'.2.2.2 ≤ X.S0 + X.Ro.slots → (∀ q ∈ rows, ∀ (L : Lc) (st : List Value), q.2 (q.1, L, st, M') = some (.inr (.inr (v, M'))) → pmS X nL (q.1, L, st, M')) → pmS X nL fr := by
  have hmono : ∀ i ∈ mt, ∀ q ∈ i.rows, pmN q := fun i hi q hq => ((hall i hi).2.2.2 q hq).1
  have hsound := pm_soundF hall
  intro n
  induction n with
  | zero => intro d rows fr v M' h; simp [pmRun] at h
  | succ n ih =>
    intro d rows fr v M' h hrows hfr hlo hce hsl hfin
    have hmr : ∀ q ∈ rows, pmN q := fun q hq => (hrows q hq).1
    unfold pmRun at h
    cases ha : pmAt rows fr with
    | none => rw [ha] at h; cases h
    | some r =>
      rw [ha] at h
      obtain ⟨q, hq, hpc, hs⟩ := pmAt_some ha
      have hO := (hrows q hq).2 fr.2.1 fr.2.2.1 fr.2.2.2
      have efr : fr = (q.1, fr.2.1, fr.2.2.1, fr.2.2.2) := by rw [← hpc]
      rw [efr]
      rcases r with fr' | ⟨j, as, fr'⟩ | r
      · have hm := pm_mono hmono n d rows fr' v M' hmr h
        exact hO.1 fr' hs (Nat.le_trans hm.2.1 hce) (Nat.le_trans hm.2.2 hsl) (ih d rows fr' v M' h hrows hfr hlo hce hsl hfin)
      · have hM := ((hmr q hq) _ _ _).2.1 j as fr' hs
        dsimp only at h
        cases d with
        | zero => simp at h
        | succ d =>
          cases hj : mt[j]? with
          | none => rw [hj] at h; simp at h
          | some i =>
            rw [hj] at h
            dsimp only at h
            have hmem := List.mem_of_getElem? hj
            split at h
            next hlen =>
              cases hc : pmRun mt n d i.rows (pmEn i.nL as fr'.2.2.2) with
              | none => rw [hc] at h; cases h
              | some w =>
                obtain ⟨v1, M1⟩ := w
                rw [hc] at h
                have m1 := pm_mono hmono n d i.rows _ v1 M1 (hmono i hmem) hc
                have m2 := pm_mono hmono n (d + 1) rows _ v M' hmr h
                have m1' : pmLe fr'.2.2.2 M1 := m1
                rw [hM] at hc m1'
                have hmet := pm_metF (l := X.Lh) (g := X.Gx) (A := X.Ow) (hsound n) (hall i hmem) hg hlen m1' hc
                exact hO.2 j as fr' hs i d v1 M1 hj (hall i hmem).2.2.1 (by omega) (by omega) hmet m1' (Nat.le_trans m2.2.1 hce) (Nat.le_trans m2.2.2 hsl) (ih (d + 1) rows _ v M' h hrows hfr hlo hce hsl hfin)
            next => cases h
      · obtain ⟨v1, M1⟩ := r
        have hM := ((hmr q hq) _ _ _).2.2 v1 M1 hs
        cases h
        subst hM
        exact hfin q hq _ _ hs
theorem ev_stop {ad : Nat → Nat} (hall : ∀ i ∈ mtb ad, pmOkF ad (mtb ad) i) {X : Cxt} (hg : X.Gx.2.2.1 = ad) {nL d : Nat} {rows : List (Nat × Ins)} {fr : Fm} {P : Option Value → Mm → Prop} (h : Ev ad d rows fr P) (hrows : ∀ q ∈ rows, pmN q ∧ pmO2 (mtb ad) X nL q) (hf : d + 5 ≤ X.Ro.frames) (hl : 60 * (d + 5) ≤ X.Ro.locals)
    (hP : ∀ v M', P v M' → (M'.2.2.1 ≤ X.C0 + X.Ro.cells ∧ M'.2.2.2 ≤ X.S0 + X.Ro.slots) ∧ ∀ q ∈ rows, ∀ (L : Lc) (st : List Value), q.2 (q.1, L, st, M') = some (.inr (.inr (v, M'))) → pmS X nL (q.1, L, st, M')) : pmS X nL fr := by
  obtain ⟨v, M', n, h1, h2⟩ := h
  obtain ⟨⟨h3, h4⟩, h5⟩ := hP v M' h2
  exact pm_stop hall hg n d rows fr v M' h1 hrows hf hl h3 h4 h5
/-- fewer locals are known -/
theorem pmS.wk {X : Cxt} {nL pc : Nat} {L L' : Lc} {st : List Value} {M : Mm} (k : pmS X nL (pc, L', st, M)) (hl : L'.length = L.length) (h : ∀ (i : Nat) (v : Value), L'[i]? = some (some v) → L[i]? = some (some v)) : pmS X nL (pc, L, st, M) := by
  intro ls H locs k' n hL hR hk hn
  exact k ls H locs k' n ⟨hL.1, hl.trans hL.2.1, hL.2.2.1, fun i v hv => hL.2.2.2 i v (h i v hv)⟩ hR hk hn
