theorem pmL_entry {as : List Value} {nL : Nat} (h : (pmIn as).length ≤ nL) : pmL nL ((lg_sl as ++ List.replicate (nL - (lg_sl as).length) Slot.unset).toArray) (pmIn as ++ List.replicate (nL - (pmIn as).length) none) := by
  have hl := pmIn_len as
  obtain ⟨h1, h2, h3⟩ := lv_entry as (n := nL) (by omega)
  refine ⟨h1, ?_, h2, fun i v hv => ?_⟩
  · rw [List.length_append, List.length_replicate]; omega
  · by_cases hi : i < (pmIn as).length
    · rw [List.getElem?_append_left hi] at hv
      have h4 := h3 _ (pmIn_at as 0 i v hv)
      simpa using h4
    · rw [List.getElem?_append_right (by omega)] at hv
      rw [List.getElem?_replicate] at hv
      split at hv <;> simp at hv
def pmIH (ad : Nat → Nat) (mt : List Mi) (n : Nat) : Prop := ∀ (d : Nat) (rows : List (Nat × Ins)) (fr : Fm) (v : Option Value) (M' : Mm) (X : Cxt) (cc : ByteArray) (nL : Nat) (own nm : String) (ret : Option FieldType), pmRun mt n d rows fr = some (v, M') → pmC X cc nL own nm ad → (∀ q ∈ rows, pmN q ∧ pmO mt X cc nL ret q) → d + 5 ≤ X.Ro.frames → 60 * (d + 5) ≤ X.Ro.locals → M'.2.2.1 ≤ X.C0 + X.Ro.cells → M'.2.2.2 ≤ X.S0 + X.Ro.slots →
  (∀ (pc : Nat) (ls : Array Slot) (H : Heap) (locs : List Loc) (k n : Nat), pmRet cc ret pc v → pmR X.Gx X.Ow X.St.heap M' H locs → X.C0 + k = M'.2.2.1 → X.S0 + n = M'.2.2.2 → WX X H locs k n (F0 X.Me pc ls v.toList)) → pmS X nL fr
set_option maxHeartbeats 1000000 in
theorem pm_met {ad : Nat → Nat} {mt : List Mi} {n : Nat} (ih : pmIH ad mt n) {l : Launch} {g : Gm} {A : Nat → Prop} {d : Nat} {i : Mi} {as : List Value} {M : Mm} {v : Option Value} {M' : Mm} (hi : pmOk ad mt i) (hg : g.2.2.1 = ad) (hlen : (pmIn as).length ≤ i.nL) (hle : pmLe M M') (hrun : pmRun mt n d i.rows (pmEn i.nL as M) = some (v, M')) : pmM l g A d i as M v M' := by
  obtain ⟨hpl, hown, -, hrows⟩ := hi
  refine Met.ofW (cc := i.cc) (maxL := i.nL) (ret := i.ret) hpl rfl ?_
  intro p e s m args below meth c s₁ B hml hv
  obtain ⟨rfl, hR, hK, hX, hA⟩ := hv
  have hts := atoms_spec (ws := i.ws) B.pre
  have hfc : s.vm.findClass i.own = some m.cls := by rw [hown]; exact findClass_of_methodNamed B.named
  have hr := B.returns
  have hlocks := B.notSynchronized
  rw [lg_entry_eq]
  have hl := pmL_entry hlen
  generalize (lg_sl as ++ List.replicate (i.nL - (lg_sl as).length) Slot.unset).toArray = ls at hl ⊢
  let X : Cxt := ((p, l, e, (headSpec i.ws (pmRm d M M')).room, s), (m, as.toArray, below, meth, c), MQ below (fun _ st o t => o = .returned v ∧ pmR g A st.heap M' t.heap []) as.toArray s (M'.2.2.1 - M.2.2.1) (M'.2.2.2 - M.2.2.2) A, A, g, M.2.2.1, M.2.2.2)
  have hC : pmC X i.cc i.nL i.own i.y.name ad := ⟨B.exec, B.bytes, hml, hfc, fun w hw => hts w (List.mem_cons_of_mem _ hw), hK, hX, hA, by show 5 ≤ d + 5; omega, by show 300 ≤ 60 * (d + 5); omega, (name_of_methodNamed B.named B.method).1, hg⟩
  refine ih d i.rows _ v M' X i.cc i.nL i.own i.y.name i.ret hrun hC (fun q hq => ⟨(hrows q hq).1, (hrows q hq).2 X hC⟩) (Nat.le_refl _) (Nat.le_refl _) ?_ ?_ ?_ ls s.heap [] 0 0 hl hR rfl rfl
  · show M'.2.2.1 ≤ M.2.2.1 + (M'.2.2.1 - M.2.2.1)
    have := hle.2.1; omega
  · show M'.2.2.2 ≤ M.2.2.2 + (M'.2.2.2 - M.2.2.2)
    have := hle.2.2; omega
  · intro pc ls' H locs k n' hret hR' hk hn
    have ek : k = M'.2.2.1 - M.2.2.1 := by
      have : M.2.2.1 + k = M'.2.2.1 := hk
      omega
    have en : n' = M'.2.2.2 - M.2.2.2 := by
      have : M.2.2.2 + n' = M'.2.2.2 := hn
      omega
    subst ek; subst en
    have hfree : ∀ q ∈ locs, A q.base := hR'.2.2.2.2
    have hend : ∀ t : State, t.heap = H → s.WarmedH t.vm → pmR g A s.heap M' t.heap [] := fun t ht _ => by
      rw [ht]
      exact ⟨hR'.1, hR'.2.1, hR'.2.2.1, hR'.2.2.2.1, fun q hq => by cases hq⟩
    rcases hret with ⟨rfl, h2, h3⟩ | ⟨x, ty, rfl, h2, h3, h4⟩ | ⟨x, rfl, h2, h3⟩ | ⟨a, rt, rfl, h2, h3, h4⟩
    · show W p l e (headSpec i.ws (pmRm d M M')).room s m as.toArray below meth c H locs (M'.2.2.1 - M.2.2.1) (M'.2.2.2 - M.2.2.2) (MQ below (fun _ st o t => o = .returned (none) ∧ pmR g A st.heap M' t.heap []) as.toArray s (M'.2.2.1 - M.2.2.1) (M'.2.2.2 - M.2.2.2) A) (F0 m pc ls' [])
      exact W.vret B.exec B.bytes (hr.trans h2) (fun t ht hW => ⟨rfl, hend t ht hW⟩) hfree h3 hlocks
    · show W p l e (headSpec i.ws (pmRm d M M')).room s m as.toArray below meth c H locs (M'.2.2.1 - M.2.2.1) (M'.2.2.2 - M.2.2.2) (MQ below (fun _ st o t => o = .returned (some (.int x)) ∧ pmR g A st.heap M' t.heap []) as.toArray s (M'.2.2.1 - M.2.2.1) (M'.2.2.2 - M.2.2.2) A) (F0 m pc ls' [.int x])
      exact W.zret B.exec B.bytes (hr.trans h2) h3 (fun t ht hW => ⟨rfl, hend t ht hW⟩) hfree h4 hlocks
    · show W p l e (headSpec i.ws (pmRm d M M')).room s m as.toArray below meth c H locs (M'.2.2.1 - M.2.2.1) (M'.2.2.2 - M.2.2.2) (MQ below (fun _ st o t => o = .returned (some (.long x)) ∧ pmR g A st.heap M' t.heap []) as.toArray s (M'.2.2.1 - M.2.2.1) (M'.2.2.2 - M.2.2.2) A) (F0 m pc ls' [.long x])
      exact W.lret B.exec B.bytes (hr.trans h2) (fun t ht hW => ⟨rfl, hend t ht hW⟩) hfree h3 hlocks
    · show W p l e (headSpec i.ws (pmRm d M M')).room s m as.toArray below meth c H locs (M'.2.2.1 - M.2.2.1) (M'.2.2.2 - M.2.2.2) (MQ below (fun _ st o t => o = .returned (some (.ref a)) ∧ pmR g A st.heap M' t.heap []) as.toArray s (M'.2.2.1 - M.2.2.1) (M'.2.2.2 - M.2.2.2) A) (F0 m pc ls' [.ref a])
      exact W.aret B.exec B.bytes (hr.trans h2) h3 (Or.inr ⟨a, rfl⟩) (fun t ht hW => ⟨rfl, hend t ht hW⟩) hfree h4 hlocks
set_option maxHeartbeats 1000000 in
theorem pm_sound {ad : Nat → Nat} {mt : List Mi} (hall : ∀ i ∈ mt, pmOk ad mt i) : ∀ n, pmIH ad mt n := by
  have hmono : ∀ i ∈ mt, ∀ q ∈ i.rows, pmN q := fun i hi q hq => ((hall i hi).2.2.2 q hq).1
  intro n
  induction n with
  | zero => intro d rows fr v M' X cc nL own nm ret h; simp [pmRun] at h
  | succ n ih =>
    intro d rows fr v M' X cc nL own nm ret h hC hrows hfr hlo hce hsl hfin
    have hmr : ∀ q ∈ rows, pmN q := fun q hq => (hrows q hq).1
    unfold pmRun at h
    cases ha : pmAt rows fr with
    | none => rw [ha] at h; cases h
    | some r =>
      rw [ha] at h
      obtain ⟨q, hq, hpc, hs⟩ := pmAt_some ha
      have hO := (hrows q hq).2 fr.2.1 fr.2.2.1 fr.2.2.2
      have efr : fr = (q.1, fr.2.1, fr.2.2.1, fr.2.2.2) := by rw [← hpc]
      rw [efr]
      rcases r with fr' | ⟨j, as, fr'⟩ | r
      · have hm := pm_mono hmono n d rows fr' v M' hmr h
        exact hO.1 fr' hs (Nat.le_trans hm.2.1 hce) (Nat.le_trans hm.2.2 hsl) (ih d rows fr' v M' X cc nL own nm ret h hC hrows hfr hlo hce hsl hfin)
      · have hM := ((hmr q hq) _ _ _).2.1 j as fr' hs
        dsimp only at h
        cases d with
        | zero => simp at h
        | succ d =>
          cases hj : mt[j]? with
          | none => rw [hj] at h; simp at h
          | some i =>
            rw [hj] at h
            dsimp only at h
            have hmem := List.mem_of_getElem? hj
            split at h
            next hlen =>
              cases hc : pmRun mt n d i.rows (pmEn i.nL as fr'.2.2.2) with
              | none => rw [hc] at h; cases h
              | some w =>
                obtain ⟨v1, M1⟩ := w
                rw [hc] at h
                have m1 := pm_mono hmono n d i.rows _ v1 M1 (hmono i hmem) hc
                have m2 := pm_mono hmono n (d + 1) rows _ v M' hmr h
                have m1' : pmLe fr'.2.2.2 M1 := m1
                rw [hM] at hc m1'
                have hmet := pm_met (l := X.Lh) (g := X.Gx) (A := X.Ow) ih (hall i hmem) hC.2.2.2.2.2.2.2.2.2.2.2 hlen m1' hc
                exact hO.2.1 j as fr' hs i d v1 M1 hj (hall i hmem).2.2.1 (by omega) (by omega) hmet m1' (Nat.le_trans m2.2.1 hce) (Nat.le_trans m2.2.2 hsl) (ih (d + 1) rows _ v M' X cc nL own nm ret h hC hrows hfr hlo hce hsl hfin)
            next => cases h
      · obtain ⟨v1, M1⟩ := r
        obtain ⟨e1, e2, e3⟩ := hO.2.2 v1 M1 hs
        cases h
        intro ls H locs k n' hL hR hk hn
        subst e1
        show WX X H locs k n' (F0 X.Me q.1 ls fr.2.2.1)
        rw [e2]
        exact hfin q.1 ls H locs k n' e3 hR hk hn
