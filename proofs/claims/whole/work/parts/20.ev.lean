/-! RUNS OF THE PURE MACHINE, by rules -/
theorem pmRun_more {mt : List Mi} : ∀ (n k d d2 : Nat) (rows : List (Nat × Ins)) (fr : Fm) (r : Option Value × Mm), d ≤ d2 → pmRun mt n d rows fr = some r → pmRun mt (n + k) d2 rows fr = some r := by
  intro n
  induction n with
  | zero => intro k d d2 rows fr r _ h; simp [pmRun] at h
  | succ n ih =>
    intro k d d2 rows fr r hd h
    rw [show n + 1 + k = (n + k) + 1 by omega]
    unfold pmRun at h ⊢
    cases ha : pmAt rows fr with
    | none => rw [ha] at h; cases h
    | some x =>
      rw [ha] at h
      rcases x with fr' | ⟨j, as, fr'⟩ | x
      · exact ih k d d2 rows fr' r hd h
      · dsimp only at h ⊢
        cases d with
        | zero => simp at h
        | succ d =>
          obtain ⟨d3, rfl⟩ : ∃ d3, d2 = d3 + 1 := ⟨d2 - 1, by omega⟩
          cases hj : mt[j]? with
          | none => rw [hj] at h; simp at h
          | some i =>
            rw [hj] at h
            dsimp only at h ⊢
            split at h
            next hl =>
              rw [if_pos hl]
              cases hc : pmRun mt n d i.rows (pmEn i.nL as fr'.2.2.2) with
              | none => rw [hc] at h; cases h
              | some w =>
                rw [hc] at h
                rw [ih k d d3 i.rows _ w (by omega) hc]
                exact ih k (d + 1) (d3 + 1) rows _ r hd h
            next => cases h
      · exact h
/-- from this frame the machine comes to an answer and cells with P, with calls at most d deep -/
def Ev (ad : Nat → Nat) (d : Nat) (rows : List (Nat × Ins)) (fr : Fm) (P : Option Value → Mm → Prop) : Prop := ∃ (v : Option Value) (M' : Mm) (n : Nat), pmRun (mtb ad) n d rows fr = some (v, M') ∧ P v M'
/-- a method's run -/
def EvM (ad : Nat → Nat) (d : Nat) (i : Mi) (as : List Value) (M : Mm) (P : Option Value → Mm → Prop) : Prop := (pmIn as).length ≤ i.nL ∧ Ev ad d i.rows (pmEn i.nL as M) P
/-- it answers v and changes nothing -/
abbrev Rd (ad : Nat → Nat) (d : Nat) (i : Mi) (as : List Value) (M : Mm) (v : Option Value) : Prop := EvM ad d i as M (fun v' M' => v' = v ∧ M' = M)
theorem Ev.im {ad : Nat → Nat} {d : Nat} {rows : List (Nat × Ins)} {fr : Fm} {P P2 : Option Value → Mm → Prop} (h : Ev ad d rows fr P) (hp : ∀ v M, P v M → P2 v M) : Ev ad d rows fr P2 := by
  obtain ⟨v, M', n, h1, h2⟩ := h
  exact ⟨v, M', n, h1, hp v M' h2⟩
theorem EvM.im {ad : Nat → Nat} {d : Nat} {i : Mi} {as : List Value} {M : Mm} {P P2 : Option Value → Mm → Prop} (h : EvM ad d i as M P) (hp : ∀ v M, P v M → P2 v M) : EvM ad d i as M P2 := ⟨h.1, h.2.im hp⟩
theorem Ev.up {ad : Nat → Nat} {d d2 : Nat} {rows : List (Nat × Ins)} {fr : Fm} {P : Option Value → Mm → Prop} (h : Ev ad d rows fr P) (hd : d ≤ d2) : Ev ad d2 rows fr P := by
  obtain ⟨v, M', n, h1, h2⟩ := h
  exact ⟨v, M', n + 0, pmRun_more n 0 d d2 rows fr _ hd h1, h2⟩
theorem EvM.up {ad : Nat → Nat} {d d2 : Nat} {i : Mi} {as : List Value} {M : Mm} {P : Option Value → Mm → Prop} (h : EvM ad d i as M P) (hd : d ≤ d2) : EvM ad d2 i as M P := ⟨h.1, h.2.up hd⟩
section EVR
variable {ad : Nat → Nat} {d : Nat} {rows : List (Nat × Ins)} {P : Option Value → Mm → Prop} {pc : Nat} {L : Lc} {st : List Value} {M : Mm}
theorem Ev.at {fr fr' : Fm} (h : pmAt rows fr = some (.inl fr')) (k : Ev ad d rows fr' P) : Ev ad d rows fr P := by
  obtain ⟨v, M', n, h1, h2⟩ := k
  refine ⟨v, M', n + 1, ?_, h2⟩
  unfold pmRun
  rw [h]
  exact h1
theorem es0 {f : Fs} {pc' : Nat} {L' : Lc} {st' : List Value} (hr : rows.find? (fun q => q.1 == pc) = some (pc, ns f)) (hf : f L st = some (pc', L', st')) (k : Ev ad d rows (pc', L', st', M) P) : Ev ad d rows (pc, L, st, M) P := by
  refine Ev.at (fr' := (pc', L', st', M)) ?_ k
  unfold pmAt
  dsimp only
  rw [hr]
  dsimp only [ns]
  rw [hf]
/-- an instruction of locals and operands -/
theorem es {f : Fs} {pc' : Nat} {L' : Lc} {st' : List Value} (hr : rows.find? (fun q => q.1 == pc) = some (pc, ns f)) (hf : f L st = some (pc', L', st')) (_ : Nat.beq pc' pc' = true) (k : Ev ad d rows (pc', L', st', M) P) : Ev ad d rows (pc, L, st, M) P := es0 hr hf k
/-- a branch -/
theorem ei {f : Fs} {c : Prop} {t e : Nat} {L' : Lc} {st' : List Value} (inst : Decidable c) (hr : rows.find? (fun q => q.1 == pc) = some (pc, ns f)) (hf : f L st = some (@ite Nat c inst t e, L', st')) (kt : c → Ev ad d rows (t, L', st', M) P) (ke : ¬ c → Ev ad d rows (e, L', st', M) P) : Ev ad d rows (pc, L, st, M) P := by
  refine es0 hr hf ?_
  by_cases h : c
  · rw [if_pos h]; exact kt h
  · rw [if_neg h]; exact ke h
theorem ew {f : Fm → Option Fm} {fr' : Fm} (hr : rows.find? (fun q => q.1 == pc) = some (pc, pmW f)) (hf : f (pc, L, st, M) = some fr') (k : Ev ad d rows fr' P) : Ev ad d rows (pc, L, st, M) P := by
  refine Ev.at (fr' := fr') ?_ k
  unfold pmAt
  dsimp only
  rw [hr]
  dsimp only [pmW, nx3]
  rw [hf]
theorem eg {ci k nx a : Nat} {fs : List Value} {v : Value} (hr : rows.find? (fun q => q.1 == pc) = some (pc, pmW (fGet ci k nx))) (hM : M.1 a = some (.inr (ci, fs))) (hv : fs[k]? = some v) (kk : Ev ad d rows (nx, L, v :: st, M) P) : Ev ad d rows (pc, L, .ref a :: st, M) P := by
  refine ew hr ?_ kk
  simp only [fGet, hM, if_true, hv]
theorem ep {ci k nx a : Nat} {ty : FieldType} {fs fs' : List Value} {v : Value} (hr : rows.find? (fun q => q.1 == pc) = some (pc, pmW (fPut ci k ty nx))) (hM : M.1 a = some (.inr (ci, fs))) (hv : okt ty v = true) (hk : Nat.blt k fs.length = true) (hs : fs.set k v = fs') (kk : Ev ad d rows (nx, L, st, up M a (.inr (ci, fs'))) P) : Ev ad d rows (pc, L, v :: .ref a :: st, M) P := by
  subst hs
  refine ew hr ?_ kk
  simp only [fPut, hM]
  rw [if_pos ⟨trivial, hv, Nat.blt_eq.mp hk⟩]
theorem ea {t nx a n : Nat} {f : Nat → Int32} {i : Int32} (hr : rows.find? (fun q => q.1 == pc) = some (pc, pmW (fAld t nx))) (hM : M.1 a = some (.inl (t, n, .inl f))) (hi : vp_in i n) (kk : Ev ad d rows (nx, L, .int (f i.toNatClampNeg) :: st, M) P) : Ev ad d rows (pc, L, .int i :: .ref a :: st, M) P := by
  refine ew hr ?_ kk
  simp only [fAld, hM]
  rw [if_pos ⟨trivial, hi⟩]
/-- an int of a row, at a place that is a number -/
theorem ean {t nx a n j : Nat} {f : Nat → Int32} (hr : rows.find? (fun q => q.1 == pc) = some (pc, pmW (fAld t nx))) (hM : M.1 a = some (.inl (t, n, .inl f))) (hj : j < n) (hn : Nat.ble n 2000000 = true) (kk : Ev ad d rows (nx, L, .int (f j) :: st, M) P) : Ev ad d rows (pc, L, .int (nI j) :: .ref a :: st, M) P := by
  have h2 := Nat.ble_eq.mp hn
  refine ea hr hM (vp_in_nI hj (by omega)) ?_
  rw [nI_clamp (by omega)]
  exact kk
theorem eal {nx a n j : Nat} {f : Nat → Int64} (hr : rows.find? (fun q => q.1 == pc) = some (pc, pmW (fLald nx))) (hM : M.1 a = some (.inl (1, n, .inr f))) (hj : j < n) (hn : Nat.ble n 2000000 = true) (kk : Ev ad d rows (nx, L, .long (f j) :: st, M) P) : Ev ad d rows (pc, L, .int (nI j) :: .ref a :: st, M) P := by
  have h2 := Nat.ble_eq.mp hn
  refine ew hr ?_ kk
  simp only [fLald, hM]
  rw [if_pos ⟨trivial, vp_in_nI hj (by omega)⟩, nI_clamp (by omega)]
theorem et {nx a n j : Nat} {f : Nat → Int32} {x : Int32} (hr : rows.find? (fun q => q.1 == pc) = some (pc, pmW (fAst 0 nx))) (hM : M.1 a = some (.inl (0, n, .inl f))) (hj : j < n) (hn : Nat.ble n 2000000 = true) (kk : Ev ad d rows (nx, L, st, up M a (.inl (0, n, .inl (upd f j x)))) P) : Ev ad d rows (pc, L, .int x :: .int (nI j) :: .ref a :: st, M) P := by
  have h2 := Nat.ble_eq.mp hn
  refine ew hr ?_ kk
  simp only [fAst, hM]
  rw [if_pos ⟨trivial, vp_in_nI hj (by omega)⟩, nI_clamp (by omega)]
  rfl
theorem etx {t nx a n j : Nat} {f : Nat → Int32} {x : Int32} (hr : rows.find? (fun q => q.1 == pc) = some (pc, pmW (fAst t nx))) (hM : M.1 a = some (.inl (t, n, .inl f))) (hj : j < n) (hn : Nat.ble n 2000000 = true) (kk : Ev ad d rows (nx, L, st, up M a (.inl (t, n, .inl (upd f j (narT t x))))) P) : Ev ad d rows (pc, L, .int x :: .int (nI j) :: .ref a :: st, M) P := by
  have h2 := Nat.ble_eq.mp hn
  refine ew hr ?_ kk
  simp only [fAst, hM]
  rw [if_pos ⟨trivial, vp_in_nI hj (by omega)⟩, nI_clamp (by omega)]
theorem etl {nx a n j : Nat} {f : Nat → Int64} {x : Int64} (hr : rows.find? (fun q => q.1 == pc) = some (pc, pmW (fLast nx))) (hM : M.1 a = some (.inl (1, n, .inr f))) (hj : j < n) (hn : Nat.ble n 2000000 = true) (kk : Ev ad d rows (nx, L, st, up M a (.inl (1, n, .inr (vp_updL f j x)))) P) : Ev ad d rows (pc, L, .long x :: .int (nI j) :: .ref a :: st, M) P := by
  have h2 := Nat.ble_eq.mp hn
  refine ew hr ?_ kk
  simp only [fLast, hM]
  rw [if_pos ⟨trivial, vp_in_nI hj (by omega)⟩, nI_clamp (by omega)]
theorem eln {nx a n : Nat} {f : Nat → Int32} (hr : rows.find? (fun q => q.1 == pc) = some (pc, pmW (fAlen nx))) (hM : M.1 a = some (.inl (0, n, .inl f))) (kk : Ev ad d rows (nx, L, .int (nI n) :: st, M) P) : Ev ad d rows (pc, L, .ref a :: st, M) P := by
  refine ew hr ?_ kk
  simp only [fAlen, hM]
  rfl
/-- a new object -/
theorem enw {ci N nx : Nat} {fs : List Value} (hr : rows.find? (fun q => q.1 == pc) = some (pc, pmW (fNew ci N nx fs))) (kk : Ev ad d rows (nx, L, .ref M.2.1 :: st, mkc M N (.inr (ci, fs))) P) : Ev ad d rows (pc, L, st, M) P := ew hr rfl kk
/-- a new row -/
theorem ena {t nx n : Nat} (hr : rows.find? (fun q => q.1 == pc) = some (pc, pmW (fNwa t nx))) (hn : Nat.ble n 60000 = true) (kk : Ev ad d rows (nx, L, .ref M.2.1 :: st, mkc M n (.inl (t, n, if t = 1 then .inr (fun _ => 0) else .inl (fun _ => 0)))) P) : Ev ad d rows (pc, L, .int (nI n) :: st, M) P := by
  have h2 := Nat.ble_eq.mp hn
  refine ew hr ?_ kk
  have e : (nI n).toNatClampNeg = n := nI_clamp (by omega)
  have h3 : ¬ (nI n < 0 ∨ 60000 < (nI n).toNatClampNeg) := by
    rw [e]
    rintro (q | q)
    · exact nI_pos (by omega) q
    · omega
  simp only [fNwa]
  rw [if_neg h3, e]
theorem ery {f : Ins} {v : Option Value} (hr : rows.find? (fun q => q.1 == pc) = some (pc, f)) (hf : f (pc, L, st, M) = some (.inr (.inr (v, M)))) (hp : P v M) : Ev ad d rows (pc, L, st, M) P := by
  refine ⟨v, M, 1, ?_, hp⟩
  unfold pmRun pmAt
  dsimp only
  rw [hr]
  dsimp only
  rw [hf]
theorem eri {x : Int32} (hr : rows.find? (fun q => q.1 == pc) = some (pc, fRi)) (hp : P (some (.int x)) M) : Ev ad d rows (pc, L, [.int x], M) P := ery hr rfl hp
theorem erl {x : Int64} (hr : rows.find? (fun q => q.1 == pc) = some (pc, fRl)) (hp : P (some (.long x)) M) : Ev ad d rows (pc, L, [.long x], M) P := ery hr rfl hp
theorem era {x : Nat} (hr : rows.find? (fun q => q.1 == pc) = some (pc, fRa)) (hp : P (some (.ref x)) M) : Ev ad d rows (pc, L, [.ref x], M) P := ery hr rfl hp
theorem erv (hr : rows.find? (fun q => q.1 == pc) = some (pc, fRv)) (hp : P none M) : Ev ad d rows (pc, L, [], M) P := ery hr rfl hp
theorem erz {x : Int32} (hr : rows.find? (fun q => q.1 == pc) = some (pc, fRz)) (hx : x = 0 ∨ x = 1) (hp : P (some (.int x)) M) : Ev ad d rows (pc, L, [.int x], M) P := by
  refine ery hr ?_ hp
  simp only [fRz]
  rw [if_pos hx]
theorem erz0 (hr : rows.find? (fun q => q.1 == pc) = some (pc, fRz)) (hp : P (some (.int 0)) M) : Ev ad d rows (pc, L, [.int 0], M) P := erz hr (Or.inl rfl) hp
theorem erz1 (hr : rows.find? (fun q => q.1 == pc) = some (pc, fRz)) (hp : P (some (.int 1)) M) : Ev ad d rows (pc, L, [.int 1], M) P := erz hr (Or.inr rfl) hp
theorem Ev.call {fr fr' : Fm} {j : Nat} {as : List Value} {i : Mi} {d1 : Nat} {P1 : Option Value → Mm → Prop} (h : pmAt rows fr = some (.inr (.inl (j, as, fr')))) (hj : (mtb ad)[j]? = some i) (hc : EvM ad d1 i as fr'.2.2.2 P1) (hd : d1 < d) (k : ∀ v M1, P1 v M1 → Ev ad d rows (fr'.1, fr'.2.1, v.toList ++ fr'.2.2.1, M1) P) : Ev ad d rows fr P := by
  obtain ⟨d', rfl⟩ : ∃ d', d = d' + 1 := ⟨d - 1, by omega⟩
  obtain ⟨hl, v, M1, n, hn, hp⟩ := hc
  obtain ⟨v2, M2, n2, hn2, hp2⟩ := k v M1 hp
  refine ⟨v2, M2, (n + n2) + 1, ?_, hp2⟩
  unfold pmRun
  rw [h]
  dsimp only
  rw [hj]
  dsimp only
  rw [if_pos hl, pmRun_more n n2 d1 d' i.rows _ (v, M1) (by omega) hn]
  dsimp only
  rw [show n + n2 = n2 + n by omega]
  exact pmRun_more n2 n (d' + 1) (d' + 1) rows _ _ (Nat.le_refl _) hn2
/-- a call of a method of an object -/
theorem ecv {j n ci nx d1 : Nat} {i : Mi} {b : Nat} {fs rest : List Value} {as : List Value} {P1 : Option Value → Mm → Prop} (hr : rows.find? (fun q => q.1 == pc) = some (pc, fCv j n ci nx)) (hs : st.drop n = .ref b :: rest) (hM : M.1 b = some (.inr (ci, fs))) (hw : Nat.ble (csum rest) 8 = true) (hj : (mtb ad)[j]? = some i) (ha : .ref b :: (st.take n).reverse = as) (hc : EvM ad d1 i as M P1) (hd : Nat.blt d1 d = true) (k : ∀ v M1, P1 v M1 → Ev ad d rows (nx, L, v.toList ++ rest, M1) P) : Ev ad d rows (pc, L, st, M) P := by
  refine Ev.call (fr' := (nx, L, rest, M)) (j := j) (as := as) ?_ hj hc (Nat.blt_eq.mp hd) k
  unfold pmAt
  dsimp only
  rw [hr]
  dsimp only [fCv]
  rw [hs]
  dsimp only
  rw [hM]
  dsimp only
  rw [if_pos ⟨rfl, Nat.ble_eq.mp hw⟩, ha]
/-- the same where nothing changes -/
theorem ecr {j n ci nx d1 : Nat} {i : Mi} {b : Nat} {fs rest : List Value} {as : List Value} {v : Option Value} (hr : rows.find? (fun q => q.1 == pc) = some (pc, fCv j n ci nx)) (hs : st.drop n = .ref b :: rest) (hM : M.1 b = some (.inr (ci, fs))) (hw : Nat.ble (csum rest) 8 = true) (hj : (mtb ad)[j]? = some i) (ha : .ref b :: (st.take n).reverse = as) (hc : Rd ad d1 i as M v) (hd : Nat.blt d1 d = true) {st' : List Value} (hst : v.toList ++ rest = st') (k : Ev ad d rows (nx, L, st', M) P) : Ev ad d rows (pc, L, st, M) P := by
  subst hst
  exact ecv hr hs hM hw hj ha hc hd (fun v' M1 h => by obtain ⟨rfl, rfl⟩ := h; exact k)
theorem ecs {j n nx d1 : Nat} {i : Mi} {rest : List Value} {as : List Value} {P1 : Option Value → Mm → Prop} (hr : rows.find? (fun q => q.1 == pc) = some (pc, fCs j n nx)) (hn : Nat.ble n st.length = true) (hs : st.drop n = rest) (hw : Nat.ble (csum rest) 8 = true) (hj : (mtb ad)[j]? = some i) (ha : (st.take n).reverse = as) (hc : EvM ad d1 i as M P1) (hd : Nat.blt d1 d = true) (k : ∀ v M1, P1 v M1 → Ev ad d rows (nx, L, v.toList ++ rest, M1) P) : Ev ad d rows (pc, L, st, M) P := by
  subst hs
  refine Ev.call (fr' := (nx, L, st.drop n, M)) (j := j) (as := as) ?_ hj hc (Nat.blt_eq.mp hd) k
  unfold pmAt
  dsimp only
  rw [hr]
  dsimp only [fCs]
  rw [if_pos ⟨Nat.ble_eq.mp hn, Nat.ble_eq.mp hw⟩, ha]
theorem ecsr {j n nx d1 : Nat} {i : Mi} {rest : List Value} {as : List Value} {v : Option Value} (hr : rows.find? (fun q => q.1 == pc) = some (pc, fCs j n nx)) (hn : Nat.ble n st.length = true) (hs : st.drop n = rest) (hw : Nat.ble (csum rest) 8 = true) (hj : (mtb ad)[j]? = some i) (ha : (st.take n).reverse = as) (hc : Rd ad d1 i as M v) (hd : Nat.blt d1 d = true) {st' : List Value} (hst : v.toList ++ rest = st') (k : Ev ad d rows (nx, L, st', M) P) : Ev ad d rows (pc, L, st, M) P := by
  subst hst
  exact ecs hr hn hs hw hj ha hc hd (fun v' M1 h => by obtain ⟨rfl, rfl⟩ := h; exact k)
theorem eci {j n nx d1 : Nat} {i : Mi} {b : Nat} {rest : List Value} {as : List Value} {P1 : Option Value → Mm → Prop} (hr : rows.find? (fun q => q.1 == pc) = some (pc, fCi j n nx)) (hs : st.drop n = .ref b :: rest) (hw : Nat.ble (csum rest) 8 = true) (hj : (mtb ad)[j]? = some i) (ha : .ref b :: (st.take n).reverse = as) (hc : EvM ad d1 i as M P1) (hd : Nat.blt d1 d = true) (k : ∀ v M1, P1 v M1 → Ev ad d rows (nx, L, v.toList ++ rest, M1) P) : Ev ad d rows (pc, L, st, M) P := by
  refine Ev.call (fr' := (nx, L, rest, M)) (j := j) (as := as) ?_ hj hc (Nat.blt_eq.mp hd) k
  unfold pmAt
  dsimp only
  rw [hr]
  dsimp only [fCi]
  rw [hs]
  dsimp only
  rw [if_pos (Nat.ble_eq.mp hw), ha]
end EVR
theorem up_s (M : Mm) (a : Nat) (x : Ce) : (up M a x).1 a = some x := by simp [up]
theorem up_n (M : Mm) {a b : Nat} (x : Ce) (h : b ≠ a) : (up M a x).1 b = M.1 b := by simp [up, h]
theorem up_2 (M : Mm) (a : Nat) (x : Ce) : (up M a x).2 = M.2 := rfl
theorem up_up (M : Mm) (a : Nat) (x y : Ce) : up (up M a x) a y = up M a y := by
  unfold up
  congr 1
  funext b
  by_cases h : b = a <;> simp [h]
/-- not at this place -/
theorem ng {ad : Nat → Nat} {d : Nat} {rows : List (Nat × Ins)} {P : Option Value → Mm → Prop} {pc : Nat} {L : Lc} {st : List Value} {M : Mm} (h : Nat) (_ : Nat.beq pc h = false) (k : Ev ad d rows (pc, L, st, M) P) : Ev ad d rows (pc, L, st, M) P := k
section EVN
variable {ad : Nat → Nat} {d : Nat} {rows : List (Nat × Ins)} {P : Option Value → Mm → Prop} {pc : Nat} {L : Lc} {st : List Value} {M : Mm}
/-! stores, the cells behind them under a name -/
theorem epM {ci k nx a : Nat} {ty : FieldType} {fs fs' : List Value} {v : Value} (hr : rows.find? (fun q => q.1 == pc) = some (pc, pmW (fPut ci k ty nx))) (hM : M.1 a = some (.inr (ci, fs))) (hv : okt ty v = true) (hk : Nat.blt k fs.length = true) (hs : fs.set k v = fs') (kk : ∀ M2, M2 = up M a (.inr (ci, fs')) → Ev ad d rows (nx, L, st, M2) P) : Ev ad d rows (pc, L, v :: .ref a :: st, M) P := ep hr hM hv hk hs (kk _ rfl)
theorem etM {nx a n j : Nat} {f : Nat → Int32} {x : Int32} (hr : rows.find? (fun q => q.1 == pc) = some (pc, pmW (fAst 0 nx))) (hM : M.1 a = some (.inl (0, n, .inl f))) (hj : j < n) (hn : Nat.ble n 2000000 = true) (kk : ∀ M2, M2 = up M a (.inl (0, n, .inl (upd f j x))) → Ev ad d rows (nx, L, st, M2) P) : Ev ad d rows (pc, L, .int x :: .int (nI j) :: .ref a :: st, M) P := et hr hM hj hn (kk _ rfl)
theorem etlM {nx a n j : Nat} {f : Nat → Int64} {x : Int64} (hr : rows.find? (fun q => q.1 == pc) = some (pc, pmW (fLast nx))) (hM : M.1 a = some (.inl (1, n, .inr f))) (hj : j < n) (hn : Nat.ble n 2000000 = true) (kk : ∀ M2, M2 = up M a (.inl (1, n, .inr (vp_updL f j x))) → Ev ad d rows (nx, L, st, M2) P) : Ev ad d rows (pc, L, .long x :: .int (nI j) :: .ref a :: st, M) P := etl hr hM hj hn (kk _ rfl)
theorem etxM {t nx a n j : Nat} {f : Nat → Int32} {x : Int32} (hr : rows.find? (fun q => q.1 == pc) = some (pc, pmW (fAst t nx))) (hM : M.1 a = some (.inl (t, n, .inl f))) (hj : j < n) (hn : Nat.ble n 2000000 = true) (kk : ∀ M2, M2 = up M a (.inl (t, n, .inl (upd f j (narT t x)))) → Ev ad d rows (nx, L, st, M2) P) : Ev ad d rows (pc, L, .int x :: .int (nI j) :: .ref a :: st, M) P := etx hr hM hj hn (kk _ rfl)
/-- System.arraycopy -/
theorem ecp {nx a0 a n0 n1 sp dp n : Nat} {f g : Nat → Int32} (hr : rows.find? (fun q => q.1 == pc) = some (pc, pmW (fCpy nx))) (h0 : M.1 a0 = some (.inl (0, n0, .inl f))) (h1 : M.1 a = some (.inl (0, n1, .inl g))) (hs : sp + n ≤ n0) (hd : dp + n ≤ n1) (hn0 : Nat.ble n0 2000000 = true) (hn1 : Nat.ble n1 2000000 = true) (hc : Nat.ble (csum st) 8 = true) (kk : ∀ M2, M2 = up M a (.inl (0, n1, .inl (va_cpy f g sp dp n))) → Ev ad d rows (nx, L, st, M2) P) : Ev ad d rows (pc, L, .int (nI n) :: .int (nI dp) :: .ref a :: .int (nI sp) :: .ref a0 :: st, M) P := by
  have g0 := Nat.ble_eq.mp hn0
  have g1 := Nat.ble_eq.mp hn1
  refine ew hr ?_ (kk _ rfl)
  simp only [fCpy, h0, h1]
  have e1 : (nI sp).toNatClampNeg = sp := nI_clamp (by omega)
  have e2 : (nI dp).toNatClampNeg = dp := nI_clamp (by omega)
  have e3 : (nI n).toNatClampNeg = n := nI_clamp (by omega)
  rw [if_pos ⟨trivial, trivial, nI_pos (by omega), nI_pos (by omega), nI_pos (by omega), by rw [e1, e3]; exact hs, by rw [e2, e3]; exact hd, Nat.ble_eq.mp hc⟩, e1, e2, e3]
end EVN
theorem up_k {M M2 : Mm} {a b : Nat} {x : Ce} {y : Option Ce} (e : M2 = up M a x) (h : M.1 b = y) (hne : b ≠ a) : M2.1 b = y := by rw [e, up_n _ _ hne]; exact h
theorem up_w {M M2 : Mm} {a : Nat} {x : Ce} (e : M2 = up M a x) : M2.1 a = some x := by rw [e, up_s]
/-- outside of n cells from lo on nothing has changed -/
def Fr (lo n : Nat) (M M' : Mm) : Prop := (∀ q, q < lo ∨ lo + n ≤ q → M'.1 q = M.1 q) ∧ M'.2 = M.2
theorem Fr.rf (lo n : Nat) (M : Mm) : Fr lo n M M := ⟨fun _ _ => rfl, rfl⟩
theorem Fr.up {lo n : Nat} {M0 M M2 : Mm} {a : Nat} {x : Ce} (h : Fr lo n M0 M) (e : M2 = up M a x) (h1 : lo ≤ a) (h2 : a < lo + n) : Fr lo n M0 M2 := by
  subst e
  refine ⟨fun q hq => ?_, h.2⟩
  rw [up_n _ _ (by omega)]
  exact h.1 q hq
theorem Fr.tr {lo n lo2 n2 : Nat} {M0 M M2 : Mm} (h : Fr lo n M0 M) (h2 : Fr lo2 n2 M M2) (a : lo ≤ lo2) (b : lo2 + n2 ≤ lo + n) : Fr lo n M0 M2 := ⟨fun q hq => (h2.1 q (by omega)).trans (h.1 q hq), h2.2.trans h.2⟩
theorem Fr.wide {lo n lo2 n2 : Nat} {M0 M : Mm} (h : Fr lo n M0 M) (a : lo2 ≤ lo) (b : lo + n ≤ lo2 + n2) : Fr lo2 n2 M0 M := ⟨fun q hq => h.1 q (by omega), h.2⟩
theorem Fr.k {lo n : Nat} {M0 M : Mm} (h : Fr lo n M0 M) {b : Nat} {y : Option Ce} (hy : M0.1 b = y) (hb : b < lo ∨ lo + n ≤ b) : M.1 b = y := (h.1 b hb).trans hy
