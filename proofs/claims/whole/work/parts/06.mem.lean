/-! rows that read or write cells -/
def clOk (ci : Nat) (C : String) (T : u_T) (N : Nat) (ty : Nat → FieldType) : Prop := vwCl[ci]? = some (C, T, N) ∧ (∀ w ∈ u_ws C T N, w ∈ T0) ∧ (∀ k, k < N → parseFieldDescriptor (T k).2.2.1 = some (ty k)) ∧ ∀ a, a < N → ∀ b, b < N → a ≠ b → (T a).2.1 ≠ (T b).2.1
theorem clOk.lt {ci : Nat} {C : String} {T : u_T} {N : Nat} {ty : Nat → FieldType} (h : clOk ci C T N ty) : ci < 1000 := by
  have h1 := (List.getElem?_eq_some_iff.mp h.1).1
  have h2 : vwCl.length = 14 := rfl
  omega
theorem pm_obj {g : Gm} {A : Nat → Prop} {H0 : Heap} {M : Mm} {H : Heap} {locs : List Loc} (h : pmR g A H0 M H locs) {a ci : Nat} {fs : List Value} (ha : M.1 a = some (.inr (ci, fs))) (hc : ci < 1000) : va_at g.1 vwCl (a, .inr (ci, fs)) H ∧ A a := by
  rcases h.2.1 a _ ha with h1 | ⟨i, -, -, h3⟩
  · exact h1
  · cases h3; omega
theorem pm_arr {g : Gm} {A : Nat → Prop} {H0 : Heap} {M : Mm} {H : Heap} {locs : List Loc} (h : pmR g A H0 M H locs) {a : Nat} {x : Nat × Nat × ((Nat → Int32) ⊕ (Nat → Int64))} (ha : M.1 a = some (.inl x)) : va_at g.1 vwCl (a, toE g.2.1 (.inl x)) H ∧ A a := by
  rcases h.2.1 a _ ha with h1 | ⟨i, -, -, h3⟩
  · exact h1
  · cases h3
theorem pm_up {g : Gm} {A : Nat → Prop} {H0 : Heap} {M : Mm} {H : Heap} {locs L2 : List Loc} (h : pmR g A H0 M H locs) {a : Nat} (hA : A a) {x : Ce} {H1 : Heap} (he : va_at g.1 vwCl (a, toE g.2.1 x) H1) (hz : H1.size = H.size) (ho : ∀ q, q ≠ a → H1[q]? = H[q]?) (hl : ∀ q ∈ L2, q.base = a) : pmR g A H0 (up M a x) H1 (locs ++ L2) := by
  refine ⟨hz.trans h.1, fun b y hb => ?_, by rw [hz]; exact h.2.2.1, fun q h1 h2 => ?_, fun q hq => ?_⟩
  · dsimp only [up] at hb
    split at hb
    · rename_i e
      cases hb
      rw [e]
      exact Or.inl ⟨he, hA⟩
    · rename_i ne
      rcases h.2.1 b y hb with h1 | h1
      · exact Or.inl ⟨h1.1.kept (ho b ne), h1.2⟩
      · exact Or.inr h1
  · rw [ho q (fun e => h2 (by rw [e]; exact hA))]
    exact h.2.2.2.1 q h1 h2
  · rcases List.mem_append.mp hq with h1 | h1
    · exact h.2.2.2.2 q h1
    · rw [hl q h1]; exact hA
theorem pm_mk {g : Gm} {A : Nat → Prop} {H0 : Heap} {M : Mm} {H : Heap} {locs : List Loc} (h : pmR g A H0 M H locs) (hA : ∀ q, H0.size ≤ q → A q) {n : Nat} {x : Ce} {H1 : Heap} (he : va_at g.1 vwCl (H.size, toE g.2.1 x) H1) (hz : H1.size = H.size + 1) (ho : ∀ q, q < H.size → H1[q]? = H[q]?) : pmR g A H0 (mkc M n x) H1 locs := by
  have hsz := h.2.2.1
  refine ⟨by rw [hz, h.1]; rfl, fun b y hb => ?_, by omega, fun q h1 h2 => ?_, h.2.2.2.2⟩
  · dsimp only [mkc] at hb
    split at hb
    · rename_i e
      cases hb
      rw [e, ← h.1]
      exact Or.inl ⟨he, hA _ hsz⟩
    · rcases h.2.1 b y hb with h1 | h1
      · exact Or.inl ⟨h1.1.kept (ho b h1.1.lt), h1.2⟩
      · exact Or.inr h1
  · rw [ho q (by omega)]
    exact h.2.2.2.1 q h1 h2
/-- a row that goes on -/
theorem pm_nx {mt : List Mi} {cc : ByteArray} {nL : Nat} {own nm : String} {ad : Nat → Nat} {ret : Option FieldType} {pc : Nat} {f : Ins} (hn : ∀ fr r, f fr ≠ some (.inr r)) (hm : ∀ (L : Lc) (st : List Value) (M : Mm) (fr' : Fm), f (pc, L, st, M) = some (.inl fr') → pmLe M fr'.2.2.2)
    (h : ∀ X : Cxt, pmC X cc nL own nm ad → ∀ (L : Lc) (st : List Value) (M : Mm) (fr' : Fm), f (pc, L, st, M) = some (.inl fr') → fr'.2.2.2.2.2.1 ≤ X.C0 + X.Ro.cells → fr'.2.2.2.2.2.2 ≤ X.S0 + X.Ro.slots → pmS X nL fr' → pmS X nL (pc, L, st, M)) : pmG mt cc nL own nm ad ret (pc, f) :=
  ⟨fun L st M => ⟨hm L st M, fun j as fr' hf => absurd hf (hn _ _), fun v M1 hf => absurd hf (hn _ _)⟩, fun X hC L st M => ⟨h X hC L st M, fun j as fr' hf => absurd hf (hn _ _), fun v M1 hf => absurd hf (hn _ _)⟩⟩
abbrev nx3 (o : Option Fm) : Option Rs := match o with
  | some x => some (.inl x)
  | none => none
def pmW (f : Fm → Option Fm) : Ins := fun fr => nx3 (f fr)
theorem pmW_inl {f : Fm → Option Fm} {fr fr' : Fm} (h : pmW f fr = some (.inl fr')) : f fr = some fr' := by
  unfold pmW nx3 at h
  split at h
  · rename_i e; cases h; exact e
  · cases h
theorem pmW_inr {f : Fm → Option Fm} (fr : Fm) (r : (Nat × List Value × Fm) ⊕ (Option Value × Mm)) : pmW f fr ≠ some (.inr r) := by
  unfold pmW nx3
  split
  · intro h; cases h
  · intro h; cases h
theorem pm_w {mt : List Mi} {cc : ByteArray} {nL : Nat} {own nm : String} {ad : Nat → Nat} {ret : Option FieldType} {pc : Nat} {f : Fm → Option Fm} (hm : ∀ (L : Lc) (st : List Value) (M : Mm) (fr' : Fm), f (pc, L, st, M) = some fr' → pmLe M fr'.2.2.2)
    (h : ∀ X : Cxt, pmC X cc nL own nm ad → ∀ (L : Lc) (st : List Value) (M : Mm) (fr' : Fm), f (pc, L, st, M) = some fr' → fr'.2.2.2.2.2.1 ≤ X.C0 + X.Ro.cells → fr'.2.2.2.2.2.2 ≤ X.S0 + X.Ro.slots → pmS X nL fr' → pmS X nL (pc, L, st, M)) : pmG mt cc nL own nm ad ret (pc, pmW f) :=
  pm_nx pmW_inr (fun L st M fr' hf => hm L st M fr' (pmW_inl hf)) (fun X hC L st M fr' hf => h X hC L st M fr' (pmW_inl hf))
/-! fields -/
def fGet (ci k nx : Nat) : Fm → Option Fm := fun fr => match fr.2.2.1 with
  | .ref a :: r => match fr.2.2.2.1 a with
    | some (.inr (c, fs)) => if c = ci then match fs[k]? with
      | some v => some (nx, fr.2.1, v :: r, fr.2.2.2)
      | none => none
      else none
    | _ => none
  | _ => none
theorem fGet_inv {ci k nx : Nat} {fr fr' : Fm} (h : fGet ci k nx fr = some fr') : ∃ (a : Nat) (r : List Value) (fs : List Value) (v : Value), fr.2.2.1 = .ref a :: r ∧ fr.2.2.2.1 a = some (.inr (ci, fs)) ∧ fs[k]? = some v ∧ fr' = (nx, fr.2.1, v :: r, fr.2.2.2) := by
  unfold fGet at h
  split at h
  · rename_i a r e1
    split at h
    · rename_i c fs e2
      split at h
      · rename_i ec
        subst ec
        split at h
        · rename_i v e3
          cases h
          exact ⟨a, r, fs, v, e1, e2, e3, rfl⟩
        · cases h
      · cases h
    · cases h
  · cases h
def okt : FieldType → Value → Bool
  | .int, .int _ => true
  | .long, .long _ => true
  | .boolean, .int x => x == 0 || x == 1
  | .object _, .ref _ => true
  | .array _, .ref _ => true
  | _, _ => false
theorem okt_ok {ty : FieldType} {v : Value} (h : okt ty v = true) : narrow ty v = v ∧ fits ty v = true := by
  cases ty <;> cases v <;> simp_all [okt]
  all_goals first
    | exact ⟨rfl, rfl⟩
    | (rename_i x; rcases h with rfl | rfl <;> exact ⟨rfl, rfl⟩)
def fPut (ci k : Nat) (ty : FieldType) (nx : Nat) : Fm → Option Fm := fun fr => match fr.2.2.1 with
  | v :: .ref a :: r => match fr.2.2.2.1 a with
    | some (.inr (c, fs)) => if c = ci ∧ okt ty v = true ∧ k < fs.length then some (nx, fr.2.1, r, up fr.2.2.2 a (.inr (ci, fs.set k v))) else none
    | _ => none
  | _ => none
theorem fPut_inv {ci k nx : Nat} {ty : FieldType} {fr fr' : Fm} (h : fPut ci k ty nx fr = some fr') : ∃ (a : Nat) (r : List Value) (fs : List Value) (v : Value), fr.2.2.1 = v :: .ref a :: r ∧ fr.2.2.2.1 a = some (.inr (ci, fs)) ∧ okt ty v = true ∧ k < fs.length ∧ fr' = (nx, fr.2.1, r, up fr.2.2.2 a (.inr (ci, fs.set k v))) := by
  unfold fPut at h
  split at h
  · rename_i v a r e1
    split at h
    · rename_i c fs e2
      split at h
      · rename_i hc
        obtain ⟨ec, h1, h2⟩ := hc
        subst ec
        cases h
        exact ⟨a, r, fs, v, e1, e2, h1, h2, rfl⟩
      · cases h
    · cases h
  · cases h
section FLD
variable {mt : List Mi} {cc : ByteArray} {nL : Nat} {own nm : String} {ad : Nat → Nat} {ret : Option FieldType} {pc : Nat}
theorem ok_get {ix ci k N : Nat} {C : String} {T : u_T} {ty : Nat → FieldType} (hd : decode cc pc = .ok (.getfield ix, 3)) (hc : clOk ci C T N ty) (hk : k < N) (hl : Cond.fieldLink own ix (T k).1 (T k).2.1 (T k).2.2.1 ∈ T0) : pmG mt cc nL own nm ad ret (pc, pmW (fGet ci k (pc + 3))) := by
  refine pm_w (fun L st M fr' hf => ?_) fun X hC L st M fr' hf _ _ hS => ?_
  · obtain ⟨a, r, fs, v, -, -, -, rfl⟩ := fGet_inv hf
    exact pmLe.rf M
  · obtain ⟨a, r, fs, v, e1, e2, e3, rfl⟩ := fGet_inv hf
    intro ls H locs k' n hL hR hk' hn
    obtain ⟨h1, -⟩ := pm_obj hR e2 hc.lt
    have hP : va_P X.Gx.1 vwCl [(a, .inr (ci, fs))] H := fun z q hz => by
      have : z = 0 := by have := (List.getElem?_eq_some_iff.mp hz).1; simp at this; exact this
      subst this; cases hz; exact h1
    dsimp only at e1
    subst e1
    exact va_get (D := X.Gx.1) (ci := ci) (v := v) (C := C) (T := T) (N := N) hC.1 hC.2.1 hC.2.2.2.2.1 hc.2.1 hC.2.2.2.1 hC.2.2.2.2.2.1.1 hP 0 rfl hc.1 k hk (hC.2.2.2.2.1 _ hl) (fun _ h9 => h9) e3 hd (hS ls H locs k' n hL hR hk' hn)
theorem ok_getN {ix ci k N : Nat} {C host : String} {T : u_T} {ty : Nat → FieldType} (hd : decode cc pc = .ok (.getfield ix, 3)) (hc : clOk ci C T N ty) (hk : k < N) (hl : (own, ix, (T k).1, (T k).2.1, (T k).2.2.1, host) ∈ NWf) : pmG mt cc nL own nm ad ret (pc, pmW (fGet ci k (pc + 3))) := by
  refine pm_w (fun L st M fr' hf => ?_) fun X hC L st M fr' hf _ _ hS => ?_
  · obtain ⟨a, r, fs, v, -, -, -, rfl⟩ := fGet_inv hf
    exact pmLe.rf M
  · obtain ⟨a, r, fs, v, e1, e2, e3, rfl⟩ := fGet_inv hf
    intro ls H locs k' n hL hR hk' hn
    obtain ⟨h1, -⟩ := pm_obj hR e2 hc.lt
    have hP : va_P X.Gx.1 vwCl [(a, .inr (ci, fs))] H := fun z q hz => by
      have : z = 0 := by have := (List.getElem?_eq_some_iff.mp hz).1; simp at this; exact this
      subst this; cases hz; exact h1
    dsimp only at e1
    subst e1
    exact va_getN (D := X.Gx.1) (ci := ci) (v := v) (C := C) (T := T) (N := N) hC.1 hC.2.1 hC.2.2.2.2.1 hc.2.1 hC.2.2.2.1 hC.2.2.2.2.2.1.1 hP 0 rfl hc.1 k hk (va_Nw.use rfl (hC.2.2.2.2.2.1.2.1 _ hl)) (fun _ h9 => h9) e3 hd (hS ls H locs k' n hL hR hk' hn)
theorem ok_put {ix ci k N : Nat} {C : String} {T : u_T} {ty : Nat → FieldType} {t : FieldType} (hd : decode cc pc = .ok (.putfield ix, 3)) (hc : clOk ci C T N ty) (hk : k < N) (hfin : (T k).2.2.2 = false) (ht : ty k = t) (hl : Cond.fieldLink own ix (T k).1 (T k).2.1 (T k).2.2.1 ∈ T0) : pmG mt cc nL own nm ad ret (pc, pmW (fPut ci k t (pc + 3))) := by
  subst ht
  refine pm_w (fun L st M fr' hf => ?_) fun X hC L st M fr' hf _ _ hS => ?_
  · obtain ⟨a, r, fs, v, -, -, -, -, rfl⟩ := fPut_inv hf
    exact pmLe.rf M
  · obtain ⟨a, r, fs, v, e1, e2, e3, e4, rfl⟩ := fPut_inv hf
    intro ls H locs k' n hL hR hk' hn
    obtain ⟨h1, hA⟩ := pm_obj hR e2 hc.lt
    dsimp only at e1
    subst e1
    obtain ⟨on, of⟩ := okt_ok e3
    have hts := hC.2.2.2.2.1
    have hK := hC.2.2.2.2.2.1.1
    have hown := hC.2.2.2.1
    have hap := va_apart (own := own) hts hc.2.1 ty hc.2.2.1 hc.2.2.2 hK hc.1
    obtain ⟨rr, g1, cell, q1, q2, q3, q4⟩ := h1
    have hr : rr = (C, T, N) := Option.some.inj (g1.symm.trans hc.1)
    subst hr
    obtain ⟨hSl, hfc, kC, hkC, hkind⟩ := hK.1 ci _ hc.1
    obtain ⟨cf, kf, fi, fd, hi, hsl⟩ := hSl k hk
    have hlay := hts _ (hc.2.1 _ (u_in_lay hk))
    unfold u_lay at hlay
    rw [if_neg (by rw [hfin]; decide)] at hlay
    have hst := (u_facts hfc hkC (u_lays hts hc.2.1 hk) hi).1
    have h6 := u_store hfc hkC hkind hlay hi (hc.2.2.1 k hk) on of
    refine W.putK hC.1 hC.2.1 (f := fd) ⟨hown, hts _ hl, ⟨_, _, _, hi⟩, hst⟩ (by rw [q2]; exact h6) q1 q3 (by rw [hsl]; exact k2_hasslot (q4 k hk)) rfl rfl hd fun H' e5 e6 e7 => ?_
    rw [hsl] at e5
    refine hS ls H' _ k' n hL (pm_up hR hA ⟨_, hc.1, t_OB.to (V := updV (vp_V fs) k v) ⟨_, e5, q2, q3, t_set q4 hap hk v⟩ (fun j _ => vp_updV_set e4 v j)⟩ e6 e7 (fun q hq => ?_)) hk' hn
    cases List.mem_singleton.mp hq; rfl
theorem ok_putN {ix ci k N : Nat} {C host : String} {T : u_T} {ty : Nat → FieldType} {t : FieldType} (hd : decode cc pc = .ok (.putfield ix, 3)) (hc : clOk ci C T N ty) (hk : k < N) (hfin : (T k).2.2.2 = false) (ht : ty k = t) (hl : (own, ix, (T k).1, (T k).2.1, (T k).2.2.1, host) ∈ NWf) : pmG mt cc nL own nm ad ret (pc, pmW (fPut ci k t (pc + 3))) := by
  subst ht
  refine pm_w (fun L st M fr' hf => ?_) fun X hC L st M fr' hf _ _ hS => ?_
  · obtain ⟨a, r, fs, v, -, -, -, -, rfl⟩ := fPut_inv hf
    exact pmLe.rf M
  · obtain ⟨a, r, fs, v, e1, e2, e3, e4, rfl⟩ := fPut_inv hf
    intro ls H locs k' n hL hR hk' hn
    obtain ⟨h1, hA⟩ := pm_obj hR e2 hc.lt
    dsimp only at e1
    subst e1
    obtain ⟨on, of⟩ := okt_ok e3
    have hts := hC.2.2.2.2.1
    have hK := hC.2.2.2.2.2.1.1
    have hown := hC.2.2.2.1
    have hap := va_apart (own := own) hts hc.2.1 ty hc.2.2.1 hc.2.2.2 hK hc.1
    obtain ⟨rr, g1, cell, q1, q2, q3, q4⟩ := h1
    have hr : rr = (C, T, N) := Option.some.inj (g1.symm.trans hc.1)
    subst hr
    obtain ⟨hSl, hfc, kC, hkC, hkind⟩ := hK.1 ci _ hc.1
    obtain ⟨cf, kf, fi, fd, hi, hsl⟩ := hSl k hk
    have hlay := hts _ (hc.2.1 _ (u_in_lay hk))
    unfold u_lay at hlay
    rw [if_neg (by rw [hfin]; decide)] at hlay
    have hst := (u_facts hfc hkC (u_lays hts hc.2.1 hk) hi).1
    have h6 := u_store hfc hkC hkind hlay hi (hc.2.2.1 k hk) on of
    refine va_WputK hC.1 hC.2.1 (f := fd) hown (va_Nw.use rfl (hC.2.2.2.2.2.1.2.1 _ hl)) hi hst (by rw [q2]; exact h6) q1 q3 (by rw [hsl]; exact k2_hasslot (q4 k hk)) rfl rfl hd fun H' e5 e6 e7 => ?_
    rw [hsl] at e5
    refine hS ls H' _ k' n hL (pm_up hR hA ⟨_, hc.1, t_OB.to (V := updV (vp_V fs) k v) ⟨_, e5, q2, q3, t_set q4 hap hk v⟩ (fun j _ => vp_updV_set e4 v j)⟩ e6 e7 (fun q hq => ?_)) hk' hn
    cases List.mem_singleton.mp hq; rfl
end FLD
