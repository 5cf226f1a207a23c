/-! final fields in constructors, arrays, new cells -/
section CEL
variable {mt : List Mi} {cc : ByteArray} {nL : Nat} {own nm : String} {ad : Nat → Nat} {ret : Option FieldType} {pc : Nat}
theorem ok_putF {ix ci k N : Nat} {C : String} {T : u_T} {ty : Nat → FieldType} {t : FieldType} (hd : decode cc pc = .ok (.putfield ix, 3)) (hc : clOk ci C T N ty) (hk : k < N) (hfin : (T k).2.2.2 = true) (hdecl : (T k).1 = own) (hnm : nm = "<init>") (ht : ty k = t) (hl : Cond.fieldLink own ix (T k).1 (T k).2.1 (T k).2.2.1 ∈ T0) : pmG mt cc nL own nm ad ret (pc, pmW (fPut ci k t (pc + 3))) := by
  subst ht
  refine pm_w (fun L st M fr' hf => ?_) fun X hC L st M fr' hf _ _ hS => ?_
  · obtain ⟨a, r, fs, v, -, -, -, -, rfl⟩ := fPut_inv hf
    exact pmLe.rf M
  · obtain ⟨a, r, fs, v, e1, e2, e3, e4, rfl⟩ := fPut_inv hf
    intro ls H locs k' n hL hR hk' hn
    obtain ⟨h1, hA⟩ := pm_obj hR e2 hc.lt
    dsimp only at e1
    subst e1
    obtain ⟨on, of⟩ := okt_ok e3
    have hts := hC.2.2.2.2.1
    have hK := hC.2.2.2.2.2.1.1
    have hown := hC.2.2.2.1
    have hap := va_apart (own := own) hts hc.2.1 ty hc.2.2.1 hc.2.2.2 hK hc.1
    obtain ⟨rr, g1, cell, q1, q2, q3, q4⟩ := h1
    have hr : rr = (C, T, N) := Option.some.inj (g1.symm.trans hc.1)
    subst hr
    obtain ⟨hSl, hfc, kC, hkC, hkind⟩ := hK.1 ci _ hc.1
    obtain ⟨cf, kf, fi, fd, hi, hsl⟩ := hSl k hk
    have hlay := hts _ (hc.2.1 _ (u_in_lay hk))
    unfold u_lay at hlay
    rw [if_pos hfin] at hlay
    have hst := (u_facts hfc hkC (u_lays hts hc.2.1 hk) hi).1
    have hcf : X.Me.cls = cf := by
      obtain ⟨_, _, c', _, _, _, -, -, hf', -, -, -, hown2, -⟩ := Cond.laysFinal_spec hlay
      have e1 : c' = cf := by have := hi.symm.trans hf'; simp at this; exact this.1.symm
      rw [hdecl] at hown2
      rw [← e1]; exact Option.some.inj (hown.symm.trans hown2)
    have h6 := u_fits hfc hkC hkind (Or.inr hlay) hi (hc.2.2.1 k hk) on of
    refine W.putFinK hC.1 hC.2.1 hown (hts _ hl) hi hst hcf (hC.2.2.2.2.2.2.2.2.2.2.1.trans hnm) (by rw [q2]; exact h6) q1 q3 (by rw [hsl]; exact k2_hasslot (q4 k hk)) rfl rfl hd fun H' e5 e6 e7 => ?_
    rw [hsl] at e5
    refine hS ls H' _ k' n hL (pm_up hR hA ⟨_, hc.1, t_OB.to (V := updV (vp_V fs) k v) ⟨_, e5, q2, q3, t_set q4 hap hk v⟩ (fun j _ => vp_updV_set e4 v j)⟩ e6 e7 (fun q hq => ?_)) hk' hn
    cases List.mem_singleton.mp hq; rfl
def fAld (t nx : Nat) : Fm → Option Fm := fun fr => match fr.2.2.1 with
  | .int i :: .ref a :: r => match fr.2.2.2.1 a with
    | some (.inl (t', n, .inl f)) => if t' = t ∧ ¬ (i < 0 ∨ n ≤ i.toNatClampNeg) then some (nx, fr.2.1, .int (f i.toNatClampNeg) :: r, fr.2.2.2) else none
    | _ => none
  | _ => none
theorem fAld_inv {t nx : Nat} {fr fr' : Fm} (h : fAld t nx fr = some fr') : ∃ (i : Int32) (a : Nat) (r : List Value) (n : Nat) (f : Nat → Int32), fr.2.2.1 = .int i :: .ref a :: r ∧ fr.2.2.2.1 a = some (.inl (t, n, .inl f)) ∧ vp_in i n ∧ fr' = (nx, fr.2.1, .int (f i.toNatClampNeg) :: r, fr.2.2.2) := by
  unfold fAld at h
  split at h
  · rename_i i a r e1
    split at h
    · rename_i t' n f e2
      split at h
      · rename_i hc
        obtain ⟨ec, h1⟩ := hc
        subst ec
        cases h
        exact ⟨i, a, r, n, f, e1, e2, h1, rfl⟩
      · cases h
    · cases h
  · cases h
def fLald (nx : Nat) : Fm → Option Fm := fun fr => match fr.2.2.1 with
  | .int i :: .ref a :: r => match fr.2.2.2.1 a with
    | some (.inl (t', n, .inr f)) => if t' = 1 ∧ ¬ (i < 0 ∨ n ≤ i.toNatClampNeg) then some (nx, fr.2.1, .long (f i.toNatClampNeg) :: r, fr.2.2.2) else none
    | _ => none
  | _ => none
theorem fLald_inv {nx : Nat} {fr fr' : Fm} (h : fLald nx fr = some fr') : ∃ (i : Int32) (a : Nat) (r : List Value) (n : Nat) (f : Nat → Int64), fr.2.2.1 = .int i :: .ref a :: r ∧ fr.2.2.2.1 a = some (.inl (1, n, .inr f)) ∧ vp_in i n ∧ fr' = (nx, fr.2.1, .long (f i.toNatClampNeg) :: r, fr.2.2.2) := by
  unfold fLald at h
  split at h
  · rename_i i a r e1
    split at h
    · rename_i t' n f e2
      split at h
      · rename_i hc
        obtain ⟨ec, h1⟩ := hc
        subst ec
        cases h
        exact ⟨i, a, r, n, f, e1, e2, h1, rfl⟩
      · cases h
    · cases h
  · cases h
theorem pm_P1 {g : Gm} {H : Heap} {a : Nat} {x : va_E} (h : va_at g.1 vwCl (a, x) H) : va_P g.1 vwCl [(a, x)] H := fun z q hz => by
  have : z = 0 := by have := (List.getElem?_eq_some_iff.mp hz).1; simp at this; exact this
  subst this; cases hz; exact h
theorem ok_iald (hd : decode cc pc = .ok (.iaload, 1)) : pmG mt cc nL own nm ad ret (pc, pmW (fAld 0 (pc + 1))) := by
  refine pm_w (fun L st M fr' hf => ?_) fun X hC L st M fr' hf _ _ hS => ?_
  · obtain ⟨i, a, r, n, f, -, -, -, rfl⟩ := fAld_inv hf
    exact pmLe.rf M
  · obtain ⟨i, a, r, n, f, e1, e2, e3, rfl⟩ := fAld_inv hf
    intro ls H locs k' n' hL hR hk' hn
    dsimp only at e1
    subst e1
    exact va_iald (D := X.Gx.1) hC.1 hC.2.1 hC.2.2.2.2.2.1.1 (pm_P1 (pm_arr hR e2).1) 0 0 rfl rfl e3 hd (hS ls H locs k' n' hL hR hk' hn)
theorem ok_cald (hd : decode cc pc = .ok (.caload, 1)) : pmG mt cc nL own nm ad ret (pc, pmW (fAld 2 (pc + 1))) := by
  refine pm_w (fun L st M fr' hf => ?_) fun X hC L st M fr' hf _ _ hS => ?_
  · obtain ⟨i, a, r, n, f, -, -, -, rfl⟩ := fAld_inv hf
    exact pmLe.rf M
  · obtain ⟨i, a, r, n, f, e1, e2, e3, rfl⟩ := fAld_inv hf
    intro ls H locs k' n' hL hR hk' hn
    dsimp only at e1
    subst e1
    exact va_cald (D := X.Gx.1) hC.1 hC.2.1 hC.2.2.2.2.2.1.1 (pm_P1 (pm_arr hR e2).1) 0 2 rfl rfl e3 hd (hS ls H locs k' n' hL hR hk' hn)
theorem ok_bald (hd : decode cc pc = .ok (.baload, 1)) : pmG mt cc nL own nm ad ret (pc, pmW (fAld 3 (pc + 1))) := by
  refine pm_w (fun L st M fr' hf => ?_) fun X hC L st M fr' hf _ _ hS => ?_
  · obtain ⟨i, a, r, n, f, -, -, -, rfl⟩ := fAld_inv hf
    exact pmLe.rf M
  · obtain ⟨i, a, r, n, f, e1, e2, e3, rfl⟩ := fAld_inv hf
    intro ls H locs k' n' hL hR hk' hn
    dsimp only at e1
    subst e1
    exact va_bald (D := X.Gx.1) hC.1 hC.2.1 hC.2.2.2.2.2.1.1 (pm_P1 (pm_arr hR e2).1) 0 3 rfl rfl e3 hd (hS ls H locs k' n' hL hR hk' hn)
theorem ok_lald (hd : decode cc pc = .ok (.laload, 1)) : pmG mt cc nL own nm ad ret (pc, pmW (fLald (pc + 1))) := by
  refine pm_w (fun L st M fr' hf => ?_) fun X hC L st M fr' hf _ _ hS => ?_
  · obtain ⟨i, a, r, n, f, -, -, -, rfl⟩ := fLald_inv hf
    exact pmLe.rf M
  · obtain ⟨i, a, r, n, f, e1, e2, e3, rfl⟩ := fLald_inv hf
    intro ls H locs k' n' hL hR hk' hn
    dsimp only at e1
    subst e1
    exact va_lald (D := X.Gx.1) hC.1 hC.2.1 hC.2.2.2.2.2.1.1 (pm_P1 (pm_arr hR e2).1) 0 1 rfl rfl e3 hd (hS ls H locs k' n' hL hR hk' hn)
/-- how a store narrows: ints stay -/
def narT (t : Nat) (x : Int32) : Int32 := if t = 2 then vp_nar .char x else if t = 3 then vp_nar .byte x else x
def fAst (t nx : Nat) : Fm → Option Fm := fun fr => match fr.2.2.1 with
  | .int x :: .int i :: .ref a :: r => match fr.2.2.2.1 a with
    | some (.inl (t', n, .inl f)) => if t' = t ∧ ¬ (i < 0 ∨ n ≤ i.toNatClampNeg) then some (nx, fr.2.1, r, up fr.2.2.2 a (.inl (t, n, .inl (upd f i.toNatClampNeg (narT t x))))) else none
    | _ => none
  | _ => none
theorem fAst_inv {t nx : Nat} {fr fr' : Fm} (h : fAst t nx fr = some fr') : ∃ (x i : Int32) (a : Nat) (r : List Value) (n : Nat) (f : Nat → Int32), fr.2.2.1 = .int x :: .int i :: .ref a :: r ∧ fr.2.2.2.1 a = some (.inl (t, n, .inl f)) ∧ vp_in i n ∧ fr' = (nx, fr.2.1, r, up fr.2.2.2 a (.inl (t, n, .inl (upd f i.toNatClampNeg (narT t x))))) := by
  unfold fAst at h
  split at h
  · rename_i x i a r e1
    split at h
    · rename_i t' n f e2
      split at h
      · rename_i hc
        obtain ⟨ec, h1⟩ := hc
        subst ec
        cases h
        exact ⟨x, i, a, r, n, f, e1, e2, h1, rfl⟩
      · cases h
    · cases h
  · cases h
def fLast (nx : Nat) : Fm → Option Fm := fun fr => match fr.2.2.1 with
  | .long x :: .int i :: .ref a :: r => match fr.2.2.2.1 a with
    | some (.inl (t', n, .inr f)) => if t' = 1 ∧ ¬ (i < 0 ∨ n ≤ i.toNatClampNeg) then some (nx, fr.2.1, r, up fr.2.2.2 a (.inl (1, n, .inr (vp_updL f i.toNatClampNeg x)))) else none
    | _ => none
  | _ => none
theorem fLast_inv {nx : Nat} {fr fr' : Fm} (h : fLast nx fr = some fr') : ∃ (x : Int64) (i : Int32) (a : Nat) (r : List Value) (n : Nat) (f : Nat → Int64), fr.2.2.1 = .long x :: .int i :: .ref a :: r ∧ fr.2.2.2.1 a = some (.inl (1, n, .inr f)) ∧ vp_in i n ∧ fr' = (nx, fr.2.1, r, up fr.2.2.2 a (.inl (1, n, .inr (vp_updL f i.toNatClampNeg x)))) := by
  unfold fLast at h
  split at h
  · rename_i x i a r e1
    split at h
    · rename_i t' n f e2
      split at h
      · rename_i hc
        obtain ⟨ec, h1⟩ := hc
        subst ec
        cases h
        exact ⟨x, i, a, r, n, f, e1, e2, h1, rfl⟩
      · cases h
    · cases h
  · cases h
theorem ok_iast (hd : decode cc pc = .ok (.iastore, 1)) : pmG mt cc nL own nm ad ret (pc, pmW (fAst 0 (pc + 1))) := by
  refine pm_w (fun L st M fr' hf => ?_) fun X hC L st M fr' hf _ _ hS => ?_
  · obtain ⟨x, i, a, r, n, f, -, -, -, rfl⟩ := fAst_inv hf
    exact pmLe.rf M
  · obtain ⟨x, i, a, r, n, f, e1, e2, e3, rfl⟩ := fAst_inv hf
    intro ls H locs k' n' hL hR hk' hn
    dsimp only at e1
    subst e1
    obtain ⟨h1, hA⟩ := pm_arr hR e2
    have hK := hC.2.2.2.2.2.1.1
    refine W.iast hC.1 hC.2.1 h1 ((hK.2 0 _ rfl).1 n (fun j => .int (f j))) (fun q => by cases q) (by show ¬ (i < 0 ∨ (arrV _ _ _).slots.size ≤ _); rw [arrV_size]; exact e3) rfl rfl hd fun H1 e z oq => ?_
    refine hS ls H1 _ k' n' hL (pm_up hR hA ?_ z oq (fun q hq => ?_)) hk' hn
    · show H1[a]? = some (vp_cell _ _)
      rw [e]
      show some ((vp_cell _ _).setSlot _ _) = _
      rw [vp_cell_i, vp_cell_i, arrV_store]
      congr 2
      funext q
      by_cases hq : q = i.toNatClampNeg
      · subst hq
        simp [updV, upd, narT]
      · simp [updV, upd, hq]
    · cases List.mem_singleton.mp hq; rfl
theorem ok_cast (hd : decode cc pc = .ok (.castore, 1)) : pmG mt cc nL own nm ad ret (pc, pmW (fAst 2 (pc + 1))) := by
  refine pm_w (fun L st M fr' hf => ?_) fun X hC L st M fr' hf _ _ hS => ?_
  · obtain ⟨x, i, a, r, n, f, -, -, -, rfl⟩ := fAst_inv hf
    exact pmLe.rf M
  · obtain ⟨x, i, a, r, n, f, e1, e2, e3, rfl⟩ := fAst_inv hf
    intro ls H locs k' n' hL hR hk' hn
    dsimp only at e1
    subst e1
    obtain ⟨h1, hA⟩ := pm_arr hR e2
    have hK := hC.2.2.2.2.2.1.1
    refine W.cast hC.1 hC.2.1 h1 ((hK.2 2 _ rfl).1 n (fun j => .int (f j))) (fun q => by cases q) (by show ¬ (i < 0 ∨ (arrV _ _ _).slots.size ≤ _); rw [arrV_size]; exact e3) rfl rfl hd fun H1 e z oq => ?_
    refine hS ls H1 _ k' n' hL (pm_up hR hA ?_ z oq (fun q hq => ?_)) hk' hn
    · show H1[a]? = some (vp_cell _ _)
      rw [e]
      show some ((vp_cell _ _).setSlot _ _) = _
      rw [vp_cell_i, vp_cell_i, arrV_store]
      congr 2
      funext q
      by_cases hq : q = i.toNatClampNeg
      · subst hq
        (simp [updV, upd, narT, vp_nar]; try rfl)
      · simp [updV, upd, hq]
    · cases List.mem_singleton.mp hq; rfl
theorem ok_bast (hd : decode cc pc = .ok (.bastore, 1)) : pmG mt cc nL own nm ad ret (pc, pmW (fAst 3 (pc + 1))) := by
  refine pm_w (fun L st M fr' hf => ?_) fun X hC L st M fr' hf _ _ hS => ?_
  · obtain ⟨x, i, a, r, n, f, -, -, -, rfl⟩ := fAst_inv hf
    exact pmLe.rf M
  · obtain ⟨x, i, a, r, n, f, e1, e2, e3, rfl⟩ := fAst_inv hf
    intro ls H locs k' n' hL hR hk' hn
    dsimp only at e1
    subst e1
    obtain ⟨h1, hA⟩ := pm_arr hR e2
    have hK := hC.2.2.2.2.2.1.1
    refine W.bast hC.1 hC.2.1 h1 ((hK.2 3 _ rfl).1 n (fun j => .int (f j))) (fun q => by cases q) (by show ¬ (i < 0 ∨ (arrV _ _ _).slots.size ≤ _); rw [arrV_size]; exact e3) rfl rfl hd fun H1 e z oq => ?_
    refine hS ls H1 _ k' n' hL (pm_up hR hA ?_ z oq (fun q hq => ?_)) hk' hn
    · show H1[a]? = some (vp_cell _ _)
      rw [e]
      show some ((vp_cell _ _).setSlot _ _) = _
      rw [vp_cell_i, vp_cell_i, arrV_store]
      congr 2
      funext q
      by_cases hq : q = i.toNatClampNeg
      · subst hq
        (simp [updV, upd, narT, vp_nar]; try rfl)
      · simp [updV, upd, hq]
    · cases List.mem_singleton.mp hq; rfl
theorem ok_last (hd : decode cc pc = .ok (.lastore, 1)) : pmG mt cc nL own nm ad ret (pc, pmW (fLast (pc + 1))) := by
  refine pm_w (fun L st M fr' hf => ?_) fun X hC L st M fr' hf _ _ hS => ?_
  · obtain ⟨x, i, a, r, n, f, -, -, -, rfl⟩ := fLast_inv hf
    exact pmLe.rf M
  · obtain ⟨x, i, a, r, n, f, e1, e2, e3, rfl⟩ := fLast_inv hf
    intro ls H locs k' n' hL hR hk' hn
    dsimp only at e1
    subst e1
    obtain ⟨h1, hA⟩ := pm_arr hR e2
    have hK := hC.2.2.2.2.2.1.1
    refine W.last hC.1 hC.2.1 h1 ((hK.2 1 _ rfl).1 n (fun j => .long (f j))) (fun q => by cases q) (by show ¬ (i < 0 ∨ (arrV _ _ _).slots.size ≤ _); rw [arrV_size]; exact e3) rfl rfl hd fun H1 e z oq => ?_
    refine hS ls H1 _ k' n' hL (pm_up hR hA ?_ z oq (fun q hq => ?_)) hk' hn
    · show H1[a]? = some (vp_cell _ _)
      rw [e]
      show some ((vp_cell _ _).setSlot _ _) = _
      rw [vp_cell_l, vp_cell_l, arrV_store]
      congr 2
      funext q
      by_cases hq : q = i.toNatClampNeg
      · subst hq
        simp [updV, vp_updL]
      · simp [updV, vp_updL, hq]
    · cases List.mem_singleton.mp hq; rfl
def fAlen (nx : Nat) : Fm → Option Fm := fun fr => match fr.2.2.1 with
  | .ref a :: r => match fr.2.2.2.1 a with
    | some (.inl (0, n, .inl _)) => some (nx, fr.2.1, .int (Int32.ofNat n) :: r, fr.2.2.2)
    | _ => none
  | _ => none
theorem fAlen_inv {nx : Nat} {fr fr' : Fm} (h : fAlen nx fr = some fr') : ∃ (a : Nat) (r : List Value) (n : Nat) (f : Nat → Int32), fr.2.2.1 = .ref a :: r ∧ fr.2.2.2.1 a = some (.inl (0, n, .inl f)) ∧ fr' = (nx, fr.2.1, .int (Int32.ofNat n) :: r, fr.2.2.2) := by
  unfold fAlen at h
  split at h
  · rename_i a r e1
    split at h
    · rename_i n f e2
      cases h
      exact ⟨a, r, n, f, e1, e2, rfl⟩
    · cases h
  · cases h
theorem ok_alen (hd : decode cc pc = .ok (.arraylength, 1)) : pmG mt cc nL own nm ad ret (pc, pmW (fAlen (pc + 1))) := by
  refine pm_w (fun L st M fr' hf => ?_) fun X hC L st M fr' hf _ _ hS => ?_
  · obtain ⟨a, r, n, f, -, -, rfl⟩ := fAlen_inv hf
    exact pmLe.rf M
  · obtain ⟨a, r, n, f, e1, e2, rfl⟩ := fAlen_inv hf
    intro ls H locs k' n' hL hR hk' hn
    dsimp only at e1
    subst e1
    exact va_alen (D := X.Gx.1) hC.1 hC.2.1 hC.2.2.2.2.2.1.1 (pm_P1 (pm_arr hR e2).1) 0 0 rfl rfl rfl hd (hS ls H locs k' n' hL hR hk' hn)
/-! new cells -/
def fNew (ci N nx : Nat) (fs : List Value) : Fm → Option Fm := fun fr => some (nx, fr.2.1, .ref fr.2.2.2.2.1 :: fr.2.2.1, mkc fr.2.2.2 N (.inr (ci, fs)))
theorem ok_new {ix ci N : Nat} {C : String} {T : u_T} {ty : Nat → FieldType} {fs : List Value} (hd : decode cc pc = .ok (.new ix, 3)) (hc : clOk ci C T N ty) (hcl : Cond.classLink own ix C ∈ T0) (hin : Cond.instantiable C N ∈ T0) (hini : Cond.initialized C ∈ T0) (hfs : ∀ j, j < N → defaultValue (ty j) = vp_V fs j) : pmG mt cc nL own nm ad ret (pc, pmW (fNew ci N (pc + 3) fs)) := by
  refine pm_w (fun L st M fr' hf => ?_) fun X hC L st M fr' hf hb1 hb2 hS => ?_
  · cases hf
    exact ⟨Nat.le_succ _, Nat.le_succ _, Nat.le_add_right _ _⟩
  · cases hf
    intro ls H locs k' n' hL hR hk' hn
    have hts := hC.2.2.2.2.1
    have hKn := hC.2.2.2.2.2.1.1.1 ci _ hc.1
    have b1 : M.2.2.1 + 1 ≤ X.C0 + X.Ro.cells := hb1
    have b2 : M.2.2.2 + N ≤ X.S0 + X.Ro.slots := hb2
    dsimp only at hk' hn
    refine W.newcK hC.1 hC.2.1 hC.2.2.2.1 (hts _ hcl) (hts _ hin) (hts _ hini) rfl hd (by omega) (by omega) hKn.2.1 rfl fun H1 kC hkC e1 z1 o1 => ?_
    have hA := hC.2.2.2.2.2.2.2.1
    have h9 := hS ls H1 locs (k' + 1) (n' + N) hL (pm_mk hR hA (x := .inr (ci, fs)) ⟨_, hc.1, (u_born ty hts hc.2.1 hKn hkC e1 hc.2.2.1).to hfs⟩ z1 o1) (by show X.C0 + (k' + 1) = M.2.2.1 + 1; omega) (by show X.S0 + (n' + N) = M.2.2.2 + N; omega)
    have e9 : M.2.1 = H.size := hR.1.symm
    dsimp only at h9
    rw [e9] at h9
    exact h9
def fNwa (t nx : Nat) : Fm → Option Fm := fun fr => match fr.2.2.1 with
  | .int n :: r => if n < 0 ∨ 60000 < n.toNatClampNeg then none else some (nx, fr.2.1, .ref fr.2.2.2.2.1 :: r, mkc fr.2.2.2 n.toNatClampNeg (.inl (t, n.toNatClampNeg, if t = 1 then .inr (fun _ => 0) else .inl (fun _ => 0))))
  | _ => none
theorem fNwa_inv {t nx : Nat} {fr fr' : Fm} (h : fNwa t nx fr = some fr') : ∃ (n : Int32) (r : List Value), fr.2.2.1 = .int n :: r ∧ ¬ n < 0 ∧ n.toNatClampNeg ≤ 60000 ∧ fr' = (nx, fr.2.1, .ref fr.2.2.2.2.1 :: r, mkc fr.2.2.2 n.toNatClampNeg (.inl (t, n.toNatClampNeg, if t = 1 then .inr (fun _ => 0) else .inl (fun _ => 0)))) := by
  unfold fNwa at h
  split at h
  · rename_i n r e1
    split at h
    · cases h
    · rename_i hc
      cases h
      exact ⟨n, r, e1, fun q => hc (Or.inl q), Nat.not_lt.mp fun q => hc (Or.inr q), rfl⟩
  · cases h
theorem ok_nwa0 (hd : decode cc pc = .ok (.newarray .int, 2)) (ha : Cond.arrayClass .int ∈ T0) : pmG mt cc nL own nm ad ret (pc, pmW (fNwa 0 (pc + 2))) := by
  refine pm_w (fun L st M fr' hf => ?_) fun X hC L st M fr' hf hb1 hb2 hS => ?_
  · obtain ⟨n, r, -, -, -, rfl⟩ := fNwa_inv hf
    exact ⟨Nat.le_succ _, Nat.le_succ _, Nat.le_add_right _ _⟩
  · obtain ⟨n, r, e1, e2, e3, rfl⟩ := fNwa_inv hf
    intro ls H locs k' n' hL hR hk' hn
    dsimp only at e1
    subst e1
    have hts := hC.2.2.2.2.1
    have b1 : M.2.2.1 + 1 ≤ X.C0 + X.Ro.cells := hb1
    have b2 : M.2.2.2 + n.toNatClampNeg ≤ X.S0 + X.Ro.slots := hb2
    dsimp only at hk' hn
    refine va_newaK (atype := .int) hC.1 hC.2.1 (hts _ ha) rfl hd rfl e2 rfl (by show _ * componentBytes .int ≤ _; simp only [componentBytes]; omega) (by omega) (by omega) rfl fun H1 cA e4 z1 o1 hAr hNm => ?_
    have hcy : cA = X.Gx.2.1 0 := by
      have h5 := (hC.2.2.2.2.2.1.1.2 0 _ rfl).2
      exact Option.some.inj (hNm.symm.trans h5)
    subst hcy
    have hA := hC.2.2.2.2.2.2.2.1
    have h9 := hS ls H1 locs (k' + 1) (n' + n.toNatClampNeg) hL (pm_mk hR hA (by show H1[H.size]? = some (vp_cell _ _); rw [e4]; rfl) z1 o1) (by show X.C0 + (k' + 1) = M.2.2.1 + 1; omega) (by show X.S0 + (n' + n.toNatClampNeg) = M.2.2.2 + n.toNatClampNeg; omega)
    have e9 : M.2.1 = H.size := hR.1.symm
    dsimp only at h9
    rw [e9] at h9
    exact h9
theorem ok_nwa1 (hd : decode cc pc = .ok (.newarray .long, 2)) (ha : Cond.arrayClass .long ∈ T0) : pmG mt cc nL own nm ad ret (pc, pmW (fNwa 1 (pc + 2))) := by
  refine pm_w (fun L st M fr' hf => ?_) fun X hC L st M fr' hf hb1 hb2 hS => ?_
  · obtain ⟨n, r, -, -, -, rfl⟩ := fNwa_inv hf
    exact ⟨Nat.le_succ _, Nat.le_succ _, Nat.le_add_right _ _⟩
  · obtain ⟨n, r, e1, e2, e3, rfl⟩ := fNwa_inv hf
    intro ls H locs k' n' hL hR hk' hn
    dsimp only at e1
    subst e1
    have hts := hC.2.2.2.2.1
    have b1 : M.2.2.1 + 1 ≤ X.C0 + X.Ro.cells := hb1
    have b2 : M.2.2.2 + n.toNatClampNeg ≤ X.S0 + X.Ro.slots := hb2
    dsimp only at hk' hn
    refine va_newaK (atype := .long) hC.1 hC.2.1 (hts _ ha) rfl hd rfl e2 rfl (by show _ * componentBytes .long ≤ _; simp only [componentBytes]; omega) (by omega) (by omega) rfl fun H1 cA e4 z1 o1 hAr hNm => ?_
    have hcy : cA = X.Gx.2.1 1 := by
      have h5 := (hC.2.2.2.2.2.1.1.2 1 _ rfl).2
      exact Option.some.inj (hNm.symm.trans h5)
    subst hcy
    have hA := hC.2.2.2.2.2.2.2.1
    have h9 := hS ls H1 locs (k' + 1) (n' + n.toNatClampNeg) hL (pm_mk hR hA (by show H1[H.size]? = some (vp_cell _ _); rw [e4]; rfl) z1 o1) (by show X.C0 + (k' + 1) = M.2.2.1 + 1; omega) (by show X.S0 + (n' + n.toNatClampNeg) = M.2.2.2 + n.toNatClampNeg; omega)
    have e9 : M.2.1 = H.size := hR.1.symm
    dsimp only at h9
    rw [e9] at h9
    exact h9
theorem ok_nwa2 (hd : decode cc pc = .ok (.newarray .char, 2)) (ha : Cond.arrayClass .char ∈ T0) : pmG mt cc nL own nm ad ret (pc, pmW (fNwa 2 (pc + 2))) := by
  refine pm_w (fun L st M fr' hf => ?_) fun X hC L st M fr' hf hb1 hb2 hS => ?_
  · obtain ⟨n, r, -, -, -, rfl⟩ := fNwa_inv hf
    exact ⟨Nat.le_succ _, Nat.le_succ _, Nat.le_add_right _ _⟩
  · obtain ⟨n, r, e1, e2, e3, rfl⟩ := fNwa_inv hf
    intro ls H locs k' n' hL hR hk' hn
    dsimp only at e1
    subst e1
    have hts := hC.2.2.2.2.1
    have b1 : M.2.2.1 + 1 ≤ X.C0 + X.Ro.cells := hb1
    have b2 : M.2.2.2 + n.toNatClampNeg ≤ X.S0 + X.Ro.slots := hb2
    dsimp only at hk' hn
    refine va_newaK (atype := .char) hC.1 hC.2.1 (hts _ ha) rfl hd rfl e2 rfl (by show _ * componentBytes .char ≤ _; simp only [componentBytes]; omega) (by omega) (by omega) rfl fun H1 cA e4 z1 o1 hAr hNm => ?_
    have hcy : cA = X.Gx.2.1 2 := by
      have h5 := (hC.2.2.2.2.2.1.1.2 2 _ rfl).2
      exact Option.some.inj (hNm.symm.trans h5)
    subst hcy
    have hA := hC.2.2.2.2.2.2.2.1
    have h9 := hS ls H1 locs (k' + 1) (n' + n.toNatClampNeg) hL (pm_mk hR hA (by show H1[H.size]? = some (vp_cell _ _); rw [e4]; rfl) z1 o1) (by show X.C0 + (k' + 1) = M.2.2.1 + 1; omega) (by show X.S0 + (n' + n.toNatClampNeg) = M.2.2.2 + n.toNatClampNeg; omega)
    have e9 : M.2.1 = H.size := hR.1.symm
    dsimp only at h9
    rw [e9] at h9
    exact h9
theorem ok_nwa3 (hd : decode cc pc = .ok (.newarray .byte, 2)) (ha : Cond.arrayClass .byte ∈ T0) : pmG mt cc nL own nm ad ret (pc, pmW (fNwa 3 (pc + 2))) := by
  refine pm_w (fun L st M fr' hf => ?_) fun X hC L st M fr' hf hb1 hb2 hS => ?_
  · obtain ⟨n, r, -, -, -, rfl⟩ := fNwa_inv hf
    exact ⟨Nat.le_succ _, Nat.le_succ _, Nat.le_add_right _ _⟩
  · obtain ⟨n, r, e1, e2, e3, rfl⟩ := fNwa_inv hf
    intro ls H locs k' n' hL hR hk' hn
    dsimp only at e1
    subst e1
    have hts := hC.2.2.2.2.1
    have b1 : M.2.2.1 + 1 ≤ X.C0 + X.Ro.cells := hb1
    have b2 : M.2.2.2 + n.toNatClampNeg ≤ X.S0 + X.Ro.slots := hb2
    dsimp only at hk' hn
    refine va_newaK (atype := .byte) hC.1 hC.2.1 (hts _ ha) rfl hd rfl e2 rfl (by show _ * componentBytes .byte ≤ _; simp only [componentBytes]; omega) (by omega) (by omega) rfl fun H1 cA e4 z1 o1 hAr hNm => ?_
    have hcy : cA = X.Gx.2.1 3 := by
      have h5 := (hC.2.2.2.2.2.1.1.2 3 _ rfl).2
      exact Option.some.inj (hNm.symm.trans h5)
    subst hcy
    have hA := hC.2.2.2.2.2.2.2.1
    have h9 := hS ls H1 locs (k' + 1) (n' + n.toNatClampNeg) hL (pm_mk hR hA (by show H1[H.size]? = some (vp_cell _ _); rw [e4]; rfl) z1 o1) (by show X.C0 + (k' + 1) = M.2.2.1 + 1; omega) (by show X.S0 + (n' + n.toNatClampNeg) = M.2.2.2 + n.toNatClampNeg; omega)
    have e9 : M.2.1 = H.size := hR.1.symm
    dsimp only at h9
    rw [e9] at h9
    exact h9
end CEL
