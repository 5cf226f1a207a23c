/-! System.arraycopy of ints, constant texts -/
def fCpy (nx : Nat) : Fm → Option Fm := fun fr => match fr.2.2.1 with
  | .int n :: .int dp :: .ref a :: .int sp :: .ref a0 :: r => match fr.2.2.2.1 a0, fr.2.2.2.1 a with
    | some (.inl (t0, n0, .inl f)), some (.inl (t1, n1, .inl g)) => if t0 = 0 ∧ t1 = 0 ∧ ¬ sp < 0 ∧ ¬ dp < 0 ∧ ¬ n < 0 ∧ sp.toNatClampNeg + n.toNatClampNeg ≤ n0 ∧ dp.toNatClampNeg + n.toNatClampNeg ≤ n1 ∧ csum r ≤ 8 then some (nx, fr.2.1, r, up fr.2.2.2 a (.inl (0, n1, .inl (va_cpy f g sp.toNatClampNeg dp.toNatClampNeg n.toNatClampNeg)))) else none
    | _, _ => none
  | _ => none
theorem fCpy_inv {nx : Nat} {fr fr' : Fm} (h : fCpy nx fr = some fr') : ∃ (n dp sp : Int32) (a a0 : Nat) (r : List Value) (n0 n1 : Nat) (f g : Nat → Int32), fr.2.2.1 = .int n :: .int dp :: .ref a :: .int sp :: .ref a0 :: r ∧ fr.2.2.2.1 a0 = some (.inl (0, n0, .inl f)) ∧ fr.2.2.2.1 a = some (.inl (0, n1, .inl g)) ∧ (¬ sp < 0 ∧ ¬ dp < 0 ∧ ¬ n < 0 ∧ sp.toNatClampNeg + n.toNatClampNeg ≤ n0 ∧ dp.toNatClampNeg + n.toNatClampNeg ≤ n1 ∧ csum r ≤ 8) ∧ fr' = (nx, fr.2.1, r, up fr.2.2.2 a (.inl (0, n1, .inl (va_cpy f g sp.toNatClampNeg dp.toNatClampNeg n.toNatClampNeg)))) := by
  unfold fCpy at h
  split at h
  · rename_i n dp a sp a0 r e1
    split at h
    · rename_i t0 n0 f t1 n1 g e2 e3
      split at h
      · rename_i hc
        obtain ⟨ec, ed, hc⟩ := hc
        subst ec; subst ed
        cases h
        exact ⟨n, dp, sp, a, a0, r, n0, n1, f, g, e1, e2, e3, hc, rfl⟩
      · cases h
    · cases h
  · cases h
section PRM
variable {mt : List Mi} {cc : ByteArray} {nL : Nat} {own nm : String} {ad : Nat → Nat} {ret : Option FieldType} {pc : Nat}
set_option maxHeartbeats 1000000 in
theorem ok_cpy {ix : Nat} (hd : decode cc pc = .ok (.invokestatic ix, 3)) (hl : Cond.methodLink own ix arraycopyName ∈ T0) (hna : Cond.native arraycopyName ∈ T0) (hsta : Cond.static arraycopyName ∈ T0) (hini : Cond.initialized "java/lang/System" ∈ T0) : pmG mt cc nL own nm ad ret (pc, pmW (fCpy (pc + 3))) := by
  refine pm_w (fun L st M fr' hf => ?_) fun X hC L st M fr' hf _ _ hS => ?_
  · obtain ⟨n, dp, sp, a, a0, r, n0, n1, f, g, -, -, -, -, rfl⟩ := fCpy_inv hf
    exact pmLe.rf M
  · obtain ⟨n, dp, sp, a, a0, r, n0, n1, f, g, e1, e2, e3, ⟨h1, h2, h3, h4, h5, h6⟩, rfl⟩ := fCpy_inv hf
    intro ls H locs k' n' hL hR hk' hn
    dsimp only at e1
    subst e1
    have hts := hC.2.2.2.2.1
    have hK := hC.2.2.2.2.2.1.1
    have nn : ∀ z : Int32, ¬ z < 0 → z.toInt = (z.toNatClampNeg : Int) := by
      intro z hz
      have hz0 : (0 : Int) ≤ z.toInt := by
        have := Int32.not_lt.mp hz
        simpa using Int32.le_iff_toInt_le.mp this
      show z.toInt = ((z.toInt.toNat : Nat) : Int)
      omega
    have hc0 : H[a0]? = some (vp_cell (X.Gx.2.1 0) (n0, .inl f)) := (pm_arr hR e2).1
    have hc1 : H[a]? = some (vp_cell (X.Gx.2.1 0) (n1, .inl g)) := (pm_arr hR e3).1
    have hA := (pm_arr hR e3).2
    intro T hT Y
    obtain ⟨-, k0, hk0, cm0, hkk0⟩ := (hK.2 0 _ rfl).1 n0 (fun j => .int (f j))
    obtain ⟨-, k1, hk1, cm1, hkk1⟩ := (hK.2 0 _ rfl).1 n1 (fun j => .int (g j))
    obtain ⟨vm', X', step⟩ := Y.arraycopy hC.1 hC.2.2.2.1 (hts _ hl) (hts _ hna) (hts _ hsta) (hts _ hini) (src := a0) (dst := a) (cs := vp_cell (X.Gx.2.1 0) (n0, .inl f)) (cd := vp_cell (X.Gx.2.1 0) (n1, .inl g)) (srcPos := sp) (destPos := dp) (n := n) (by rw [hT]; exact hc0) (by rw [hT]; exact hc1)
      (fun _ h => by cases h) (fun _ h => by cases h) (fun h => by cases h) (fun h => by cases h) hk0 hk1 hkk0 hkk1 (by simp [refKind]) h1 h2 h3
      (by rw [nn sp h1, nn n h3]; show ¬ _ > ((arrV _ n0 (fun j => .int (f j))).slots.size : Int); rw [arrV_size]; omega)
      (by rw [nn dp h2, nn n h3]; show ¬ _ > ((arrV _ n1 (fun j => .int (g j))).slots.size : Int); rw [arrV_size]; omega)
      (fun vm₁ _ i hi => by
        have e : (vp_cell (X.Gx.2.1 0) (n0, .inl f)).slots.getD (sp.toNatClampNeg + i) .null = .int (f (sp.toNatClampNeg + i)) := by
          show (arrV _ n0 (fun j => .int (f j))).slots.getD _ _ = _
          rw [Array.getD_eq_getD_getElem?, arrV_read _ _ (by omega)]
          rfl
        refine ⟨?_, ?_⟩
        · rw [e]
          rfl
        · rw [e]
          exact trivial)
      (g := F0 X.Me pc ls (.int n :: .int dp :: .ref a :: .int sp :: .ref a0 :: r)) rfl (by show ls.size = _; rw [hL.1, hC.2.2.1]) (rest := r) rfl (by rw [hC.2.1]; exact hd) (Nat.le_trans (by decide) hC.2.2.2.2.2.2.2.2.1) (by
        have h60 := hC.2.2.2.2.2.2.2.2.2.1
        have hnf : nativeFrameWords "java/lang/System" "arraycopy" 5 + 11 ≤ 50 := by decide
        show 2 * 0 + csum r + _ ≤ _
        omega)
    have e9 : copied (vp_cell (X.Gx.2.1 0) (n0, .inl f)) (vp_cell (X.Gx.2.1 0) (n1, .inl g)) sp dp n = vp_cell (X.Gx.2.1 0) (n1, .inl (va_cpy f g sp.toNatClampNeg dp.toNatClampNeg n.toNatClampNeg)) := va_copied (fun z => .int z) _ _ f g h4
    rw [e9] at X' step
    have hl9 : a < H.size := (Array.getElem?_eq_some_iff.mp hc1).1
    have hheap : ((T.setVm vm').setCell a (vp_cell (X.Gx.2.1 0) (n1, .inl (va_cpy f g sp.toNatClampNeg dp.toNatClampNeg n.toNatClampNeg)))).heap = H.setIfInBounds a (vp_cell (X.Gx.2.1 0) (n1, .inl (va_cpy f g sp.toNatClampNeg dp.toNatClampNeg n.toNatClampNeg))) := by rw [← hT]; rfl
    have oq : ∀ q : Nat, q ≠ a → (H.setIfInBounds a (vp_cell (X.Gx.2.1 0) (n1, .inl (va_cpy f g sp.toNatClampNeg dp.toNatClampNeg n.toNatClampNeg))))[q]? = H[q]? := fun q hq => by simp [Array.getElem?_setIfInBounds, Ne.symm hq]
    have hup := pm_up (L2 := []) hR hA (x := .inl (0, n1, .inl (va_cpy f g sp.toNatClampNeg dp.toNatClampNeg n.toNatClampNeg))) (H1 := H.setIfInBounds a (vp_cell (X.Gx.2.1 0) (n1, .inl (va_cpy f g sp.toNatClampNeg dp.toNatClampNeg n.toNatClampNeg)))) (by show (H.setIfInBounds a _)[a]? = some _; simp [Array.getElem?_setIfInBounds, hl9]) (by simp) oq (fun q hq => by cases hq)
    have hR' := hup
    obtain ⟨t, a1, b1⟩ := hS ls _ _ k' n' hL ⟨hR'.1, hR'.2.1, hR'.2.2.1, hR'.2.2.2.1, fun q hq => by
      rcases List.mem_append.mp hq with h | h
      · exact hR.2.2.2.2 q h
      · obtain ⟨z, -, hz⟩ := List.mem_map.mp h
        rw [← hz]; exact hA⟩ hk' hn _ hheap X'
    exact ⟨t, step t a1, b1⟩
/-- a constant text is loaded -/
theorem ok_lds {ix i : Nat} {tx : String} (hd : decode cc pc = .ok (.ldc ix, 2)) (hw : (own, ix, tx, i) ∈ SRs) : pmG mt cc nL own nm ad ret (pc, ns (fPush (.ref (ad i)) (pc + 2))) := by
  refine pm_ns fun X hC L st r hr H locs k n kk ls hL => ?_
  cases hr
  have h1 := hC.2.2.2.2.2.1.2.2.2 _ hw
  dsimp only at h1
  rw [hC.2.2.2.2.2.2.2.2.2.2.2] at h1
  exact va_ldcS hC.1 hC.2.1 hC.2.2.2.1 h1 hd (kk ls hL)
theorem pm_ldcwS {p : Program} {l : Launch} {e : Env} {R : Room} {s : State} {m : MethodId} {args : Array Value} {below : List Frame} {meth : Method} {c : Code} {T : State} {locs : List Loc} {cells slots : Nat}
    (X : Stand p l e R s m args below meth c T locs cells slots) (hexec : p.tables.exec = Jvm.exec) {own text : String} {index : Nat} {a : Addr} (hown : s.vm.findClass own = some m.cls)
    (hconst : (Cond.stringRef own index text).before #[] s = true) (hev : (Term.string own index).eval #[] s none [] s = some (.ref a)) {g : JFrame} (hg : g.method = m) (hdg : decode c.code g.pc = .ok (.ldc_w index, 3)) :
    ∀ target, Steps p.tables e below (T.setTop { g with pc := g.pc + 3, stack := .ref a :: g.stack }) target → Steps p.tables e below (T.setTop g) target := by
  obtain ⟨k, cf, i, a', hk, hcf, hcp, -, hr, hev'⟩ := Cond.stringRef_spec hown hconst
  cases hev.symm.trans hev'
  obtain ⟨k', hk', he⟩ := X.warmed.alike.2.2 _ _ hk
  have hr' : k'.resolved[index]? = some (some (.string a)) := by
    rcases X.warmed.entry hk hk' index with h | ⟨h, -⟩
    · rw [h]; exact hr
    · rw [hr] at h; cases h
  intro target hrest
  subst hg
  jvm_step X.here [hexec, hdg, ldc_w.wp_string (e := e) (s := T) (f := g) X.here.top hk' (by rw [he]; exact hcf) hcp hr']
  exact hrest
theorem ok_ldsw {ix i : Nat} {tx : String} (hd : decode cc pc = .ok (.ldc_w ix, 3)) (hw : (own, ix, tx, i) ∈ SRs) : pmG mt cc nL own nm ad ret (pc, ns (fPush (.ref (ad i)) (pc + 3))) := by
  refine pm_ns fun X hC L st r hr H locs k n kk ls hL => ?_
  cases hr
  have h1 := hC.2.2.2.2.2.1.2.2.2 _ hw
  dsimp only at h1
  rw [hC.2.2.2.2.2.2.2.2.2.2.2] at h1
  intro T hT Y
  obtain ⟨t, a1, b1⟩ := kk ls hL T hT Y
  exact ⟨t, pm_ldcwS Y hC.1 hC.2.2.2.1 (text := tx) h1.1 h1.2 (g := F0 X.Me pc ls st) rfl (by rw [hC.2.1]; exact hd) t a1, b1⟩
def fSlen (nx : Nat) : Fm → Option Fm := fun fr => match fr.2.2.1 with
  | .ref a :: r => match fr.2.2.2.1 a with
    | some (.inr (c, _)) => if 1000 ≤ c ∧ csum r ≤ 8 then match sLen[c - 1000]? with
      | some n => some (nx, fr.2.1, .int (nI n) :: r, fr.2.2.2)
      | none => none
      else none
    | _ => none
  | _ => none
def fSchr (nx : Nat) : Fm → Option Fm := fun fr => match fr.2.2.1 with
  | .int k :: .ref a :: r => match fr.2.2.2.1 a with
    | some (.inr (c, _)) => if 1000 ≤ c ∧ csum r ≤ 8 ∧ ¬ k < 0 then match sByt[c - 1000]? with
      | some bs => match bs[k.toNatClampNeg]? with
        | some b => some (nx, fr.2.1, .int b :: r, fr.2.2.2)
        | none => none
      | none => none
      else none
    | _ => none
  | _ => none
end PRM
