/-! calls, returns -/
theorem pm_lo {d nL : Nat} {M M' : Mm} {R : Nat} (h : 60 * (d + 6) ≤ R) (hn : nL ≤ 40) : 8 + (nL + 11) + (pmRm d M M').locals ≤ R := by
  have h2 : 60 * (d + 6) = 60 * (d + 5) + 60 := Nat.mul_succ 60 (d + 5)
  rw [h2] at h
  unfold pmRm
  dsimp only
  generalize 60 * (d + 5) = q at h ⊢
  omega
theorem pm_fr {d : Nat} {M M' : Mm} {R : Nat} (h : d + 6 ≤ R) : (pmRm d M M').frames + 1 ≤ R := by
  unfold pmRm
  dsimp only
  omega
abbrev csum (r : List Value) : Nat := (r.map fun v => v.category).sum
theorem pm_call {X : Cxt} {nL : Nat} {L : Lc} {rest : List Value} {H : Heap} {locs : List Loc} {k n mc ms pc : Nat} {M' : Mm} {v : Option Value} {ls : Array Slot} {st0 : List Value}
    (hr : va_Run X.P X.Lh X.En X.Ro X.St X.Me X.Ar X.Be X.Mt X.Cd H locs k n mc ms (F0 X.Me pc ls st0) rest (fun st o t => o = .returned v ∧ pmR X.Gx X.Ow st.heap M' t.heap []) X.Ow)
    (hS : va_S X.Ow X.St.heap H locs) (hmc : X.C0 + (k + mc) = M'.2.2.1) (hms : X.S0 + (n + ms) = M'.2.2.2) (hL : pmL nL ls L) (hk : pmS X nL (pc + 3, L, v.toList ++ rest, M')) : WX X H locs k n (F0 X.Me pc ls st0) := by
  intro T hT Y
  obtain ⟨v', st₀, t, T', L', h0, X', hL', e1, e2, ⟨hv, hR⟩, go⟩ := hr T hT Y
  cases hv
  rw [h0] at hR
  have hsz := hR.2.2.1
  have hR2 : pmR X.Gx X.Ow X.St.heap M' T'.heap (locs ++ L') := by
    rw [e1]
    refine ⟨hR.1, hR.2.1, Nat.le_trans hS.1 hsz, fun q h1 h2 => ?_, fun q hq => ?_⟩
    · rw [hR.2.2.2.1 q (Nat.lt_of_lt_of_le h1 hS.1) h2]
      exact hS.2.1 q h1 h2
    · rcases List.mem_append.mp hq with h | h
      · exact hS.2.2 q h
      · exact hL' q h
  obtain ⟨t2, a1, b1⟩ := hk ls T'.heap (locs ++ L') (k + mc) (n + ms) hL hR2 hmc hms T' rfl X'
  exact ⟨t2, go t2 a1, b1⟩
theorem pm_blind {g : Gm} {A : Nat → Prop} {as : List Value} {M : Mm} : FrameBlind (va_Pc as (fun U => pmR g A U.heap M U.heap [] ∧ pmK g U ∧ pmX g A U U.heap ∧ ∀ q, U.heap.size ≤ q → A q)) := by
  intro a U fr mk h
  obtain ⟨h0, h1, h2, h3, h4⟩ := h
  exact ⟨h0, h1, pmK.same rfl h2, pmX.moved (u := U) (U := U.calling fr mk a) (Vm.Alike.refl U.vm) h3, h4⟩
theorem pm_pre {X : Cxt} {cc : ByteArray} {nL : Nat} {own nm : String} {ad : Nat → Nat} (hC : pmC X cc nL own nm ad) {M : Mm} {H : Heap} {locs : List Loc} (hR : pmR X.Gx X.Ow X.St.heap M H locs) (as : List Value) (U : State) (hU : U.heap = H) (hW : X.St.WarmedH U.vm) : va_Pc as (fun U => pmR X.Gx X.Ow U.heap M U.heap [] ∧ pmK X.Gx U ∧ pmX X.Gx X.Ow U U.heap ∧ ∀ q, U.heap.size ≤ q → X.Ow q) as.toArray U := by
  refine ⟨rfl, ?_, hC.2.2.2.2.2.1.warm hW, ?_, fun q hq => hC.2.2.2.2.2.2.2.1 q (Nat.le_trans hR.2.2.1 (by rw [hU] at hq; exact hq))⟩
  · rw [hU]
    exact ⟨hR.1, hR.2.1, Nat.le_refl _, fun _ _ _ => rfl, fun _ h => by cases h⟩
  · rw [hU]
    exact pmX.moved hW.alike (pmX.kept hC.2.2.2.2.2.2.1 hR.2.2.2.1)
theorem mi_good {i : Mi} (h : Cond.code i.y i.cc i.nL i.ret ∈ T0) : GoodIn T0 i.ws := fun w hw => by
  rcases List.mem_cons.mp hw with e | e
  · rw [e]; exact T0_good _ h
  · exact T0_good _ e
/-- what a call's own words say: the callee's code, its class, its number of parameters -/
def caOk (i : Mi) (n : Nat) : Prop := Cond.code i.y i.cc i.nL i.ret ∈ T0 ∧ Cond.initialized i.y.cls ∈ T0 ∧ i.y.cls ≠ "java/lang/invoke/MethodHandle" ∧ i.y.cls ≠ "java/lang/invoke/VarHandle" ∧ (parseMethodDescriptor i.y.desc).map (fun d => d.parameters.length) = some n
def fCv (j n ci nx : Nat) : Ins := fun fr => match fr.2.2.1.drop n with
  | .ref b :: r => match fr.2.2.2.1 b with
    | some (.inr (c, _)) => if c = ci ∧ csum r ≤ 8 then some (.inr (.inl (j, .ref b :: (fr.2.2.1.take n).reverse, (nx, fr.2.1, r, fr.2.2.2)))) else none
    | _ => none
  | _ => none
theorem fCv_inv {j n ci nx : Nat} {fr : Fm} {r : Rs} (h : fCv j n ci nx fr = some r) : ∃ (b : Nat) (rest : List Value) (fs : List Value), fr.2.2.1.drop n = .ref b :: rest ∧ fr.2.2.2.1 b = some (.inr (ci, fs)) ∧ csum rest ≤ 8 ∧ r = .inr (.inl (j, .ref b :: (fr.2.2.1.take n).reverse, (nx, fr.2.1, rest, fr.2.2.2))) := by
  unfold fCv at h
  split at h
  · rename_i b rest e1
    split at h
    · rename_i c fs e2
      split at h
      · rename_i hc
        obtain ⟨ec, h1⟩ := hc
        subst ec
        cases h
        exact ⟨b, rest, fs, e1, e2, h1, rfl⟩
      · cases h
    · cases h
  · cases h
theorem pm_stack {st rest : List Value} {n b : Nat} (h : st.drop n = .ref b :: rest) : st = ((st.take n).reverse).reverse ++ .ref b :: rest ∧ ((st.take n).reverse).length = n := by
  rw [List.reverse_reverse, ← h, List.take_append_drop, List.length_reverse, List.length_take]
  refine ⟨rfl, Nat.min_eq_left ?_⟩
  rcases Nat.lt_or_ge n st.length with q | q
  · omega
  · rw [List.drop_eq_nil_of_le q] at h; cases h
section CAL
variable {mt : List Mi} {cc : ByteArray} {nL : Nat} {own nm : String} {ad : Nat → Nat} {ret : Option FieldType} {pc : Nat}
theorem ok_callv {ix j n ci N : Nat} {i : Mi} {C : String} {T : u_T} {ty : Nat → FieldType} (hd : decode cc pc = .ok (.invokevirtual ix, 3)) (hj : mt[j]? = some i) (hc : clOk ci C T N ty) (hC' : i.y.cls = C) (ha : caOk i n) (hl : Cond.methodLink own ix i.y ∈ T0) (hin : Cond.instanceMethod i.y ∈ T0) (hse : Cond.selects C i.y i.y ∈ T0) : pmG mt cc nL own nm ad ret (pc, fCv j n ci (pc + 3)) := by
  refine ⟨fun L st M => ⟨fun fr' hf => ?_, fun j' as fr' hf => ?_, fun v M1 hf => ?_⟩, fun X hC L st M => ⟨fun fr' hf => ?_, fun j' as fr' hf i' d v M' hj' hnl hfr hlo hmet hle hb1 hb2 hS => ?_, fun v M1 hf => ?_⟩⟩
  all_goals (obtain ⟨b, rest, fs, e1, e2, e3, e4⟩ := fCv_inv hf; cases e4)
  · rfl
  · intro ls H locs k n' hL hR hk hn
    have hii : i = i' := Option.some.inj (hj.symm.trans hj')
    subst hii
    dsimp only at e1 e2 hk hn ⊢
    obtain ⟨s1, s2⟩ := pm_stack e1
    have hts := hC.2.2.2.2.1
    obtain ⟨h1, -⟩ := pm_obj hR e2 hc.lt
    have hrecv := va_recv (q := (C, T, N)) hC.2.2.2.2.2.1.1 (pm_P1 h1) hc.1 (q0 := 0) rfl
    have hm1 := hle.2.1
    have hm2 := hle.2.2
    refine pm_call (L := L) (rest := rest) (M' := M') (v := v) (mc := M'.2.2.1 - M.2.2.1) (ms := M'.2.2.2 - M.2.2.2) (va_runV (As := (st.take n).reverse) (rest := rest) (C := C) ⟨hC.1, hC.2.1, hC.2.2.1, hC.2.2.2.1, hts⟩ hmet ⟨callB_of n hts (mi_good ha.1) rfl rfl rfl (hts _ ha.2.1) (hts _ hl) ha.2.2 ⟨pm_fr hfr, pm_lo hlo hnl⟩, hts _ hin, hts _ hse⟩ ⟨pm_blind, hrecv, fun U hU hW => pm_pre hC hR _ U hU hW⟩ rfl s2 hL.1 s1 (lv_room e3) hd ⟨by omega, by omega⟩) hR.2.2 (by omega) (by omega) hL hS
/-- static calls, and constructors: the arguments lie on the stack, the last uppermost -/
def fCs (j n nx : Nat) : Ins := fun fr => if n ≤ fr.2.2.1.length ∧ csum (fr.2.2.1.drop n) ≤ 8 then some (.inr (.inl (j, (fr.2.2.1.take n).reverse, (nx, fr.2.1, fr.2.2.1.drop n, fr.2.2.2)))) else none
theorem fCs_inv {j n nx : Nat} {fr : Fm} {r : Rs} (h : fCs j n nx fr = some r) : n ≤ fr.2.2.1.length ∧ csum (fr.2.2.1.drop n) ≤ 8 ∧ r = .inr (.inl (j, (fr.2.2.1.take n).reverse, (nx, fr.2.1, fr.2.2.1.drop n, fr.2.2.2))) := by
  unfold fCs at h
  split at h
  · rename_i hc
    cases h
    exact ⟨hc.1, hc.2, rfl⟩
  · cases h
theorem pm_stack2 {st : List Value} {n : Nat} (h : n ≤ st.length) : st = ((st.take n).reverse).reverse ++ st.drop n ∧ ((st.take n).reverse).length = n := by
  rw [List.reverse_reverse, List.take_append_drop, List.length_reverse, List.length_take]
  exact ⟨rfl, Nat.min_eq_left h⟩
theorem ok_calls {ix j n : Nat} {i : Mi} (hd : decode cc pc = .ok (.invokestatic ix, 3)) (hj : mt[j]? = some i) (ha : caOk i n) (hl : Cond.methodLink own ix i.y ∈ T0) (hst : Cond.static i.y ∈ T0) : pmG mt cc nL own nm ad ret (pc, fCs j n (pc + 3)) := by
  refine ⟨fun L st M => ⟨fun fr' hf => ?_, fun j' as fr' hf => ?_, fun v M1 hf => ?_⟩, fun X hC L st M => ⟨fun fr' hf => ?_, fun j' as fr' hf i' d v M' hj' hnl hfr hlo hmet hle hb1 hb2 hS => ?_, fun v M1 hf => ?_⟩⟩
  all_goals (obtain ⟨e1, e3, e4⟩ := fCs_inv hf; cases e4)
  · rfl
  · intro ls H locs k n' hL hR hk hn
    have hii : i = i' := Option.some.inj (hj.symm.trans hj')
    subst hii
    dsimp only at e1 e3 hk hn ⊢
    obtain ⟨s1, s2⟩ := pm_stack2 e1
    have hts := hC.2.2.2.2.1
    have hm1 := hle.2.1
    have hm2 := hle.2.2
    refine pm_call (L := L) (rest := st.drop n) (M' := M') (v := v) (mc := M'.2.2.1 - M.2.2.1) (ms := M'.2.2.2 - M.2.2.2) (va_runS (As := (st.take n).reverse) (rest := st.drop n) ⟨hC.1, hC.2.1, hC.2.2.1, hC.2.2.2.1, hts⟩ hmet ⟨callB_of n hts (mi_good ha.1) rfl rfl rfl (hts _ ha.2.1) (hts _ hl) ha.2.2 ⟨pm_fr hfr, pm_lo hlo hnl⟩, hts _ hst⟩ ⟨pm_blind, fun U hU hW => pm_pre hC hR _ U hU hW⟩ rfl s2 hL.1 s1 (lv_room e3) hd ⟨by omega, by omega⟩) hR.2.2 (by omega) (by omega) hL hS
theorem ok_callsN {ix j n : Nat} {i : Mi} {host : String} (hd : decode cc pc = .ok (.invokestatic ix, 3)) (hj : mt[j]? = some i) (ha : caOk i n) (hl : (own, ix, i.y, host) ∈ NWm) (hst : Cond.static i.y ∈ T0) : pmG mt cc nL own nm ad ret (pc, fCs j n (pc + 3)) := by
  refine ⟨fun L st M => ⟨fun fr' hf => ?_, fun j' as fr' hf => ?_, fun v M1 hf => ?_⟩, fun X hC L st M => ⟨fun fr' hf => ?_, fun j' as fr' hf i' d v M' hj' hnl hfr hlo hmet hle hb1 hb2 hS => ?_, fun v M1 hf => ?_⟩⟩
  all_goals (obtain ⟨e1, e3, e4⟩ := fCs_inv hf; cases e4)
  · rfl
  · intro ls H locs k n' hL hR hk hn
    have hii : i = i' := Option.some.inj (hj.symm.trans hj')
    subst hii
    dsimp only at e1 e3 hk hn ⊢
    obtain ⟨s1, s2⟩ := pm_stack2 e1
    have hts := hC.2.2.2.2.1
    have hm1 := hle.2.1
    have hm2 := hle.2.2
    refine pm_call (L := L) (rest := st.drop n) (M' := M') (v := v) (mc := M'.2.2.1 - M.2.2.1) (ms := M'.2.2.2 - M.2.2.2) (va_runSN (As := (st.take n).reverse) (rest := st.drop n) ⟨hC.1, hC.2.1, hC.2.2.1, hC.2.2.2.1, hts⟩ hmet ⟨va_cnB n hts (mi_good ha.1) rfl rfl rfl (hC.2.2.2.2.2.1.2.2.1 _ hl) (hts _ ha.2.1) ha.2.2 ⟨pm_fr hfr, pm_lo hlo hnl⟩, hts _ hst, trivial⟩ ⟨pm_blind, fun U hU hW => pm_pre hC hR _ U hU hW⟩ rfl s2 hL.1 s1 (lv_room e3) hd ⟨by omega, by omega⟩) hR.2.2 (by omega) (by omega) hL hS
/-- a constructor is called: the new cell lies under the n arguments -/
def fCi (j n nx : Nat) : Ins := fun fr => match fr.2.2.1.drop n with
  | .ref b :: r => if csum r ≤ 8 then some (.inr (.inl (j, .ref b :: (fr.2.2.1.take n).reverse, (nx, fr.2.1, r, fr.2.2.2)))) else none
  | _ => none
theorem fCi_inv {j n nx : Nat} {fr : Fm} {r : Rs} (h : fCi j n nx fr = some r) : ∃ (b : Nat) (rest : List Value), fr.2.2.1.drop n = .ref b :: rest ∧ csum rest ≤ 8 ∧ r = .inr (.inl (j, .ref b :: (fr.2.2.1.take n).reverse, (nx, fr.2.1, rest, fr.2.2.2))) := by
  unfold fCi at h
  split at h
  · rename_i b rest e1
    split at h
    · rename_i hc
      cases h
      exact ⟨b, rest, e1, hc, rfl⟩
    · cases h
  · cases h
theorem ok_calli {ix j n : Nat} {i : Mi} (hd : decode cc pc = .ok (.invokespecial ix, 3)) (hj : mt[j]? = some i) (hr : i.ret = none) (hy : i.y.name = "<init>") (ha : caOk i n) (hl : Cond.methodLink own ix i.y ∈ T0) (hin : Cond.instanceMethod i.y ∈ T0) : pmG mt cc nL own nm ad ret (pc, fCi j n (pc + 3)) := by
  refine ⟨fun L st M => ⟨fun fr' hf => ?_, fun j' as fr' hf => ?_, fun v M1 hf => ?_⟩, fun X hC L st M => ⟨fun fr' hf => ?_, fun j' as fr' hf i' d v M' hj' hnl hfr hlo hmet hle hb1 hb2 hS => ?_, fun v M1 hf => ?_⟩⟩
  all_goals (obtain ⟨b, rest, e1, e3, e4⟩ := fCi_inv hf; cases e4)
  · rfl
  · intro ls H locs k n' hL hR hk hn
    have hii : i = i' := Option.some.inj (hj.symm.trans hj')
    subst hii
    dsimp only at e1 hk hn ⊢
    obtain ⟨s1, s2⟩ := pm_stack e1
    have hts := hC.2.2.2.2.1
    have hm1 := hle.2.1
    have hm2 := hle.2.2
    have hw : i.ws = Cond.code i.y i.cc i.nL none :: T0 := by unfold Mi.ws; rw [hr]
    refine pm_call (L := L) (rest := rest) (M' := M') (v := v) (mc := M'.2.2.1 - M.2.2.1) (ms := M'.2.2.2 - M.2.2.2) (va_runI (As := (st.take n).reverse) (rest := rest) ⟨hC.1, hC.2.1, hC.2.2.1, hC.2.2.2.1, hts⟩ hmet ⟨callB_of n hts (mi_good ha.1) hw rfl rfl (hts _ ha.2.1) (hts _ hl) ha.2.2 ⟨pm_fr hfr, pm_lo hlo hnl⟩, hy, hts _ hin⟩ ⟨pm_blind, fun U hU hW => pm_pre hC hR _ U hU hW⟩ rfl s2 hL.1 s1 (lv_room e3) hd ⟨by omega, by omega⟩) hR.2.2 (by omega) (by omega) hL hS
theorem ok_calliN {ix j n : Nat} {i : Mi} {host : String} (hd : decode cc pc = .ok (.invokespecial ix, 3)) (hj : mt[j]? = some i) (hr : i.ret = none) (hy : i.y.name = "<init>") (ha : caOk i n) (hl : (own, ix, i.y, host) ∈ NWm) (hin : Cond.instanceMethod i.y ∈ T0) : pmG mt cc nL own nm ad ret (pc, fCi j n (pc + 3)) := by
  refine ⟨fun L st M => ⟨fun fr' hf => ?_, fun j' as fr' hf => ?_, fun v M1 hf => ?_⟩, fun X hC L st M => ⟨fun fr' hf => ?_, fun j' as fr' hf i' d v M' hj' hnl hfr hlo hmet hle hb1 hb2 hS => ?_, fun v M1 hf => ?_⟩⟩
  all_goals (obtain ⟨b, rest, e1, e3, e4⟩ := fCi_inv hf; cases e4)
  · rfl
  · intro ls H locs k n' hL hR hk hn
    have hii : i = i' := Option.some.inj (hj.symm.trans hj')
    subst hii
    dsimp only at e1 hk hn ⊢
    obtain ⟨s1, s2⟩ := pm_stack e1
    have hts := hC.2.2.2.2.1
    have hm1 := hle.2.1
    have hm2 := hle.2.2
    have hw : i.ws = Cond.code i.y i.cc i.nL none :: T0 := by unfold Mi.ws; rw [hr]
    refine pm_call (L := L) (rest := rest) (M' := M') (v := v) (mc := M'.2.2.1 - M.2.2.1) (ms := M'.2.2.2 - M.2.2.2) (va_runIN (As := (st.take n).reverse) (rest := rest) ⟨hC.1, hC.2.1, hC.2.2.1, hC.2.2.2.1, hts⟩ hmet ⟨va_cnB n hts (mi_good ha.1) hw rfl rfl (hC.2.2.2.2.2.1.2.2.1 _ hl) (hts _ ha.2.1) ha.2.2 ⟨pm_fr hfr, pm_lo hlo hnl⟩, hy, hts _ hin⟩ ⟨pm_blind, fun U hU hW => pm_pre hC hR _ U hU hW⟩ rfl s2 hL.1 s1 (lv_room e3) hd ⟨by omega, by omega⟩) hR.2.2 (by omega) (by omega) hL hS
/-! Object's constructor -/
def fObj (nx : Nat) : Fs := fun L st => match st with
  | .ref _ :: r => if csum r ≤ 8 then some (nx, L, r) else none
  | _ => none
theorem ok_obj {ix : Nat} (hd : decode cc pc = .ok (.invokespecial ix, 3)) (hl : Cond.methodLink own ix objectInit ∈ T0) (hin : Cond.instanceMethod objectInit ∈ T0) (hco : Cond.code objectInit ⟨#[0xb1]⟩ 1 none ∈ T0) : pmG mt cc nL own nm ad ret (pc, ns (fObj (pc + 3))) := by
  refine pm_ns fun X hC L st r hr H locs k n kk ls hL => ?_
  unfold fObj at hr
  split at hr
  · split at hr
    · rename_i hc
      cases hr
      have hts := hC.2.2.2.2.1
      have h60 := hC.2.2.2.2.2.2.2.2.2.1
      exact W.objInit hC.1 hC.2.1 hC.2.2.2.1 (hts _ hl) (hts _ hin) (hts _ hco) rfl (by show ls.size = _; rw [hL.1, hC.2.2.1]) rfl hd (Nat.le_trans (by decide) hC.2.2.2.2.2.2.2.2.1) (by show 2 * 0 + csum _ + 12 ≤ _; omega) (kk ls hL)
    · cases hr
  · cases hr
/-! returns -/
def fRv : Ins := fun fr => match fr.2.2.1 with
  | [] => some (.inr (.inr (none, fr.2.2.2)))
  | _ => none
def fRi : Ins := fun fr => match fr.2.2.1 with
  | [.int x] => some (.inr (.inr (some (.int x), fr.2.2.2)))
  | _ => none
def fRz : Ins := fun fr => match fr.2.2.1 with
  | [.int x] => if x = 0 ∨ x = 1 then some (.inr (.inr (some (.int x), fr.2.2.2))) else none
  | _ => none
def fRl : Ins := fun fr => match fr.2.2.1 with
  | [.long x] => some (.inr (.inr (some (.long x), fr.2.2.2)))
  | _ => none
def fRa : Ins := fun fr => match fr.2.2.1 with
  | [.ref x] => some (.inr (.inr (some (.ref x), fr.2.2.2)))
  | _ => none
theorem pm_ret {f : Ins} (h : ∀ (L : Lc) (st : List Value) (M : Mm) (r : Rs), f (pc, L, st, M) = some r → ∃ v : Option Value, r = .inr (.inr (v, M)) ∧ st = v.toList ∧ pmRet cc ret pc v) : pmG mt cc nL own nm ad ret (pc, f) := by
  refine ⟨fun L st M => ⟨fun fr' hf => ?_, fun j as fr' hf => ?_, fun v M1 hf => ?_⟩, fun X hC L st M => ⟨fun fr' hf => ?_, fun j as fr' hf => ?_, fun v M1 hf => ?_⟩⟩
  all_goals (obtain ⟨v9, e1, e2, e3⟩ := h L st M _ hf; cases e1)
  · rfl
  · exact ⟨rfl, e2, e3⟩
theorem ok_rv (hd : decode cc pc = .ok (.return_, 1)) (hr : ret = none) : pmG mt cc nL own nm ad ret (pc, fRv) := by
  refine pm_ret fun L st M r hf => ?_
  unfold fRv at hf
  split at hf
  · rename_i e; cases hf; exact ⟨none, rfl, e, Or.inl ⟨rfl, hr, hd⟩⟩
  · cases hf
theorem ok_ri (hd : decode cc pc = .ok (.ireturn, 1)) (hr : ret = some .int) : pmG mt cc nL own nm ad ret (pc, fRi) := by
  refine pm_ret fun L st M r hf => ?_
  unfold fRi at hf
  split at hf
  · rename_i x e; cases hf; exact ⟨some (.int x), rfl, e, Or.inr (Or.inl ⟨x, .int, rfl, hr, rfl, hd⟩)⟩
  · cases hf
theorem ok_rz (hd : decode cc pc = .ok (.ireturn, 1)) (hr : ret = some .boolean) : pmG mt cc nL own nm ad ret (pc, fRz) := by
  refine pm_ret fun L st M r hf => ?_
  unfold fRz at hf
  split at hf
  · rename_i x e
    split at hf
    · rename_i hx
      cases hf
      refine ⟨some (.int x), rfl, e, Or.inr (Or.inl ⟨x, .boolean, rfl, hr, ?_, hd⟩)⟩
      rcases hx with rfl | rfl <;> rfl
    · cases hf
  · cases hf
theorem ok_rl (hd : decode cc pc = .ok (.lreturn, 1)) (hr : ret = some .long) : pmG mt cc nL own nm ad ret (pc, fRl) := by
  refine pm_ret fun L st M r hf => ?_
  unfold fRl at hf
  split at hf
  · rename_i x e; cases hf; exact ⟨some (.long x), rfl, e, Or.inr (Or.inr (Or.inl ⟨x, rfl, hr, hd⟩))⟩
  · cases hf
theorem ok_ra {n : String} (hd : decode cc pc = .ok (.areturn, 1)) (hr : ret = some (.object n)) : pmG mt cc nL own nm ad ret (pc, fRa) := by
  refine pm_ret fun L st M r hf => ?_
  unfold fRa at hf
  split at hf
  · rename_i x e; cases hf; exact ⟨some (.ref x), rfl, e, Or.inr (Or.inr (Or.inr ⟨x, _, rfl, hr, Or.inl ⟨n, rfl⟩, hd⟩))⟩
  · cases hf
end CAL
