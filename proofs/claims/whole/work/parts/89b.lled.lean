/-! The law's led: it catches what the class's led throws -/
def lledM (M : Mm) (o : Nat) (f : Nat → Int64) : Option Nat → Mm
  | some j => up (ledN M) o (.inl (1, 1, .inr (vp_updL f 0 (nI j).toInt64)))
  | none => ledM M
def lledV : Option Nat → Int32
  | some _ => 0
  | none => 1
theorem lledM_c (M : Mm) (o : Nat) (f : Nat → Int64) (r : Option Nat) : (lledM M o f r).2.2.1 = M.2.2.1 + 1 ∧ (lledM M o f r).2.2.2 = M.2.2.2 + 6 := by cases r <;> exact ⟨rfl, rfl⟩
def wsLL : List Cond := Cond.codeWith yL_led cL_led 4 (some .int) [(0, 9, 12, 13)] :: T0
abbrev lledR : Room := { frames := 7, cells := 1, slots := 6, locals := 420 }
theorem pm_r2 {g : Gm} {A : Nat → Prop} {H0 H H1 H2 : Heap} {M' : Mm} {locs L' : List Loc} (h : pmR g A H1 M' H2 []) (h0 : H1 = H) (hS : va_S A H0 H locs) (hL : ∀ q ∈ L', A q.base) : pmR g A H0 M' H2 (locs ++ L') := by
  subst h0
  refine ⟨h.1, h.2.1, Nat.le_trans hS.1 h.2.2.1, fun q h1 h2 => ?_, fun q hq => ?_⟩
  · rw [h.2.2.2.1 q (Nat.lt_of_lt_of_le h1 hS.1) h2]
    exact hS.2.1 q h1 h2
  · rcases List.mem_append.mp hq with q1 | q1
    · exact hS.2.2 q q1
    · exact hL q q1
section MLL
variable {l : Launch} {g : Gm} {A : Nat → Prop} {ad : Nat → Nat} {M : Mm} {b o : Nat} {σ : Sg} {C : Nat} {x : Int32} {f : Nat → Int64}
set_option maxHeartbeats 1000000 in
theorem m_lled (hl : l.stackTraces = false) (hg : g.2.2.1 = ad) (hX : XR M b σ) (hI : Inv σ C) (ho : M.1 o = some (.inl (1, 1, .inr f))) {r : Option Nat} (er : r = ledF σ.T σ.f x σ.T.np 0 0) : Met l yL_led wsLL lledR (va_Pc [.ref b, .int x, .ref o] (ledPre g A M)) (fun _ st o' t => o' = .returned (some (.int (lledV r))) ∧ pmR g A st.heap (lledM M o f r) t.heap []) 1 6 A := by
  refine va_MetW (hh := [(0, 9, 12, 13)]) (cc := cL_led) (maxL := 4) (ret := some .int) (by decide +kernel : plainName RL = true) rfl ?_
  intro p e s m args below meth c s₁ B hml hv
  obtain ⟨rfl, hR, hK, hXx, hA⟩ := hv
  have hts0 := atoms_spec (ws := wsLL) B.pre
  have htab : c.exceptionTable.toList = tableOf [(0, 9, 12, 13)] := vx_table (x := yL_led) B (hts0 _ List.mem_cons_self)
  have hfc : s.vm.findClass RL = some m.cls := findClass_of_methodNamed B.named
  have hr := B.returns
  have hlocks := B.notSynchronized
  rw [lg_entry_eq]
  have hlen : (pmIn [Value.ref b, .int x, .ref o]).length ≤ 4 := Nat.le_of_ble_eq_true rfl
  have hle := pmL_entry hlen
  generalize (lg_sl [Value.ref b, .int x, .ref o] ++ List.replicate (4 - (lg_sl [Value.ref b, .int x, .ref o]).length) Slot.unset).toArray = ls at hle ⊢
  let X : Cxt := ((p, l, e, (headSpec wsLL lledR).room, s), (m, [Value.ref b, .int x, .ref o].toArray, below, meth, c), MQ below (fun _ st o' t => o' = .returned (some (.int (lledV r))) ∧ pmR g A st.heap (lledM M o f r) t.heap []) [Value.ref b, .int x, .ref o].toArray s 1 6 A, A, g, M.2.2.1, M.2.2.2)
  have hts : ∀ w ∈ T0, w.before X.Ar X.St = true := fun w hw => hts0 w (List.mem_cons_of_mem _ hw)
  have hC : pmC X cL_led 4 RL "led" ad := ⟨B.exec, B.bytes, hml, hfc, hts, hK, hXx, hA, by show 5 ≤ 7; omega, by show 300 ≤ 420; omega, (name_of_methodNamed B.named B.method).1, hg⟩
  have hret : ∀ (pc : Nat) (L : Lc) (M' : Mm) (v : Int32), M' = lledM M o f r → v = lledV r → decode cL_led pc = .ok (.ireturn, 1) → pmS X 4 (pc, L, [.int v], M') := by
    rintro pc L M' v rfl rfl hd ls' H locs k n hL' hR' hk hn
    have h9 := lledM_c M o f r
    have hk1 : k = 1 := by have : M.2.2.1 + k = (lledM M o f r).2.2.1 := hk; omega
    have hn6 : n = 6 := by have : M.2.2.2 + n = (lledM M o f r).2.2.2 := hn; omega
    subst hk1; subst hn6
    show W p l e (headSpec wsLL lledR).room s m [Value.ref b, .int x, .ref o].toArray below meth c H locs 1 6 (MQ below (fun _ st o' t => o' = .returned (some (.int (lledV r))) ∧ pmR g A st.heap (lledM M o f r) t.heap []) [Value.ref b, .int x, .ref o].toArray s 1 6 A) (F0 m pc ls' [.int (lledV r)])
    refine W.iret B.exec B.bytes hr (fun t ht hW => ⟨rfl, ?_⟩) hR'.2.2.2.2 hd hlocks
    rw [ht]
    exact ⟨hR'.1, hR'.2.1, hR'.2.2.1, hR'.2.2.2.1, fun q hq => by cases hq⟩
  have b0 : M.2.2.1 ≤ X.C0 + X.Ro.cells := Nat.le_add_right _ _
  have b1 : M.2.2.2 ≤ X.S0 + X.Ro.slots := Nat.le_add_right _ _
  have c0 : M.2.2.1 + 1 ≤ X.C0 + X.Ro.cells := Nat.le_refl _
  have c1 : M.2.2.2 + 6 ≤ X.S0 + X.Ro.slots := Nat.le_refl _
  have k2 : ∀ j, r = some j → pmS X 4 (7, [some (.ref b), some (.int x), some (.ref o), none], [.int (nI j), .int 0, .ref o], ledN M) := by
    intro j hj
    refine ((ok_i2l (mt := []) (ret := none) (pc := 7) (by decide +kernel)).o2 hC).2.st (fr' := (8, [some (.ref b), some (.int x), some (.ref o), none], [.long (nI j).toInt64, .int 0, .ref o], ledN M)) rfl c0 c1 ?_
    refine ((ok_last (mt := []) (ret := none) (pc := 8) (by decide +kernel)).o2 hC).2.st (fr' := (9, [some (.ref b), some (.int x), some (.ref o), none], [], up (ledN M) o (.inl (1, 1, .inr (vp_updL f 0 (nI j).toInt64))))) ?_ c0 c1 ?_
    · unfold pmW nx3 fLast
      dsimp only
      rw [show (ledN M).1 o = some (.inl (1, 1, .inr f)) from ho]
      rfl
    refine ((ok_goto (mt := []) (ret := none) (pc := 9) (off := 6) (t := 15) (by decide +kernel) (by decide)).o2 hC).2.st (fr' := (15, [some (.ref b), some (.int x), some (.ref o), none], [], up (ledN M) o (.inl (1, 1, .inr (vp_updL f 0 (nI j).toInt64))))) rfl c0 c1 ?_
    refine ((ok_iconst (mt := []) (ret := none) (pc := 15) (n := 0) (v := 0) (by decide +kernel) (by decide)).o2 hC).2.st (fr' := (16, [some (.ref b), some (.int x), some (.ref o), none], [.int 0], up (ledN M) o (.inl (1, 1, .inr (vp_updL f 0 (nI j).toInt64))))) rfl c0 c1 ?_
    exact hret 16 _ _ _ (by rw [hj]; rfl) (by rw [hj]; rfl) (by decide +kernel)
  have k3 : r = none → ∀ q, pmS X 4 (12, [some (.ref b), some (.int x), some (.ref o), none], [.ref q], ledM M) := by
    intro hj q
    refine ((ok_astore_n (mt := []) (ret := none) (pc := 12) (j := 3) (i := 3) (by decide +kernel) rfl).o2 hC).2.st (fr' := (13, [some (.ref b), some (.int x), some (.ref o), some (.ref q)], [], ledM M)) rfl c0 c1 ?_
    refine ((ok_iconst (mt := []) (ret := none) (pc := 13) (n := 1) (v := 1) (by decide +kernel) (by decide)).o2 hC).2.st (fr' := (14, [some (.ref b), some (.int x), some (.ref o), some (.ref q)], [.int 1], ledM M)) rfl c0 c1 ?_
    exact hret 14 _ _ _ (by rw [hj]; rfl) (by rw [hj]; rfl) (by decide +kernel)
  have k1 : pmS X 4 (4, [some (.ref b), some (.int x), some (.ref o), none], [.int x, .ref b, .int 0, .ref o], M) := by
    intro ls' H locs k n hL' hR' hk hn
    dsimp only at hL' hR' hk hn ⊢
    have hk0 : k = 0 := by have : M.2.2.1 + k = M.2.2.1 := hk; omega
    have hn0 : n = 0 := by have : M.2.2.2 + n = M.2.2.2 := hn; omega
    subst hk0; subst hn0
    obtain ⟨tb, sp, hts9, h0, -⟩ := id hX
    unfold xTop at h0
    obtain ⟨h1, -⟩ := pm_obj hR' h0 (by decide)
    have hrecv := va_recv (q := (RX11, TX11, 10)) hK.1 (pm_P1 h1) clX11.1 (q0 := 0) rfl
    have hd4 : decode cL_led 4 = .ok (.invokevirtual 7, 3) := by decide +kernel
    have hrun := vx_runV (As := [.int x]) (rest := [.int 0, .ref o]) (g := F0 X.Me 4 ls' [.int x, .ref b, .int 0, .ref o]) (C := RX11) (locs := locs) (cells := 0) (slots := 0) (index := 7) (below := X.Be) (meth := X.Mt) (e := X.En) (R := X.Ro) (nL := 4) ⟨hC.1, hC.2.1, hC.2.2.1, hC.2.2.2.1, hts⟩ (m_led (l := l) (g := g) (A := A) (x := x) hl hg hX hI) ⟨callB_of 1 hts (mi_good (caX11_led ad).1) rfl rfl rfl (hts _ (caX11_led ad).2.1) (hts _ wt1245) (caX11_led ad).2.2 ⟨by show 6 + 1 ≤ 7; omega, by show 8 + (4 + 11) + 360 ≤ 420; omega⟩, hts _ wt1246, hts _ wt1247⟩ ⟨pm_blind, hrecv, fun U hU hW => pm_pre hC hR' _ U hU hW⟩ rfl rfl hL'.1 rfl (lv_room (Nat.le_of_ble_eq_true rfl)) hd4 ⟨by show 0 + 1 ≤ 1; omega, by show 0 + 6 ≤ 6; omega⟩
    intro T hT Y
    rcases hrun T hT Y with ⟨v, st₀, t, T', L', h2, X', hL2, e1, e2, ⟨⟨j, hj, hv⟩, hRt⟩, go⟩ | ⟨q, st₀, t, T', L', E, ce, h2, X', hL2, e1, e2, ⟨hj, rfl, hRt⟩, hce, hcv, hcl, st⟩
    · cases hv
      have hR2 : pmR g A X.St.heap (ledN M) T'.heap (locs ++ L') := by
        rw [e1]
        exact pm_r2 (M' := ledN M) (show pmR g A st₀.heap (ledN M) t.heap [] from hRt) h2 hR'.2.2 hL2
      obtain ⟨t2, a1, b1⟩ := k2 j (er.trans hj) ls' T'.heap (locs ++ L') 1 6 hL' hR2 rfl rfl T' rfl X'
      exact ⟨t2, go t2 a1, b1⟩
    · have hR2 : pmR g A X.St.heap (ledM M) T'.heap (locs ++ L') := by
        rw [e1]
        exact pm_r2 hRt h2 hR'.2.2 hL2
      have hca : (Cond.castable ns9 ns9).before X.Ar X.St = true := va_Nw.use (A := X.Ar) rfl (hXx.2.2.2.2.2.2 (ns9, ns9) List.mem_cons_self)
      obtain ⟨t2, a1, b1⟩ := (vy_catch (own := RL) (name := ns9) (E := ns9) (ce := ce) (q := q) (pc := 4) (ls := ls') (rest := [.int 0, .ref o]) hfc ⟨0, 9, 12, 13⟩ [] htab rfl (by decide) (hts _ wt1244) hca (by rw [e1]; exact hce) hcv hcl (k3 (er.trans hj) q ls' T'.heap (locs ++ L') 1 6 hL' hR2 rfl rfl)) T' rfl X'
      exact ⟨t2, st.trans a1, b1⟩
  have key : pmS X 4 (0, [some (.ref b), some (.int x), some (.ref o), none], [], M) := by
    refine ((ok_aload_n (mt := []) (ret := none) (pc := 0) (j := 2) (i := 2) (by decide +kernel) rfl).o2 hC).2.st (fr' := (1, [some (.ref b), some (.int x), some (.ref o), none], [.ref o], M)) rfl b0 b1 ?_
    refine ((ok_iconst (mt := []) (ret := none) (pc := 1) (n := 0) (v := 0) (by decide +kernel) (by decide)).o2 hC).2.st (fr' := (2, [some (.ref b), some (.int x), some (.ref o), none], [.int 0, .ref o], M)) rfl b0 b1 ?_
    refine ((ok_aload_n (mt := []) (ret := none) (pc := 2) (j := 0) (i := 0) (by decide +kernel) rfl).o2 hC).2.st (fr' := (3, [some (.ref b), some (.int x), some (.ref o), none], [.ref b, .int 0, .ref o], M)) rfl b0 b1 ?_
    refine ((ok_iload_n (mt := []) (ret := none) (pc := 3) (j := 1) (i := 1) (by decide +kernel) rfl).o2 hC).2.st (fr' := (4, [some (.ref b), some (.int x), some (.ref o), none], [.int x, .ref b, .int 0, .ref o], M)) rfl b0 b1 ?_
    exact k1
  exact key ls s.heap [] 0 0 hle hR rfl rfl
theorem good_LL : GoodIn T0 (va_wsS RL 198 yL_led wsLL) := by
  intro w hw
  unfold va_wsS wsLL at hw
  rcases List.mem_append.mp hw with h | h
  · rcases List.mem_cons.mp h with rfl | h
    · exact T0_good _ wt1241
    rcases List.mem_cons.mp h with rfl | h
    · exact T0_good _ wt1242
    rcases List.mem_cons.mp h with rfl | h
    · exact T0_good _ wt0
    · cases h
  · rcases List.mem_cons.mp h with rfl | h
    · exact T0_good _ wt1243
    · exact T0_good _ h
theorem law_led {X : Cxt} {nm : String} {pc : Nat} {L : Lc} {rest : List Value} (hC : pmC X code 7 RL nm ad) (hd : decode code pc = .ok (.invokestatic 198, 3)) (hl : X.Lh.stackTraces = false) (hX : XR M b σ) (hI : Inv σ C) (ho : M.1 o = some (.inl (1, 1, .inr f))) (hfr : 8 ≤ X.Ro.frames) (hlo : 500 ≤ X.Ro.locals) (hb1 : M.2.2.1 + 1 ≤ X.C0 + X.Ro.cells) (hb2 : M.2.2.2 + 6 ≤ X.S0 + X.Ro.slots) (hcs : csum rest ≤ 8) {r : Option Nat} (er : r = ledF σ.T σ.f x σ.T.np 0 0) (k : pmS X 7 (pc + 3, L, .int (lledV r) :: rest, lledM M o f r)) : pmS X 7 (pc, L, .ref o :: .int x :: .ref b :: rest, M) := by
  intro ls H locs k' n' hL hR hk hn
  dsimp only at hL hR hk hn ⊢
  have hts := hC.2.2.2.2.1
  have h9 := lledM_c M o f r
  exact pm_call (mc := 1) (ms := 6) (L := L) (rest := rest) (M' := lledM M o f r) (v := some (.int (lledV r))) (vx_runSW (As := [.ref b, .int x, .ref o]) (rest := rest) ⟨hC.1, hC.2.1, hC.2.2.1, hC.2.2.2.1, hts⟩ (m_lled hl hC.2.2.2.2.2.2.2.2.2.2.2 hX hI ho er) (vx_cwSW 3 hts good_LL rfl rfl rfl ⟨by decide, by decide, (by decide +kernel)⟩ ⟨by show 7 + 1 ≤ _; omega, by show 8 + (4 + 11) + 420 ≤ _; omega⟩) ⟨pm_blind, fun U hU hW => pm_pre hC hR _ U hU hW⟩ rfl rfl hL.1 rfl (lv_room hcs) hd ⟨by omega, by omega⟩) hR.2.2 (by omega) (by omega) hL k
end MLL
