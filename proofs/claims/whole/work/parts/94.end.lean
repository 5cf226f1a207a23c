def R_law : String := "WrongRoomLaw"
def lw_P (b : Addr) (xs : List Int32) (args : Array Value) (s : State) : Prop := args = #[.ref b] ∧ s.IntsAt b xs ∧ xs.length ≤ 3072 ∧ (Jvm.Cond.and given_1 narrow_1).before args s = true
def lw_Q (_ : Array Value) (s : State) (o : Outcome) (t : State) : Prop := o = .returned (some (.int 1)) ∧ Framed s o t [] 601024 7293034
def lw_Z (below : List Frame) (a : Array Value) (s : State) : State → Prop := fun t => ∃ o, t.status = .running ∧ Ended t below o ∧ lw_Q a s o t
/-- the law's own end, with 1 on the stack, nothing written that was there before, its room as the claim has it -/
theorem lw_ret {p : Program} {l : Launch} {e : Env} {s : State} {m : MethodId} {below : List Frame} {meth : Method} {c : Code} {b : Nat} (hx : p.tables.exec = Jvm.exec) (hb : c.code = code) (hr : meth.sig.returnType = ret) (hlocks : meth.locks = false) {pc : Nat} {H : Heap} {ls : Array Slot} (hdg : decode code pc = .ok (.ireturn, 1)) : W p l e room_1 s m #[Value.ref b] below meth c H [] 601024 7293034 (lw_Z below #[Value.ref b] s) (F0 m pc ls [.int 1]) := by
  intro T hT X
  obtain ⟨fs, hret, hrun, hended, hW, hframe⟩ := X.leave (v := some (.int 1)) (hlocks := hlocks) (fun h => by rw [hr] at h; cases h)
  have hmeth' : T.vm.method? m = some meth := X.method'
  refine ⟨T.setFrames fs, ?_, .returned (some (.int 1)), hrun, hended, rfl, ⟨_, rfl⟩, hW, hframe⟩
  jvm_step X.here [X.here.top, hx, hb, hdg, hmeth', hr, ret, narrow_b1]
  (try refine ⟨rfl, ?_⟩); (try refine ⟨rfl, ?_⟩)
  first | (intro acts; rw [hret _ acts rfl rfl rfl]) | rw [hret _ _ rfl rfl rfl]
  exact Steps.refl _
/-- what holds at the law's entry: the machine, the code, the tables' words (any of lw_tbl by 'hts w (by decide +kernel)'), the script of L ints xs at the cell b, what the Statement gives of the start (any of its parts by flat_of_before) -/
def lw_At (p : Program) (s : State) (m : MethodId) (meth : Method) (c : Code) (b L : Nat) (xs : Nat → Int32) : Prop :=
  p.tables.exec = Jvm.exec ∧ c.code = code ∧ meth.sig.returnType = ret ∧ c.maxLocals = 7 ∧ s.vm.findClass R_law = some m.cls ∧ (∀ w ∈ lw_tbl, w.before #[Value.ref b] s = true) ∧ va_X b L xs s s.heap ∧ b < s.heap.size ∧ meth.locks = false ∧ (Jvm.Cond.and given_1 narrow_1).before #[Value.ref b] s = true ∧ meth.name = "law"
def stM (ad : Nat → Nat) (h : Nat) : Mm := (fun a => (List.range 20).findSome? (fun i => if a = ad i then some (.inr (1000 + i, [])) else none), h, 0, 0)
theorem stM_i {ad : Nat → Nat} {h a : Nat} {x : Ce} (hx : (stM ad h).1 a = some x) : ∃ i, i < 20 ∧ a = ad i ∧ x = .inr (1000 + i, []) := by
  obtain ⟨i, hi, hf⟩ := List.exists_of_findSome?_eq_some (show (List.range 20).findSome? (fun i => if a = ad i then some (Sum.inr (1000 + i, [])) else none) = some x from hx)
  split at hf
  · rename_i e
    cases hf
    exact ⟨i, List.mem_range.mp hi, e, rfl⟩
  · cases hf
theorem stM_s {ad : Nat → Nat} {h i : Nat} (hi : i < 20) (hj : ∀ i j, i < 20 → j < 20 → ad i = ad j → i = j) : (stM ad h).1 (ad i) = some (.inr (1000 + i, [])) := by
  cases hx : (stM ad h).1 (ad i) with
  | none =>
    have h1 := List.findSome?_eq_none_iff.mp (show (List.range 20).findSome? (fun j => if ad i = ad j then some (Sum.inr (1000 + j, []) : Ce) else none) = none from hx) i (List.mem_range.mpr hi)
    rw [if_pos rfl] at h1
    cases h1
  | some x =>
    obtain ⟨j, h1, h2, rfl⟩ := stM_i hx
    rw [hj i j hi h1 h2]
set_option maxHeartbeats 2000000 in
/-- from the entry, for every script of at most 3072 ints, the law comes to its end with true -/
theorem whole_start {p : Program} {e : Env} {s : State} {m : MethodId} {below : List Frame} {meth : Method} {c : Code} (l : Launch) (hl : l.stackTraces = false) {b L : Nat} {xs : Nat → Int32} (hL : L ≤ 3072) (C0 : lw_At p s m meth c b L xs) : W p l e room_1 s m #[Value.ref b] below meth c s.heap [] 0 0 (lw_Z below #[Value.ref b] s) (entryFrame m ([Value.ref b] : List Value).toArray 7) := by
  obtain ⟨hx, hb, hr, hml, hown, hts, hX, hbl, hlocks, hgv, hnm⟩ := id C0
  have hT : ∀ w ∈ tables_1, w.before #[Value.ref b] s = true := fun w hw => hts w (List.mem_append_right _ hw)
  have hT0 : ∀ w ∈ T0, w.before #[Value.ref b] s = true := fun w hw => hts w (List.mem_filter.mp hw).1
  have hg := flat_of_before _ hgv
  obtain ⟨D, hD⟩ := st_cls hT0
  obtain ⟨a0, ha0⟩ := st_arr (ty := .int) (hT0 _ wt103) (fun _ h => by cases h)
  obtain ⟨a1, ha1⟩ := st_arr (ty := .long) (hT0 _ wt102) (fun _ h => by cases h)
  obtain ⟨a2, ha2⟩ := st_arr (ty := .char) (hT0 _ wt101) (fun _ h => by cases h)
  obtain ⟨a3, ha3⟩ := st_arr (ty := .byte) (hT0 _ wt313) (fun _ h => by cases h)
  have hAn : ∀ a : Nat, a < s.heap.size → ¬ (fun q : Nat => s.heap.size ≤ q) a := fun a h1 h2 => absurd h1 (Nat.not_lt.mpr h2)
  obtain ⟨adK, adV, hk, hev⟩ := st_str (A := fun q : Nat => s.heap.size ≤ q) hg hAn
  let g : Gm := (D, (fun k => if k = 0 then a0 else if k = 1 then a1 else if k = 2 then a2 else a3), adK, adV)
  have hK : pmK g s := by
    refine ⟨⟨hD, fun k q hq => ?_⟩, st_nwf hT, st_nwm hT, st_srs hT hg hev⟩
    match k, hq with
    | 0, hq => cases hq; exact ha0
    | 1, hq => cases hq; exact ha1
    | 2, hq => cases hq; exact ha2
    | 3, hq => cases hq; exact ha3
    | k + 4, hq => cases hq
  have hXx : pmX g (fun q : Nat => s.heap.size ≤ q) s s.heap := st_pmX (g := g) hT hg hAn hk
  let X : Cxt := ((p, l, e, room_1, s), (m, #[Value.ref b], below, meth, c), lw_Z below #[Value.ref b] s, (fun q : Nat => s.heap.size ≤ q), g, 0, 0)
  have hC : pmC X code 7 RL "law" adK := ⟨hx, hb, hml, hown, hT0, hK, hXx, fun _ h => h, by show 5 ≤ 2048; omega, by show 300 ≤ 84000; omega, hnm, rfl⟩
  have hR0 : pmR g (fun q : Nat => s.heap.size ≤ q) s.heap (stM adK s.heap.size) s.heap [] := by
    refine ⟨rfl, fun a x hx => ?_, va_S.rf⟩
    obtain ⟨i, h1, h2, h3⟩ := stM_i hx
    exact Or.inr ⟨i, h1, h2, h3⟩
  have hS0 : aSt adK s.heap.size (stM adK s.heap.size) := by
    intro i hi
    obtain ⟨cell, h1, -⟩ := (hk.1 i hi).1
    exact ⟨(Array.getElem?_eq_some_iff.mp h1).1, stM_s hi (fun i j h1 h2 h3 => hk.2 i j h1 h2 h3)⟩
  have hend : ∀ (pc : Nat) (L1 : Lc) (M' : Mm), decode code pc = .ok (.ireturn, 1) → M'.2.2.1 ≤ 601024 → M'.2.2.2 ≤ 7293034 → pmS X 7 (pc, L1, [.int 1], M') := by
    intro pc L1 M' hd h1 h2 ls H locs k n hL9 hR9 hk9 hn9
    have e1 : k ≤ 601024 := by have : 0 + k = M'.2.2.1 := hk9; omega
    have e2 : n ≤ 7293034 := by have : 0 + n = M'.2.2.2 := hn9; omega
    show W p l e room_1 s m #[Value.ref b] below meth c H locs k n (lw_Z below #[Value.ref b] s) (F0 m pc ls [.int 1])
    exact va_forget (fun q hq => hR9.2.2.2.2 q hq) (W.widen (k := 601024) (n := 7293034) e1 e2 (lw_ret hx hb hr hlocks hd))
  have hbA : ¬ (fun q : Nat => s.heap.size ≤ q) b := Nat.not_le.mpr hbl
  have key : pmS X 7 (0, [some (.ref b), none, none, none, none, none, none], [], stM adK s.heap.size) := by
    refine ev_stop (hall adK) (X := X) rfl (ls_start (ad := adK) (b := b) (h := s.heap.size) rfl hS0) (fun q hq => ?_) (by show 20 + 5 ≤ 2048; omega) (by show 60 * (20 + 5) ≤ 84000; omega) (fun v M' hp => ?_)
    · rcases List.mem_append.mp hq with q1 | q1
      · exact (vSt hC q q1).1
      · rw [List.mem_singleton.mp q1]
        exact ok_hd
    · obtain ⟨rfl, σ', hI⟩ := hp
      refine ⟨⟨?_, ?_⟩, fun q hq L1 st hs => ?_⟩
      · have := hI.2.2.2.2.2.2.1
        show M'.2.2.1 ≤ 0 + 601024
        omega
      · have := hI.2.2.2.2.2.2.2
        show M'.2.2.2 ≤ 0 + 7293034
        omega
      · rcases List.mem_append.mp hq with q1 | q1
        · exact absurd hs ((vSt hC q q1).2 L1 st M' M')
        · rw [List.mem_singleton.mp q1] at hs ⊢
          obtain ⟨p9, q2, e1, e2, -⟩ := fHd_inv hs
          dsimp only at e1 e2
          subst e1; subst e2
          refine pmS.wk (law_loop (X := X) hC hX hbl hbA hl rfl rfl rfl hL hend 512 0 0 σ' M' rfl (by omega) (by omega) hI) rfl ?_
          intro j v hj
          match j, hj with
          | 0, hj => exact hj
          | 1, hj => exact hj
          | 2, hj => exact hj
          | 3, hj => exact hj
          | 4, hj => exact hj
          | 5, hj => cases hj
          | 6, hj => cases hj
          | n + 7, hj => cases hj
  rw [lg_entry_eq]
  have hle := pmL_entry (as := [Value.ref b]) (nL := 7) (Nat.le_of_ble_eq_true rfl)
  exact key _ s.heap [] 0 0 hle hR0 rfl rfl
set_option maxHeartbeats 4000000 in
theorem lw_walk (l : Launch) (hl : l.stackTraces = false) (b : Addr) (xs : List Int32) : MetFree l x (headSpec (Jvm.Cond.code x code maxLocals ret :: tables_1) room_1) (lw_P b xs) (fun _ _ _ _ _ => True) lw_Q := by
  refine MetFree.of_bodyS (code := code) (maxLocals := maxLocals) (ret := ret) (by decide) ?_ ?_
  · intro args s m h hn
    obtain ⟨meth, c, h1, h2, h3, h4, h5, h6, -, -⟩ := Cond.code_spec hn (atoms_spec (ws := Jvm.Cond.code x code maxLocals ret :: tables_1) h _ List.mem_cons_self)
    exact ⟨meth, c, h1, h2, h3, h4, h5, h6⟩
  · intro p e s m args below meth c s₁ B hml0 hP _
    obtain ⟨rfl, hx, hbd, hgv⟩ := hP
    obtain ⟨scr, harrAt, hlist, hof, hsmall⟩ := hx
    obtain ⟨hcb, hkn, -, -⟩ := State.arrayAt?_spec harrAt
    have hown : s.vm.findClass R_law = some m.cls := findClass_of_methodNamed B.named
    have hts0 : ∀ c ∈ (Jvm.Cond.code x code maxLocals ret :: tables_1), c.before #[Value.ref b] s = true := atoms_spec (ws := Jvm.Cond.code x code maxLocals ret :: tables_1) B.pre
    have hts : ∀ w ∈ lw_tbl, w.before #[Value.ref b] s = true := k2_hts_sels lw_privs (fun w hw => hts0 w (List.mem_cons_of_mem _ hw)) lw_privs_ok
    have hml : c.maxLocals = 7 := B.maxLocals_eq (hts0 _ List.mem_cons_self)
    have X₀ : Stand p l e room_1 s m #[Value.ref b] below meth c s₁ [] 0 0 := Stand.of_body B
    have hh0 : s₁.heap = s.heap := by rw [B.state]; rfl
    have hsz : scr.slots.size = xs.length := by rw [← Array.length_toList, hlist, List.length_map]
    have hval : ∀ j : Nat, j < xs.length → scr.slots[j]? = some (.int (xs.getD j 0)) := fun j hj => by
      rw [← Array.getElem?_toList, hlist]
      simp [hj]
    have hbl : b < s.heap.size := (Array.getElem?_eq_some_iff.mp hcb).1
    have hX : va_X b xs.length (fun j => xs.getD j 0) s s.heap := ⟨scr, hcb, hof, hkn, hsz, hval⟩
    have K : W p l e room_1 s m #[Value.ref b] below meth c s₁.heap [] 0 0 (lw_Z below #[Value.ref b] s) (entryFrame m ([Value.ref b] : List Value).toArray 7) := by
      rw [hh0]
      exact whole_start l hl hbd ⟨B.exec, B.bytes, B.returns, hml, hown, hts, hX, hbl, B.notSynchronized, hgv, (name_of_methodNamed B.named B.method).1⟩
    obtain ⟨t, a1, o, b1, b2, b3⟩ := K s₁ rfl X₀
    exact ⟨t, o, a1, b1, b2, b3⟩
theorem lw_pre_spec {args : Array Value} {s : State} (h : (Jvm.Cond.and given_1 narrow_1).before args s = true) (hr : rest_1_c.before args s = true) : ∃ (b : Addr) (xs : List Int32), lw_P b xs args s := by
  have hs := flat_of_before _ h
  have hq := flat_of_before _ hr
  have hc : (Cond.count 1).before args s = true := hs _ (by decide +kernel)
  have harr : (Cond.arrayOf (.arg 0) .int).before args s = true := hs _ (by decide +kernel)
  have hle : (Cond.le (.length (.arg 0)) (.int 3072)).before args s = true := hs _ (by decide +kernel)
  have hlen : (Cond.isInt (.length (.arg 0))).before args s = true := hq _ (by decide +kernel)
  have hall : (Cond.all (.arg 0) (.isInt (.elem (.arg 0) (.index 0)))).before args s = true := hq _ (by decide +kernel)
  obtain ⟨b, xs, hb, hx⟩ := State.ints_of_pre rfl harr hlen hall
  have hsm : xs.length < 2 ^ 31 := hx.choose_spec.2.2.2
  have hev : (Term.length (.arg 0)).eval args s none [] s = some (.int xs.length.toInt32) := hx.length_eval hb
  have hv := Cond.le_ints hev (show (Term.int 3072).eval args s none [] s = some (.int 3072) from rfl)
  have hd : xs.length.toInt32 ≤ 3072 := by
    simpa [Cond.before, Cond.holds, hv] using hle
  have hN : xs.length ≤ 3072 := (Int32.ofNat_le_ofNat hsm (by decide)).mp (show Int32.ofNat xs.length ≤ Int32.ofNat 3072 from hd)
  exact ⟨b, xs, Cond.one_arg hc (show args[0]? = some (.ref b) from hb), hx, hN, h⟩
theorem lw_comes (l : Launch) (hl : l.stackTraces = false) : Comes l x (Jvm.Cond.code x code maxLocals ret :: tables_1) room_1 (fun tb e args s => Calls_1 tb e args s ∧ rest_1 tb e args s ∧ Pre_1 tb e args s)
    (fun _ _ args s o t => lw_Q args s o t) := by
  intro p e ha hc hk s m args below hf hfit hheap happ hpre
  obtain ⟨b, xs, hP⟩ := lw_pre_spec hpre.2.2 hpre.2.1
  obtain ⟨k, o, h1, h2, h3, hQ⟩ := lw_walk l hl b xs p e ha hc hk s m args below hf ((Spec.applies_iff_loose hf).mp happ).1 hP trivial
  exact ⟨k, o, h1, h2, h3, hQ⟩
theorem lw_frame {s t : State} {o : Outcome} {args : Array Value} (h : Framed s o t [] 601024 7293034) :
    Framed s o t (fieldLocs frame_1_writes args s ++ arrayLocs frame_1_arrays args s ++ staticLocs frame_1_statics s) 601024 7293034 := h
theorem lw_limb (L : Cond) (hL : ∀ (args : Array Value) (s t : State), L.after args s (.returned (some (.int 1))) t = true) :
    ArmFor flags0 classFile x code maxLocals ret World_1 tables_1 room_1 Calls_1 rest_1 Pre_1
      (fun tb e a s o t => postC L tb e a s o t ∧ Framed s o t (fieldLocs frame_1_writes a s ++ arrayLocs frame_1_arrays a s ++ staticLocs frame_1_statics s) 601024 7293034) := by
  intro l hfl _ _ p e ha hc hk s m args below hf hfit hheap happ hpre
  have hl : l.stackTraces = false := by unfold Launch.stackTraces; rw [hfl]; decide
  obtain ⟨k, o, h1, h2, h3, rfl, hF⟩ := lw_comes l hl p e ha hc hk s m args below hf hfit hheap happ hpre
  exact ⟨k, _, h1, h2, h3, hL args s _, lw_frame hF⟩
theorem i_vc : Claimed_1_1 ∧ Claimed_1_2 := ⟨lw_limb limb_1_1 (fun args s t => by simp [limb_1_1, Cond.after, Cond.holds, Cond.value]), lw_limb limb_1_2 (fun args s t => Cond.after_iff.mpr (by
  first | (rw [show limb_1_2 = Cond.eq .result (.int 1) from rfl, Cond.eq_ints (x := 1) (y := 1) rfl rfl]; simp; done) | (simp [limb_1_2, Cond.value, Term.eval]; done)))⟩
