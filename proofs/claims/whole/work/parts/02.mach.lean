/-! THE PURE MACHINE: cells by their addresses, frames, one function an instruction; what it says is held against the machine itself further down -/
abbrev Ce : Type := (Nat × Nat × ((Nat → Int32) ⊕ (Nat → Int64))) ⊕ (Nat × List Value)
/-- cells, the heap's size, cells made, slots made -/
abbrev Mm : Type := (Nat → Option Ce) × Nat × Nat × Nat
abbrev Lc : Type := List (Option Value)
abbrev Fm : Type := Nat × Lc × List Value × Mm
abbrev Rs : Type := Fm ⊕ ((Nat × List Value × Fm) ⊕ (Option Value × Mm))
abbrev Ins : Type := Fm → Option Rs
/-- what the launch decides: numbers of classes and slots, of array classes, the constant texts' cells and bytes -/
abbrev Gm : Type := va_G × (Nat → ClassId) × (Nat → Nat) × (Nat → Nat)
def up (M : Mm) (a : Nat) (x : Ce) : Mm := (fun b => if b = a then some x else M.1 b, M.2)
def mkc (M : Mm) (n : Nat) (x : Ce) : Mm := (fun b => if b = M.2.1 then some x else M.1 b, M.2.1 + 1, M.2.2.1 + 1, M.2.2.2 + n)
def toE (cy : Nat → ClassId) : Ce → va_E
  | .inl (t, n, .inl f) => .inl (cy t, n, .inl f)
  | .inl (t, n, .inr f) => .inl (cy t, n, .inr (.inl f))
  | .inr o => .inr o
def tyA (cy : Nat → ClassId) : List (ClassId × FieldType) := [(cy 0, .int), (cy 1, .long), (cy 2, .char), (cy 3, .byte)]
/-- a cell as the heap has it, or a constant text -/
def pmE (g : Gm) (A : Nat → Prop) (a : Nat) (x : Ce) (H : Heap) : Prop := (va_at g.1 vwCl (a, toE g.2.1 x) H ∧ A a) ∨ ∃ i : Nat, i < NSt ∧ a = g.2.2.1 i ∧ x = .inr (1000 + i, [])
def pmR (g : Gm) (A : Nat → Prop) (H0 : Heap) (M : Mm) (H : Heap) (locs : List Loc) : Prop :=
  H.size = M.2.1 ∧ (∀ (a : Nat) (x : Ce), M.1 a = some x → pmE g A a x H) ∧ va_S A H0 H locs
def pmL (nL : Nat) (ls : Array Slot) (L : Lc) : Prop := ls.size = nL ∧ L.length = nL ∧ lv_wf ls ∧ ∀ (i : Nat) (v : Value), L[i]? = some (some v) → ls[i]? = some (.val v)
/-- what stays of the tables from state to state -/
def pmK (g : Gm) (U : State) : Prop := va_K g.1 vwCl (tyA g.2.1) U ∧ (∀ q ∈ NWf, va_Nw (.fieldLinkNest q.1 q.2.1 q.2.2.1 q.2.2.2.1 q.2.2.2.2.1 q.2.2.2.2.2) U) ∧ (∀ q ∈ NWm, va_Nw (.methodLinkNest q.1 q.2.1 q.2.2.1 q.2.2.2) U) ∧ ∀ q ∈ SRs, vk_R q.1 q.2.1 q.2.2.1 (g.2.2.1 q.2.2.2) U
def DWs : List MethodName := [⟨"java/lang/RuntimeException", "<init>", "()V"⟩, ⟨"java/lang/Exception", "<init>", "()V"⟩, ⟨"java/lang/Throwable", "<init>", "()V"⟩]
def CWs : List (String × String) := [("java/util/NoSuchElementException", "java/util/NoSuchElementException")]
def pmX (g : Gm) (A : Nat → Prop) (U : State) (H : Heap) : Prop := vk_S NSt sLen sByt g.2.2.1 g.2.2.2 A U H ∧ va_Z "java/lang/String" "COMPACT_STRINGS" "Z" (.int 1) A U H ∧ (∃ v : Value, v.category = 1 ∧ va_Z "jdk/internal/util/Preconditions" "SIOOBE_FORMATTER" "Ljava/util/function/BiFunction;" v A U H) ∧ vx_Zq Bundle.tN "UNASSIGNED_STACK" Bundle.steD A U H ∧ vx_Zq Bundle.tN "SUPPRESSED_SENTINEL" Bundle.listD A U H ∧ (∀ x ∈ DWs, va_Nw (.declares x) U) ∧ ∀ q ∈ CWs, va_Nw (.castable q.1 q.2) U
theorem pmX.moved {g : Gm} {A : Nat → Prop} {u U : State} {H : Heap} (hvm : u.vm.Alike U.vm) (h : pmX g A u H) : pmX g A U H := by
  obtain ⟨h1, h2, ⟨v, hv, h3⟩, h4, h5, h6, h7⟩ := h
  exact ⟨vk_S.moved hvm h1, va_Z.moved hvm h2, ⟨v, hv, va_Z.moved hvm h3⟩, vx_Zq.moved hvm h4, vx_Zq.moved hvm h5, fun x hx => va_tabs rfl (rfl : (u.setVm U.vm).vm = U.vm) (by rw [Cond.declares_setVm hvm]; exact h6 x hx), fun q hq => va_tabs rfl (rfl : (u.setVm U.vm).vm = U.vm) (by rw [Cond.castable_setVm hvm]; exact h7 q hq)⟩
theorem pmX.kept {g : Gm} {A : Nat → Prop} {U : State} {H H1 : Heap} (h : pmX g A U H) (hq : ∀ a : Nat, a < H.size → ¬ A a → H1[a]? = H[a]?) : pmX g A U H1 := by
  obtain ⟨h1, h2, ⟨v, hv, h3⟩, h4, h5, h6, h7⟩ := h
  exact ⟨vk_S.kept h1 hq, va_Z.kept h2 hq, ⟨v, hv, va_Z.kept h3 hq⟩, vx_Zq.kept h4 hq, vx_Zq.kept h5 hq, h6, h7⟩
theorem pmK.warm {g : Gm} {s U : State} (hW : s.WarmedH U.vm) (h : pmK g s) : pmK g U :=
  ⟨va_K.moved hW.alike h.1, fun q hq => va_Nw.warmF hW (h.2.1 q hq), fun q hq => va_Nw.warmM hW (h.2.2.1 q hq), fun q hq => vk_R.warm hW (h.2.2.2 q hq)⟩
theorem pmK.same {g : Gm} {s U : State} (hv : U.vm = s.vm) (h : pmK g s) : pmK g U := by
  refine ⟨?_, fun q hq => va_Nw.same rfl hv.symm (h.2.1 q hq), fun q hq => va_Nw.same rfl hv.symm (h.2.2.1 q hq), fun q hq => vk_R.same hv (h.2.2.2 q hq)⟩
  exact va_K.moved (by rw [hv]; exact Vm.Alike.refl s.vm) h.1
/-- a place in the machine: program, launch, environment, room, state, method, arguments, frames below, method and code, end, own cells, launch's numbers, cells and slots made at the start -/
abbrev Cxt : Type := (Program × Launch × Env × Room × State) × (MethodId × Array Value × List Frame × Method × Code) × (State → Prop) × (Nat → Prop) × Gm × Nat × Nat
abbrev Cxt.P (X : Cxt) : Program := X.1.1
abbrev Cxt.Lh (X : Cxt) : Launch := X.1.2.1
abbrev Cxt.En (X : Cxt) : Env := X.1.2.2.1
abbrev Cxt.Ro (X : Cxt) : Room := X.1.2.2.2.1
abbrev Cxt.St (X : Cxt) : State := X.1.2.2.2.2
abbrev Cxt.Me (X : Cxt) : MethodId := X.2.1.1
abbrev Cxt.Ar (X : Cxt) : Array Value := X.2.1.2.1
abbrev Cxt.Be (X : Cxt) : List Frame := X.2.1.2.2.1
abbrev Cxt.Mt (X : Cxt) : Method := X.2.1.2.2.2.1
abbrev Cxt.Cd (X : Cxt) : Code := X.2.1.2.2.2.2
abbrev Cxt.Qe (X : Cxt) : State → Prop := X.2.2.1
abbrev Cxt.Ow (X : Cxt) : Nat → Prop := X.2.2.2.1
abbrev Cxt.Gx (X : Cxt) : Gm := X.2.2.2.2.1
abbrev Cxt.C0 (X : Cxt) : Nat := X.2.2.2.2.2.1
abbrev Cxt.S0 (X : Cxt) : Nat := X.2.2.2.2.2.2
abbrev WX (X : Cxt) (H : Heap) (locs : List Loc) (k n : Nat) (g : JFrame) : Prop := W X.P X.Lh X.En X.Ro X.St X.Me X.Ar X.Be X.Mt X.Cd H locs k n X.Qe g
/-- the machine comes from this frame to the end -/
def pmS (X : Cxt) (nL : Nat) (fr : Fm) : Prop := ∀ (ls : Array Slot) (H : Heap) (locs : List Loc) (k n : Nat), pmL nL ls fr.2.1 → pmR X.Gx X.Ow X.St.heap fr.2.2.2 H locs → X.C0 + k = fr.2.2.2.2.2.1 → X.S0 + n = fr.2.2.2.2.2.2 → WX X H locs k n (F0 X.Me fr.1 ls fr.2.2.1)
def pmC (X : Cxt) (cc : ByteArray) (nL : Nat) (own nm : String) (ad : Nat → Nat) : Prop :=
  X.P.tables.exec = Jvm.exec ∧ X.Cd.code = cc ∧ X.Cd.maxLocals = nL ∧ X.St.vm.findClass own = some X.Me.cls ∧ (∀ w ∈ T0, w.before X.Ar X.St = true) ∧ pmK X.Gx X.St ∧ pmX X.Gx X.Ow X.St X.St.heap ∧ (∀ q, X.St.heap.size ≤ q → X.Ow q) ∧ 5 ≤ X.Ro.frames ∧ 300 ≤ X.Ro.locals ∧ X.Mt.name = nm ∧ X.Gx.2.2.1 = ad
/-- methods: name, code, locals, answer's type, class, name's kind (is it a constructor), rows -/
abbrev Mi : Type := MethodName × ByteArray × Nat × Option FieldType × String × List (Nat × Ins)
abbrev Mi.y (i : Mi) : MethodName := i.1
abbrev Mi.cc (i : Mi) : ByteArray := i.2.1
abbrev Mi.nL (i : Mi) : Nat := i.2.2.1
abbrev Mi.ret (i : Mi) : Option FieldType := i.2.2.2.1
abbrev Mi.own (i : Mi) : String := i.2.2.2.2.1
abbrev Mi.rows (i : Mi) : List (Nat × Ins) := i.2.2.2.2.2
def Mi.ws (i : Mi) : List Cond := Cond.code i.y i.cc i.nL i.ret :: T0
def pmRm (d : Nat) (M M' : Mm) : Room := { frames := d + 5, cells := M'.2.2.1 - M.2.2.1, slots := M'.2.2.2 - M.2.2.2, locals := 60 * (d + 5) }
/-- a method's contract: from the cells M and the arguments it answers v and leaves M' -/
def pmM (l : Launch) (g : Gm) (A : Nat → Prop) (d : Nat) (i : Mi) (as : List Value) (M : Mm) (v : Option Value) (M' : Mm) : Prop :=
  Met l i.y i.ws (pmRm d M M') (va_Pc as (fun U => pmR g A U.heap M U.heap [] ∧ pmK g U ∧ pmX g A U U.heap ∧ ∀ q, U.heap.size ≤ q → A q)) (fun _ st o t => o = .returned v ∧ pmR g A st.heap M' t.heap []) (M'.2.2.1 - M.2.2.1) (M'.2.2.2 - M.2.2.2) A
def pmLe (M M' : Mm) : Prop := M.2.1 ≤ M'.2.1 ∧ M.2.2.1 ≤ M'.2.2.1 ∧ M.2.2.2 ≤ M'.2.2.2
theorem pmLe.rf (M : Mm) : pmLe M M := ⟨Nat.le_refl _, Nat.le_refl _, Nat.le_refl _⟩
theorem pmLe.tr {M N O : Mm} (h : pmLe M N) (h2 : pmLe N O) : pmLe M O := ⟨Nat.le_trans h.1 h2.1, Nat.le_trans h.2.1 h2.2.1, Nat.le_trans h.2.2 h2.2.2⟩
/-- a return: its instruction and its value's type -/
def pmRet (cc : ByteArray) (ret : Option FieldType) (pc : Nat) (v : Option Value) : Prop :=
  (v = none ∧ ret = none ∧ decode cc pc = .ok (.return_, 1)) ∨ (∃ (x : Int32) (ty : FieldType), v = some (.int x) ∧ ret = some ty ∧ narrow ty (.int x) = .int x ∧ decode cc pc = .ok (.ireturn, 1)) ∨ (∃ x : Int64, v = some (.long x) ∧ ret = some .long ∧ decode cc pc = .ok (.lreturn, 1)) ∨ (∃ (a : Nat) (rt : FieldType), v = some (.ref a) ∧ ret = some rt ∧ ((∃ n, rt = .object n) ∨ ∃ t, rt = .array t) ∧ decode cc pc = .ok (.areturn, 1))
/-- what a row must say: it goes on, calls, or returns as the machine does; mt: the methods -/
def pmO (mt : List Mi) (X : Cxt) (cc : ByteArray) (nL : Nat) (ret : Option FieldType) (q : Nat × Ins) : Prop := ∀ (L : Lc) (st : List Value) (M : Mm),
  (∀ fr' : Fm, q.2 (q.1, L, st, M) = some (.inl fr') → fr'.2.2.2.2.2.1 ≤ X.C0 + X.Ro.cells → fr'.2.2.2.2.2.2 ≤ X.S0 + X.Ro.slots → pmS X nL fr' → pmS X nL (q.1, L, st, M)) ∧
  (∀ (j : Nat) (as : List Value) (fr' : Fm), q.2 (q.1, L, st, M) = some (.inr (.inl (j, as, fr'))) → ∀ (i : Mi) (d : Nat) (v : Option Value) (M' : Mm), mt[j]? = some i → i.nL ≤ 40 → d + 6 ≤ X.Ro.frames → 60 * (d + 6) ≤ X.Ro.locals → pmM X.Lh X.Gx X.Ow d i as M v M' → pmLe M M' → M'.2.2.1 ≤ X.C0 + X.Ro.cells → M'.2.2.2 ≤ X.S0 + X.Ro.slots → pmS X nL (fr'.1, fr'.2.1, v.toList ++ fr'.2.2.1, M') → pmS X nL (q.1, L, st, M)) ∧
  (∀ (v : Option Value) (M1 : Mm), q.2 (q.1, L, st, M) = some (.inr (.inr (v, M1))) → M1 = M ∧ st = v.toList ∧ pmRet cc ret q.1 v)
/-- a row only makes cells -/
def pmN (q : Nat × Ins) : Prop := ∀ (L : Lc) (st : List Value) (M : Mm), (∀ fr' : Fm, q.2 (q.1, L, st, M) = some (.inl fr') → pmLe M fr'.2.2.2) ∧ (∀ (j : Nat) (as : List Value) (fr' : Fm), q.2 (q.1, L, st, M) = some (.inr (.inl (j, as, fr'))) → fr'.2.2.2 = M) ∧ ∀ (v : Option Value) (M1 : Mm), q.2 (q.1, L, st, M) = some (.inr (.inr (v, M1))) → M1 = M
def pmG (mt : List Mi) (cc : ByteArray) (nL : Nat) (own nm : String) (ad : Nat → Nat) (ret : Option FieldType) (q : Nat × Ins) : Prop := pmN q ∧ ∀ X : Cxt, pmC X cc nL own nm ad → pmO mt X cc nL ret q
def pmOk (ad : Nat → Nat) (mt : List Mi) (i : Mi) : Prop := plainName i.y.cls = true ∧ i.own = i.y.cls ∧ i.nL ≤ 40 ∧ ∀ q ∈ i.rows, pmG mt i.cc i.nL i.own i.y.name ad i.ret q
/-- the locals at a method's entry -/
def pmIn : List Value → Lc
  | [] => []
  | v :: vs => if v.category = 2 then some v :: none :: pmIn vs else some v :: pmIn vs
def pmEn (nL : Nat) (as : List Value) (M : Mm) : Fm := (0, pmIn as ++ List.replicate (nL - (pmIn as).length) none, [], M)
def pmAt (rows : List (Nat × Ins)) (fr : Fm) : Option Rs := match rows.find? (fun q => q.1 == fr.1) with
  | some q => q.2 fr
  | none => none
/-- the pure machine runs: steps, depth of calls -/
def pmRun (mt : List Mi) : Nat → Nat → List (Nat × Ins) → Fm → Option (Option Value × Mm)
  | 0, _, _, _ => none
  | n + 1, d, rows, fr => match pmAt rows fr with
    | none => none
    | some (.inl fr') => pmRun mt n d rows fr'
    | some (.inr (.inr r)) => some r
    | some (.inr (.inl (j, as, fr'))) => match d, mt[j]? with
      | d' + 1, some i => if (pmIn as).length ≤ i.nL then match pmRun mt n d' i.rows (pmEn i.nL as fr'.2.2.2) with
        | some (v, M1) => pmRun mt n d rows (fr'.1, fr'.2.1, v.toList ++ fr'.2.2.1, M1)
        | none => none
        else none
      | _, _ => none
