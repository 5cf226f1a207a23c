/-! String.length and String.charAt of the constant texts -/
theorem wt7 : (Cond.initialized "java/lang/String") ∈ T0 := T0_a1 7 (by decide +kernel) rfl
theorem wt8 : (Cond.initialized "java/lang/StringLatin1") ∈ T0 := T0_a1 8 (by decide +kernel) rfl
theorem wt9 : (Cond.initialized "jdk/internal/util/Preconditions") ∈ T0 := T0_a1 9 (by decide +kernel) rfl
theorem wt212 : (Cond.instanceMethod ({ cls := "java/lang/String", name := "length", desc := "()I" } : Jvm.MethodName)) ∈ T0 := T0_a1 212 (by decide +kernel) rfl
theorem wt213 : (Cond.selects "java/lang/String" ({ cls := "java/lang/String", name := "length", desc := "()I" } : Jvm.MethodName) ({ cls := "java/lang/String", name := "length", desc := "()I" } : Jvm.MethodName)) ∈ T0 := T0_a1 213 (by decide +kernel) rfl
theorem wt214 : (Cond.code ({ cls := "java/lang/String", name := "length", desc := "()I" } : Jvm.MethodName) prog_23_method_54_code (1 : Nat) (Option.some Jvm.ClassFile.FieldType.int)) ∈ T0 := T0_a1 214 (by decide +kernel) rfl
theorem wt215 : (Cond.methodLink "java/lang/String" (335 : Nat) ({ cls := "java/lang/String", name := "coder", desc := "()B" } : Jvm.MethodName)) ∈ T0 := T0_a1 215 (by decide +kernel) rfl
theorem wt216 : (Cond.instanceMethod ({ cls := "java/lang/String", name := "coder", desc := "()B" } : Jvm.MethodName)) ∈ T0 := T0_a1 216 (by decide +kernel) rfl
theorem wt217 : (Cond.selects "java/lang/String" ({ cls := "java/lang/String", name := "coder", desc := "()B" } : Jvm.MethodName) ({ cls := "java/lang/String", name := "coder", desc := "()B" } : Jvm.MethodName)) ∈ T0 := T0_a1 217 (by decide +kernel) rfl
theorem wt218 : (Cond.code ({ cls := "java/lang/String", name := "coder", desc := "()B" } : Jvm.MethodName) prog_23_method_152_code (1 : Nat) (Option.some Jvm.ClassFile.FieldType.byte)) ∈ T0 := T0_a1 218 (by decide +kernel) rfl
theorem wt219 : (Cond.fieldLink "java/lang/String" (38 : Nat) "java/lang/String" "COMPACT_STRINGS" "Z") ∈ T0 := T0_a1 219 (by decide +kernel) rfl
theorem wt222 : (Cond.instanceMethod ({ cls := "java/lang/String", name := "charAt", desc := "(I)C" } : Jvm.MethodName)) ∈ T0 := T0_a1 222 (by decide +kernel) rfl
theorem wt223 : (Cond.selects "java/lang/String" ({ cls := "java/lang/String", name := "charAt", desc := "(I)C" } : Jvm.MethodName) ({ cls := "java/lang/String", name := "charAt", desc := "(I)C" } : Jvm.MethodName)) ∈ T0 := T0_a1 223 (by decide +kernel) rfl
theorem wt224 : (Cond.code ({ cls := "java/lang/String", name := "charAt", desc := "(I)C" } : Jvm.MethodName) prog_23_method_56_code (2 : Nat) (Option.some Jvm.ClassFile.FieldType.char)) ∈ T0 := T0_a1 224 (by decide +kernel) rfl
theorem wt225 : (Cond.methodLink "java/lang/String" (492 : Nat) ({ cls := "java/lang/String", name := "isLatin1", desc := "()Z" } : Jvm.MethodName)) ∈ T0 := T0_a1 225 (by decide +kernel) rfl
theorem wt226 : (Cond.instanceMethod ({ cls := "java/lang/String", name := "isLatin1", desc := "()Z" } : Jvm.MethodName)) ∈ T0 := T0_a1 226 (by decide +kernel) rfl
theorem wt227 : (Cond.selects "java/lang/String" ({ cls := "java/lang/String", name := "isLatin1", desc := "()Z" } : Jvm.MethodName) ({ cls := "java/lang/String", name := "isLatin1", desc := "()Z" } : Jvm.MethodName)) ∈ T0 := T0_a1 227 (by decide +kernel) rfl
theorem wt228 : (Cond.code ({ cls := "java/lang/String", name := "isLatin1", desc := "()Z" } : Jvm.MethodName) prog_23_method_154_code (1 : Nat) (Option.some Jvm.ClassFile.FieldType.boolean)) ∈ T0 := T0_a1 228 (by decide +kernel) rfl
theorem wt229 : (Cond.methodLink "java/lang/String" (495 : Nat) ({ cls := "java/lang/StringLatin1", name := "charAt", desc := "([BI)C" } : Jvm.MethodName)) ∈ T0 := T0_a1 229 (by decide +kernel) rfl
theorem wt230 : (Cond.static ({ cls := "java/lang/StringLatin1", name := "charAt", desc := "([BI)C" } : Jvm.MethodName)) ∈ T0 := T0_a1 230 (by decide +kernel) rfl
theorem wt231 : (Cond.code ({ cls := "java/lang/StringLatin1", name := "charAt", desc := "([BI)C" } : Jvm.MethodName) prog_24_method_2_code (2 : Nat) (Option.some Jvm.ClassFile.FieldType.char)) ∈ T0 := T0_a1 231 (by decide +kernel) rfl
theorem wt232 : (Cond.methodLink "java/lang/StringLatin1" (9 : Nat) ({ cls := "java/lang/String", name := "checkIndex", desc := "(II)V" } : Jvm.MethodName)) ∈ T0 := T0_a1 232 (by decide +kernel) rfl
theorem wt233 : (Cond.static ({ cls := "java/lang/String", name := "checkIndex", desc := "(II)V" } : Jvm.MethodName)) ∈ T0 := T0_a1 233 (by decide +kernel) rfl
theorem wt234 : (Cond.code ({ cls := "java/lang/String", name := "checkIndex", desc := "(II)V" } : Jvm.MethodName) prog_23_method_155_code (2 : Nat) (Option.none : Option Jvm.ClassFile.FieldType)) ∈ T0 := T0_a1 234 (by decide +kernel) rfl
theorem wt235 : (Cond.fieldLink "java/lang/String" (1053 : Nat) "jdk/internal/util/Preconditions" "SIOOBE_FORMATTER" "Ljava/util/function/BiFunction;") ∈ T0 := T0_a1 235 (by decide +kernel) rfl
theorem wt237 : (Cond.methodLink "java/lang/String" (1059 : Nat) ({ cls := "jdk/internal/util/Preconditions", name := "checkIndex", desc := "(IILjava/util/function/BiFunction;)I" } : Jvm.MethodName)) ∈ T0 := T0_a1 237 (by decide +kernel) rfl
theorem wt238 : (Cond.static ({ cls := "jdk/internal/util/Preconditions", name := "checkIndex", desc := "(IILjava/util/function/BiFunction;)I" } : Jvm.MethodName)) ∈ T0 := T0_a1 238 (by decide +kernel) rfl
theorem wt239 : (Cond.code ({ cls := "jdk/internal/util/Preconditions", name := "checkIndex", desc := "(IILjava/util/function/BiFunction;)I" } : Jvm.MethodName) prog_31_method_11_code (3 : Nat) (Option.some Jvm.ClassFile.FieldType.int)) ∈ T0 := T0_a1 239 (by decide +kernel) rfl
theorem wt2070 : (Cond.fieldLink "java/lang/String" (9 : Nat) "java/lang/String" "value" "[B") ∈ T0 := T0_a9 150 (by decide +kernel) rfl
theorem wt2071 : (Cond.fieldLink "java/lang/String" (15 : Nat) "java/lang/String" "coder" "B") ∈ T0 := T0_a9 151 (by decide +kernel) rfl
def s_coder : Mi := (yJ0_coder_7d493, cJ0_coder_7d493, 1, (some .byte), RJ0, [])
def s_len : Mi := (yJ0_length_8abf5, cJ0_length_8abf5, 1, (some .int), RJ0, [])
def s_lat : Mi := (yJ0_isLatin1_aae02, cJ0_isLatin1_aae02, 1, (some .boolean), RJ0, [])
def s_chk : Mi := (yJ0_checkIndex_df160, cJ0_checkIndex_df160, 2, none, RJ0, [])
def s_pre9 : Mi := (yJ3_checkIndex_8e157, cJ3_checkIndex_8e157, 3, (some .int), RJ3, [])
def s_lch : Mi := (yJ1_charAt_3b067, cJ1_charAt_3b067, 2, (some .char), RJ1, [])
def s_chr : Mi := (yJ0_charAt_5068e, cJ0_charAt_5068e, 2, (some .char), RJ0, [])
theorem sa_coder : caOk s_coder 0 := ⟨wt218, wt7, (by decide : yJ0_coder_7d493.cls ≠ "java/lang/invoke/MethodHandle"), (by decide : yJ0_coder_7d493.cls ≠ "java/lang/invoke/VarHandle"), (by decide +kernel : (parseMethodDescriptor yJ0_coder_7d493.desc).map (fun d => d.parameters.length) = some 0)⟩
theorem sa_len : caOk s_len 0 := ⟨wt214, wt7, (by decide : yJ0_length_8abf5.cls ≠ "java/lang/invoke/MethodHandle"), (by decide : yJ0_length_8abf5.cls ≠ "java/lang/invoke/VarHandle"), (by decide +kernel : (parseMethodDescriptor yJ0_length_8abf5.desc).map (fun d => d.parameters.length) = some 0)⟩
theorem sa_lat : caOk s_lat 0 := ⟨wt228, wt7, (by decide : yJ0_isLatin1_aae02.cls ≠ "java/lang/invoke/MethodHandle"), (by decide : yJ0_isLatin1_aae02.cls ≠ "java/lang/invoke/VarHandle"), (by decide +kernel : (parseMethodDescriptor yJ0_isLatin1_aae02.desc).map (fun d => d.parameters.length) = some 0)⟩
theorem sa_chk : caOk s_chk 2 := ⟨wt234, wt7, (by decide : yJ0_checkIndex_df160.cls ≠ "java/lang/invoke/MethodHandle"), (by decide : yJ0_checkIndex_df160.cls ≠ "java/lang/invoke/VarHandle"), (by decide +kernel : (parseMethodDescriptor yJ0_checkIndex_df160.desc).map (fun d => d.parameters.length) = some 2)⟩
theorem sa_pre : caOk s_pre9 3 := ⟨wt239, wt9, (by decide : yJ3_checkIndex_8e157.cls ≠ "java/lang/invoke/MethodHandle"), (by decide : yJ3_checkIndex_8e157.cls ≠ "java/lang/invoke/VarHandle"), (by decide +kernel : (parseMethodDescriptor yJ3_checkIndex_8e157.desc).map (fun d => d.parameters.length) = some 3)⟩
theorem sa_lch : caOk s_lch 2 := ⟨wt231, wt8, (by decide : yJ1_charAt_3b067.cls ≠ "java/lang/invoke/MethodHandle"), (by decide : yJ1_charAt_3b067.cls ≠ "java/lang/invoke/VarHandle"), (by decide +kernel : (parseMethodDescriptor yJ1_charAt_3b067.desc).map (fun d => d.parameters.length) = some 2)⟩
theorem sa_chr : caOk s_chr 1 := ⟨wt224, wt7, (by decide : yJ0_charAt_5068e.cls ≠ "java/lang/invoke/MethodHandle"), (by decide : yJ0_charAt_5068e.cls ≠ "java/lang/invoke/VarHandle"), (by decide +kernel : (parseMethodDescriptor yJ0_charAt_5068e.desc).map (fun d => d.parameters.length) = some 1)⟩
def sC0 (X : Cxt) (cc : ByteArray) (nL : Nat) (own : String) : Prop := X.P.tables.exec = Jvm.exec ∧ X.Cd.code = cc ∧ X.Cd.maxLocals = nL ∧ X.St.vm.findClass own = some X.Me.cls ∧ (∀ w ∈ T0, w.before X.Ar X.St = true) ∧ pmK X.Gx X.St ∧ pmX X.Gx X.Ow X.St X.St.heap ∧ ∀ q, X.St.heap.size ≤ q → X.Ow q
theorem pmC.s0 {X : Cxt} {cc : ByteArray} {nL : Nat} {own nm : String} {ad : Nat → Nat} (h : pmC X cc nL own nm ad) : sC0 X cc nL own := ⟨h.1, h.2.1, h.2.2.1, h.2.2.2.1, h.2.2.2.2.1, h.2.2.2.2.2.1, h.2.2.2.2.2.2.1, h.2.2.2.2.2.2.2.1⟩
abbrev sRm (fr lo : Nat) : Room := { frames := fr, cells := 0, slots := 0, locals := lo }
/-- a contract that leaves the cells, with a room of its own -/
def sM (l : Launch) (g : Gm) (A : Nat → Prop) (fr lo : Nat) (i : Mi) (as : List Value) (M : Mm) (v : Option Value) : Prop :=
  Met l i.y i.ws (sRm fr lo) (va_Pc as (fun U => pmR g A U.heap M U.heap [] ∧ pmK g U ∧ pmX g A U U.heap ∧ ∀ q, U.heap.size ≤ q → A q)) (fun _ st o t => o = .returned v ∧ pmR g A st.heap M t.heap []) 0 0 A
theorem s_pre {X : Cxt} {cc : ByteArray} {nL : Nat} {own : String} (hC : sC0 X cc nL own) {M : Mm} {H : Heap} {locs : List Loc} (hR : pmR X.Gx X.Ow X.St.heap M H locs) (as : List Value) (U : State) (hU : U.heap = H) (hW : X.St.WarmedH U.vm) : va_Pc as (fun U => pmR X.Gx X.Ow U.heap M U.heap [] ∧ pmK X.Gx U ∧ pmX X.Gx X.Ow U U.heap ∧ ∀ q, U.heap.size ≤ q → X.Ow q) as.toArray U := by
  refine ⟨rfl, ?_, hC.2.2.2.2.2.1.warm hW, ?_, fun q hq => hC.2.2.2.2.2.2.2 q (Nat.le_trans hR.2.2.1 (by rw [hU] at hq; exact hq))⟩
  · rw [hU]
    exact ⟨hR.1, hR.2.1, Nat.le_refl _, fun _ _ _ => rfl, fun _ h => by cases h⟩
  · rw [hU]
    exact pmX.moved hW.alike (pmX.kept hC.2.2.2.2.2.2.1 hR.2.2.2.1)
theorem s_met {l : Launch} {g : Gm} {A : Nat → Prop} {fr lo : Nat} {i : Mi} {as : List Value} {M : Mm} {v : Option Value} (hpl : plainName i.y.cls = true) (hown : i.own = i.y.cls) (hlen : (pmIn as).length ≤ i.nL)
    (hb : ∀ X : Cxt, sC0 X i.cc i.nL i.own → X.Gx = g → X.Ow = A → X.Lh = l → X.C0 = M.2.2.1 → X.S0 = M.2.2.2 → X.Ro.frames = fr → X.Ro.locals = lo → (∀ (pc : Nat) (L : Lc), pmRet i.cc i.ret pc v → pmS X i.nL (pc, L, v.toList, M)) → pmS X i.nL (pmEn i.nL as M)) : sM l g A fr lo i as M v := by
  refine Met.ofW (cc := i.cc) (maxL := i.nL) (ret := i.ret) hpl rfl ?_
  intro p e s m args below meth c s₁ B hml hv
  obtain ⟨rfl, hR, hK, hX, hA⟩ := hv
  have hts := atoms_spec (ws := i.ws) B.pre
  have hfc : s.vm.findClass i.own = some m.cls := by rw [hown]; exact findClass_of_methodNamed B.named
  have hr := B.returns
  have hlocks := B.notSynchronized
  rw [lg_entry_eq]
  have hl := pmL_entry hlen
  generalize (lg_sl as ++ List.replicate (i.nL - (lg_sl as).length) Slot.unset).toArray = ls at hl ⊢
  let X : Cxt := ((p, l, e, (headSpec i.ws (sRm fr lo)).room, s), (m, as.toArray, below, meth, c), MQ below (fun _ st o t => o = .returned v ∧ pmR g A st.heap M t.heap []) as.toArray s 0 0 A, A, g, M.2.2.1, M.2.2.2)
  have hC : sC0 X i.cc i.nL i.own := ⟨B.exec, B.bytes, hml, hfc, fun w hw => hts w (List.mem_cons_of_mem _ hw), hK, hX, hA⟩
  refine hb X hC rfl rfl rfl rfl rfl rfl rfl ?_ ls s.heap [] 0 0 hl hR rfl rfl
  intro pc L hret ls' H locs k n' hL' hR' hk hn
  have ek : k = 0 := by
    have : M.2.2.1 + k = M.2.2.1 := hk
    omega
  have en : n' = 0 := by
    have : M.2.2.2 + n' = M.2.2.2 := hn
    omega
  subst ek; subst en
  have hfree : ∀ q ∈ locs, A q.base := hR'.2.2.2.2
  have hend : ∀ t : State, t.heap = H → s.WarmedH t.vm → pmR g A s.heap M t.heap [] := fun t ht _ => by
    rw [ht]
    exact ⟨hR'.1, hR'.2.1, hR'.2.2.1, hR'.2.2.2.1, fun q hq => by cases hq⟩
  rcases hret with ⟨rfl, h2, h3⟩ | ⟨x, ty, rfl, h2, h3, h4⟩ | ⟨x, rfl, h2, h3⟩ | ⟨a, rt, rfl, h2, h3, h4⟩
  · show W p l e (headSpec i.ws (sRm fr lo)).room s m as.toArray below meth c H locs 0 0 (MQ below (fun _ st o t => o = .returned (none) ∧ pmR g A st.heap M t.heap []) as.toArray s 0 0 A) (F0 m pc ls' [])
    exact W.vret B.exec B.bytes (hr.trans h2) (fun t ht hW => ⟨rfl, hend t ht hW⟩) hfree h3 hlocks
  · show W p l e (headSpec i.ws (sRm fr lo)).room s m as.toArray below meth c H locs 0 0 (MQ below (fun _ st o t => o = .returned (some (.int x)) ∧ pmR g A st.heap M t.heap []) as.toArray s 0 0 A) (F0 m pc ls' [.int x])
    exact W.zret B.exec B.bytes (hr.trans h2) h3 (fun t ht hW => ⟨rfl, hend t ht hW⟩) hfree h4 hlocks
  · show W p l e (headSpec i.ws (sRm fr lo)).room s m as.toArray below meth c H locs 0 0 (MQ below (fun _ st o t => o = .returned (some (.long x)) ∧ pmR g A st.heap M t.heap []) as.toArray s 0 0 A) (F0 m pc ls' [.long x])
    exact W.lret B.exec B.bytes (hr.trans h2) (fun t ht hW => ⟨rfl, hend t ht hW⟩) hfree h3 hlocks
  · show W p l e (headSpec i.ws (sRm fr lo)).room s m as.toArray below meth c H locs 0 0 (MQ below (fun _ st o t => o = .returned (some (.ref a)) ∧ pmR g A st.heap M t.heap []) as.toArray s 0 0 A) (F0 m pc ls' [.ref a])
    exact W.aret B.exec B.bytes (hr.trans h2) h3 (Or.inr ⟨a, rfl⟩) (fun t ht hW => ⟨rfl, hend t ht hW⟩) hfree h4 hlocks
section SCA
variable {X : Cxt} {cc : ByteArray} {nL : Nat} {own : String} {pc ix fr lo n : Nat} {i : Mi} {as rest : List Value} {M : Mm} {v : Option Value} {L : Lc}
theorem s_callv {j : Nat} (hC : sC0 X cc nL own) (hd : decode cc pc = .ok (.invokevirtual ix, 3)) (hj : j < NSt) (hm : sM X.Lh X.Gx X.Ow fr lo i (.ref (X.Gx.2.2.1 j) :: as) M v) (ha : caOk i n) (hn : as.length = n) (hl : Cond.methodLink own ix i.y ∈ T0) (hin : Cond.instanceMethod i.y ∈ T0) (hse : Cond.selects "java/lang/String" i.y i.y ∈ T0)
    (hfr : fr + 1 ≤ X.Ro.frames) (hlo : 8 + (i.nL + 11) + lo ≤ X.Ro.locals) (hb1 : M.2.2.1 ≤ X.C0 + X.Ro.cells) (hb2 : M.2.2.2 ≤ X.S0 + X.Ro.slots) (hcs : csum rest ≤ 8) (hk : pmS X nL (pc + 3, L, v.toList ++ rest, M)) : pmS X nL (pc, L, as.reverse ++ .ref (X.Gx.2.2.1 j) :: rest, M) := by
  intro ls H locs k n' hL hR hk' hn'
  dsimp only at hL hR hk' hn'
  have hts := hC.2.2.2.2.1
  have hrecv := vk_recv hC.2.2.2.2.2.2.1.1 hj hR.2.2
  exact pm_call (L := L) (rest := rest) (M' := M) (v := v) (mc := 0) (ms := 0) (va_runV (As := as) (rest := rest) (C := "java/lang/String") ⟨hC.1, hC.2.1, hC.2.2.1, hC.2.2.2.1, hts⟩ hm ⟨callB_of n hts (mi_good ha.1) rfl rfl rfl (hts _ ha.2.1) (hts _ hl) ha.2.2 ⟨hfr, hlo⟩, hts _ hin, hts _ hse⟩ ⟨pm_blind, hrecv, fun U hU hW => s_pre hC hR _ U hU hW⟩ rfl hn hL.1 rfl (lv_room hcs) hd ⟨by omega, by omega⟩) hR.2.2 hk' hn' hL hk
theorem s_calls (hC : sC0 X cc nL own) (hd : decode cc pc = .ok (.invokestatic ix, 3)) (hm : sM X.Lh X.Gx X.Ow fr lo i as M v) (ha : caOk i n) (hn : as.length = n) (hl : Cond.methodLink own ix i.y ∈ T0) (hst : Cond.static i.y ∈ T0)
    (hfr : fr + 1 ≤ X.Ro.frames) (hlo : 8 + (i.nL + 11) + lo ≤ X.Ro.locals) (hb1 : M.2.2.1 ≤ X.C0 + X.Ro.cells) (hb2 : M.2.2.2 ≤ X.S0 + X.Ro.slots) (hcs : csum rest ≤ 8) (hk : pmS X nL (pc + 3, L, v.toList ++ rest, M)) : pmS X nL (pc, L, as.reverse ++ rest, M) := by
  intro ls H locs k n' hL hR hk' hn'
  dsimp only at hL hR hk' hn'
  have hts := hC.2.2.2.2.1
  exact pm_call (L := L) (rest := rest) (M' := M) (v := v) (mc := 0) (ms := 0) (va_runS (As := as) (rest := rest) ⟨hC.1, hC.2.1, hC.2.2.1, hC.2.2.2.1, hts⟩ hm ⟨callB_of n hts (mi_good ha.1) rfl rfl rfl (hts _ ha.2.1) (hts _ hl) ha.2.2 ⟨hfr, hlo⟩, hts _ hst⟩ ⟨pm_blind, fun U hU hW => s_pre hC hR _ U hU hW⟩ rfl hn hL.1 rfl (lv_room hcs) hd ⟨by omega, by omega⟩) hR.2.2 hk' hn' hL hk
end SCA
section SME
variable {l : Launch} {g : Gm} {A : Nat → Prop} {M : Mm} {i : Nat}
theorem sm_coder (hi : i < NSt) : sM l g A 1 0 s_coder [.ref (g.2.2.1 i)] M (some (.int 0)) := by
  refine s_met rfl rfl (Nat.le_of_ble_eq_true rfl) (fun X hC hG hA hl hc hs hf hlo hret => ?_)
  subst hG hA hl
  have hX := hC.2.2.2.2.2.2.1
  have hts := hC.2.2.2.2.1
  show pmS X 1 (0, [some (.ref (X.Gx.2.2.1 i))], [], M)
  intro ls H locs k n hL hR hk hn
  dsimp only at hL hR hk hn ⊢
  refine va_gets (v := .int 1) hC.1 hC.2.1 hX.2.1 hR.2.2 hC.2.2.2.1 (hts _ wt219) (fun _ h => h) (by decide +kernel) ?_
  refine lv_if_eq (off := 10) (tgt := 13) hC.1 hC.2.1 (by decide +kernel) rfl (fun h => absurd h (by decide)) (fun _ => ?_)
  refine lv_aload_n (k := 0) hC.1 hC.2.1 (by decide +kernel) rfl (hL.2.2.2 0 _ rfl) ?_
  refine vk_getf (v := .int 0) hC.1 hC.2.1 (hX.1.1 i hi).2.1 hR.2.2 hC.2.2.2.1 (hts _ wt2071) (fun _ h => h) (by decide +kernel) ?_
  refine lv_goto (off := 4) (tgt := 14) hC.1 hC.2.1 (by decide +kernel) rfl ?_
  exact hret 14 _ (Or.inr (Or.inl ⟨0, .byte, rfl, rfl, rfl, (by decide +kernel)⟩)) ls H locs k n hL hR hk hn
theorem sm_lat (hi : i < NSt) : sM l g A 1 0 s_lat [.ref (g.2.2.1 i)] M (some (.int 1)) := by
  refine s_met rfl rfl (Nat.le_of_ble_eq_true rfl) (fun X hC hG hA hl hc hs hf hlo hret => ?_)
  subst hG hA hl
  have hX := hC.2.2.2.2.2.2.1
  have hts := hC.2.2.2.2.1
  show pmS X 1 (0, [some (.ref (X.Gx.2.2.1 i))], [], M)
  intro ls H locs k n hL hR hk hn
  dsimp only at hL hR hk hn ⊢
  refine va_gets (v := .int 1) hC.1 hC.2.1 hX.2.1 hR.2.2 hC.2.2.2.1 (hts _ wt219) (fun _ h => h) (by decide +kernel) ?_
  refine lv_if_eq (off := 14) (tgt := 17) hC.1 hC.2.1 (by decide +kernel) rfl (fun h => absurd h (by decide)) (fun _ => ?_)
  refine lv_aload_n (k := 0) hC.1 hC.2.1 (by decide +kernel) rfl (hL.2.2.2 0 _ rfl) ?_
  refine vk_getf (v := .int 0) hC.1 hC.2.1 (hX.1.1 i hi).2.1 hR.2.2 hC.2.2.2.1 (hts _ wt2071) (fun _ h => h) (by decide +kernel) ?_
  refine lv_if_ne (off := 7) (tgt := 17) hC.1 hC.2.1 (by decide +kernel) rfl (fun h => absurd rfl h) (fun _ => ?_)
  refine lv_iconst (n := 1) hC.1 hC.2.1 (by decide +kernel) (v := 1) rfl ?_
  refine lv_goto (off := 4) (tgt := 18) hC.1 hC.2.1 (by decide +kernel) rfl ?_
  exact hret 18 _ (Or.inr (Or.inl ⟨1, .boolean, rfl, rfl, rfl, (by decide +kernel)⟩)) ls H locs k n hL hR hk hn
theorem sLen_lt : ∀ i, i < NSt → sLen.getD i 0 < 100 := by decide +kernel
theorem sLen_sh : ∀ i, i < NSt → nI (sLen.getD i 0) >>> ((0 : Int32) &&& 31) = nI (sLen.getD i 0) := by decide +kernel
theorem sm_len (hi : i < NSt) : sM l g A 2 20 s_len [.ref (g.2.2.1 i)] M (some (.int (nI (sLen.getD i 0)))) := by
  refine s_met rfl rfl (Nat.le_of_ble_eq_true rfl) (fun X hC hG hA hl hc hs hf hlo hret => ?_)
  subst hG hA hl
  have hX := hC.2.2.2.2.2.2.1
  have hts := hC.2.2.2.2.1
  have hb1 : M.2.2.1 ≤ X.C0 + X.Ro.cells := by rw [hc]; exact Nat.le_add_right _ _
  have hb2 : M.2.2.2 ≤ X.S0 + X.Ro.slots := by rw [hs]; exact Nat.le_add_right _ _
  have key : pmS X 1 (6, [some (.ref (X.Gx.2.2.1 i))], [.ref (X.Gx.2.2.1 i), .int (nI (sLen.getD i 0))], M) := by
    refine s_callv (as := []) (rest := [.int (nI (sLen.getD i 0))]) (i := s_coder) hC (by decide +kernel) hi (sm_coder hi) sa_coder rfl wt215 wt216 wt217 (by rw [hf]; decide) (by rw [hlo]; decide) hb1 hb2 (Nat.le_of_ble_eq_true rfl) ?_
    intro ls H locs k n hL hR hk hn
    dsimp only at hL hR hk hn ⊢
    refine lv_ishr hC.1 hC.2.1 (by decide +kernel) ?_
    rw [sLen_sh i hi]
    exact hret 10 _ (Or.inr (Or.inl ⟨_, .int, rfl, rfl, rfl, (by decide +kernel)⟩)) ls H locs k n hL hR hk hn
  show pmS X 1 (0, [some (.ref (X.Gx.2.2.1 i))], [], M)
  intro ls H locs k n hL hR hk hn
  dsimp only at hL hR hk hn ⊢
  refine lv_aload_n (k := 0) hC.1 hC.2.1 (by decide +kernel) rfl (hL.2.2.2 0 _ rfl) ?_
  refine vk_getf hC.1 hC.2.1 (hX.1.1 i hi).2.2.1 hR.2.2 hC.2.2.2.1 (hts _ wt2070) (fun _ h => h) (by decide +kernel) ?_
  refine va_tlen hC.1 hC.2.1 (hX.1.1 i hi).2.2.2 hR.2.2 (v := nI (sLen.getD i 0)) rfl (by decide +kernel) ?_
  refine lv_aload_n (k := 0) hC.1 hC.2.1 (by decide +kernel) rfl (hL.2.2.2 0 _ rfl) ?_
  exact key ls H locs k n hL hR hk hn
theorem pm_in3 {x y : Int32} {w : Value} (hw : w.category = 1) : pmIn [.int x, .int y, w] = [some (.int x), some (.int y), some w] := by
  show some (.int x) :: some (.int y) :: (if w.category = 2 then some w :: none :: [] else some w :: []) = _
  rw [hw]
  rfl
theorem sm_pre {x y : Int32} {w : Value} (hw : w.category = 1) (h0 : ¬ x < 0) (h1 : x < y) : sM l g A 1 0 s_pre9 [.int x, .int y, w] M (some (.int x)) := by
  refine s_met rfl rfl (by rw [pm_in3 hw]; exact Nat.le_refl 3) (fun X hC hG hA hl hc hs hf hlo hret => ?_)
  have e : pmEn 3 [.int x, .int y, w] M = (0, [some (.int x), some (.int y), some w], [], M) := by unfold pmEn; rw [pm_in3 hw]; rfl
  show pmS X 3 (pmEn 3 [.int x, .int y, w] M)
  rw [e]
  intro ls H locs k n hL hR hk hn
  dsimp only at hL hR hk hn ⊢
  refine lv_iload_n (k := 0) hC.1 hC.2.1 (by decide +kernel) rfl (hL.2.2.2 0 _ rfl) ?_
  refine lv_if_lt (off := 8) (tgt := 9) hC.1 hC.2.1 (by decide +kernel) rfl (fun h => absurd h h0) (fun _ => ?_)
  refine lv_iload_n (k := 0) hC.1 hC.2.1 (by decide +kernel) rfl (hL.2.2.2 0 _ rfl) ?_
  refine lv_iload_n (k := 1) hC.1 hC.2.1 (by decide +kernel) rfl (hL.2.2.2 1 _ rfl) ?_
  refine lv_icmp_lt (off := 10) (tgt := 16) hC.1 hC.2.1 (by decide +kernel) rfl (fun _ => ?_) (fun h => absurd h1 h)
  refine lv_iload_n (k := 0) hC.1 hC.2.1 (by decide +kernel) rfl (hL.2.2.2 0 _ rfl) ?_
  exact hret 17 _ (Or.inr (Or.inl ⟨x, .int, rfl, rfl, rfl, (by decide +kernel)⟩)) ls H locs k n hL hR hk hn
theorem sm_chk {x y : Int32} (h0 : ¬ x < 0) (h1 : x < y) : sM l g A 2 22 s_chk [.int x, .int y] M none := by
  refine s_met rfl rfl (Nat.le_of_ble_eq_true rfl) (fun X hC hG hA hl hc hs hf hlo hret => ?_)
  subst hG hA hl
  have hX := hC.2.2.2.2.2.2.1
  have hts := hC.2.2.2.2.1
  have hb1 : M.2.2.1 ≤ X.C0 + X.Ro.cells := by rw [hc]; exact Nat.le_add_right _ _
  have hb2 : M.2.2.2 ≤ X.S0 + X.Ro.slots := by rw [hs]; exact Nat.le_add_right _ _
  obtain ⟨w, hw, hZ⟩ := hX.2.2.1
  have key : pmS X 2 (5, [some (.int x), some (.int y)], [w, .int y, .int x], M) := by
    refine s_calls (as := [.int x, .int y, w]) (rest := []) (i := s_pre9) hC (by decide +kernel) (sm_pre hw h0 h1) sa_pre rfl wt237 wt238 (by rw [hf]; decide) (by rw [hlo]; decide) hb1 hb2 (by decide) ?_
    intro ls H locs k n hL hR hk hn
    dsimp only at hL hR hk hn ⊢
    refine lv_pop hC.1 hC.2.1 (by decide +kernel) rfl ?_
    exact hret 9 _ (Or.inl ⟨rfl, rfl, (by decide +kernel)⟩) ls H locs k n hL hR hk hn
  show pmS X 2 (0, [some (.int x), some (.int y)], [], M)
  intro ls H locs k n hL hR hk hn
  dsimp only at hL hR hk hn ⊢
  refine lv_iload_n (k := 0) hC.1 hC.2.1 (by decide +kernel) rfl (hL.2.2.2 0 _ rfl) ?_
  refine lv_iload_n (k := 1) hC.1 hC.2.1 (by decide +kernel) rfl (hL.2.2.2 1 _ rfl) ?_
  refine va_gets hC.1 hC.2.1 hZ hR.2.2 hC.2.2.2.1 (hts _ wt235) (fun _ h => h) (by decide +kernel) ?_
  exact key ls H locs k n hL hR hk hn
theorem sByt_c : ∀ i, i < NSt → ∀ k, k < sLen.getD i 0 → ((((sByt.getD i []).getD k 0) &&& 255).toUInt32 % 65536).toInt32 = (sByt.getD i []).getD k 0 ∧ narrow .char (.int ((sByt.getD i []).getD k 0)) = .int ((sByt.getD i []).getD k 0) := by decide +kernel
theorem sm_lch {k : Nat} (hi : i < NSt) (hk : k < sLen.getD i 0) : sM l g A 3 43 s_lch [.ref (g.2.2.2 i), .int (nI k)] M (some (.int ((sByt.getD i []).getD k 0))) := by
  have hl9 := sLen_lt i hi
  obtain ⟨hb9, hn9⟩ := sByt_c i hi k hk
  refine s_met rfl rfl (Nat.le_of_ble_eq_true rfl) (fun X hC hG hA hl hc hs hf hlo hret => ?_)
  subst hG hA hl
  have hX := hC.2.2.2.2.2.2.1
  have hts := hC.2.2.2.2.1
  have hb1 : M.2.2.1 ≤ X.C0 + X.Ro.cells := by rw [hc]; exact Nat.le_add_right _ _
  have hb2 : M.2.2.2 ≤ X.S0 + X.Ro.slots := by rw [hs]; exact Nat.le_add_right _ _
  have key : pmS X 2 (3, [some (.ref (X.Gx.2.2.2 i)), some (.int (nI k))], [.int (nI (sLen.getD i 0)), .int (nI k)], M) := by
    refine s_calls (as := [.int (nI k), .int (nI (sLen.getD i 0))]) (rest := []) (i := s_chk) hC (by decide +kernel) (sm_chk (nI_pos (by omega)) (nI_lt hk (by omega))) sa_chk rfl wt232 wt233 (by rw [hf]; decide) (by rw [hlo]; decide) hb1 hb2 (by decide) ?_
    intro ls H locs k' n hL hR hk' hn
    dsimp only at hL hR hk' hn ⊢
    refine lv_aload_n (k := 0) hC.1 hC.2.1 (by decide +kernel) rfl (hL.2.2.2 0 _ rfl) ?_
    refine lv_iload_n (k := 1) hC.1 hC.2.1 (by decide +kernel) rfl (hL.2.2.2 1 _ rfl) ?_
    refine va_tb hC.1 hC.2.1 (hX.1.1 i hi).2.2.2 hR.2.2 (vp_in_nI hk (by omega)) (v := .int ((sByt.getD i []).getD k 0)) (by rw [nI_clamp (by omega)]) (by decide +kernel) ?_
    refine lv_sipush (n := 255) hC.1 hC.2.1 (by decide +kernel) (v := 255) rfl ?_
    refine lv_iand hC.1 hC.2.1 (by decide +kernel) ?_
    refine lv_i2c hC.1 hC.2.1 (by decide +kernel) hb9 ?_
    exact hret 14 _ (Or.inr (Or.inl ⟨_, .char, rfl, rfl, hn9, (by decide +kernel)⟩)) ls H locs k' n hL hR hk' hn
  show pmS X 2 (0, [some (.ref (X.Gx.2.2.2 i)), some (.int (nI k))], [], M)
  intro ls H locs k' n hL hR hk' hn
  dsimp only at hL hR hk' hn ⊢
  refine lv_iload_n (k := 1) hC.1 hC.2.1 (by decide +kernel) rfl (hL.2.2.2 1 _ rfl) ?_
  refine lv_aload_n (k := 0) hC.1 hC.2.1 (by decide +kernel) rfl (hL.2.2.2 0 _ rfl) ?_
  refine va_tlen hC.1 hC.2.1 (hX.1.1 i hi).2.2.2 hR.2.2 (v := nI (sLen.getD i 0)) rfl (by decide +kernel) ?_
  exact key ls H locs k' n hL hR hk' hn
theorem sm_chr {k : Nat} (hi : i < NSt) (hk : k < sLen.getD i 0) : sM l g A 4 64 s_chr [.ref (g.2.2.1 i), .int (nI k)] M (some (.int ((sByt.getD i []).getD k 0))) := by
  obtain ⟨hb9, hn9⟩ := sByt_c i hi k hk
  refine s_met rfl rfl (Nat.le_of_ble_eq_true rfl) (fun X hC hG hA hl hc hs hf hlo hret => ?_)
  subst hG hA hl
  have hX := hC.2.2.2.2.2.2.1
  have hts := hC.2.2.2.2.1
  have hb1 : M.2.2.1 ≤ X.C0 + X.Ro.cells := by rw [hc]; exact Nat.le_add_right _ _
  have hb2 : M.2.2.2 ≤ X.S0 + X.Ro.slots := by rw [hs]; exact Nat.le_add_right _ _
  have key2 : pmS X 2 (12, [some (.ref (X.Gx.2.2.1 i)), some (.int (nI k))], [.int (nI k), .ref (X.Gx.2.2.2 i)], M) := by
    refine s_calls (as := [.ref (X.Gx.2.2.2 i), .int (nI k)]) (rest := []) (i := s_lch) hC (by decide +kernel) (sm_lch hi hk) sa_lch rfl wt229 wt230 (by rw [hf]; decide) (by rw [hlo]; decide) hb1 hb2 (by decide) ?_
    intro ls H locs k' n hL hR hk' hn
    dsimp only at hL hR hk' hn ⊢
    exact hret 15 _ (Or.inr (Or.inl ⟨_, .char, rfl, rfl, hn9, (by decide +kernel)⟩)) ls H locs k' n hL hR hk' hn
  have key1 : pmS X 2 (1, [some (.ref (X.Gx.2.2.1 i)), some (.int (nI k))], [.ref (X.Gx.2.2.1 i)], M) := by
    refine s_callv (as := []) (rest := []) (i := s_lat) hC (by decide +kernel) hi (sm_lat hi) sa_lat rfl wt225 wt226 wt227 (by rw [hf]; decide) (by rw [hlo]; decide) hb1 hb2 (by decide) ?_
    intro ls H locs k' n hL hR hk' hn
    dsimp only at hL hR hk' hn ⊢
    refine lv_if_eq (off := 12) (tgt := 16) hC.1 hC.2.1 (by decide +kernel) rfl (fun h => absurd h (by decide)) (fun _ => ?_)
    refine lv_aload_n (k := 0) hC.1 hC.2.1 (by decide +kernel) rfl (hL.2.2.2 0 _ rfl) ?_
    refine vk_getf hC.1 hC.2.1 (hX.1.1 i hi).2.2.1 hR.2.2 hC.2.2.2.1 (hts _ wt2070) (fun _ h => h) (by decide +kernel) ?_
    refine lv_iload_n (k := 1) hC.1 hC.2.1 (by decide +kernel) rfl (hL.2.2.2 1 _ rfl) ?_
    exact key2 ls H locs k' n hL hR hk' hn
  show pmS X 2 (0, [some (.ref (X.Gx.2.2.1 i)), some (.int (nI k))], [], M)
  intro ls H locs k' n hL hR hk' hn
  dsimp only at hL hR hk' hn ⊢
  refine lv_aload_n (k := 0) hC.1 hC.2.1 (by decide +kernel) rfl (hL.2.2.2 0 _ rfl) ?_
  exact key1 ls H locs k' n hL hR hk' hn
end SME
theorem sI_cl {x : Int32} (h : 0 ≤ x) : nI x.toNatClampNeg = x := by
  have hz0 : (0 : Int) ≤ x.toInt := by simpa using Int32.le_iff_toInt_le.mp h
  apply Int32.toInt_inj.mp
  rw [nI_toInt (by have := x.toInt_lt; show x.toInt.toNat < 2 ^ 31; omega)]
  show ((x.toInt.toNat : Nat) : Int) = x.toInt
  omega
theorem pm_str {g : Gm} {A : Nat → Prop} {H0 : Heap} {M : Mm} {H : Heap} {locs : List Loc} (h : pmR g A H0 M H locs) {a c : Nat} {fs : List Value} (ha : M.1 a = some (.inr (c, fs))) (hc : 1000 ≤ c) : ∃ i, i < NSt ∧ a = g.2.2.1 i ∧ c = 1000 + i := by
  rcases h.2.1 a _ ha with ⟨⟨r, h1, -⟩, -⟩ | ⟨i, h1, h2, h3⟩
  · have h2 : c < vwCl.length := (List.getElem?_eq_some_iff.mp h1).1
    have h3 : vwCl.length ≤ 1000 := by decide
    omega
  · cases h3
    exact ⟨i, h1, h2, rfl⟩
section SOK
variable {mt : List Mi} {cc : ByteArray} {nL : Nat} {own nm : String} {ad : Nat → Nat} {ret : Option FieldType} {pc : Nat}
theorem fSlen_inv {nx : Nat} {fr fr' : Fm} (h : fSlen nx fr = some fr') : ∃ (a c n : Nat) (fs r : List Value), fr.2.2.1 = .ref a :: r ∧ fr.2.2.2.1 a = some (.inr (c, fs)) ∧ 1000 ≤ c ∧ csum r ≤ 8 ∧ sLen[c - 1000]? = some n ∧ fr' = (nx, fr.2.1, .int (nI n) :: r, fr.2.2.2) := by
  unfold fSlen at h
  split at h
  · rename_i a r e1
    split at h
    · rename_i c fs e2
      split at h
      · rename_i hc
        split at h
        · rename_i n e3
          cases h
          exact ⟨a, c, n, fs, r, e1, e2, hc.1, hc.2, e3, rfl⟩
        · cases h
      · cases h
    · cases h
  · cases h
theorem fSchr_inv {nx : Nat} {fr fr' : Fm} (h : fSchr nx fr = some fr') : ∃ (k : Int32) (a c : Nat) (b : Int32) (bs : List Int32) (fs r : List Value), fr.2.2.1 = .int k :: .ref a :: r ∧ fr.2.2.2.1 a = some (.inr (c, fs)) ∧ 1000 ≤ c ∧ csum r ≤ 8 ∧ ¬ k < 0 ∧ sByt[c - 1000]? = some bs ∧ bs[k.toNatClampNeg]? = some b ∧ fr' = (nx, fr.2.1, .int b :: r, fr.2.2.2) := by
  unfold fSchr at h
  split at h
  · rename_i k a r e1
    split at h
    · rename_i c fs e2
      split at h
      · rename_i hc
        split at h
        · rename_i bs e3
          split at h
          · rename_i b e4
            cases h
            exact ⟨k, a, c, b, bs, fs, r, e1, e2, hc.1, hc.2.1, hc.2.2, e3, e4, rfl⟩
          · cases h
        · cases h
      · cases h
    · cases h
  · cases h
theorem ok_slen {ix : Nat} (hd : decode cc pc = .ok (.invokevirtual ix, 3)) (hl : Cond.methodLink own ix yJ0_length_8abf5 ∈ T0) : pmG mt cc nL own nm ad ret (pc, pmW (fSlen (pc + 3))) := by
  refine pm_w (fun L st M fr' hf => ?_) fun X hC L st M fr' hf h1 h2 hS => ?_
  · obtain ⟨a, c, n, fs, r, -, -, -, -, -, rfl⟩ := fSlen_inv hf
    exact pmLe.rf M
  · obtain ⟨a, c, n, fs, r, e1, e2, e3, e4, e5, rfl⟩ := fSlen_inv hf
    intro ls H locs k' n' hL hR hk' hn'
    dsimp only at e1 e2
    subst e1
    obtain ⟨i, hi, rfl, rfl⟩ := pm_str hR e2 e3
    rw [show 1000 + i - 1000 = i by omega] at e5
    have e6 : sLen.getD i 0 = n := by rw [List.getD_eq_getElem?_getD, e5]; rfl
    have h5 := hC.2.2.2.2.2.2.2.2.1
    have h6 := hC.2.2.2.2.2.2.2.2.2.1
    have hS2 : pmS X nL (pc + 3, L, (some (Value.int (nI (sLen.getD i 0)))).toList ++ r, M) := by rw [e6]; exact hS
    exact s_callv (as := []) (rest := r) (i := s_len) hC.s0 hd hi (sm_len hi) sa_len rfl hl wt212 wt213 (Nat.le_trans (by decide) h5) (Nat.le_trans (by decide) h6) h1 h2 e4 hS2 ls H locs k' n' hL hR hk' hn'
theorem sByt_l : ∀ i, i < NSt → (sByt.getD i []).length = sLen.getD i 0 := by decide +kernel
theorem ok_schr {ix : Nat} (hd : decode cc pc = .ok (.invokevirtual ix, 3)) (hl : Cond.methodLink own ix yJ0_charAt_5068e ∈ T0) : pmG mt cc nL own nm ad ret (pc, pmW (fSchr (pc + 3))) := by
  refine pm_w (fun L st M fr' hf => ?_) fun X hC L st M fr' hf h1 h2 hS => ?_
  · obtain ⟨k, a, c, b, bs, fs, r, -, -, -, -, -, -, -, rfl⟩ := fSchr_inv hf
    exact pmLe.rf M
  · obtain ⟨k, a, c, b, bs, fs, r, e1, e2, e3, e4, e5, e6, e7, rfl⟩ := fSchr_inv hf
    intro ls H locs k' n' hL hR hk' hn'
    dsimp only at e1 e2
    subst e1
    obtain ⟨i, hi, rfl, rfl⟩ := pm_str hR e2 e3
    rw [show 1000 + i - 1000 = i by omega] at e6
    have e8 : sByt.getD i [] = bs := by rw [List.getD_eq_getElem?_getD, e6]; rfl
    have e9 : k = nI k.toNatClampNeg := (sI_cl (Int32.not_lt.mp e5)).symm
    have hlt : k.toNatClampNeg < sLen.getD i 0 := by rw [← sByt_l i hi, e8]; exact (List.getElem?_eq_some_iff.mp e7).1
    have e10 : (sByt.getD i []).getD k.toNatClampNeg 0 = b := by rw [e8, List.getD_eq_getElem?_getD, e7]; rfl
    have h5 := hC.2.2.2.2.2.2.2.2.1
    have h6 := hC.2.2.2.2.2.2.2.2.2.1
    have hS2 : pmS X nL (pc + 3, L, (some (Value.int ((sByt.getD i []).getD k.toNatClampNeg 0))).toList ++ r, M) := by rw [e10]; exact hS
    rw [e9] at hL hR hk' hn' ⊢
    exact s_callv (as := [.int (nI k.toNatClampNeg)]) (rest := r) (i := s_chr) hC.s0 hd hi (sm_chr hi hlt) sa_chr rfl hl wt222 wt223 h5 (Nat.le_trans (by decide) h6) h1 h2 e4 hS2 ls H locs k' n' hL hR hk' hn'
end SOK
