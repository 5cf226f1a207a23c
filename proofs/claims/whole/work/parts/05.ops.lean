/-! rows that touch locals and operands alone -/
abbrev Fs : Type := Lc → List Value → Option (Nat × Lc × List Value)
def ns (f : Fs) : Ins := fun fr => match f fr.2.1 fr.2.2.1 with
  | some r => some (.inl (r.1, r.2.1, r.2.2, fr.2.2.2))
  | none => none
def okv : Nat → Value → Bool
  | 0, .int _ => true
  | 1, .long _ => true
  | 2, .ref _ => true
  | 3, .int x => x == 0 || x == 1
  | _, _ => false
/-- what a row of this kind must say -/
def pmF (X : Cxt) (nL pc : Nat) (f : Fs) : Prop := ∀ (L : Lc) (st : List Value) (r : Nat × Lc × List Value), f L st = some r → ∀ (H : Heap) (locs : List Loc) (k n : Nat), (∀ ls, pmL nL ls r.2.1 → WX X H locs k n (F0 X.Me r.1 ls r.2.2)) → ∀ ls, pmL nL ls L → WX X H locs k n (F0 X.Me pc ls st)
theorem pm_ns {mt : List Mi} {cc : ByteArray} {nL : Nat} {own nm : String} {ad : Nat → Nat} {ret : Option FieldType} {pc : Nat} {f : Fs} (h : ∀ X : Cxt, pmC X cc nL own nm ad → pmF X nL pc f) : pmG mt cc nL own nm ad ret (pc, ns f) := by
  refine ⟨fun L st M => ⟨fun fr' hf => ?_, fun j as fr' hf => ?_, fun v M1 hf => ?_⟩, fun X hC L st M => ⟨fun fr' hf _ _ hS => ?_, fun j as fr' hf => ?_, fun v M1 hf => ?_⟩⟩
  all_goals (dsimp only [ns] at hf; cases hr : f L st with | none => rw [hr] at hf; cases hf | some r => rw [hr] at hf; cases hf <;> first | exact pmLe.rf M | (intro ls H locs k n hL hR hk hn; exact h X hC L st r hr H locs k n (fun ls' hL' => hS ls' H locs k n hL' hR hk hn) ls hL))
theorem pmL.hs {nL : Nat} {ls : Array Slot} {L : Lc} (h : pmL nL ls L) : lv_has ls nL ((List.range L.length).filterMap (fun i => match L[i]? with | some (some v) => some (i, v) | _ => none)) := by
  refine ⟨h.1, h.2.2.1, fun q hq => ?_⟩
  obtain ⟨i, -, hi⟩ := List.mem_filterMap.mp hq
  cases hL : L[i]? with
  | none => rw [hL] at hi; cases hi
  | some o =>
    cases o with
    | none => rw [hL] at hi; cases hi
    | some v => rw [hL] at hi; cases hi; exact h.2.2.2 i v hL
theorem pm_inl {L : Lc} {i : Nat} {v : Value} (h : L[i]? = some (some v)) : (i, v) ∈ (List.range L.length).filterMap (fun i => match L[i]? with | some (some v) => some (i, v) | _ => none) := by
  refine List.mem_filterMap.mpr ⟨i, ?_, by rw [h]⟩
  exact List.mem_range.mpr (List.getElem?_eq_some_iff.mp h).1
/-- a store ends a long that began one place before -/
def kilP (L : Lc) (i : Nat) : Lc := match i with
  | 0 => L
  | j + 1 => match L[j]? with
    | some (some (.long _)) => L.set j none
    | some (some (.double _)) => L.set j none
    | _ => L
def set1 (L : Lc) (i : Nat) (v : Value) : Lc := (kilP L i).set i (some v)
def set2 (L : Lc) (i : Nat) (v : Value) : Lc := ((kilP L i).set i (some v)).set (i + 1) none
theorem kilP_len (L : Lc) (i : Nat) : (kilP L i).length = L.length := by
  unfold kilP
  split
  · rfl
  · split <;> simp
theorem kilP_at {L : Lc} {i j : Nat} {v : Value} (h : (kilP L i)[j]? = some (some v)) : L[j]? = some (some v) ∧ ¬ (j + 1 = i ∧ v.category = 2) := by
  unfold kilP at h
  split at h
  · exact ⟨h, by omega⟩
  · rename_i k
    split at h
    · rw [List.getElem?_set] at h
      split at h
      · split at h <;> simp at h
      · refine ⟨h, fun q => ?_⟩
        omega
    · rw [List.getElem?_set] at h
      split at h
      · split at h <;> simp at h
      · refine ⟨h, fun q => ?_⟩
        omega
    · rename_i h1 h2
      refine ⟨h, fun q => ?_⟩
      have : j = k := by omega
      subst this
      cases v with
      | long x => exact h1 x h
      | double x => exact h2 x h
      | _ => simp [Value.category] at q
theorem pmL_set1 {nL : Nat} {ls ls' : Array Slot} {L : Lc} {i : Nat} {v : Value} (h : pmL nL ls L) (h' : lv_has ls' nL ((i, v) :: ((List.range L.length).filterMap (fun i => match L[i]? with | some (some v) => some (i, v) | _ => none)).filter (fun q => !(q.1 == i) && !(q.1 + 1 == i && q.2.category == 2)))) : pmL nL ls' (set1 L i v) := by
  refine ⟨h'.1, by unfold set1; rw [List.length_set, kilP_len]; exact h.2.1, h'.2.1, fun j w hj => ?_⟩
  unfold set1 at hj
  rw [List.getElem?_set] at hj
  split at hj
  · rename_i e
    split at hj
    · cases hj
      rw [← e]
      exact h'.2.2 (i, v) List.mem_cons_self
    · simp at hj
  · rename_i ne
    obtain ⟨h1, h2⟩ := kilP_at hj
    refine h'.2.2 (j, w) (List.mem_cons_of_mem _ (List.mem_filter.mpr ⟨pm_inl h1, ?_⟩))
    have h3 : ¬ j = i := fun q => ne q.symm
    simp only [Bool.and_eq_true, Bool.not_eq_true', beq_eq_false_iff_ne, ne_eq]
    refine ⟨h3, ?_⟩
    by_cases hc : j + 1 = i
    · have h4 : ¬ w.category = 2 := fun q => h2 ⟨hc, q⟩
      simp [h4]
    · simp [hc]
theorem pmL_set2 {nL : Nat} {ls ls' : Array Slot} {L : Lc} {i : Nat} {v : Value} (h : pmL nL ls L) (h' : lv_has ls' nL ((i, v) :: ((List.range L.length).filterMap (fun i => match L[i]? with | some (some v) => some (i, v) | _ => none)).filter (fun q => !(q.1 == i) && (!(q.1 == i + 1) && !(q.1 + 1 == i && q.2.category == 2))))) : pmL nL ls' (set2 L i v) := by
  refine ⟨h'.1, by unfold set2; rw [List.length_set, List.length_set, kilP_len]; exact h.2.1, h'.2.1, fun j w hj => ?_⟩
  unfold set2 at hj
  rw [List.getElem?_set] at hj
  split at hj
  · split at hj <;> simp at hj
  · rename_i ne2
    rw [List.getElem?_set] at hj
    split at hj
    · rename_i e
      split at hj
      · cases hj
        rw [← e]
        exact h'.2.2 (i, v) List.mem_cons_self
      · simp at hj
    · rename_i ne
      obtain ⟨h1, h2⟩ := kilP_at hj
      refine h'.2.2 (j, w) (List.mem_cons_of_mem _ (List.mem_filter.mpr ⟨pm_inl h1, ?_⟩))
      have h3 : ¬ j = i := fun q => ne q.symm
      have h5 : ¬ j = i + 1 := fun q => ne2 q.symm
      simp only [Bool.and_eq_true, Bool.not_eq_true', beq_eq_false_iff_ne, ne_eq]
      refine ⟨h3, h5, ?_⟩
      by_cases hc : j + 1 = i
      · have h4 : ¬ w.category = 2 := fun q => h2 ⟨hc, q⟩
        simp [h4]
      · simp [hc]
section OPS
variable {mt : List Mi} {cc : ByteArray} {nL : Nat} {own nm : String} {ad : Nat → Nat} {ret : Option FieldType} {pc : Nat}
def fPush (v : Value) (nx : Nat) : Fs := fun L st => some (nx, L, v :: st)
theorem ok_iconst {n : Int} {v : Int32} (hd : decode cc pc = .ok (.iconst n, 1)) (hv : Int32.ofInt n = v) : pmG mt cc nL own nm ad ret (pc, ns (fPush (.int v) (pc + 1))) := by
  refine pm_ns fun X hC L st r hr H locs k n kk ls hL => ?_
  cases hr
  exact lv_iconst hC.1 hC.2.1 hd hv (kk ls hL)
theorem ok_bipush {n : Int} {v : Int32} (hd : decode cc pc = .ok (.bipush n, 2)) (hv : (Int8.ofInt n).toInt32 = v) : pmG mt cc nL own nm ad ret (pc, ns (fPush (.int v) (pc + 2))) := by
  refine pm_ns fun X hC L st r hr H locs k n kk ls hL => ?_
  cases hr
  exact lv_bipush hC.1 hC.2.1 hd hv (kk ls hL)
theorem ok_sipush {n : Int} {v : Int32} (hd : decode cc pc = .ok (.sipush n, 3)) (hv : (Int16.ofInt n).toInt32 = v) : pmG mt cc nL own nm ad ret (pc, ns (fPush (.int v) (pc + 3))) := by
  refine pm_ns fun X hC L st r hr H locs k n kk ls hL => ?_
  cases hr
  exact lv_sipush hC.1 hC.2.1 hd hv (kk ls hL)
theorem ok_lconst {n : Fin 2} {v : Int64} (hd : decode cc pc = .ok (.lconst n, 1)) (hv : Int64.ofNat (n : Nat) = v) : pmG mt cc nL own nm ad ret (pc, ns (fPush (.long v) (pc + 1))) := by
  refine pm_ns fun X hC L st r hr H locs k n kk ls hL => ?_
  cases hr
  exact lv_lconst hC.1 hC.2.1 hd hv (kk ls hL)
theorem ok_ldc {ix : Nat} {v : Int32} (hd : decode cc pc = .ok (.ldc ix, 2)) (hw : Cond.constant own ix v ∈ T0) : pmG mt cc nL own nm ad ret (pc, ns (fPush (.int v) (pc + 2))) := by
  refine pm_ns fun X hC L st r hr H locs k n kk ls hL => ?_
  cases hr
  exact lv_ldc hC.1 hC.2.1 hC.2.2.2.1 (hC.2.2.2.2.1 _ hw) hd (kk ls hL)
theorem ok_ldcw {ix : Nat} {v : Int32} (hd : decode cc pc = .ok (.ldc_w ix, 3)) (hw : Cond.constant own ix v ∈ T0) : pmG mt cc nL own nm ad ret (pc, ns (fPush (.int v) (pc + 3))) := by
  refine pm_ns fun X hC L st r hr H locs k n kk ls hL => ?_
  cases hr
  exact lv_ldcw hC.1 hC.2.1 hC.2.2.2.1 (hC.2.2.2.2.1 _ hw) hd (kk ls hL)
theorem ok_ldc2 {ix : Nat} {v : Int64} (hd : decode cc pc = .ok (.ldc2_w ix, 3)) (hw : Cond.constantLong own ix v ∈ T0) : pmG mt cc nL own nm ad ret (pc, ns (fPush (.long v) (pc + 3))) := by
  refine pm_ns fun X hC L st r hr H locs k n kk ls hL => ?_
  cases hr
  exact lv_ldc2 hC.1 hC.2.1 hC.2.2.2.1 (hC.2.2.2.2.1 _ hw) hd (kk ls hL)
def fiload (i nx : Nat) : Fs := fun L st => match L[i]? with
  | some (some (.int x)) => some (nx, L, .int x :: st)
  | _ => none
theorem ok_iload_n {j : Fin 4} {i : Nat} (hd : decode cc pc = .ok (.iload_n j, 1)) (hi : (j : Nat) = i) : pmG mt cc nL own nm ad ret (pc, ns (fiload i (pc + 1))) := by
  refine pm_ns fun X hC L st r hr H locs k n kk ls hL => ?_
  unfold fiload at hr
  split at hr
  · rename_i x hx
    cases hr
    exact lv_iload_n hC.1 hC.2.1 hd hi (hL.2.2.2 _ _ hx) (kk ls hL)
  · cases hr
theorem ok_iload {i : Nat} (hd : decode cc pc = .ok (.iload i, 2)) : pmG mt cc nL own nm ad ret (pc, ns (fiload i (pc + 2))) := by
  refine pm_ns fun X hC L st r hr H locs k n kk ls hL => ?_
  unfold fiload at hr
  split at hr
  · rename_i x hx
    cases hr
    exact lv_iload hC.1 hC.2.1 hd (hL.2.2.2 _ _ hx) (kk ls hL)
  · cases hr
def fistore (nL i nx : Nat) : Fs := fun L st => match st with
  | .int x :: r => if i < nL then some (nx, set1 L i (.int x), r) else none
  | _ => none
theorem ok_istore_n {j : Fin 4} {i : Nat} (hd : decode cc pc = .ok (.istore_n j, 1)) (hi : (j : Nat) = i) : pmG mt cc nL own nm ad ret (pc, ns (fistore nL i (pc + 1))) := by
  refine pm_ns fun X hC L st r hr H locs k n kk ls hL => ?_
  unfold fistore at hr
  split at hr
  · rename_i x r'
    split at hr
    · rename_i hn
      cases hr
      exact lv_istore_n hC.1 hC.2.1 hd hi hL.hs hn rfl (fun ls' h' => kk ls' (pmL_set1 hL h'))
    · cases hr
  · cases hr
theorem ok_istore {i : Nat} (hd : decode cc pc = .ok (.istore i, 2)) : pmG mt cc nL own nm ad ret (pc, ns (fistore nL i (pc + 2))) := by
  refine pm_ns fun X hC L st r hr H locs k n kk ls hL => ?_
  unfold fistore at hr
  split at hr
  · rename_i x r'
    split at hr
    · rename_i hn
      cases hr
      exact lv_istore hC.1 hC.2.1 hd hL.hs hn rfl (fun ls' h' => kk ls' (pmL_set1 hL h'))
    · cases hr
  · cases hr
def flload (i nx : Nat) : Fs := fun L st => match L[i]? with
  | some (some (.long x)) => some (nx, L, .long x :: st)
  | _ => none
theorem ok_lload_n {j : Fin 4} {i : Nat} (hd : decode cc pc = .ok (.lload_n j, 1)) (hi : (j : Nat) = i) : pmG mt cc nL own nm ad ret (pc, ns (flload i (pc + 1))) := by
  refine pm_ns fun X hC L st r hr H locs k n kk ls hL => ?_
  unfold flload at hr
  split at hr
  · rename_i x hx
    cases hr
    exact lv_lload_n hC.1 hC.2.1 hd hi (hL.2.2.2 _ _ hx) (kk ls hL)
  · cases hr
theorem ok_lload {i : Nat} (hd : decode cc pc = .ok (.lload i, 2)) : pmG mt cc nL own nm ad ret (pc, ns (flload i (pc + 2))) := by
  refine pm_ns fun X hC L st r hr H locs k n kk ls hL => ?_
  unfold flload at hr
  split at hr
  · rename_i x hx
    cases hr
    exact lv_lload hC.1 hC.2.1 hd (hL.2.2.2 _ _ hx) (kk ls hL)
  · cases hr
def flstore (nL i nx : Nat) : Fs := fun L st => match st with
  | .long x :: r => if i + 1 < nL then some (nx, set2 L i (.long x), r) else none
  | _ => none
theorem ok_lstore_n {j : Fin 4} {i : Nat} (hd : decode cc pc = .ok (.lstore_n j, 1)) (hi : (j : Nat) = i) : pmG mt cc nL own nm ad ret (pc, ns (flstore nL i (pc + 1))) := by
  refine pm_ns fun X hC L st r hr H locs k n kk ls hL => ?_
  unfold flstore at hr
  split at hr
  · rename_i x r'
    split at hr
    · rename_i hn
      cases hr
      exact lv_lstore_n hC.1 hC.2.1 hd hi hL.hs hn rfl (fun ls' h' => kk ls' (pmL_set2 hL h'))
    · cases hr
  · cases hr
theorem ok_lstore {i : Nat} (hd : decode cc pc = .ok (.lstore i, 2)) : pmG mt cc nL own nm ad ret (pc, ns (flstore nL i (pc + 2))) := by
  refine pm_ns fun X hC L st r hr H locs k n kk ls hL => ?_
  unfold flstore at hr
  split at hr
  · rename_i x r'
    split at hr
    · rename_i hn
      cases hr
      exact lv_lstore hC.1 hC.2.1 hd hL.hs hn rfl (fun ls' h' => kk ls' (pmL_set2 hL h'))
    · cases hr
  · cases hr
def faload (i nx : Nat) : Fs := fun L st => match L[i]? with
  | some (some (.ref x)) => some (nx, L, .ref x :: st)
  | _ => none
theorem ok_aload_n {j : Fin 4} {i : Nat} (hd : decode cc pc = .ok (.aload_n j, 1)) (hi : (j : Nat) = i) : pmG mt cc nL own nm ad ret (pc, ns (faload i (pc + 1))) := by
  refine pm_ns fun X hC L st r hr H locs k n kk ls hL => ?_
  unfold faload at hr
  split at hr
  · rename_i x hx
    cases hr
    exact lv_aload_n hC.1 hC.2.1 hd hi (hL.2.2.2 _ _ hx) (kk ls hL)
  · cases hr
theorem ok_aload {i : Nat} (hd : decode cc pc = .ok (.aload i, 2)) : pmG mt cc nL own nm ad ret (pc, ns (faload i (pc + 2))) := by
  refine pm_ns fun X hC L st r hr H locs k n kk ls hL => ?_
  unfold faload at hr
  split at hr
  · rename_i x hx
    cases hr
    exact lv_aload hC.1 hC.2.1 hd (hL.2.2.2 _ _ hx) (kk ls hL)
  · cases hr
def fastore (nL i nx : Nat) : Fs := fun L st => match st with
  | .ref x :: r => if i < nL then some (nx, set1 L i (.ref x), r) else none
  | _ => none
theorem ok_astore_n {j : Fin 4} {i : Nat} (hd : decode cc pc = .ok (.astore_n j, 1)) (hi : (j : Nat) = i) : pmG mt cc nL own nm ad ret (pc, ns (fastore nL i (pc + 1))) := by
  refine pm_ns fun X hC L st r hr H locs k n kk ls hL => ?_
  unfold fastore at hr
  split at hr
  · rename_i x r'
    split at hr
    · rename_i hn
      cases hr
      exact lv_astore_n hC.1 hC.2.1 hd hi hL.hs hn rfl (fun ls' h' => kk ls' (pmL_set1 hL h'))
    · cases hr
  · cases hr
theorem ok_astore {i : Nat} (hd : decode cc pc = .ok (.astore i, 2)) : pmG mt cc nL own nm ad ret (pc, ns (fastore nL i (pc + 2))) := by
  refine pm_ns fun X hC L st r hr H locs k n kk ls hL => ?_
  unfold fastore at hr
  split at hr
  · rename_i x r'
    split at hr
    · rename_i hn
      cases hr
      exact lv_astore hC.1 hC.2.1 hd hL.hs hn rfl (fun ls' h' => kk ls' (pmL_set1 hL h'))
    · cases hr
  · cases hr
def fIinc (nL i : Nat) (z : Int32) (nx : Nat) : Fs := fun L st => match L[i]? with
  | some (some (.int x)) => if i < nL then some (nx, set1 L i (.int (x + z)), st) else none
  | _ => none
theorem ok_iinc {i : Nat} {z : Int} {y : Int32} (hd : decode cc pc = .ok (.iinc i z, 3)) (hz : Int32.ofInt z = y) : pmG mt cc nL own nm ad ret (pc, ns (fIinc nL i y (pc + 3))) := by
  refine pm_ns fun X hC L st r hr H locs k n kk ls hL => ?_
  unfold fIinc at hr
  split at hr
  · rename_i x hx
    split at hr
    · rename_i hn
      cases hr
      obtain ⟨q, hq⟩ := List.getElem?_of_mem (pm_inl hx)
      exact lv_iinc hC.1 hC.2.1 hd hL.hs hq (by rw [hz]) hn rfl (fun ls' h' => kk ls' (pmL_set1 hL h'))
    · cases hr
  · cases hr
def fB (op : Int32 → Int32 → Int32) (nx : Nat) : Fs := fun L st => match st with
  | .int y :: .int x :: r => some (nx, L, .int (op x y) :: r)
  | _ => none
def fBL (op : Int64 → Int64 → Int64) (nx : Nat) : Fs := fun L st => match st with
  | .long y :: .long x :: r => some (nx, L, .long (op x y) :: r)
  | _ => none
theorem ok_iadd (hd : decode cc pc = .ok (.iadd, 1)) : pmG mt cc nL own nm ad ret (pc, ns (fB (fun x y => x + y) (pc + 1))) := by
  refine pm_ns fun X hC L st r hr H locs k n kk ls hL => ?_
  unfold fB at hr
  split at hr
  · cases hr
    exact lv_iadd hC.1 hC.2.1 hd (kk ls hL)
  · cases hr
theorem ok_isub (hd : decode cc pc = .ok (.isub, 1)) : pmG mt cc nL own nm ad ret (pc, ns (fB (fun x y => x - y) (pc + 1))) := by
  refine pm_ns fun X hC L st r hr H locs k n kk ls hL => ?_
  unfold fB at hr
  split at hr
  · cases hr
    exact lv_isub hC.1 hC.2.1 hd (kk ls hL)
  · cases hr
theorem ok_imul (hd : decode cc pc = .ok (.imul, 1)) : pmG mt cc nL own nm ad ret (pc, ns (fB (fun x y => x * y) (pc + 1))) := by
  refine pm_ns fun X hC L st r hr H locs k n kk ls hL => ?_
  unfold fB at hr
  split at hr
  · cases hr
    exact lv_imul hC.1 hC.2.1 hd (kk ls hL)
  · cases hr
theorem ok_iand (hd : decode cc pc = .ok (.iand, 1)) : pmG mt cc nL own nm ad ret (pc, ns (fB (fun x y => x &&& y) (pc + 1))) := by
  refine pm_ns fun X hC L st r hr H locs k n kk ls hL => ?_
  unfold fB at hr
  split at hr
  · cases hr
    exact lv_iand hC.1 hC.2.1 hd (kk ls hL)
  · cases hr
theorem ok_ior (hd : decode cc pc = .ok (.ior, 1)) : pmG mt cc nL own nm ad ret (pc, ns (fB (fun x y => x ||| y) (pc + 1))) := by
  refine pm_ns fun X hC L st r hr H locs k n kk ls hL => ?_
  unfold fB at hr
  split at hr
  · cases hr
    exact lv_ior hC.1 hC.2.1 hd (kk ls hL)
  · cases hr
theorem ok_ixor (hd : decode cc pc = .ok (.ixor, 1)) : pmG mt cc nL own nm ad ret (pc, ns (fB (fun x y => x ^^^ y) (pc + 1))) := by
  refine pm_ns fun X hC L st r hr H locs k n kk ls hL => ?_
  unfold fB at hr
  split at hr
  · cases hr
    exact lv_ixor hC.1 hC.2.1 hd (kk ls hL)
  · cases hr
theorem ok_ishl (hd : decode cc pc = .ok (.ishl, 1)) : pmG mt cc nL own nm ad ret (pc, ns (fB (fun x y => x <<< (y &&& 31)) (pc + 1))) := by
  refine pm_ns fun X hC L st r hr H locs k n kk ls hL => ?_
  unfold fB at hr
  split at hr
  · cases hr
    exact lv_ishl hC.1 hC.2.1 hd (kk ls hL)
  · cases hr
theorem ok_ishr (hd : decode cc pc = .ok (.ishr, 1)) : pmG mt cc nL own nm ad ret (pc, ns (fB (fun x y => x >>> (y &&& 31)) (pc + 1))) := by
  refine pm_ns fun X hC L st r hr H locs k n kk ls hL => ?_
  unfold fB at hr
  split at hr
  · cases hr
    exact lv_ishr hC.1 hC.2.1 hd (kk ls hL)
  · cases hr
theorem ok_iushr (hd : decode cc pc = .ok (.iushr, 1)) : pmG mt cc nL own nm ad ret (pc, ns (fB (fun x y => (x.toUInt32 >>> (y.toUInt32 &&& Int32.toUInt32 31)).toInt32) (pc + 1))) := by
  refine pm_ns fun X hC L st r hr H locs k n kk ls hL => ?_
  unfold fB at hr
  split at hr
  · cases hr
    exact lv_iushr hC.1 hC.2.1 hd rfl (kk ls hL)
  · cases hr
theorem ok_ladd (hd : decode cc pc = .ok (.ladd, 1)) : pmG mt cc nL own nm ad ret (pc, ns (fBL (fun x y => x + y) (pc + 1))) := by
  refine pm_ns fun X hC L st r hr H locs k n kk ls hL => ?_
  unfold fBL at hr
  split at hr
  · cases hr
    exact lv_ladd hC.1 hC.2.1 hd (kk ls hL)
  · cases hr
theorem ok_lsub (hd : decode cc pc = .ok (.lsub, 1)) : pmG mt cc nL own nm ad ret (pc, ns (fBL (fun x y => x - y) (pc + 1))) := by
  refine pm_ns fun X hC L st r hr H locs k n kk ls hL => ?_
  unfold fBL at hr
  split at hr
  · cases hr
    exact lv_lsub hC.1 hC.2.1 hd (kk ls hL)
  · cases hr
theorem ok_lmul (hd : decode cc pc = .ok (.lmul, 1)) : pmG mt cc nL own nm ad ret (pc, ns (fBL (fun x y => x * y) (pc + 1))) := by
  refine pm_ns fun X hC L st r hr H locs k n kk ls hL => ?_
  unfold fBL at hr
  split at hr
  · cases hr
    exact lv_lmul hC.1 hC.2.1 hd (kk ls hL)
  · cases hr
def fBd (op : Int32 → Int32 → Int32) (nx : Nat) : Fs := fun L st => match st with
  | .int y :: .int x :: r => if y = 0 then none else some (nx, L, .int (op x y) :: r)
  | _ => none
def fBdL (op : Int64 → Int64 → Int64) (nx : Nat) : Fs := fun L st => match st with
  | .long y :: .long x :: r => if y = 0 then none else some (nx, L, .long (op x y) :: r)
  | _ => none
theorem ok_idiv (hd : decode cc pc = .ok (.idiv, 1)) : pmG mt cc nL own nm ad ret (pc, ns (fBd (fun x y => x / y) (pc + 1))) := by
  refine pm_ns fun X hC L st r hr H locs k n kk ls hL => ?_
  unfold fBd at hr
  split at hr
  · split at hr
    · cases hr
    · rename_i hne
      cases hr
      exact lv_idiv hC.1 hC.2.1 hd hne (kk ls hL)
  · cases hr
theorem ok_irem (hd : decode cc pc = .ok (.irem, 1)) : pmG mt cc nL own nm ad ret (pc, ns (fBd (fun x y => x - x / y * y) (pc + 1))) := by
  refine pm_ns fun X hC L st r hr H locs k n kk ls hL => ?_
  unfold fBd at hr
  split at hr
  · split at hr
    · cases hr
    · rename_i hne
      cases hr
      exact lv_irem hC.1 hC.2.1 hd hne (kk ls hL)
  · cases hr
theorem ok_ldiv (hd : decode cc pc = .ok (.ldiv, 1)) : pmG mt cc nL own nm ad ret (pc, ns (fBdL (fun x y => x / y) (pc + 1))) := by
  refine pm_ns fun X hC L st r hr H locs k n kk ls hL => ?_
  unfold fBdL at hr
  split at hr
  · split at hr
    · cases hr
    · rename_i hne
      cases hr
      exact lv_ldiv hC.1 hC.2.1 hd hne (kk ls hL)
  · cases hr
theorem ok_lrem (hd : decode cc pc = .ok (.lrem, 1)) : pmG mt cc nL own nm ad ret (pc, ns (fBdL (fun x y => x - x / y * y) (pc + 1))) := by
  refine pm_ns fun X hC L st r hr H locs k n kk ls hL => ?_
  unfold fBdL at hr
  split at hr
  · split at hr
    · cases hr
    · rename_i hne
      cases hr
      exact lv_lrem hC.1 hC.2.1 hd hne (kk ls hL)
  · cases hr
def fU (op : Int32 → Int32) (nx : Nat) : Fs := fun L st => match st with
  | .int x :: r => some (nx, L, .int (op x) :: r)
  | _ => none
theorem ok_i2c (hd : decode cc pc = .ok (.i2c, 1)) : pmG mt cc nL own nm ad ret (pc, ns (fU (fun x => (x.toUInt32 % 65536).toInt32) (pc + 1))) := by
  refine pm_ns fun X hC L st r hr H locs k n kk ls hL => ?_
  unfold fU at hr
  split at hr
  · cases hr
    exact lv_i2c hC.1 hC.2.1 hd rfl (kk ls hL)
  · cases hr
theorem ok_i2b (hd : decode cc pc = .ok (.i2b, 1)) : pmG mt cc nL own nm ad ret (pc, ns (fU (fun x => x.toInt8.toInt32) (pc + 1))) := by
  refine pm_ns fun X hC L st r hr H locs k n kk ls hL => ?_
  unfold fU at hr
  split at hr
  · cases hr
    exact lv_i2b hC.1 hC.2.1 hd rfl (kk ls hL)
  · cases hr
theorem ok_ineg (hd : decode cc pc = .ok (.ineg, 1)) : pmG mt cc nL own nm ad ret (pc, ns (fU (fun x => -x) (pc + 1))) := by
  refine pm_ns fun X hC L st r hr H locs k n kk ls hL => ?_
  unfold fU at hr
  split at hr
  · cases hr
    exact lv_ineg hC.1 hC.2.1 hd (kk ls hL)
  · cases hr
def fI2l (nx : Nat) : Fs := fun L st => match st with
  | .int x :: r => some (nx, L, .long x.toInt64 :: r)
  | _ => none
theorem ok_i2l (hd : decode cc pc = .ok (.i2l, 1)) : pmG mt cc nL own nm ad ret (pc, ns (fI2l (pc + 1))) := by
  refine pm_ns fun X hC L st r hr H locs k n kk ls hL => ?_
  unfold fI2l at hr
  split at hr
  · cases hr
    exact lv_i2l hC.1 hC.2.1 hd rfl (kk ls hL)
  · cases hr
def fL2i (nx : Nat) : Fs := fun L st => match st with
  | .long x :: r => some (nx, L, .int x.toInt32 :: r)
  | _ => none
theorem ok_l2i (hd : decode cc pc = .ok (.l2i, 1)) : pmG mt cc nL own nm ad ret (pc, ns (fL2i (pc + 1))) := by
  refine pm_ns fun X hC L st r hr H locs k n kk ls hL => ?_
  unfold fL2i at hr
  split at hr
  · cases hr
    exact lv_l2i hC.1 hC.2.1 hd rfl (kk ls hL)
  · cases hr
def fLneg (nx : Nat) : Fs := fun L st => match st with
  | .long x :: r => some (nx, L, .long (-x) :: r)
  | _ => none
theorem ok_lneg (hd : decode cc pc = .ok (.lneg, 1)) : pmG mt cc nL own nm ad ret (pc, ns (fLneg (pc + 1))) := by
  refine pm_ns fun X hC L st r hr H locs k n kk ls hL => ?_
  unfold fLneg at hr
  split at hr
  · cases hr
    exact lv_lneg hC.1 hC.2.1 hd (kk ls hL)
  · cases hr
def fLcmp (nx : Nat) : Fs := fun L st => match st with
  | .long y :: .long x :: r => some (nx, L, .int (lg_cmp x y) :: r)
  | _ => none
theorem ok_lcmp (hd : decode cc pc = .ok (.lcmp, 1)) : pmG mt cc nL own nm ad ret (pc, ns (fLcmp (pc + 1))) := by
  refine pm_ns fun X hC L st r hr H locs k n kk ls hL => ?_
  unfold fLcmp at hr
  split at hr
  · cases hr
    exact W.lcmp hC.1 hC.2.1 hd (kk ls hL)
  · cases hr
def fIf_eq (t nx : Nat) : Fs := fun L st => match st with
  | .int x :: r => some (if x = 0 then t else nx, L, r)
  | _ => none
def fIc_eq (t nx : Nat) : Fs := fun L st => match st with
  | .int y :: .int x :: r => some (if x = y then t else nx, L, r)
  | _ => none
theorem ok_If_eq {off : Int} {t : Nat} (hd : decode cc pc = .ok (.ifCond .eq off, 3)) (ht : (pc : Int) + off = (t : Int)) : pmG mt cc nL own nm ad ret (pc, ns (fIf_eq t (pc + 3))) := by
  refine pm_ns fun X hC L st r hr H locs k n kk ls hL => ?_
  unfold fIf_eq at hr
  split at hr
  · cases hr
    exact lv_if_eq hC.1 hC.2.1 hd ht (fun h => by have k9 := kk ls hL; dsimp only at k9; rw [if_pos h] at k9; exact k9) (fun h => by have k9 := kk ls hL; dsimp only at k9; rw [if_neg h] at k9; exact k9)
  · cases hr
theorem ok_Ic_eq {off : Int} {t : Nat} (hd : decode cc pc = .ok (.if_icmp .eq off, 3)) (ht : (pc : Int) + off = (t : Int)) : pmG mt cc nL own nm ad ret (pc, ns (fIc_eq t (pc + 3))) := by
  refine pm_ns fun X hC L st r hr H locs k n kk ls hL => ?_
  unfold fIc_eq at hr
  split at hr
  · cases hr
    exact lv_icmp_eq hC.1 hC.2.1 hd ht (fun h => by have k9 := kk ls hL; dsimp only at k9; rw [if_pos h] at k9; exact k9) (fun h => by have k9 := kk ls hL; dsimp only at k9; rw [if_neg h] at k9; exact k9)
  · cases hr
def fIf_ne (t nx : Nat) : Fs := fun L st => match st with
  | .int x :: r => some (if ¬ x = 0 then t else nx, L, r)
  | _ => none
def fIc_ne (t nx : Nat) : Fs := fun L st => match st with
  | .int y :: .int x :: r => some (if ¬ x = y then t else nx, L, r)
  | _ => none
theorem ok_If_ne {off : Int} {t : Nat} (hd : decode cc pc = .ok (.ifCond .ne off, 3)) (ht : (pc : Int) + off = (t : Int)) : pmG mt cc nL own nm ad ret (pc, ns (fIf_ne t (pc + 3))) := by
  refine pm_ns fun X hC L st r hr H locs k n kk ls hL => ?_
  unfold fIf_ne at hr
  split at hr
  · cases hr
    exact lv_if_ne hC.1 hC.2.1 hd ht (fun h => by have k9 := kk ls hL; dsimp only at k9; rw [if_pos h] at k9; exact k9) (fun h => by have k9 := kk ls hL; dsimp only at k9; rw [if_neg (not_not_intro h)] at k9; exact k9)
  · cases hr
theorem ok_Ic_ne {off : Int} {t : Nat} (hd : decode cc pc = .ok (.if_icmp .ne off, 3)) (ht : (pc : Int) + off = (t : Int)) : pmG mt cc nL own nm ad ret (pc, ns (fIc_ne t (pc + 3))) := by
  refine pm_ns fun X hC L st r hr H locs k n kk ls hL => ?_
  unfold fIc_ne at hr
  split at hr
  · cases hr
    exact lv_icmp_ne hC.1 hC.2.1 hd ht (fun h => by have k9 := kk ls hL; dsimp only at k9; rw [if_pos h] at k9; exact k9) (fun h => by have k9 := kk ls hL; dsimp only at k9; rw [if_neg (not_not_intro h)] at k9; exact k9)
  · cases hr
def fIf_lt (t nx : Nat) : Fs := fun L st => match st with
  | .int x :: r => some (if x < 0 then t else nx, L, r)
  | _ => none
def fIc_lt (t nx : Nat) : Fs := fun L st => match st with
  | .int y :: .int x :: r => some (if x < y then t else nx, L, r)
  | _ => none
theorem ok_If_lt {off : Int} {t : Nat} (hd : decode cc pc = .ok (.ifCond .lt off, 3)) (ht : (pc : Int) + off = (t : Int)) : pmG mt cc nL own nm ad ret (pc, ns (fIf_lt t (pc + 3))) := by
  refine pm_ns fun X hC L st r hr H locs k n kk ls hL => ?_
  unfold fIf_lt at hr
  split at hr
  · cases hr
    exact lv_if_lt hC.1 hC.2.1 hd ht (fun h => by have k9 := kk ls hL; dsimp only at k9; rw [if_pos h] at k9; exact k9) (fun h => by have k9 := kk ls hL; dsimp only at k9; rw [if_neg h] at k9; exact k9)
  · cases hr
theorem ok_Ic_lt {off : Int} {t : Nat} (hd : decode cc pc = .ok (.if_icmp .lt off, 3)) (ht : (pc : Int) + off = (t : Int)) : pmG mt cc nL own nm ad ret (pc, ns (fIc_lt t (pc + 3))) := by
  refine pm_ns fun X hC L st r hr H locs k n kk ls hL => ?_
  unfold fIc_lt at hr
  split at hr
  · cases hr
    exact lv_icmp_lt hC.1 hC.2.1 hd ht (fun h => by have k9 := kk ls hL; dsimp only at k9; rw [if_pos h] at k9; exact k9) (fun h => by have k9 := kk ls hL; dsimp only at k9; rw [if_neg h] at k9; exact k9)
  · cases hr
def fIf_ge (t nx : Nat) : Fs := fun L st => match st with
  | .int x :: r => some (if 0 ≤ x then t else nx, L, r)
  | _ => none
def fIc_ge (t nx : Nat) : Fs := fun L st => match st with
  | .int y :: .int x :: r => some (if y ≤ x then t else nx, L, r)
  | _ => none
theorem ok_If_ge {off : Int} {t : Nat} (hd : decode cc pc = .ok (.ifCond .ge off, 3)) (ht : (pc : Int) + off = (t : Int)) : pmG mt cc nL own nm ad ret (pc, ns (fIf_ge t (pc + 3))) := by
  refine pm_ns fun X hC L st r hr H locs k n kk ls hL => ?_
  unfold fIf_ge at hr
  split at hr
  · cases hr
    exact lv_if_ge hC.1 hC.2.1 hd ht (fun h => by have k9 := kk ls hL; dsimp only at k9; rw [if_pos h] at k9; exact k9) (fun h => by have k9 := kk ls hL; dsimp only at k9; rw [if_neg h] at k9; exact k9)
  · cases hr
theorem ok_Ic_ge {off : Int} {t : Nat} (hd : decode cc pc = .ok (.if_icmp .ge off, 3)) (ht : (pc : Int) + off = (t : Int)) : pmG mt cc nL own nm ad ret (pc, ns (fIc_ge t (pc + 3))) := by
  refine pm_ns fun X hC L st r hr H locs k n kk ls hL => ?_
  unfold fIc_ge at hr
  split at hr
  · cases hr
    exact lv_icmp_ge hC.1 hC.2.1 hd ht (fun h => by have k9 := kk ls hL; dsimp only at k9; rw [if_pos h] at k9; exact k9) (fun h => by have k9 := kk ls hL; dsimp only at k9; rw [if_neg h] at k9; exact k9)
  · cases hr
def fIf_gt (t nx : Nat) : Fs := fun L st => match st with
  | .int x :: r => some (if 0 < x then t else nx, L, r)
  | _ => none
def fIc_gt (t nx : Nat) : Fs := fun L st => match st with
  | .int y :: .int x :: r => some (if y < x then t else nx, L, r)
  | _ => none
theorem ok_If_gt {off : Int} {t : Nat} (hd : decode cc pc = .ok (.ifCond .gt off, 3)) (ht : (pc : Int) + off = (t : Int)) : pmG mt cc nL own nm ad ret (pc, ns (fIf_gt t (pc + 3))) := by
  refine pm_ns fun X hC L st r hr H locs k n kk ls hL => ?_
  unfold fIf_gt at hr
  split at hr
  · cases hr
    exact lv_if_gt hC.1 hC.2.1 hd ht (fun h => by have k9 := kk ls hL; dsimp only at k9; rw [if_pos h] at k9; exact k9) (fun h => by have k9 := kk ls hL; dsimp only at k9; rw [if_neg h] at k9; exact k9)
  · cases hr
theorem ok_Ic_gt {off : Int} {t : Nat} (hd : decode cc pc = .ok (.if_icmp .gt off, 3)) (ht : (pc : Int) + off = (t : Int)) : pmG mt cc nL own nm ad ret (pc, ns (fIc_gt t (pc + 3))) := by
  refine pm_ns fun X hC L st r hr H locs k n kk ls hL => ?_
  unfold fIc_gt at hr
  split at hr
  · cases hr
    exact lv_icmp_gt hC.1 hC.2.1 hd ht (fun h => by have k9 := kk ls hL; dsimp only at k9; rw [if_pos h] at k9; exact k9) (fun h => by have k9 := kk ls hL; dsimp only at k9; rw [if_neg h] at k9; exact k9)
  · cases hr
def fIf_le (t nx : Nat) : Fs := fun L st => match st with
  | .int x :: r => some (if x ≤ 0 then t else nx, L, r)
  | _ => none
def fIc_le (t nx : Nat) : Fs := fun L st => match st with
  | .int y :: .int x :: r => some (if x ≤ y then t else nx, L, r)
  | _ => none
theorem ok_If_le {off : Int} {t : Nat} (hd : decode cc pc = .ok (.ifCond .le off, 3)) (ht : (pc : Int) + off = (t : Int)) : pmG mt cc nL own nm ad ret (pc, ns (fIf_le t (pc + 3))) := by
  refine pm_ns fun X hC L st r hr H locs k n kk ls hL => ?_
  unfold fIf_le at hr
  split at hr
  · cases hr
    exact lv_if_le hC.1 hC.2.1 hd ht (fun h => by have k9 := kk ls hL; dsimp only at k9; rw [if_pos h] at k9; exact k9) (fun h => by have k9 := kk ls hL; dsimp only at k9; rw [if_neg h] at k9; exact k9)
  · cases hr
theorem ok_Ic_le {off : Int} {t : Nat} (hd : decode cc pc = .ok (.if_icmp .le off, 3)) (ht : (pc : Int) + off = (t : Int)) : pmG mt cc nL own nm ad ret (pc, ns (fIc_le t (pc + 3))) := by
  refine pm_ns fun X hC L st r hr H locs k n kk ls hL => ?_
  unfold fIc_le at hr
  split at hr
  · cases hr
    exact lv_icmp_le hC.1 hC.2.1 hd ht (fun h => by have k9 := kk ls hL; dsimp only at k9; rw [if_pos h] at k9; exact k9) (fun h => by have k9 := kk ls hL; dsimp only at k9; rw [if_neg h] at k9; exact k9)
  · cases hr
def fGoto (t : Nat) : Fs := fun L st => some (t, L, st)
theorem ok_goto {off : Int} {t : Nat} (hd : decode cc pc = .ok (.goto off, 3)) (ht : (pc : Int) + off = (t : Int)) : pmG mt cc nL own nm ad ret (pc, ns (fGoto t)) := by
  refine pm_ns fun X hC L st r hr H locs k n kk ls hL => ?_
  cases hr
  exact lv_goto hC.1 hC.2.1 hd ht (kk ls hL)
def fNn (t nx : Nat) : Fs := fun L st => match st with
  | .ref _ :: r => some (t, L, r)
  | .null :: r => some (nx, L, r)
  | _ => none
theorem ok_ifnonnull {off : Int} {t : Nat} (hd : decode cc pc = .ok (.ifnonnull off, 3)) (ht : (pc : Int) + off = (t : Int)) : pmG mt cc nL own nm ad ret (pc, ns (fNn t (pc + 3))) := by
  refine pm_ns fun X hC L st r hr H locs k n kk ls hL => ?_
  unfold fNn at hr
  split at hr
  · cases hr; exact lv_ifnonnull hC.1 hC.2.1 hd ht (kk ls hL)
  · cases hr; exact lv_ifnonnullN hC.1 hC.2.1 hd (kk ls hL)
  · cases hr
def fNu (t nx : Nat) : Fs := fun L st => match st with
  | .ref _ :: r => some (nx, L, r)
  | .null :: r => some (t, L, r)
  | _ => none
theorem ok_ifnull {off : Int} {t : Nat} (hd : decode cc pc = .ok (.ifnull off, 3)) (ht : (pc : Int) + off = (t : Int)) : pmG mt cc nL own nm ad ret (pc, ns (fNu t (pc + 3))) := by
  refine pm_ns fun X hC L st r hr H locs k n kk ls hL => ?_
  unfold fNu at hr
  split at hr
  · cases hr; exact lv_ifnull hC.1 hC.2.1 hd (kk ls hL)
  · cases hr; exact lv_ifnullN hC.1 hC.2.1 hd ht (kk ls hL)
  · cases hr
def cat1 : Value → Bool
  | .long _ => false
  | .double _ => false
  | _ => true
theorem cat1_ok {v : Value} (h : cat1 v = true) : v.category = 1 := by cases v <;> simp_all [cat1, Value.category]
def fDup (nx : Nat) : Fs := fun L st => match st with
  | v :: r => if cat1 v then some (nx, L, v :: v :: r) else none
  | _ => none
theorem ok_dup (hd : decode cc pc = .ok (.dup, 1)) : pmG mt cc nL own nm ad ret (pc, ns (fDup (pc + 1))) := by
  refine pm_ns fun X hC L st r hr H locs k n kk ls hL => ?_
  unfold fDup at hr
  split at hr
  · split at hr
    · rename_i hc
      cases hr; exact lv_dup hC.1 hC.2.1 hd (cat1_ok hc) (kk ls hL)
    · cases hr
  · cases hr
def fPop (nx : Nat) : Fs := fun L st => match st with
  | v :: r => if cat1 v then some (nx, L, r) else none
  | _ => none
theorem ok_pop (hd : decode cc pc = .ok (.pop, 1)) : pmG mt cc nL own nm ad ret (pc, ns (fPop (pc + 1))) := by
  refine pm_ns fun X hC L st r hr H locs k n kk ls hL => ?_
  unfold fPop at hr
  split at hr
  · split at hr
    · rename_i hc
      cases hr; exact lv_pop hC.1 hC.2.1 hd (cat1_ok hc) (kk ls hL)
    · cases hr
  · cases hr
def fDup2 (nx : Nat) : Fs := fun L st => match st with
  | v :: u :: r => if cat1 v && cat1 u then some (nx, L, v :: u :: v :: u :: r) else none
  | _ => none
theorem ok_dup2 (hd : decode cc pc = .ok (.dup2, 1)) : pmG mt cc nL own nm ad ret (pc, ns (fDup2 (pc + 1))) := by
  refine pm_ns fun X hC L st r hr H locs k n kk ls hL => ?_
  unfold fDup2 at hr
  split at hr
  · split at hr
    · rename_i hc
      rw [Bool.and_eq_true] at hc
      cases hr; exact lv_dup2_11 hC.1 hC.2.1 hd (cat1_ok hc.1) (cat1_ok hc.2) (kk ls hL)
    · cases hr
  · cases hr
def fTab (lo hi : Int) (ts : List Nat) (df : Nat) : Fs := fun L st => match st with
  | .int x :: r => if x.toInt < lo ∨ hi < x.toInt then some (df, L, r) else match ts[(x.toInt - lo).toNat]? with
    | some t => some (t, L, r)
    | none => none
  | _ => none
theorem ok_tab {dflt lo hi : Int} {offs : Array Int} {len : Nat} {ts : List Nat} {df : Nat} (hd : decode cc pc = .ok (.tableswitch dflt lo hi offs, len)) (h0 : (pc : Int) + dflt = (df : Int)) (ht : ∀ (j t : Nat), ts[j]? = some t → ∃ off, offs[j]? = some off ∧ (pc : Int) + off = (t : Int)) : pmG mt cc nL own nm ad ret (pc, ns (fTab lo hi ts df)) := by
  refine pm_ns fun X hC L st r hr H locs k n kk ls hL => ?_
  unfold fTab at hr
  split at hr
  · split at hr
    · rename_i hx
      cases hr; exact lv_tableOut hC.1 hC.2.1 hd hx h0 (kk ls hL)
    · rename_i hx
      split at hr
      · rename_i t htt
        cases hr
        obtain ⟨off, h1, h2⟩ := ht _ _ htt
        exact lv_tableIn hC.1 hC.2.1 hd (fun q => hx (Or.inl q)) (fun q => hx (Or.inr q)) h1 h2 (kk ls hL)
      · cases hr
  · cases hr
end OPS
