/-! The reference reads: the town's cells are written -/
section RTOWN
variable {ad : Nat → Nat} {a b lo0 : Nat} {tp : Nat → Int32} {sc : Nat → Int64} {le : Nat} {A Am : Ar} {Bm : Br} {oa : Int32 × Int32 × Int32} {oq : Yq} {tw rd : Value} {M M2 : Mm} {s : Except Er Nat} {T : Tw} {L L2 : List Value}
theorem sB_s {A : Br} {k : Nat} {g : Nat → Int64} : sB A k g k = g := by unfold sB; rw [show Nat.beq k k = true from Nat.beq_refl k]; rfl
theorem sB_n {A : Br} {k j : Nat} {g : Nat → Int64} (h : ¬ j = k) : sB A k g j = A j := by
  unfold sB
  rw [show Nat.beq j k = false from Bool.eq_false_iff.mpr (fun q => h (Nat.eq_of_beq_eq_true q))]
  rfl
def szm : Nat → Nat
  | 8 => 49
  | 9 => 4
  | 10 => 4
  | 11 => 8
  | 12 => 4
  | 13 => 4
  | 14 => 8
  | 15 => 11
  | 16 => 11
  | 17 => 11
  | _ => 7
def lgm : Nat → Bool
  | 7 => true
  | 14 => true
  | 15 => true
  | _ => false
def mcE (Am : Ar) (Bm : Br) (k : Nat) : Option Ce := cond (lgm k) (lngs (szm k) (Bm k)) (ints (szm k) (Am k))
def tZ (M : Mm) (a : Nat) (L : List Value) (Am : Ar) (Bm : Br) : Prop := M.1 a = some (.inr (12, L)) ∧ ∀ k, 1 ≤ k → k < 18 → M.1 (a + k) = mcE Am Bm k
theorem mtc.to (h : mtc M a Am Bm) : ∀ k, 1 ≤ k → k < 18 → M.1 (a + k) = mcE Am Bm k := by
  obtain ⟨h1, h2, h3, h4, h5, h6, h7, h8, h9, h10, h11, h12, h13, h14, h15, h16, h17⟩ := h
  intro k k1 k2
  match k, k1, k2 with
  | 1, _, _ => exact h1
  | 2, _, _ => exact h2
  | 3, _, _ => exact h3
  | 4, _, _ => exact h4
  | 5, _, _ => exact h5
  | 6, _, _ => exact h6
  | 7, _, _ => exact h7
  | 8, _, _ => exact h8
  | 9, _, _ => exact h9
  | 10, _, _ => exact h10
  | 11, _, _ => exact h11
  | 12, _, _ => exact h12
  | 13, _, _ => exact h13
  | 14, _, _ => exact h14
  | 15, _, _ => exact h15
  | 16, _, _ => exact h16
  | 17, _, _ => exact h17
  | n + 18, _, h => exact absurd h (by omega)
theorem tZ.mc (h : tZ M a L Am Bm) : mtc M a Am Bm :=
  ⟨h.2 1 (by omega) (by omega), h.2 2 (by omega) (by omega), h.2 3 (by omega) (by omega), h.2 4 (by omega) (by omega), h.2 5 (by omega) (by omega), h.2 6 (by omega) (by omega), h.2 7 (by omega) (by omega), h.2 8 (by omega) (by omega), h.2 9 (by omega) (by omega), h.2 10 (by omega) (by omega), h.2 11 (by omega) (by omega), h.2 12 (by omega) (by omega), h.2 13 (by omega) (by omega), h.2 14 (by omega) (by omega), h.2 15 (by omega) (by omega), h.2 16 (by omega) (by omega), h.2 17 (by omega) (by omega)⟩
theorem tZ.i {k : Nat} {g : Nat → Int32} (h : tZ M a L Am Bm) (e : M2 = up M (a + k) (.inl (0, szm k, .inl g))) (h1 : 1 ≤ k) (hk : lgm k = false) : tZ M2 a L (sA Am k g) Bm := by
  refine ⟨up_k e h.1 (by omega), fun j j1 j2 => ?_⟩
  by_cases q : j = k
  · subst q
    unfold mcE
    rw [sA_s, hk]
    exact up_w e
  · unfold mcE
    rw [sA_n q]
    exact up_k e (h.2 j j1 j2) (by omega)
theorem tZ.l {k : Nat} {g : Nat → Int64} (h : tZ M a L Am Bm) (e : M2 = up M (a + k) (.inl (1, szm k, .inr g))) (h1 : 1 ≤ k) (hk : lgm k = true) : tZ M2 a L Am (sB Bm k g) := by
  refine ⟨up_k e h.1 (by omega), fun j j1 j2 => ?_⟩
  by_cases q : j = k
  · subst q
    unfold mcE
    rw [sB_s, hk]
    exact up_w e
  · unfold mcE
    rw [sB_n q]
    exact up_k e (h.2 j j1 j2) (by omega)
theorem tZ.o (h : tZ M a L Am Bm) (e : M2 = up M a (.inr (12, L2))) : tZ M2 a L2 Am Bm := ⟨up_w e, fun j j1 j2 => up_k e (h.2 j j1 j2) (by omega)⟩
theorem yP.fo {y : Nat} {c : Ce} (h : yP M b oa tw rd oq A tp le s) (e : M2 = up M y c) (hy : b + 16 ≤ y) : yP M2 b oa tw rd oq A tp le s := by
  obtain ⟨r, h0, h1⟩ := h
  exact ⟨r, ⟨up_k e h0.1 (by omega), fun j j1 j2 => up_k e (h0.2 j j1 j2) (by omega)⟩, h1⟩
def FY (b a : Nat) (M M' : Mm) : Prop := (∀ q, q ≠ b → (q < a ∨ a + 18 ≤ q) → M'.1 q = M.1 q) ∧ M'.2 = M.2
theorem FY.rf (b a : Nat) (M : Mm) : FY b a M M := ⟨fun _ _ _ => rfl, rfl⟩
theorem FY.w {M0 M' : Mm} (h : FY b a M0 M) (h2 : Fr b 1 M M') : FY b a M0 M' := ⟨fun q q1 q2 => (h2.1 q (by omega)).trans (h.1 q q1 q2), h2.2.trans h.2⟩
theorem FY.u {M0 : Mm} {y : Nat} {c : Ce} (h : FY b a M0 M) (e : M2 = up M y c) (h1 : a ≤ y) (h2 : y < a + 18) : FY b a M0 M2 := by
  subst e
  exact ⟨fun q q1 q2 => (up_n _ _ (by omega)).trans (h.1 q q1 q2), h.2⟩
theorem FY.tr {M0 M' : Mm} (h : FY b a M0 M) (h2 : FY b a M M') : FY b a M0 M' := ⟨fun q q1 q2 => (h2.1 q q1 q2).trans (h.1 q q1 q2), h2.2.trans h.2⟩
theorem FY.st {M' : Mm} (h : FY b a M M') (hS : aSt ad lo0 M) (hb : lo0 ≤ b) (ha : lo0 ≤ a) : aSt ad lo0 M' := fun i hi => ⟨(hS i hi).1, (h.1 _ (by have := (hS i hi).1; omega) (Or.inl (by have := (hS i hi).1; omega))).trans (hS i hi).2⟩
def mtL (a : Nat) (d l n kn tm st np sg nz nm : Int32) : List Value := [.int d, .int l, .int n, .int kn, .int tm, .int st, .int np, .int sg, .int nz, .int nm, .ref (a + 1), .ref (a + 2), .ref (a + 3), .ref (a + 4), .ref (a + 5), .ref (a + 6), .ref (a + 7), .ref (a + 8), .ref (a + 9), .ref (a + 10), .ref (a + 11), .ref (a + 12), .ref (a + 13), .ref (a + 14), .ref (a + 15), .ref (a + 16), .ref (a + 17)]
/-- what a line leaves -/
def lnQ (M : Mm) (b a : Nat) (oa : Int32 × Int32 × Int32) (tw : Value) (oq : Yq) (A : Ar) (tp : Nat → Int32) (le : Nat) (T : Tw) (R : Except Er (Tw × Nat)) (v' : Option Value) (M' : Mm) : Prop := v' = none ∧ FY b a M M' ∧ match R with
  | .ok x => yP M' b oa tw (.ref a) oq A tp le (.ok x.2) ∧ aMt M' a x.1
  | .error e => yP M' b oa tw (.ref a) oq A tp le (.error e) ∧ aMt M' a T
theorem beg_or {x y : Int32} {c m st a1 : Nat} {R Ln : Except Er (Tw × Nat)} (hx : x = nI c) (hy : y = nI m) (hc : c ≤ m) (hm : m < 100) (hm0 : 0 < m) (hz : T.dr = 0 → c = 0) (hR : R = if T.dr = 0 then .error (6, st) else if m ≤ c then .error (5, st) else Ln) : ∃ s1 : Except Er Nat, (if x = y then .error (5, st) else if T.dr = 0 then .error (6, st) else .ok a1) = s1 ∧ ((∃ e, s1 = .error e ∧ R = .error e) ∨ (s1 = .ok a1 ∧ 0 < T.dr ∧ c < m ∧ R = Ln)) := by
  have hxy : x = y ↔ m ≤ c := by
    rw [hx, hy, nI_eq (by omega) (by omega)]
    omega
  by_cases hd : T.dr = 0
  · have := hz hd
    rw [if_pos hd] at hR
    rw [if_neg (fun q => by have := hxy.mp q; omega), if_pos hd]
    exact ⟨_, rfl, Or.inl ⟨_, rfl, hR⟩⟩
  rw [if_neg hd] at hR
  by_cases hf : m ≤ c
  · rw [if_pos hf] at hR
    rw [if_pos (hxy.mpr hf)]
    exact ⟨_, rfl, Or.inl ⟨_, rfl, hR⟩⟩
  · rw [if_neg hf] at hR
    rw [if_neg (fun q => hf (hxy.mp q)), if_neg hd]
    exact ⟨_, rfl, Or.inr ⟨rfl, by omega, by omega, hR⟩⟩
theorem y_names {kn : Int32} {w : Int64} {x y : Int32} {r : Yr} (hy : aY M b (oa, (tw, .ref a), r, oq) A) (hz : tZ M a (mtO a T kn) Am Bm) (ha : b + 16 ≤ a) (hN : T.hs.n + T.np < 11) : EvM ad 0 (iX13_names ad) [.ref b, .long w, .int x, .int y] M (fun v' M' => v' = none ∧ FY b a M M' ∧ aY M' b (oa, (tw, .ref a), r, oq) A ∧ tZ M' a (mtL a (nI T.dr) (nI T.lk) (nI T.hs.n) kn (nI (fb_ct0 (fun j => !(T.hs.fr j == -2)) T.hs.n)) (nI T.ss.n) (nI T.np) (nI T.cs.sg) (nI T.cs.nz) (nI (T.hs.n + T.np) + 1)) (sA (sA Am 16 (upd (Am 16) (T.hs.n + T.np) x)) 17 (upd (Am 17) (T.hs.n + T.np) y)) (sB Bm 15 (vp_updL (Bm 15) (T.hs.n + T.np) w))) := by
  have kp : ∀ {M M2 : Mm} {y : Nat} {c : Ce}, aY M b (oa, (tw, .ref a), r, oq) A → M2 = up M y c → b + 16 ≤ y → aY M2 b (oa, (tw, .ref a), r, oq) A := fun h0 e hy => ⟨up_k e h0.1 (by omega), fun j j1 j2 => up_k e (h0.2 j j1 j2) (by omega)⟩
  have h0 := hy.1
  have m0 := hz.1
  have m15 : M.1 (a + 15) = lngs 11 (Bm 15) := hz.2 15 (by omega) (by omega)
  refine ⟨Nat.le_of_ble_eq_true rfl, ?_⟩
  show Ev ad _ (rX13_names ad) (0, [some (.ref b), some (.long w), none, some (.int x), some (.int y)], [], M) _
  repeat (first | refine es rfl rfl rfl ?_ | refine eg rfl (by assumption) rfl ?_ | refine eanE rfl (by assumption) (by with_reducible first | exact rfl | exact Int32.zero_add _ | exact ix8 _ | exact ix12 _ | exact ix7r _ _ | exact n7 | exact n0 | exact n1) (by assumption) rfl ?_ | refine eal rfl (by assumption) (by assumption) rfl ?_ | refine eri rfl ?_ | refine erv rfl ?_ | refine erl rfl ?_ | refine era rfl ?_ | refine erz0 rfl ?_ | refine erz1 rfl ?_)
  try dsimp only [set1, set2, kilP, List.set_cons_zero, List.set_cons_succ, List.getElem?_cons_zero, List.getElem?_cons_succ, List.nil_append, List.cons_append, Option.toList_some, Option.toList_none]
  refine etlM rfl m15 hN rfl (fun M1 e1 => ?_)
  have hy1 := kp hy e1 (by omega)
  have hz1 := hz.l (k := 15) e1 (by omega) rfl
  have hG1 := (FY.rf b a M).u e1 (by omega) (by omega)
  have h01 := hy1.1
  have m01 := hz1.1
  have m16 : M1.1 (a + 16) = ints 11 (Am 16) := hz1.2 16 (by omega) (by omega)
  repeat (first | refine es rfl rfl rfl ?_ | refine eg rfl (by assumption) rfl ?_ | refine eanE rfl (by assumption) (by with_reducible first | exact rfl | exact Int32.zero_add _ | exact ix8 _ | exact ix12 _ | exact ix7r _ _ | exact n7 | exact n0 | exact n1) (by assumption) rfl ?_ | refine eal rfl (by assumption) (by assumption) rfl ?_ | refine eri rfl ?_ | refine erv rfl ?_ | refine erl rfl ?_ | refine era rfl ?_ | refine erz0 rfl ?_ | refine erz1 rfl ?_)
  try dsimp only [set1, set2, kilP, List.set_cons_zero, List.set_cons_succ, List.getElem?_cons_zero, List.getElem?_cons_succ, List.nil_append, List.cons_append, Option.toList_some, Option.toList_none]
  refine etM rfl m16 hN rfl (fun M2 e2 => ?_)
  have hy2 := kp hy1 e2 (by omega)
  have hz2 := hz1.i (k := 16) e2 (by omega) rfl
  have hG2 := hG1.u e2 (by omega) (by omega)
  have h02 := hy2.1
  have m02 := hz2.1
  have m17 : M2.1 (a + 17) = ints 11 (Am 17) := hz2.2 17 (by omega) (by omega)
  repeat (first | refine es rfl rfl rfl ?_ | refine eg rfl (by assumption) rfl ?_ | refine eanE rfl (by assumption) (by with_reducible first | exact rfl | exact Int32.zero_add _ | exact ix8 _ | exact ix12 _ | exact ix7r _ _ | exact n7 | exact n0 | exact n1) (by assumption) rfl ?_ | refine eal rfl (by assumption) (by assumption) rfl ?_ | refine eri rfl ?_ | refine erv rfl ?_ | refine erl rfl ?_ | refine era rfl ?_ | refine erz0 rfl ?_ | refine erz1 rfl ?_)
  try dsimp only [set1, set2, kilP, List.set_cons_zero, List.set_cons_succ, List.getElem?_cons_zero, List.getElem?_cons_succ, List.nil_append, List.cons_append, Option.toList_some, Option.toList_none]
  refine etM rfl m17 hN rfl (fun M3 e3 => ?_)
  have hy3 := kp hy2 e3 (by omega)
  have hz3 := hz2.i (k := 17) e3 (by omega) rfl
  have hG3 := hG2.u e3 (by omega) (by omega)
  have h03 := hy3.1
  have m03 := hz3.1
  repeat (first | refine es rfl rfl rfl ?_ | refine eg rfl (by assumption) rfl ?_ | refine eanE rfl (by assumption) (by with_reducible first | exact rfl | exact Int32.zero_add _ | exact ix8 _ | exact ix12 _ | exact ix7r _ _ | exact n7 | exact n0 | exact n1) (by assumption) rfl ?_ | refine eal rfl (by assumption) (by assumption) rfl ?_ | refine eri rfl ?_ | refine erv rfl ?_ | refine erl rfl ?_ | refine era rfl ?_ | refine erz0 rfl ?_ | refine erz1 rfl ?_)
  try dsimp only [set1, set2, kilP, List.set_cons_zero, List.set_cons_succ, List.getElem?_cons_zero, List.getElem?_cons_succ, List.nil_append, List.cons_append, Option.toList_some, Option.toList_none]
  refine epM (fs' := mtL a (nI T.dr) (nI T.lk) (nI T.hs.n) kn (nI (fb_ct0 (fun j => !(T.hs.fr j == -2)) T.hs.n)) (nI T.ss.n) (nI T.np) (nI T.cs.sg) (nI T.cs.nz) (nI (T.hs.n + T.np) + 1)) rfl m03 rfl rfl rfl (fun M4 e4 => ?_)
  repeat (first | refine es rfl rfl rfl ?_ | refine eg rfl (by assumption) rfl ?_ | refine eanE rfl (by assumption) (by with_reducible first | exact rfl | exact Int32.zero_add _ | exact ix8 _ | exact ix12 _ | exact ix7r _ _ | exact n7 | exact n0 | exact n1) (by assumption) rfl ?_ | refine eal rfl (by assumption) (by assumption) rfl ?_ | refine eri rfl ?_ | refine erv rfl ?_ | refine erl rfl ?_ | refine era rfl ?_ | refine erz0 rfl ?_ | refine erz1 rfl ?_)
  try dsimp only [set1, set2, kilP, List.set_cons_zero, List.set_cons_succ, List.getElem?_cons_zero, List.getElem?_cons_succ, List.nil_append, List.cons_append, Option.toList_some, Option.toList_none]
  exact ⟨rfl, hG3.u e4 (by omega) (by omega), kp hy3 e4 (by omega), hz3.o e4⟩
end RTOWN
