/-! The reference's new town; runs have one end -/
theorem Ev.one {ad : Nat → Nat} {d : Nat} {rows : List (Nat × Ins)} {fr : Fm} {ι : Type} (i0 : ι) {P : ι → Option Value → Mm → Prop} (h : ∀ i, Ev ad d rows fr (P i)) : Ev ad d rows fr (fun v M => ∀ i, P i v M) := by
  obtain ⟨v, M', n, h1, h2⟩ := h i0
  refine ⟨v, M', n, h1, fun i => ?_⟩
  obtain ⟨v2, M2, n2, h3, h4⟩ := h i
  have e1 := pmRun_more n n2 d d rows fr _ (Nat.le_refl d) h1
  have e2 := pmRun_more n2 n d d rows fr _ (Nat.le_refl d) h3
  rw [Nat.add_comm n2 n, e1] at e2
  injection e2 with e2
  injection e2 with e3 e4
  subst e3
  subst e4
  exact h4
theorem EvM.one {ad : Nat → Nat} {d : Nat} {m : Mi} {as : List Value} {M : Mm} {ι : Type} (i0 : ι) {P : ι → Option Value → Mm → Prop} (h : ∀ i, EvM ad d m as M (P i)) : EvM ad d m as M (fun v M => ∀ i, P i v M) := ⟨(h i0).1, Ev.one i0 (fun i => (h i).2)⟩
def pZ (M : Mm) (a i : Nat) : Prop := ∀ k, 1 ≤ k → k ≤ i → M.1 (a + k) = mcE (fun _ => Z3) (fun _ => Z6) k
theorem pZ.mk {M M2 : Mm} {a i n : Nat} {x : Ce} (h : pZ M a i) (hn : M.2.1 = a + 1 + i) (e : M2 = mkc M n x) (hx : some x = mcE (fun _ => Z3) (fun _ => Z6) (i + 1)) : pZ M2 a (i + 1) := by
  intro k k1 k2
  by_cases q : k = i + 1
  · subst q
    rw [← hx]
    exact mk_w e (by omega)
  · exact mk_k e (h k k1 (by omega)) (by omega)
theorem pZ.up {M M2 : Mm} {a i : Nat} {x : Ce} (h : pZ M a i) (e : M2 = up M a x) : pZ M2 a i := fun k k1 k2 => up_k e (h k k1 k2) (by omega)
theorem i_X12b {ad : Nat → Nat} {M0 M : Mm} {a : Nat} (h0 : M.1 a = some (.inr (12, [.int 0, .int 0, .int 0, .int 0, .int 0, .int 0, .int 0, .int 0, .int 0, .int 0, .ref (a + 1), .ref (a + 2), .ref (a + 3), .ref (a + 4), .ref (a + 5), .ref (a + 6), .ref (a + 7), .ref (a + 8), .ref (a + 9), .null, .null, .null, .null, .null, .null, .null, .null]))) (hz : pZ M a 9) (hG : Gw a 9 102 M0 M) : Ev ad 0 (rX12_init ad) (75, [some (.ref a)], [], M) (fun v' M' => v' = none ∧ (M'.1 a = some (.inr (12, [.int 0, .int 0, .int 0, .int 0, .int 0, .int 0, .int 0, .int 0, .int 0, .int 0, .ref (a + 1), .ref (a + 2), .ref (a + 3), .ref (a + 4), .ref (a + 5), .ref (a + 6), .ref (a + 7), .ref (a + 8), .ref (a + 9), .ref (a + 10), .ref (a + 11), .ref (a + 12), .ref (a + 13), .ref (a + 14), .ref (a + 15), .ref (a + 16), .ref (a + 17)])) ∧ pZ M' a 17) ∧ Gw a 17 163 M0 M') := by
  refine es rfl rfl rfl ?_
  refine es rfl rfl rfl ?_
  refine enaM (n := 4) rfl rfl (fun A9 e9 => ?_)
  rw [show M.2.1 = a + 1 + 9 from hG.n]
  replace h0 := mk_k e9 h0 (by have := hG.n; omega)
  replace hz := hz.mk hG.n e9 rfl
  replace hG := hG.mk e9
  refine epM (fs' := [.int 0, .int 0, .int 0, .int 0, .int 0, .int 0, .int 0, .int 0, .int 0, .int 0, .ref (a + 1), .ref (a + 2), .ref (a + 3), .ref (a + 4), .ref (a + 5), .ref (a + 6), .ref (a + 7), .ref (a + 8), .ref (a + 9), .ref (a + 10), .null, .null, .null, .null, .null, .null, .null]) rfl h0 rfl rfl rfl (fun B9 g9 => ?_)
  replace h0 := up_w g9
  replace hz := hz.up g9
  replace hG := hG.up g9 (by omega)
  refine es rfl rfl rfl ?_
  refine es rfl rfl rfl ?_
  refine enaM (n := 8) rfl rfl (fun A10 e10 => ?_)
  rw [show B9.2.1 = a + 1 + 10 from hG.n]
  replace h0 := mk_k e10 h0 (by have := hG.n; omega)
  replace hz := hz.mk hG.n e10 rfl
  replace hG := hG.mk e10
  refine epM (fs' := [.int 0, .int 0, .int 0, .int 0, .int 0, .int 0, .int 0, .int 0, .int 0, .int 0, .ref (a + 1), .ref (a + 2), .ref (a + 3), .ref (a + 4), .ref (a + 5), .ref (a + 6), .ref (a + 7), .ref (a + 8), .ref (a + 9), .ref (a + 10), .ref (a + 11), .null, .null, .null, .null, .null, .null]) rfl h0 rfl rfl rfl (fun B10 g10 => ?_)
  replace h0 := up_w g10
  replace hz := hz.up g10
  replace hG := hG.up g10 (by omega)
  refine es rfl rfl rfl ?_
  refine es rfl rfl rfl ?_
  refine enaM (n := 4) rfl rfl (fun A11 e11 => ?_)
  rw [show B10.2.1 = a + 1 + 11 from hG.n]
  replace h0 := mk_k e11 h0 (by have := hG.n; omega)
  replace hz := hz.mk hG.n e11 rfl
  replace hG := hG.mk e11
  refine epM (fs' := [.int 0, .int 0, .int 0, .int 0, .int 0, .int 0, .int 0, .int 0, .int 0, .int 0, .ref (a + 1), .ref (a + 2), .ref (a + 3), .ref (a + 4), .ref (a + 5), .ref (a + 6), .ref (a + 7), .ref (a + 8), .ref (a + 9), .ref (a + 10), .ref (a + 11), .ref (a + 12), .null, .null, .null, .null, .null]) rfl h0 rfl rfl rfl (fun B11 g11 => ?_)
  replace h0 := up_w g11
  replace hz := hz.up g11
  replace hG := hG.up g11 (by omega)
  refine es rfl rfl rfl ?_
  refine es rfl rfl rfl ?_
  refine enaM (n := 4) rfl rfl (fun A12 e12 => ?_)
  rw [show B11.2.1 = a + 1 + 12 from hG.n]
  replace h0 := mk_k e12 h0 (by have := hG.n; omega)
  replace hz := hz.mk hG.n e12 rfl
  replace hG := hG.mk e12
  refine epM (fs' := [.int 0, .int 0, .int 0, .int 0, .int 0, .int 0, .int 0, .int 0, .int 0, .int 0, .ref (a + 1), .ref (a + 2), .ref (a + 3), .ref (a + 4), .ref (a + 5), .ref (a + 6), .ref (a + 7), .ref (a + 8), .ref (a + 9), .ref (a + 10), .ref (a + 11), .ref (a + 12), .ref (a + 13), .null, .null, .null, .null]) rfl h0 rfl rfl rfl (fun B12 g12 => ?_)
  replace h0 := up_w g12
  replace hz := hz.up g12
  replace hG := hG.up g12 (by omega)
  refine es rfl rfl rfl ?_
  refine es rfl rfl rfl ?_
  refine enaM (n := 8) rfl rfl (fun A13 e13 => ?_)
  rw [show B12.2.1 = a + 1 + 13 from hG.n]
  replace h0 := mk_k e13 h0 (by have := hG.n; omega)
  replace hz := hz.mk hG.n e13 rfl
  replace hG := hG.mk e13
  refine epM (fs' := [.int 0, .int 0, .int 0, .int 0, .int 0, .int 0, .int 0, .int 0, .int 0, .int 0, .ref (a + 1), .ref (a + 2), .ref (a + 3), .ref (a + 4), .ref (a + 5), .ref (a + 6), .ref (a + 7), .ref (a + 8), .ref (a + 9), .ref (a + 10), .ref (a + 11), .ref (a + 12), .ref (a + 13), .ref (a + 14), .null, .null, .null]) rfl h0 rfl rfl rfl (fun B13 g13 => ?_)
  replace h0 := up_w g13
  replace hz := hz.up g13
  replace hG := hG.up g13 (by omega)
  refine es rfl rfl rfl ?_
  refine es rfl rfl rfl ?_
  refine enaM (n := 11) rfl rfl (fun A14 e14 => ?_)
  rw [show B13.2.1 = a + 1 + 14 from hG.n]
  replace h0 := mk_k e14 h0 (by have := hG.n; omega)
  replace hz := hz.mk hG.n e14 rfl
  replace hG := hG.mk e14
  refine epM (fs' := [.int 0, .int 0, .int 0, .int 0, .int 0, .int 0, .int 0, .int 0, .int 0, .int 0, .ref (a + 1), .ref (a + 2), .ref (a + 3), .ref (a + 4), .ref (a + 5), .ref (a + 6), .ref (a + 7), .ref (a + 8), .ref (a + 9), .ref (a + 10), .ref (a + 11), .ref (a + 12), .ref (a + 13), .ref (a + 14), .ref (a + 15), .null, .null]) rfl h0 rfl rfl rfl (fun B14 g14 => ?_)
  replace h0 := up_w g14
  replace hz := hz.up g14
  replace hG := hG.up g14 (by omega)
  refine es rfl rfl rfl ?_
  refine es rfl rfl rfl ?_
  refine enaM (n := 11) rfl rfl (fun A15 e15 => ?_)
  rw [show B14.2.1 = a + 1 + 15 from hG.n]
  replace h0 := mk_k e15 h0 (by have := hG.n; omega)
  replace hz := hz.mk hG.n e15 rfl
  replace hG := hG.mk e15
  refine epM (fs' := [.int 0, .int 0, .int 0, .int 0, .int 0, .int 0, .int 0, .int 0, .int 0, .int 0, .ref (a + 1), .ref (a + 2), .ref (a + 3), .ref (a + 4), .ref (a + 5), .ref (a + 6), .ref (a + 7), .ref (a + 8), .ref (a + 9), .ref (a + 10), .ref (a + 11), .ref (a + 12), .ref (a + 13), .ref (a + 14), .ref (a + 15), .ref (a + 16), .null]) rfl h0 rfl rfl rfl (fun B15 g15 => ?_)
  replace h0 := up_w g15
  replace hz := hz.up g15
  replace hG := hG.up g15 (by omega)
  refine es rfl rfl rfl ?_
  refine es rfl rfl rfl ?_
  refine enaM (n := 11) rfl rfl (fun A16 e16 => ?_)
  rw [show B15.2.1 = a + 1 + 16 from hG.n]
  replace h0 := mk_k e16 h0 (by have := hG.n; omega)
  replace hz := hz.mk hG.n e16 rfl
  replace hG := hG.mk e16
  refine epM (fs' := [.int 0, .int 0, .int 0, .int 0, .int 0, .int 0, .int 0, .int 0, .int 0, .int 0, .ref (a + 1), .ref (a + 2), .ref (a + 3), .ref (a + 4), .ref (a + 5), .ref (a + 6), .ref (a + 7), .ref (a + 8), .ref (a + 9), .ref (a + 10), .ref (a + 11), .ref (a + 12), .ref (a + 13), .ref (a + 14), .ref (a + 15), .ref (a + 16), .ref (a + 17)]) rfl h0 rfl rfl rfl (fun B16 g16 => ?_)
  replace h0 := up_w g16
  replace hz := hz.up g16
  replace hG := hG.up g16 (by omega)
  repeat (first | refine es rfl rfl rfl ?_ | refine eg rfl (by assumption) rfl ?_ | refine eanE rfl (by assumption) (by with_reducible first | exact rfl | exact Int32.zero_add _ | exact ix8 _ | exact ix12 _ | exact ix7r _ _ | exact n7 | exact n0 | exact n1) (by assumption) rfl ?_ | refine eal rfl (by assumption) (by assumption) rfl ?_ | refine eri rfl ?_ | refine erv rfl ?_ | refine erl rfl ?_ | refine era rfl ?_ | refine erz0 rfl ?_ | refine erz1 rfl ?_)
  try dsimp only [set1, set2, kilP, List.set_cons_zero, List.set_cons_succ, List.getElem?_cons_zero, List.getElem?_cons_succ, List.nil_append, List.cons_append, Option.toList_some, Option.toList_none]
  exact ⟨rfl, ⟨h0, hz⟩, hG⟩
theorem i_X12 {ad : Nat → Nat} {M : Mm} {a : Nat} (h0 : M.1 a = some (.inr (12, [.int 0, .int 0, .int 0, .int 0, .int 0, .int 0, .int 0, .int 0, .int 0, .int 0, .null, .null, .null, .null, .null, .null, .null, .null, .null, .null, .null, .null, .null, .null, .null, .null, .null]))) (e1 : M.2.1 = a + 1) : EvM ad 0 (iX12_init ad) [.ref a] M (fun v' M' => v' = none ∧ (M'.1 a = some (.inr (12, mtL a 0 0 0 0 0 0 0 0 0 0)) ∧ mtc M' a (fun _ => Z3) (fun _ => Z6)) ∧ Gw a 17 163 M M') := by
  have hG := Gw.rf e1
  have hz : pZ M a 0 := fun k k1 k2 => absurd k2 (by omega)
  refine ⟨Nat.le_of_ble_eq_true rfl, ?_⟩
  show Ev ad _ (rX12_init ad) (0, [some (.ref a)], [], M) _
  repeat (first | refine es rfl rfl rfl ?_ | refine eg rfl (by assumption) rfl ?_ | refine eanE rfl (by assumption) (by with_reducible first | exact rfl | exact Int32.zero_add _ | exact ix8 _ | exact ix12 _ | exact ix7r _ _ | exact n7 | exact n0 | exact n1) (by assumption) rfl ?_ | refine eal rfl (by assumption) (by assumption) rfl ?_ | refine eri rfl ?_ | refine erv rfl ?_ | refine erl rfl ?_ | refine era rfl ?_ | refine erz0 rfl ?_ | refine erz1 rfl ?_)
  try dsimp only [set1, set2, kilP, List.set_cons_zero, List.set_cons_succ, List.getElem?_cons_zero, List.getElem?_cons_succ, List.nil_append, List.cons_append, Option.toList_some, Option.toList_none]
  skip
  refine enaM (n := 7) rfl rfl (fun A0 e0 => ?_)
  rw [show M.2.1 = a + 1 + 0 from hG.n]
  replace h0 := mk_k e0 h0 (by have := hG.n; omega)
  replace hz := hz.mk hG.n e0 rfl
  replace hG := hG.mk e0
  refine epM (fs' := [.int 0, .int 0, .int 0, .int 0, .int 0, .int 0, .int 0, .int 0, .int 0, .int 0, .ref (a + 1), .null, .null, .null, .null, .null, .null, .null, .null, .null, .null, .null, .null, .null, .null, .null, .null]) rfl h0 rfl rfl rfl (fun B0 g0 => ?_)
  replace h0 := up_w g0
  replace hz := hz.up g0
  replace hG := hG.up g0 (by omega)
  refine es rfl rfl rfl ?_
  refine es rfl rfl rfl ?_
  refine enaM (n := 7) rfl rfl (fun A1 e1 => ?_)
  rw [show B0.2.1 = a + 1 + 1 from hG.n]
  replace h0 := mk_k e1 h0 (by have := hG.n; omega)
  replace hz := hz.mk hG.n e1 rfl
  replace hG := hG.mk e1
  refine epM (fs' := [.int 0, .int 0, .int 0, .int 0, .int 0, .int 0, .int 0, .int 0, .int 0, .int 0, .ref (a + 1), .ref (a + 2), .null, .null, .null, .null, .null, .null, .null, .null, .null, .null, .null, .null, .null, .null, .null]) rfl h0 rfl rfl rfl (fun B1 g1 => ?_)
  replace h0 := up_w g1
  replace hz := hz.up g1
  replace hG := hG.up g1 (by omega)
  refine es rfl rfl rfl ?_
  refine es rfl rfl rfl ?_
  refine enaM (n := 7) rfl rfl (fun A2 e2 => ?_)
  rw [show B1.2.1 = a + 1 + 2 from hG.n]
  replace h0 := mk_k e2 h0 (by have := hG.n; omega)
  replace hz := hz.mk hG.n e2 rfl
  replace hG := hG.mk e2
  refine epM (fs' := [.int 0, .int 0, .int 0, .int 0, .int 0, .int 0, .int 0, .int 0, .int 0, .int 0, .ref (a + 1), .ref (a + 2), .ref (a + 3), .null, .null, .null, .null, .null, .null, .null, .null, .null, .null, .null, .null, .null, .null]) rfl h0 rfl rfl rfl (fun B2 g2 => ?_)
  replace h0 := up_w g2
  replace hz := hz.up g2
  replace hG := hG.up g2 (by omega)
  refine es rfl rfl rfl ?_
  refine es rfl rfl rfl ?_
  refine enaM (n := 7) rfl rfl (fun A3 e3 => ?_)
  rw [show B2.2.1 = a + 1 + 3 from hG.n]
  replace h0 := mk_k e3 h0 (by have := hG.n; omega)
  replace hz := hz.mk hG.n e3 rfl
  replace hG := hG.mk e3
  refine epM (fs' := [.int 0, .int 0, .int 0, .int 0, .int 0, .int 0, .int 0, .int 0, .int 0, .int 0, .ref (a + 1), .ref (a + 2), .ref (a + 3), .ref (a + 4), .null, .null, .null, .null, .null, .null, .null, .null, .null, .null, .null, .null, .null]) rfl h0 rfl rfl rfl (fun B3 g3 => ?_)
  replace h0 := up_w g3
  replace hz := hz.up g3
  replace hG := hG.up g3 (by omega)
  refine es rfl rfl rfl ?_
  refine es rfl rfl rfl ?_
  refine enaM (n := 7) rfl rfl (fun A4 e4 => ?_)
  rw [show B3.2.1 = a + 1 + 4 from hG.n]
  replace h0 := mk_k e4 h0 (by have := hG.n; omega)
  replace hz := hz.mk hG.n e4 rfl
  replace hG := hG.mk e4
  refine epM (fs' := [.int 0, .int 0, .int 0, .int 0, .int 0, .int 0, .int 0, .int 0, .int 0, .int 0, .ref (a + 1), .ref (a + 2), .ref (a + 3), .ref (a + 4), .ref (a + 5), .null, .null, .null, .null, .null, .null, .null, .null, .null, .null, .null, .null]) rfl h0 rfl rfl rfl (fun B4 g4 => ?_)
  replace h0 := up_w g4
  replace hz := hz.up g4
  replace hG := hG.up g4 (by omega)
  refine es rfl rfl rfl ?_
  refine es rfl rfl rfl ?_
  refine enaM (n := 7) rfl rfl (fun A5 e5 => ?_)
  rw [show B4.2.1 = a + 1 + 5 from hG.n]
  replace h0 := mk_k e5 h0 (by have := hG.n; omega)
  replace hz := hz.mk hG.n e5 rfl
  replace hG := hG.mk e5
  refine epM (fs' := [.int 0, .int 0, .int 0, .int 0, .int 0, .int 0, .int 0, .int 0, .int 0, .int 0, .ref (a + 1), .ref (a + 2), .ref (a + 3), .ref (a + 4), .ref (a + 5), .ref (a + 6), .null, .null, .null, .null, .null, .null, .null, .null, .null, .null, .null]) rfl h0 rfl rfl rfl (fun B5 g5 => ?_)
  replace h0 := up_w g5
  replace hz := hz.up g5
  replace hG := hG.up g5 (by omega)
  refine es rfl rfl rfl ?_
  refine es rfl rfl rfl ?_
  refine enaM (n := 7) rfl rfl (fun A6 e6 => ?_)
  rw [show B5.2.1 = a + 1 + 6 from hG.n]
  replace h0 := mk_k e6 h0 (by have := hG.n; omega)
  replace hz := hz.mk hG.n e6 rfl
  replace hG := hG.mk e6
  refine epM (fs' := [.int 0, .int 0, .int 0, .int 0, .int 0, .int 0, .int 0, .int 0, .int 0, .int 0, .ref (a + 1), .ref (a + 2), .ref (a + 3), .ref (a + 4), .ref (a + 5), .ref (a + 6), .ref (a + 7), .null, .null, .null, .null, .null, .null, .null, .null, .null, .null]) rfl h0 rfl rfl rfl (fun B6 g6 => ?_)
  replace h0 := up_w g6
  replace hz := hz.up g6
  replace hG := hG.up g6 (by omega)
  refine es rfl rfl rfl ?_
  refine es rfl rfl rfl ?_
  refine enaM (n := 49) rfl rfl (fun A7 e7 => ?_)
  rw [show B6.2.1 = a + 1 + 7 from hG.n]
  replace h0 := mk_k e7 h0 (by have := hG.n; omega)
  replace hz := hz.mk hG.n e7 rfl
  replace hG := hG.mk e7
  refine epM (fs' := [.int 0, .int 0, .int 0, .int 0, .int 0, .int 0, .int 0, .int 0, .int 0, .int 0, .ref (a + 1), .ref (a + 2), .ref (a + 3), .ref (a + 4), .ref (a + 5), .ref (a + 6), .ref (a + 7), .ref (a + 8), .null, .null, .null, .null, .null, .null, .null, .null, .null]) rfl h0 rfl rfl rfl (fun B7 g7 => ?_)
  replace h0 := up_w g7
  replace hz := hz.up g7
  replace hG := hG.up g7 (by omega)
  refine es rfl rfl rfl ?_
  refine es rfl rfl rfl ?_
  refine enaM (n := 4) rfl rfl (fun A8 e8 => ?_)
  rw [show B7.2.1 = a + 1 + 8 from hG.n]
  replace h0 := mk_k e8 h0 (by have := hG.n; omega)
  replace hz := hz.mk hG.n e8 rfl
  replace hG := hG.mk e8
  refine epM (fs' := [.int 0, .int 0, .int 0, .int 0, .int 0, .int 0, .int 0, .int 0, .int 0, .int 0, .ref (a + 1), .ref (a + 2), .ref (a + 3), .ref (a + 4), .ref (a + 5), .ref (a + 6), .ref (a + 7), .ref (a + 8), .ref (a + 9), .null, .null, .null, .null, .null, .null, .null, .null]) rfl h0 rfl rfl rfl (fun B8 g8 => ?_)
  replace h0 := up_w g8
  replace hz := hz.up g8
  replace hG := hG.up g8 (by omega)
  refine (i_X12b h0 hz hG).im (fun v M' ⟨e, h, hG⟩ => ⟨e, ⟨h.1, ?_⟩, hG⟩)
  exact tZ.mc (L := mtL a 0 0 0 0 0 0 0 0 0 0) ⟨h.1, fun k k1 k2 => h.2 k k1 (by omega)⟩
theorem aMt.nw {M : Mm} {a : Nat} {T : Tw} (hT : twE T) (h0 : M.1 a = some (.inr (12, mtL a 0 0 0 0 0 0 0 0 0 0))) (hm : mtc M a (fun _ => Z3) (fun _ => Z6)) : aMt M a T := by
  obtain ⟨h1, h2, h3, h4, h5, h6, h7, h8, h9⟩ := hT
  refine ⟨0, fun _ => Z3, fun _ => Z6, h0.trans ?_, hm, fun k hk => absurd hk (by omega), fun i hi => (h7 i hi).symm, fun p hp => absurd hp (by omega), ⟨fun j hj => absurd hj (by omega), fun j hj => absurd hj (by omega)⟩, fun k hk => absurd hk (by omega), fun k hk => absurd hk (by omega), fun k hk => absurd hk (by omega)⟩
  unfold mtO
  rw [h1, h2, h3, h4, h6, h8, h9]
  rfl
