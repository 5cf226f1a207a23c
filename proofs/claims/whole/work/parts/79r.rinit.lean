/-! The reference's constructor -/
section RINIT
def pY (M : Mm) (a i : Nat) : Prop := ∀ k, 1 ≤ k → k ≤ i → M.1 (a + k) = some (.inl (tyk k, szk k, .inl Z3))
theorem pY.mk {M M2 : Mm} {a i n : Nat} {x : Ce} (h : pY M a i) (hn : M.2.1 = a + 1 + i) (e : M2 = mkc M n x) (hx : x = .inl (tyk (i + 1), szk (i + 1), .inl Z3)) : pY M2 a (i + 1) := by
  intro k k1 k2
  by_cases q : k = i + 1
  · subst q
    rw [← hx]
    exact mk_w e (by omega)
  · exact mk_k e (h k k1 (by omega)) (by omega)
theorem pY.up {M M2 : Mm} {a i : Nat} {x : Ce} (h : pY M a i) (e : M2 = up M a x) : pY M2 a i := fun k k1 k2 => up_k e (h k k1 k2) (by omega)
def yo0 : Yo := ((0, 0, -1), (.null, .null), (0, 0, 0, 0, 0, 0, 0, 0, 0), ((0, 0), (0, 0), (0, 0, 0), (0, 0), 0))
theorem i_X13b {ad : Nat → Nat} {M0 M : Mm} {a : Nat} (h0 : M.1 a = some (.inr (13, [.int 0, .int 0, .int (-1), .null, .null, .ref (a + 1), .int 0, .int 0, .int 0, .int 0, .int 0, .int 0, .int 0, .int 0, .long 0, .ref (a + 2), .ref (a + 3), .ref (a + 4), .int 0, .int 0, .ref (a + 5), .ref (a + 6), .ref (a + 7), .int 0, .int 0, .ref (a + 8), .null, .null, .null, .null, .int 0, .int 0, .int 0, .null, .null, .int 0, .int 0, .null, .int 0]))) (hz : pY M a 8) (hG : Gw a 8 1448 M0 M) : Ev ad 0 (rX13_init ad) (75, [some (.ref a)], [], M) (fun v' M' => v' = none ∧ (M'.1 a = some (.inr (13, [.int 0, .int 0, .int (-1), .null, .null, .ref (a + 1), .int 0, .int 0, .int 0, .int 0, .int 0, .int 0, .int 0, .int 0, .long 0, .ref (a + 2), .ref (a + 3), .ref (a + 4), .int 0, .int 0, .ref (a + 5), .ref (a + 6), .ref (a + 7), .int 0, .int 0, .ref (a + 8), .ref (a + 9), .ref (a + 10), .ref (a + 11), .ref (a + 12), .int 0, .int 0, .int 0, .ref (a + 13), .ref (a + 14), .int 0, .int 0, .ref (a + 15), .int 0])) ∧ pY M' a 15) ∧ Gw a 15 1573 M0 M') := by
  refine es rfl rfl rfl ?_
  refine es rfl rfl rfl ?_
  refine enaM (n := 7) rfl rfl (fun A8 e8 => ?_)
  rw [show M.2.1 = a + 1 + 8 from hG.n]
  replace h0 := mk_k e8 h0 (by have := hG.n; omega)
  replace hz := hz.mk hG.n e8 rfl
  replace hG := hG.mk e8
  refine epM (fs' := [.int 0, .int 0, .int (-1), .null, .null, .ref (a + 1), .int 0, .int 0, .int 0, .int 0, .int 0, .int 0, .int 0, .int 0, .long 0, .ref (a + 2), .ref (a + 3), .ref (a + 4), .int 0, .int 0, .ref (a + 5), .ref (a + 6), .ref (a + 7), .int 0, .int 0, .ref (a + 8), .ref (a + 9), .null, .null, .null, .int 0, .int 0, .int 0, .null, .null, .int 0, .int 0, .null, .int 0]) rfl h0 rfl rfl rfl (fun B8 g8 => ?_)
  replace h0 := up_w g8
  replace hz := hz.up g8
  replace hG := hG.up g8 (by omega)
  refine es rfl rfl rfl ?_
  refine es rfl rfl rfl ?_
  refine enaM (n := 7) rfl rfl (fun A9 e9 => ?_)
  rw [show B8.2.1 = a + 1 + 9 from hG.n]
  replace h0 := mk_k e9 h0 (by have := hG.n; omega)
  replace hz := hz.mk hG.n e9 rfl
  replace hG := hG.mk e9
  refine epM (fs' := [.int 0, .int 0, .int (-1), .null, .null, .ref (a + 1), .int 0, .int 0, .int 0, .int 0, .int 0, .int 0, .int 0, .int 0, .long 0, .ref (a + 2), .ref (a + 3), .ref (a + 4), .int 0, .int 0, .ref (a + 5), .ref (a + 6), .ref (a + 7), .int 0, .int 0, .ref (a + 8), .ref (a + 9), .ref (a + 10), .null, .null, .int 0, .int 0, .int 0, .null, .null, .int 0, .int 0, .null, .int 0]) rfl h0 rfl rfl rfl (fun B9 g9 => ?_)
  replace h0 := up_w g9
  replace hz := hz.up g9
  replace hG := hG.up g9 (by omega)
  refine es rfl rfl rfl ?_
  refine es rfl rfl rfl ?_
  refine enaM (n := 7) rfl rfl (fun A10 e10 => ?_)
  rw [show B9.2.1 = a + 1 + 10 from hG.n]
  replace h0 := mk_k e10 h0 (by have := hG.n; omega)
  replace hz := hz.mk hG.n e10 rfl
  replace hG := hG.mk e10
  refine epM (fs' := [.int 0, .int 0, .int (-1), .null, .null, .ref (a + 1), .int 0, .int 0, .int 0, .int 0, .int 0, .int 0, .int 0, .int 0, .long 0, .ref (a + 2), .ref (a + 3), .ref (a + 4), .int 0, .int 0, .ref (a + 5), .ref (a + 6), .ref (a + 7), .int 0, .int 0, .ref (a + 8), .ref (a + 9), .ref (a + 10), .ref (a + 11), .null, .int 0, .int 0, .int 0, .null, .null, .int 0, .int 0, .null, .int 0]) rfl h0 rfl rfl rfl (fun B10 g10 => ?_)
  replace h0 := up_w g10
  replace hz := hz.up g10
  replace hG := hG.up g10 (by omega)
  refine es rfl rfl rfl ?_
  refine es rfl rfl rfl ?_
  refine enaM (n := 49) rfl rfl (fun A11 e11 => ?_)
  rw [show B10.2.1 = a + 1 + 11 from hG.n]
  replace h0 := mk_k e11 h0 (by have := hG.n; omega)
  replace hz := hz.mk hG.n e11 rfl
  replace hG := hG.mk e11
  refine epM (fs' := [.int 0, .int 0, .int (-1), .null, .null, .ref (a + 1), .int 0, .int 0, .int 0, .int 0, .int 0, .int 0, .int 0, .int 0, .long 0, .ref (a + 2), .ref (a + 3), .ref (a + 4), .int 0, .int 0, .ref (a + 5), .ref (a + 6), .ref (a + 7), .int 0, .int 0, .ref (a + 8), .ref (a + 9), .ref (a + 10), .ref (a + 11), .ref (a + 12), .int 0, .int 0, .int 0, .null, .null, .int 0, .int 0, .null, .int 0]) rfl h0 rfl rfl rfl (fun B11 g11 => ?_)
  replace h0 := up_w g11
  replace hz := hz.up g11
  replace hG := hG.up g11 (by omega)
  refine es rfl rfl rfl ?_
  refine es rfl rfl rfl ?_
  refine enaM (n := 3) rfl rfl (fun A12 e12 => ?_)
  rw [show B11.2.1 = a + 1 + 12 from hG.n]
  replace h0 := mk_k e12 h0 (by have := hG.n; omega)
  replace hz := hz.mk hG.n e12 rfl
  replace hG := hG.mk e12
  refine epM (fs' := [.int 0, .int 0, .int (-1), .null, .null, .ref (a + 1), .int 0, .int 0, .int 0, .int 0, .int 0, .int 0, .int 0, .int 0, .long 0, .ref (a + 2), .ref (a + 3), .ref (a + 4), .int 0, .int 0, .ref (a + 5), .ref (a + 6), .ref (a + 7), .int 0, .int 0, .ref (a + 8), .ref (a + 9), .ref (a + 10), .ref (a + 11), .ref (a + 12), .int 0, .int 0, .int 0, .ref (a + 13), .null, .int 0, .int 0, .null, .int 0]) rfl h0 rfl rfl rfl (fun B12 g12 => ?_)
  replace h0 := up_w g12
  replace hz := hz.up g12
  replace hG := hG.up g12 (by omega)
  refine es rfl rfl rfl ?_
  refine es rfl rfl rfl ?_
  refine enaM (n := 3) rfl rfl (fun A13 e13 => ?_)
  rw [show B12.2.1 = a + 1 + 13 from hG.n]
  replace h0 := mk_k e13 h0 (by have := hG.n; omega)
  replace hz := hz.mk hG.n e13 rfl
  replace hG := hG.mk e13
  refine epM (fs' := [.int 0, .int 0, .int (-1), .null, .null, .ref (a + 1), .int 0, .int 0, .int 0, .int 0, .int 0, .int 0, .int 0, .int 0, .long 0, .ref (a + 2), .ref (a + 3), .ref (a + 4), .int 0, .int 0, .ref (a + 5), .ref (a + 6), .ref (a + 7), .int 0, .int 0, .ref (a + 8), .ref (a + 9), .ref (a + 10), .ref (a + 11), .ref (a + 12), .int 0, .int 0, .int 0, .ref (a + 13), .ref (a + 14), .int 0, .int 0, .null, .int 0]) rfl h0 rfl rfl rfl (fun B13 g13 => ?_)
  replace h0 := up_w g13
  replace hz := hz.up g13
  replace hG := hG.up g13 (by omega)
  refine es rfl rfl rfl ?_
  refine es rfl rfl rfl ?_
  refine enaM (n := 49) rfl rfl (fun A14 e14 => ?_)
  rw [show B13.2.1 = a + 1 + 14 from hG.n]
  replace h0 := mk_k e14 h0 (by have := hG.n; omega)
  replace hz := hz.mk hG.n e14 rfl
  replace hG := hG.mk e14
  refine epM (fs' := [.int 0, .int 0, .int (-1), .null, .null, .ref (a + 1), .int 0, .int 0, .int 0, .int 0, .int 0, .int 0, .int 0, .int 0, .long 0, .ref (a + 2), .ref (a + 3), .ref (a + 4), .int 0, .int 0, .ref (a + 5), .ref (a + 6), .ref (a + 7), .int 0, .int 0, .ref (a + 8), .ref (a + 9), .ref (a + 10), .ref (a + 11), .ref (a + 12), .int 0, .int 0, .int 0, .ref (a + 13), .ref (a + 14), .int 0, .int 0, .ref (a + 15), .int 0]) rfl h0 rfl rfl rfl (fun B14 g14 => ?_)
  replace h0 := up_w g14
  replace hz := hz.up g14
  replace hG := hG.up g14 (by omega)
  repeat (first | refine es rfl rfl rfl ?_ | refine eg rfl (by assumption) rfl ?_ | refine eanE rfl (by assumption) (by with_reducible first | exact rfl | exact Int32.zero_add _ | exact ix8 _ | exact ix12 _ | exact ix7r _ _ | exact n7 | exact n0 | exact n1) (by assumption) rfl ?_ | refine eal rfl (by assumption) (by assumption) rfl ?_ | refine eri rfl ?_ | refine erv rfl ?_ | refine erl rfl ?_ | refine era rfl ?_ | refine erz0 rfl ?_ | refine erz1 rfl ?_)
  try dsimp only [set1, set2, kilP, List.set_cons_zero, List.set_cons_succ, List.getElem?_cons_zero, List.getElem?_cons_succ, List.nil_append, List.cons_append, Option.toList_some, Option.toList_none]
  exact ⟨rfl, ⟨h0, hz⟩, hG⟩
theorem i_X13 {ad : Nat → Nat} {M : Mm} {a : Nat} (h0 : M.1 a = some (.inr (13, [.int 0, .int 0, .int 0, .null, .null, .null, .int 0, .int 0, .int 0, .int 0, .int 0, .int 0, .int 0, .int 0, .long 0, .null, .null, .null, .int 0, .int 0, .null, .null, .null, .int 0, .int 0, .null, .null, .null, .null, .null, .int 0, .int 0, .int 0, .null, .null, .int 0, .int 0, .null, .int 0]))) (e1 : M.2.1 = a + 1) : EvM ad 0 (iX13_init ad) [.ref a] M (fun v' M' => v' = none ∧ aY M' a yo0 (fun _ => Z3) ∧ Gw a 15 1573 M M') := by
  have hG := Gw.rf e1
  have hz : pY M a 0 := fun k k1 k2 => absurd k2 (by omega)
  refine ⟨Nat.le_of_ble_eq_true rfl, ?_⟩
  show Ev ad _ (rX13_init ad) (0, [some (.ref a)], [], M) _
  repeat (first | refine es rfl rfl rfl ?_ | refine eg rfl (by assumption) rfl ?_ | refine eanE rfl (by assumption) (by with_reducible first | exact rfl | exact Int32.zero_add _ | exact ix8 _ | exact ix12 _ | exact ix7r _ _ | exact n7 | exact n0 | exact n1) (by assumption) rfl ?_ | refine eal rfl (by assumption) (by assumption) rfl ?_ | refine eri rfl ?_ | refine erv rfl ?_ | refine erl rfl ?_ | refine era rfl ?_ | refine erz0 rfl ?_ | refine erz1 rfl ?_)
  try dsimp only [set1, set2, kilP, List.set_cons_zero, List.set_cons_succ, List.getElem?_cons_zero, List.getElem?_cons_succ, List.nil_append, List.cons_append, Option.toList_some, Option.toList_none]
  refine epM (fs' := [.int 0, .int 0, .int (-1), .null, .null, .null, .int 0, .int 0, .int 0, .int 0, .int 0, .int 0, .int 0, .int 0, .long 0, .null, .null, .null, .int 0, .int 0, .null, .null, .null, .int 0, .int 0, .null, .null, .null, .null, .null, .int 0, .int 0, .int 0, .null, .null, .int 0, .int 0, .null, .int 0]) rfl h0 rfl rfl rfl (fun N0 m0 => ?_)
  replace h0 := up_w m0
  replace hz := hz.up m0
  replace hG := hG.up m0 (by omega)
  refine es rfl rfl rfl ?_
  refine es rfl rfl rfl ?_
  refine enaM (n := 1100) rfl rfl (fun A0 e0 => ?_)
  rw [show N0.2.1 = a + 1 + 0 from hG.n]
  replace h0 := mk_k e0 h0 (by have := hG.n; omega)
  replace hz := hz.mk hG.n e0 rfl
  replace hG := hG.mk e0
  refine epM (fs' := [.int 0, .int 0, .int (-1), .null, .null, .ref (a + 1), .int 0, .int 0, .int 0, .int 0, .int 0, .int 0, .int 0, .int 0, .long 0, .null, .null, .null, .int 0, .int 0, .null, .null, .null, .int 0, .int 0, .null, .null, .null, .null, .null, .int 0, .int 0, .int 0, .null, .null, .int 0, .int 0, .null, .int 0]) rfl h0 rfl rfl rfl (fun B0 g0 => ?_)
  replace h0 := up_w g0
  replace hz := hz.up g0
  replace hG := hG.up g0 (by omega)
  refine es rfl rfl rfl ?_
  refine es rfl rfl rfl ?_
  refine enaM (n := 16) rfl rfl (fun A1 e1 => ?_)
  rw [show B0.2.1 = a + 1 + 1 from hG.n]
  replace h0 := mk_k e1 h0 (by have := hG.n; omega)
  replace hz := hz.mk hG.n e1 rfl
  replace hG := hG.mk e1
  refine epM (fs' := [.int 0, .int 0, .int (-1), .null, .null, .ref (a + 1), .int 0, .int 0, .int 0, .int 0, .int 0, .int 0, .int 0, .int 0, .long 0, .ref (a + 2), .null, .null, .int 0, .int 0, .null, .null, .null, .int 0, .int 0, .null, .null, .null, .null, .null, .int 0, .int 0, .int 0, .null, .null, .int 0, .int 0, .null, .int 0]) rfl h0 rfl rfl rfl (fun B1 g1 => ?_)
  replace h0 := up_w g1
  replace hz := hz.up g1
  replace hG := hG.up g1 (by omega)
  refine es rfl rfl rfl ?_
  refine es rfl rfl rfl ?_
  refine enaM (n := 256) rfl rfl (fun A2 e2 => ?_)
  rw [show B1.2.1 = a + 1 + 2 from hG.n]
  replace h0 := mk_k e2 h0 (by have := hG.n; omega)
  replace hz := hz.mk hG.n e2 rfl
  replace hG := hG.mk e2
  refine epM (fs' := [.int 0, .int 0, .int (-1), .null, .null, .ref (a + 1), .int 0, .int 0, .int 0, .int 0, .int 0, .int 0, .int 0, .int 0, .long 0, .ref (a + 2), .ref (a + 3), .null, .int 0, .int 0, .null, .null, .null, .int 0, .int 0, .null, .null, .null, .null, .null, .int 0, .int 0, .int 0, .null, .null, .int 0, .int 0, .null, .int 0]) rfl h0 rfl rfl rfl (fun B2 g2 => ?_)
  replace h0 := up_w g2
  replace hz := hz.up g2
  replace hG := hG.up g2 (by omega)
  refine es rfl rfl rfl ?_
  refine es rfl rfl rfl ?_
  refine enaM (n := 48) rfl rfl (fun A3 e3 => ?_)
  rw [show B2.2.1 = a + 1 + 3 from hG.n]
  replace h0 := mk_k e3 h0 (by have := hG.n; omega)
  replace hz := hz.mk hG.n e3 rfl
  replace hG := hG.mk e3
  refine epM (fs' := [.int 0, .int 0, .int (-1), .null, .null, .ref (a + 1), .int 0, .int 0, .int 0, .int 0, .int 0, .int 0, .int 0, .int 0, .long 0, .ref (a + 2), .ref (a + 3), .ref (a + 4), .int 0, .int 0, .null, .null, .null, .int 0, .int 0, .null, .null, .null, .null, .null, .int 0, .int 0, .int 0, .null, .null, .int 0, .int 0, .null, .int 0]) rfl h0 rfl rfl rfl (fun B3 g3 => ?_)
  replace h0 := up_w g3
  replace hz := hz.up g3
  replace hG := hG.up g3 (by omega)
  refine es rfl rfl rfl ?_
  refine es rfl rfl rfl ?_
  refine enaM (n := 7) rfl rfl (fun A4 e4 => ?_)
  rw [show B3.2.1 = a + 1 + 4 from hG.n]
  replace h0 := mk_k e4 h0 (by have := hG.n; omega)
  replace hz := hz.mk hG.n e4 rfl
  replace hG := hG.mk e4
  refine epM (fs' := [.int 0, .int 0, .int (-1), .null, .null, .ref (a + 1), .int 0, .int 0, .int 0, .int 0, .int 0, .int 0, .int 0, .int 0, .long 0, .ref (a + 2), .ref (a + 3), .ref (a + 4), .int 0, .int 0, .ref (a + 5), .null, .null, .int 0, .int 0, .null, .null, .null, .null, .null, .int 0, .int 0, .int 0, .null, .null, .int 0, .int 0, .null, .int 0]) rfl h0 rfl rfl rfl (fun B4 g4 => ?_)
  replace h0 := up_w g4
  replace hz := hz.up g4
  replace hG := hG.up g4 (by omega)
  refine es rfl rfl rfl ?_
  refine es rfl rfl rfl ?_
  refine enaM (n := 7) rfl rfl (fun A5 e5 => ?_)
  rw [show B4.2.1 = a + 1 + 5 from hG.n]
  replace h0 := mk_k e5 h0 (by have := hG.n; omega)
  replace hz := hz.mk hG.n e5 rfl
  replace hG := hG.mk e5
  refine epM (fs' := [.int 0, .int 0, .int (-1), .null, .null, .ref (a + 1), .int 0, .int 0, .int 0, .int 0, .int 0, .int 0, .int 0, .int 0, .long 0, .ref (a + 2), .ref (a + 3), .ref (a + 4), .int 0, .int 0, .ref (a + 5), .ref (a + 6), .null, .int 0, .int 0, .null, .null, .null, .null, .null, .int 0, .int 0, .int 0, .null, .null, .int 0, .int 0, .null, .int 0]) rfl h0 rfl rfl rfl (fun B5 g5 => ?_)
  replace h0 := up_w g5
  replace hz := hz.up g5
  replace hG := hG.up g5 (by omega)
  refine es rfl rfl rfl ?_
  refine es rfl rfl rfl ?_
  refine enaM (n := 7) rfl rfl (fun A6 e6 => ?_)
  rw [show B5.2.1 = a + 1 + 6 from hG.n]
  replace h0 := mk_k e6 h0 (by have := hG.n; omega)
  replace hz := hz.mk hG.n e6 rfl
  replace hG := hG.mk e6
  refine epM (fs' := [.int 0, .int 0, .int (-1), .null, .null, .ref (a + 1), .int 0, .int 0, .int 0, .int 0, .int 0, .int 0, .int 0, .int 0, .long 0, .ref (a + 2), .ref (a + 3), .ref (a + 4), .int 0, .int 0, .ref (a + 5), .ref (a + 6), .ref (a + 7), .int 0, .int 0, .null, .null, .null, .null, .null, .int 0, .int 0, .int 0, .null, .null, .int 0, .int 0, .null, .int 0]) rfl h0 rfl rfl rfl (fun B6 g6 => ?_)
  replace h0 := up_w g6
  replace hz := hz.up g6
  replace hG := hG.up g6 (by omega)
  refine es rfl rfl rfl ?_
  refine es rfl rfl rfl ?_
  refine enaM (n := 7) rfl rfl (fun A7 e7 => ?_)
  rw [show B6.2.1 = a + 1 + 7 from hG.n]
  replace h0 := mk_k e7 h0 (by have := hG.n; omega)
  replace hz := hz.mk hG.n e7 rfl
  replace hG := hG.mk e7
  refine epM (fs' := [.int 0, .int 0, .int (-1), .null, .null, .ref (a + 1), .int 0, .int 0, .int 0, .int 0, .int 0, .int 0, .int 0, .int 0, .long 0, .ref (a + 2), .ref (a + 3), .ref (a + 4), .int 0, .int 0, .ref (a + 5), .ref (a + 6), .ref (a + 7), .int 0, .int 0, .ref (a + 8), .null, .null, .null, .null, .int 0, .int 0, .int 0, .null, .null, .int 0, .int 0, .null, .int 0]) rfl h0 rfl rfl rfl (fun B7 g7 => ?_)
  replace h0 := up_w g7
  replace hz := hz.up g7
  replace hG := hG.up g7 (by omega)
  refine (i_X13b h0 hz hG).im (fun v M' ⟨e, h, hG⟩ => ⟨e, ⟨h.1, fun k k1 k2 => h.2 k k1 (by omega)⟩, hG⟩)
theorem y_start {M : Mm} {a : Nat} {σ : Sg} (h : aY M a yo0 (fun _ => Z3)) (ha : a + 16 ≤ M.2.1) (h1 : σ.ts = 0) (h2 : σ.T.hs.n = 0) (h3 : σ.ac = []) (h4 : σ.mk = []) (h5 : σ.tr = 0) (h6 : σ.fn = 0) (h7 : ∀ j, j < 1100 → σ.tp j = 0) : YR M a σ := by
  refine ⟨yo0, _, h, ha, h5.symm, ?_, h6.symm, ?_, ?_, ?_, fun j hj => ?_, Or.inl ⟨h2, rfl⟩⟩
  · rw [h5]; rfl
  · rw [h1]; rfl
  · rw [h3]; rfl
  · rw [h4]; rfl
  · rw [h7 j hj]; show (0 : Int32) &&& 255 = 0; decide
end RINIT
