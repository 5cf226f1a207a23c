/-! The reference's feed, whole -/
section RFEEDB
variable {ad : Nat → Nat} {b : Nat} {M : Mm} {σ : Sg} {C : Nat}
theorem updR {p f : Nat → Int32} {t : Nat} {x v : Int32} (h : ∀ j, j < 1100 → p j &&& 255 = f j) (hx : x &&& 255 = v) : ∀ j, j < 1100 → upd p t x j &&& 255 = upd f t v j := by
  intro j hj
  by_cases e : j = t
  · rw [e, pk_us, pk_us]; exact hx
  · rw [pk_un e, pk_un e]; exact h j hj
theorem y_feed {y1 y2 y3 y4 y5 : Int32} (hY : YR M b σ) (hI : Inv σ C) : EvM ad 0 (iX13_feed ad) [.ref b, .int y1, .int y2, .int y3, .int y4, .int y5] M (Pq b M (spFeed σ y1 y2 y3 y4 y5)) := by
  have hts := hI.2.2.1
  unfold spFeed
  refine ⟨Nat.le_of_ble_eq_true rfl, ?_⟩
  show Ev ad _ (rX13_feed ad) (0, [some (.ref b), some (.int y1), some (.int y2), some (.int y3), some (.int y4), some (.int y5), none, none], [], M) _
  refine yEn rfl rfl rfl hY (fun M1 hY1 hF1 _ => ?_)
  obtain ⟨⟨⟨th, tr, wh⟩, ⟨tw, rd⟩, ⟨ta, sz, sp, so, pl, nu, fa, wa, wo⟩, oq⟩, A, hR⟩ := id hY1
  have ea : ta = nI σ.ts := hR.2.2.2.2.2.1
  subst ea
  have h0 := hR.1.1
  repeat (first | refine es rfl rfl rfl ?_ | refine eg rfl (by assumption) rfl ?_ | refine eanE rfl (by assumption) (by with_reducible first | exact rfl | exact Int32.zero_add _ | exact ix8 _ | exact ix12 _ | exact ix7r _ _ | exact n7 | exact n0 | exact n1) (by assumption) rfl ?_ | refine eal rfl (by assumption) (by assumption) rfl ?_ | refine eri rfl ?_ | refine erv rfl ?_ | refine erl rfl ?_ | refine era rfl ?_ | refine erz0 rfl ?_ | refine erz1 rfl ?_)
  try dsimp only [set1, set2, kilP, List.set_cons_zero, List.set_cons_succ, List.getElem?_cons_zero, List.getElem?_cons_succ, List.nil_append, List.cons_append, Option.toList_some, Option.toList_none]
  rw [show nI σ.ts + 20 = nI (σ.ts + 20) from nI_add _ 20]
  by_cases c : 1100 < σ.ts + 20
  · rw [if_pos c]
    refine ei _ rfl rfl (fun c1 => ?_) (fun c1 => ?_)
    · exact absurd c1 (nI_ge (a := 1100) (b := σ.ts + 20) (by omega) (by omega))
    repeat (first | refine es rfl rfl rfl ?_ | refine eg rfl (by assumption) rfl ?_ | refine eanE rfl (by assumption) (by with_reducible first | exact rfl | exact Int32.zero_add _ | exact ix8 _ | exact ix12 _ | exact ix7r _ _ | exact n7 | exact n0 | exact n1) (by assumption) rfl ?_ | refine eal rfl (by assumption) (by assumption) rfl ?_ | refine eri rfl ?_ | refine erv rfl ?_ | refine erl rfl ?_ | refine era rfl ?_ | refine erz0 rfl ?_ | refine erz1 rfl ?_)
    try dsimp only [set1, set2, kilP, List.set_cons_zero, List.set_cons_succ, List.getElem?_cons_zero, List.getElem?_cons_succ, List.nil_append, List.cons_append, Option.toList_some, Option.toList_none]
    refine ⟨fun v σ' h => ?_, hF1⟩
    obtain ⟨rfl, rfl⟩ := h
    exact ⟨rfl, hY1⟩
  rw [if_neg c]
  refine ei _ rfl rfl (fun c1 => ?_) (fun c1 => ?_)
  rotate_left
  · exact absurd (nI_le (a := σ.ts + 20) (b := 1100) (by omega) (by omega)) c1
  repeat (refine ng 23 rfl ?_; first | refine es rfl rfl rfl ?_ | refine eg rfl (by assumption) rfl ?_ | refine eanE rfl (by assumption) (by with_reducible first | exact rfl | exact Int32.zero_add _ | exact ix8 _ | exact ix12 _ | exact ix7r _ _ | exact n7 | exact n0 | exact n1) (by assumption) rfl ?_ | refine eal rfl (by assumption) (by assumption) rfl ?_ | refine eri rfl ?_ | refine erv rfl ?_ | refine erl rfl ?_ | refine era rfl ?_ | refine erz0 rfl ?_ | refine erz1 rfl ?_)
  try dsimp only [set1, set2, kilP, List.set_cons_zero, List.set_cons_succ, List.getElem?_cons_zero, List.getElem?_cons_succ, List.nil_append, List.cons_append, Option.toList_some, Option.toList_none]
  have k0 : aY M1 b ((th, tr, wh), (tw, rd), (nI σ.ts, sz, sp, so, pl, nu, fa, wa, wo), oq) (sA A 1 (A 1)) := by rw [sA_id]; exact hR.1
  have f0 := Fr.rf b 16 M1
  refine y_fd0 (fun N1 L1 x0 e0 k1 f1 => ?_) k0 f0 (by omega) _
  refine y_fd1 (fun N2 L2 x1 e1 k2 f2 => ?_) k1 f1 (by omega) _
  refine y_fd2 (fun N3 L3 x2 e2 k3 f3 => ?_) k2 f2 (by omega) _
  refine y_fd3 (fun N4 L4 x3 e3 k4 f4 => ?_) k3 f3 (by omega) _
  refine y_fd4 (fun N5 L5 x4 e4 k5 f5 => ?_) k4 f4 (by omega) _
  refine y_fd5 (fun N6 L6 x5 e5 k6 f6 => ?_) k5 f5 (by omega) _
  refine y_fd6 (fun N7 L7 x6 e6 k7 f7 => ?_) k6 f6 (by omega) _
  refine y_fd7 (fun N8 L8 x7 e7 k8 f8 => ?_) k7 f7 (by omega) _
  refine y_fd8 (fun N9 L9 x8 e8 k9 f9 => ?_) k8 f8 (by omega) _
  refine y_fd9 (fun N10 L10 x9 e9 k10 f10 => ?_) k9 f9 (by omega) _
  refine y_fd10 (fun N11 L11 x10 e10 k11 f11 => ?_) k10 f10 (by omega) _
  refine y_fd11 (fun N12 L12 x11 e11 k12 f12 => ?_) k11 f11 (by omega) _
  refine y_fd12 (fun N13 L13 x12 e12 k13 f13 => ?_) k12 f12 (by omega) _
  refine y_fd13 (fun N14 L14 x13 e13 k14 f14 => ?_) k13 f13 (by omega) _
  refine y_fd14 (fun N15 L15 x14 e14 k15 f15 => ?_) k14 f14 (by omega) _
  refine y_fd15 (fun N16 L16 x15 e15 k16 f16 => ?_) k15 f15 (by omega) _
  refine y_fd16 (fun N17 L17 x16 e16 k17 f17 => ?_) k16 f16 (by omega) _
  refine y_fd17 (fun N18 L18 x17 e17 k18 f18 => ?_) k17 f17 (by omega) _
  refine y_fd18 (fun N19 L19 x18 e18 k19 f19 => ?_) k18 f18 (by omega) _
  refine y_fd19 (fun N20 L20 x19 e19 k20 f20 => ?_) k19 f19 (by omega) _
  have g := k20.1
  repeat (first | refine es rfl rfl rfl ?_ | refine eg rfl (by assumption) rfl ?_ | refine eanE rfl (by assumption) (by with_reducible first | exact rfl | exact Int32.zero_add _ | exact ix8 _ | exact ix12 _ | exact ix7r _ _ | exact n7 | exact n0 | exact n1) (by assumption) rfl ?_ | refine eal rfl (by assumption) (by assumption) rfl ?_ | refine eri rfl ?_ | refine erv rfl ?_ | refine erl rfl ?_ | refine era rfl ?_ | refine erz0 rfl ?_ | refine erz1 rfl ?_)
  try dsimp only [set1, set2, kilP, List.set_cons_zero, List.set_cons_succ, List.getElem?_cons_zero, List.getElem?_cons_succ, List.nil_append, List.cons_append, Option.toList_some, Option.toList_none]
  obtain ⟨_, hb, q1, q2, q3, q4, q5, q6, q7, q8⟩ := hR
  have w0 : ∀ j, j < 1100 → A 1 j &&& 255 = σ.tp j := q7
  have w1 := updR (t := σ.ts) w0 e0
  have w2 := updR (t := σ.ts + 1) w1 e1
  have w3 := updR (t := σ.ts + 1 + 1) w2 e2
  have w4 := updR (t := σ.ts + 1 + 1 + 1) w3 e3
  have w5 := updR (t := σ.ts + 1 + 1 + 1 + 1) w4 e4
  have w6 := updR (t := σ.ts + 1 + 1 + 1 + 1 + 1) w5 e5
  have w7 := updR (t := σ.ts + 1 + 1 + 1 + 1 + 1 + 1) w6 e6
  have w8 := updR (t := σ.ts + 1 + 1 + 1 + 1 + 1 + 1 + 1) w7 e7
  have w9 := updR (t := σ.ts + 1 + 1 + 1 + 1 + 1 + 1 + 1 + 1) w8 e8
  have w10 := updR (t := σ.ts + 1 + 1 + 1 + 1 + 1 + 1 + 1 + 1 + 1) w9 e9
  have w11 := updR (t := σ.ts + 1 + 1 + 1 + 1 + 1 + 1 + 1 + 1 + 1 + 1) w10 e10
  have w12 := updR (t := σ.ts + 1 + 1 + 1 + 1 + 1 + 1 + 1 + 1 + 1 + 1 + 1) w11 e11
  have w13 := updR (t := σ.ts + 1 + 1 + 1 + 1 + 1 + 1 + 1 + 1 + 1 + 1 + 1 + 1) w12 e12
  have w14 := updR (t := σ.ts + 1 + 1 + 1 + 1 + 1 + 1 + 1 + 1 + 1 + 1 + 1 + 1 + 1) w13 e13
  have w15 := updR (t := σ.ts + 1 + 1 + 1 + 1 + 1 + 1 + 1 + 1 + 1 + 1 + 1 + 1 + 1 + 1) w14 e14
  have w16 := updR (t := σ.ts + 1 + 1 + 1 + 1 + 1 + 1 + 1 + 1 + 1 + 1 + 1 + 1 + 1 + 1 + 1) w15 e15
  have w17 := updR (t := σ.ts + 1 + 1 + 1 + 1 + 1 + 1 + 1 + 1 + 1 + 1 + 1 + 1 + 1 + 1 + 1 + 1) w16 e16
  have w18 := updR (t := σ.ts + 1 + 1 + 1 + 1 + 1 + 1 + 1 + 1 + 1 + 1 + 1 + 1 + 1 + 1 + 1 + 1 + 1) w17 e17
  have w19 := updR (t := σ.ts + 1 + 1 + 1 + 1 + 1 + 1 + 1 + 1 + 1 + 1 + 1 + 1 + 1 + 1 + 1 + 1 + 1 + 1) w18 e18
  have w20 := updR (t := σ.ts + 1 + 1 + 1 + 1 + 1 + 1 + 1 + 1 + 1 + 1 + 1 + 1 + 1 + 1 + 1 + 1 + 1 + 1 + 1) w19 e19
  refine ⟨fun v σ' h => ?_, hF1.tr f20 (by omega) (by omega)⟩
  obtain ⟨rfl, rfl⟩ := h
  refine ⟨rfl, _, _, k20, by rw [f20.2]; exact hb, q1, q2, q3, rfl, q5, q6, w20, ?_⟩
  rcases q8 with q | ⟨n1, a', t1, a1, a2, r⟩
  · exact Or.inl q
  · exact Or.inr ⟨n1, a', t1, a1, by rw [f20.2]; exact a2, r.1.fr f20 (by omega), r.2⟩
end RFEEDB
