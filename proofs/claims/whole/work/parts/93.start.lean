/-! The start: what the Statement gives -/
section START
variable {s : State} {A0 : Array Value}
theorem st_cls (hts : ∀ w ∈ T0, w.before A0 s = true) : ∃ D : va_G, ∀ (c : Nat) (q : vw_C), vwCl[c]? = some q → u_Kn s q.1 q.2.1 q.2.2 (D.1 c) (D.2 c) := by
  obtain ⟨c0, i0, n0⟩ := u_known (C := RX0) (T := TX0) (N := 6) (n := 6) hts clX0.2.1 (hts _ wt126)
  obtain ⟨c1, i1, n1⟩ := u_known (C := RX1) (T := TX1) (N := 6) (n := 6) hts clX1.2.1 (hts _ wt377)
  obtain ⟨c2, i2, n2⟩ := u_known (C := RX2) (T := TX2) (N := 9) (n := 9) hts clX2.2.1 (hts _ wt47)
  obtain ⟨c3, i3, n3⟩ := u_known (C := RX3) (T := TX3) (N := 1) (n := 1) hts clX3.2.1 (hts _ wt317)
  obtain ⟨c4, i4, n4⟩ := u_known (C := RX4) (T := TX4) (N := 5) (n := 5) hts clX4.2.1 (hts _ wt327)
  obtain ⟨c5, i5, n5⟩ := u_known (C := RX5) (T := TX5) (N := 13) (n := 13) hts clX5.2.1 (hts _ wt35)
  obtain ⟨c6, i6, n6⟩ := u_known (C := RX6) (T := TX6) (N := 8) (n := 8) hts clX6.2.1 (hts _ wt432)
  obtain ⟨c7, i7, n7⟩ := u_known (C := RX7) (T := TX7) (N := 4) (n := 4) hts clX7.2.1 (hts _ wt105)
  obtain ⟨c8, i8, n8⟩ := u_known (C := RX8) (T := TX8) (N := 7) (n := 7) hts clX8.2.1 (hts _ wt402)
  obtain ⟨c9, i9, n9⟩ := u_known (C := RX9) (T := TX9) (N := 9) (n := 9) hts clX9.2.1 (hts _ wt41)
  obtain ⟨c10, i10, n10⟩ := u_known (C := RX10) (T := TX10) (N := 7) (n := 7) hts clX10.2.1 (hts _ wt349)
  obtain ⟨c11, i11, n11⟩ := u_known (C := RX11) (T := TX11) (N := 10) (n := 10) hts clX11.2.1 (hts _ wt27)
  obtain ⟨c12, i12, n12⟩ := u_known (C := RX12) (T := TX12) (N := 27) (n := 27) hts clX12.2.1 (hts _ wt1451)
  obtain ⟨c13, i13, n13⟩ := u_known (C := RX13) (T := TX13) (N := 39) (n := 39) hts clX13.2.1 (hts _ wt1311)
  refine ⟨(fun k => if k = 0 then c0 else if k = 1 then c1 else if k = 2 then c2 else if k = 3 then c3 else if k = 4 then c4 else if k = 5 then c5 else if k = 6 then c6 else if k = 7 then c7 else if k = 8 then c8 else if k = 9 then c9 else if k = 10 then c10 else if k = 11 then c11 else if k = 12 then c12 else c13, fun k => if k = 0 then i0 else if k = 1 then i1 else if k = 2 then i2 else if k = 3 then i3 else if k = 4 then i4 else if k = 5 then i5 else if k = 6 then i6 else if k = 7 then i7 else if k = 8 then i8 else if k = 9 then i9 else if k = 10 then i10 else if k = 11 then i11 else if k = 12 then i12 else i13), ?_⟩
  intro k q hq
  match k, hq with
  | 0, hq => cases hq; exact n0
  | 1, hq => cases hq; exact n1
  | 2, hq => cases hq; exact n2
  | 3, hq => cases hq; exact n3
  | 4, hq => cases hq; exact n4
  | 5, hq => cases hq; exact n5
  | 6, hq => cases hq; exact n6
  | 7, hq => cases hq; exact n7
  | 8, hq => cases hq; exact n8
  | 9, hq => cases hq; exact n9
  | 10, hq => cases hq; exact n10
  | 11, hq => cases hq; exact n11
  | 12, hq => cases hq; exact n12
  | 13, hq => cases hq; exact n13
  | k + 14, hq => simp [vwCl] at hq
theorem st_arr {ty : FieldType} (h : (Cond.arrayClass ty).before A0 s = true) (hn : ∀ C, ty ≠ .object C) : ∃ cA : ClassId, ArrOfT s cA ty ∧ va_RA s cA ty := by
  obtain ⟨cA, kA, comp, h1, h2, h3⟩ := Cond.arrayClass_spec (args := A0) (first := s) (o := none) (s := s) (idx := []) h
  refine ⟨cA, fun n z => ⟨fun k h => (by cases h), kA, h2, comp, h3⟩, ?_⟩
  cases ty with
  | object C => exact absurd rfl (hn C)
  | _ => exact h1
def kR9 : List Nat := [58, 64, 66, 68, 70, 72, 74, 76, 169, 178, 188, 193, 198, 203, 213, 221, 223, 231, 237, 239]
def kM9 : List Nat := [151, 153, 155, 157, 159, 161, 163, 165, 236, 241, 253, 255, 257, 259, 281, 291, 293, 307, 311, 317]
def tR (i : Nat) : Term := .string "WrongRoom$Reader" (kR9.getD i 0)
def tM (i : Nat) : Term := .string "WrongRoomModel" (kM9.getD i 0)
abbrev gv9 : List Cond := flatC (Jvm.Cond.and given_1 narrow_1)
theorem gv_ex : ∀ i, i < NSt → Cond.exactly (tR i) "java/lang/String" ∈ gv9 := by decide +kernel
theorem gv_co : ∀ i, i < NSt → Cond.eq (.field (tR i) "java/lang/String" "coder" "B") (.int 0) ∈ gv9 := by decide +kernel
theorem gv_ar : ∀ i, i < NSt → Cond.arrayOf (.field (tR i) "java/lang/String" "value" "[B") .byte ∈ gv9 := by decide +kernel
theorem gv_le : ∀ i, i < NSt → Cond.eq (.length (.field (tR i) "java/lang/String" "value" "[B")) (.int (Int32.ofNat (sLen.getD i 0))) ∈ gv9 := by decide +kernel
theorem gv_el : ∀ i, i < NSt → ∀ j, j < sLen.getD i 0 → Cond.eq (.elem (.field (tR i) "java/lang/String" "value" "[B") (.int (Int32.ofNat j))) (.int ((sByt.getD i []).getD j 0)) ∈ gv9 := by decide +kernel
theorem gv_eq : ∀ i, i < NSt → Cond.eq (tR i) (tM i) ∈ gv9 := by decide +kernel
theorem st_inj : ∀ i, i < NSt → ∀ j, j < NSt → sLen.getD i 0 = sLen.getD j 0 → (List.range (sLen.getD i 0)).all (fun k => (sByt.getD i []).getD k 0 == (sByt.getD j []).getD k 0) = true → i = j := by decide +kernel
theorem nI_eqI {a b : Nat} (ha : a < 2 ^ 31) (hb : b < 2 ^ 31) : nI a = nI b ↔ a = b := nI_eq ha hb
theorem st_str {A : Nat → Prop} (hg : ∀ w ∈ gv9, w.before A0 s = true) (hA : ∀ a : Nat, a < s.heap.size → ¬ A a) : ∃ adK adV : Nat → Nat, vk_S NSt sLen sByt adK adV A s s.heap ∧ ∀ i : Nat, i < NSt → (tR i).eval A0 s none [] s = some (.ref (adK i)) := by
  have h0 : ∀ i : Nat, ∃ q : Nat × Nat, i < NSt → (tR i).eval A0 s none [] s = some (.ref q.1) ∧ va_O "java/lang/String" q.1 A s s.heap ∧ va_OF "java/lang/String" "coder" "B" (.int 0) q.1 A s s.heap ∧ va_OF "java/lang/String" "value" "[B" (.ref q.2) q.1 A s s.heap ∧ va_T .byte q.2 (sLen.getD i 0) (fun j => .int ((sByt.getD i []).getD j 0)) A s s.heap := by
    intro i
    by_cases hi : i < NSt
    · have hl9 := sLen_lt i hi
      obtain ⟨a, c, cA, kA, q1, q2, q3, q4, q5, q6, -⟩ := Cond.exactly_spec (args := A0) (first := s) (o := none) (s := s) (idx := []) (t := tR i) (cls := "java/lang/String") (hg _ (gv_ex i hi))
      obtain ⟨t, ht, hT⟩ := va_Tof (f := fun j => .int ((sByt.getD i []).getD j 0)) (A := A) (by omega) (hg _ (gv_ar i hi)) (va_eqt (hg _ (gv_le i hi))) (fun j hj => va_eqt (hg _ (gv_el i hi j hj))) hA
      exact ⟨(a, t), fun _ => ⟨q1, ⟨cA, q3, q5, by rw [q6]; exact q2, hA a (Array.getElem?_eq_some_iff.mp q3).1⟩, vk_OFof q1 (va_eqt (hg _ (gv_co i hi))) hA, vk_OFof q1 ht hA, hT⟩⟩
    · exact ⟨(0, 0), fun h => absurd h hi⟩
  obtain ⟨ad, had⟩ := Classical.axiomOfChoice h0
  refine ⟨fun i => (ad i).1, fun i => (ad i).2, ⟨fun i hi => (had i hi).2, fun i j hi hj e => ?_⟩, fun i hi => (had i hi).1⟩
  obtain ⟨-, -, -, vi, ti⟩ := had i hi
  obtain ⟨-, -, -, vj, tj⟩ := had j hj
  dsimp only at e
  rw [← e] at vj
  obtain ⟨cf, k, fi, f, cell, f1, -, f3, -, f5, -⟩ := vi
  obtain ⟨cf', k', fi', f', cell', g1, -, g3, -, g5, -⟩ := vj
  cases Option.some.inj (f1.symm.trans g1)
  cases Option.some.inj (f3.symm.trans g3)
  have ev : (ad i).2 = (ad j).2 := by
    have := Option.some.inj (f5.symm.trans g5)
    injection this
  rw [← ev] at tj
  obtain ⟨ci, i1, -, -, i4, i5, i6, -⟩ := ti
  obtain ⟨cj, j1, -, -, j4, j5, j6, -⟩ := tj
  cases Option.some.inj (i1.symm.trans j1)
  have li := sLen_lt i hi
  have lj := sLen_lt j hj
  have el : sLen.getD i 0 = sLen.getD j 0 := by
    have h9 : nI (sLen.getD i 0) = nI (sLen.getD j 0) := i5.symm.trans j5
    exact (nI_eqI (by omega) (by omega)).mp h9
  refine st_inj i hi j hj el (List.all_eq_true.mpr (fun k hk => ?_))
  have hk2 : k < sLen.getD i 0 := List.mem_range.mp hk
  have h8 := (i6 k hk2).symm.trans (j6 k (by omega))
  have h7 := Option.some.inj h8
  injection h7 with h7
  rw [h7]
  exact beq_self_eq_true _
theorem st_nwf (hT : ∀ w ∈ tables_1, w.before A0 s = true) : ∀ q ∈ NWf, va_Nw (.fieldLinkNest q.1 q.2.1 q.2.2.1 q.2.2.2.1 q.2.2.2.2.1 q.2.2.2.2.2) s := by
  have h : NWf.map (fun q => Cond.fieldLinkNest q.1 q.2.1 q.2.2.1 q.2.2.2.1 q.2.2.2.2.1 q.2.2.2.2.2) = [1456, 1457, 1459, 1460, 1461, 1462, 1463, 1465, 1467, 1469, 1471, 1473, 1475, 1477, 1479, 1481, 1483, 1485, 1487, 1489, 1491, 1493, 1495, 1497, 1499, 1501, 1503].filterMap (fun i => tables_1[i]?) := by decide +kernel
  intro q hq
  have h1 : Cond.fieldLinkNest q.1 q.2.1 q.2.2.1 q.2.2.2.1 q.2.2.2.2.1 q.2.2.2.2.2 ∈ NWf.map (fun q => Cond.fieldLinkNest q.1 q.2.1 q.2.2.1 q.2.2.2.1 q.2.2.2.2.1 q.2.2.2.2.2) := List.mem_map.mpr ⟨q, hq, rfl⟩
  rw [h] at h1
  obtain ⟨i, -, hi⟩ := List.mem_filterMap.mp h1
  exact va_tabs rfl rfl (hT _ (List.mem_of_getElem? hi))
theorem st_nwm (hT : ∀ w ∈ tables_1, w.before A0 s = true) : ∀ q ∈ NWm, va_Nw (.methodLinkNest q.1 q.2.1 q.2.2.1 q.2.2.2) s := by
  have h : NWm.map (fun q => Cond.methodLinkNest q.1 q.2.1 q.2.2.1 q.2.2.2) = [42, 48, 106, 127, 315, 328, 350, 378, 403, 433, 1452, 1755].filterMap (fun i => tables_1[i]?) := by decide +kernel
  intro q hq
  have h1 : Cond.methodLinkNest q.1 q.2.1 q.2.2.1 q.2.2.2 ∈ NWm.map (fun q => Cond.methodLinkNest q.1 q.2.1 q.2.2.1 q.2.2.2) := List.mem_map.mpr ⟨q, hq, rfl⟩
  rw [h] at h1
  obtain ⟨i, -, hi⟩ := List.mem_filterMap.mp h1
  exact va_tabs rfl rfl (hT _ (List.mem_of_getElem? hi))
theorem st_srs (hT : ∀ w ∈ tables_1, w.before A0 s = true) (hg : ∀ w ∈ gv9, w.before A0 s = true) {adK : Nat → Nat} (hev : ∀ i : Nat, i < NSt → (tR i).eval A0 s none [] s = some (.ref (adK i))) : ∀ q ∈ SRs, vk_R q.1 q.2.1 q.2.2.1 (adK q.2.2.2) s := by
  have h : SRs.map (fun q => Cond.stringRef q.1 q.2.1 q.2.2.1) = [207, 263, 264, 265, 266, 267, 268, 269, 574, 583, 600, 601, 602, 603, 613, 622, 623, 632, 641, 642, 1582, 1600, 1616, 1617, 1634, 1635, 1636, 1637, 1638, 1639, 1644, 1645, 1646, 1647, 1664, 1677, 1678, 1687, 1692, 1697].filterMap (fun i => tables_1[i]?) := by decide +kernel
  have hw : SRs.all (fun q => decide (q.2.2.2 < NSt) && (decide ((q.1, q.2.1) = ("WrongRoom$Reader", kR9.getD q.2.2.2 0)) || decide ((q.1, q.2.1) = ("WrongRoomModel", kM9.getD q.2.2.2 0)))) = true := by decide +kernel
  intro q hq
  have h1 : Cond.stringRef q.1 q.2.1 q.2.2.1 ∈ SRs.map (fun q => Cond.stringRef q.1 q.2.1 q.2.2.1) := List.mem_map.mpr ⟨q, hq, rfl⟩
  rw [h] at h1
  obtain ⟨i, -, hi⟩ := List.mem_filterMap.mp h1
  refine vk_R.of (A := A0) (hT _ (List.mem_of_getElem? hi)) ?_
  have h2 := List.all_eq_true.mp hw q hq
  simp only [Bool.and_eq_true, Bool.or_eq_true, decide_eq_true_eq] at h2
  obtain ⟨h3, h4⟩ := h2
  rcases h4 with h4 | h4
  · have e1 : q.1 = "WrongRoom$Reader" := congrArg Prod.fst h4
    have e2 : q.2.1 = kR9.getD q.2.2.2 0 := congrArg Prod.snd h4
    rw [e1, e2]
    exact hev _ h3
  · have e1 : q.1 = "WrongRoomModel" := congrArg Prod.fst h4
    have e2 : q.2.1 = kM9.getD q.2.2.2 0 := congrArg Prod.snd h4
    rw [e1, e2]
    obtain ⟨y, y1, y2⟩ := Cond.eq_one (args := A0) (first := s) (o := none) (s := s) (idx := []) (hg _ (gv_eq _ h3))
    rw [hev _ h3] at y1
    cases y1
    exact y2
theorem st_pmX {A : Nat → Prop} {g : Gm} (hT : ∀ w ∈ tables_1, w.before A0 s = true) (hg : ∀ w ∈ gv9, w.before A0 s = true) (hA : ∀ a : Nat, a < s.heap.size → ¬ A a) (hk : vk_S NSt sLen sByt g.2.2.1 g.2.2.2 A s s.heap) : pmX g A s s.heap := by
  have q1 : Cond.eq (.static "java/lang/String" "COMPACT_STRINGS" "Z") (.int 1) ∈ gv9 := by decide +kernel
  have q2 : Cond.isRef (.static "jdk/internal/util/Preconditions" "SIOOBE_FORMATTER" "Ljava/util/function/BiFunction;") ∈ gv9 := by decide +kernel
  have q3 : Cond.isRef (.static "java/lang/Throwable" "UNASSIGNED_STACK" "[Ljava/lang/StackTraceElement;") ∈ gv9 := by decide +kernel
  have q4 : Cond.isRef (.static "java/lang/Throwable" "SUPPRESSED_SENTINEL" "Ljava/util/List;") ∈ gv9 := by decide +kernel
  refine ⟨hk, va_Zof (hT _ (List.mem_of_getElem? (i := 220) (by decide +kernel))) (hT _ (List.mem_of_getElem? (i := 7) (by decide +kernel))) (va_eqt (hg _ q1)) hA, ?_, vx_Zqof (hT _ (List.mem_of_getElem? (i := 1276) (by decide +kernel))) (hT _ (List.mem_of_getElem? (i := 22) (by decide +kernel))) (hg _ q3) hA, vx_Zqof (hT _ (List.mem_of_getElem? (i := 1278) (by decide +kernel))) (hT _ (List.mem_of_getElem? (i := 22) (by decide +kernel))) (hg _ q4) hA, ?_, ?_⟩
  · rcases va_Zqof (hT _ (List.mem_of_getElem? (i := 236) (by decide +kernel))) (hT _ (List.mem_of_getElem? (i := 9) (by decide +kernel))) (hg _ q2) hA with z | ⟨t, z⟩
    · exact ⟨_, rfl, z⟩
    · exact ⟨_, rfl, z⟩
  · have h : DWs.map (fun x => Cond.declares x) = [1252, 1254, 1256].filterMap (fun i => tables_1[i]?) := by decide +kernel
    intro q hq
    have h1 : Cond.declares q ∈ DWs.map (fun x => Cond.declares x) := List.mem_map.mpr ⟨q, hq, rfl⟩
    rw [h] at h1
    obtain ⟨i, -, hi⟩ := List.mem_filterMap.mp h1
    exact va_tabs rfl rfl (hT _ (List.mem_of_getElem? hi))
  · have h : CWs.map (fun x => Cond.castable x.1 x.2) = [1251].filterMap (fun i => tables_1[i]?) := by decide +kernel
    intro q hq
    have h1 : Cond.castable q.1 q.2 ∈ CWs.map (fun x => Cond.castable x.1 x.2) := List.mem_map.mpr ⟨q, hq, rfl⟩
    rw [h] at h1
    obtain ⟨i, -, hi⟩ := List.mem_filterMap.mp h1
    exact va_tabs rfl rfl (hT _ (List.mem_of_getElem? hi))
end START
