/-! The law's loop -/
def swTb : List Nat := [236, 309, 334, 347, 360, 397, 434, 471, 508, 533, 570, 583, 596, 645, 706, 755, 792, 817, 830, 855, 880, 905, 918, 931, 985, 1039, 1052, 1065, 1078, 1103, 1128, 1217, 1254, 1291, 1328, 1377, 1414, 1467, 1504, 1541, 1554, 1567, 1592, 1648, 1673]
theorem sw_ok : ∀ k, k < 64 → (if (nI k).toInt < 0 ∨ 44 < (nI k).toInt then some 1686 else swTb[((nI k).toInt - 0).toNat]?) = some (swTb.getD k 1686) := by decide +kernel
theorem sw_f {L : Lc} {r : List Value} {k : Nat} (hk : k < 64) : fTab 0 44 swTb 1686 L (.int (nI k) :: r) = some (swTb.getD k 1686, L, r) := by
  have h := sw_ok k hk
  unfold fTab
  dsimp only
  by_cases c : (nI k).toInt < 0 ∨ 44 < (nI k).toInt
  · rw [if_pos c] at h
    rw [if_pos c, ← Option.some.inj h]
  · rw [if_neg c] at h
    rw [if_neg c]
    simp only [h]
def fSln (b L nx : Nat) : Fm → Option Fm := fun fr => match fr.2.2.1 with
  | .ref a :: r => if a = b then some (nx, fr.2.1, .int (nI L) :: r, fr.2.2.2) else none
  | _ => none
section LOOP
variable {X : Cxt} {ad : Nat → Nat} {b L : Nat} {xs : Nat → Int32} {h : Nat}
theorem law_len {M : Mm} {L1 : Lc} {r : List Value} (hC : pmC X code 7 RL "law" ad) (hx : va_X b L xs X.St X.St.heap) (hbl : b < X.St.heap.size) (hbA : ¬ X.Ow b) (k : pmS X 7 (27, L1, .int (nI L) :: r, M)) : pmS X 7 (26, L1, .ref b :: r, M) := by
  intro ls H locs k' n hL hR hk hn
  dsimp only at hL hR hk hn ⊢
  exact va_slen hC.1 hC.2.1 hx hbl hbA hR.2.2 (by decide +kernel) (k ls H locs k' n hL hR hk hn)
theorem law_ld {M : Mm} {L1 : Lc} {r : List Value} {pc j : Nat} (hC : pmC X code 7 RL "law" ad) (hx : va_X b L xs X.St X.St.heap) (hbl : b < X.St.heap.size) (hbA : ¬ X.Ow b) (hd : decode code pc = .ok (.iaload, 1)) (hj : j < L) (hL0 : L ≤ 3072) (k : pmS X 7 (pc + 1, L1, .int (xs j) :: r, M)) : pmS X 7 (pc, L1, .int (nI j) :: .ref b :: r, M) := by
  intro ls H locs k' n hL hR hk hn
  dsimp only at hL hR hk hn ⊢
  refine va_sld hC.1 hC.2.1 hx hbl hbA hR.2.2 (vp_in_nI hj (by omega)) hd ?_
  rw [nI_clamp (by omega)]
  exact k ls H locs k' n hL hR hk hn
theorem law_case {rows : List (Nat × Ins)} {pc C i : Nat} {M : Mm} (hC : pmC X code 7 RL "law" ad) (hv : ∀ q ∈ rows, (pmN q ∧ pmO2 (mtb ad) X 7 q) ∧ noN q) (hRo : X.Ro = room_1) (hC9 : X.C0 = 0) (hS9 : X.S0 = 0) {st : List Value} (hE : Ev ad 20 (rows ++ [(1686, fHd b h (h + 73) (h + 89) (nI i))]) (pc, [some (.ref b), some (.ref h), some (.ref (h + 73)), some (.ref (h + 89)), some (.int (nI i)), none, none], st, M) (lwP ad h C)) (hC6 : C ≤ 600)
    (hn : ∀ (M' : Mm) (σ' : Sg), lwI ad h M' σ' (C + 1) → pmS X 7 (1686, [some (.ref b), some (.ref h), some (.ref (h + 73)), some (.ref (h + 89)), some (.int (nI i)), none, none], [], M')) : pmS X 7 (pc, [some (.ref b), some (.ref h), some (.ref (h + 73)), some (.ref (h + 89)), some (.int (nI i)), none, none], st, M) := by
  refine ev_stop (hall ad) (X := X) hC.2.2.2.2.2.2.2.2.2.2.2 hE (fun q hq => ?_) (by rw [hRo]; decide) (by rw [hRo]; decide) (fun v M' hp => ?_)
  · rcases List.mem_append.mp hq with q1 | q1
    · exact (hv q q1).1
    · rw [List.mem_singleton.mp q1]
      exact ok_hd
  · obtain ⟨rfl, σ', hI⟩ := hp
    refine ⟨⟨?_, ?_⟩, fun q hq L1 st hs => ?_⟩
    · rw [hRo, hC9]
      have := hI.2.2.2.2.2.2.1
      show M'.2.2.1 ≤ 0 + 601024
      omega
    · rw [hRo, hS9]
      have := hI.2.2.2.2.2.2.2
      show M'.2.2.2 ≤ 0 + 7293034
      omega
    · rcases List.mem_append.mp hq with q1 | q1
      · exact absurd hs ((hv q q1).2 L1 st M' M')
      · rw [List.mem_singleton.mp q1] at hs ⊢
        obtain ⟨p, q2, e1, e2, -⟩ := fHd_inv hs
        dsimp only at e1 e2
        subst e1; subst e2
        refine pmS.wk (hn M' σ' hI) rfl ?_
        intro j v hj
        match j, hj with
        | 0, hj => exact hj
        | 1, hj => exact hj
        | 2, hj => exact hj
        | 3, hj => exact hj
        | 4, hj => exact hj
        | 5, hj => cases hj
        | 6, hj => cases hj
        | n + 7, hj => cases hj
set_option maxHeartbeats 2000000 in
theorem law_iter {C i : Nat} {M : Mm} {σ : Sg} (hC : pmC X code 7 RL "law" ad) (hx : va_X b L xs X.St X.St.heap) (hbl : b < X.St.heap.size) (hbA : ¬ X.Ow b) (hl : X.Lh.stackTraces = false) (hRo : X.Ro = room_1) (hC9 : X.C0 = 0) (hS9 : X.S0 = 0) (hI : lwI ad h M σ C) (hC6 : C + 1 ≤ 600) (hi : i + 6 ≤ L) (hL : L ≤ 3072)
    (hn : ∀ (M' : Mm) (σ' : Sg), lwI ad h M' σ' (C + 1) → pmS X 7 (1686, [some (.ref b), some (.ref h), some (.ref (h + 73)), some (.ref (h + 89)), some (.int (nI i)), none, none], [], M')) : ∀ k, k < 64 → xs i &&& 63 = nI k → pmS X 7 (swTb.getD k 1686, [some (.ref b), some (.ref h), some (.ref (h + 73)), some (.ref (h + 89)), some (.int (nI i)), none, none], [], M) := by
  have hb := hI.2.2.2.2.2.2
  have b0 : M.2.2.1 ≤ X.C0 + X.Ro.cells := by rw [hRo, hC9]; show M.2.2.1 ≤ 0 + 601024; omega
  have b1 : M.2.2.2 ≤ X.S0 + X.Ro.slots := by rw [hRo, hS9]; show M.2.2.2 ≤ 0 + 7293034; omega
  intro k hk _
  match k, hk with
  | 0, _ => exact law_case hC (rows := rC0 ad b L xs) (vC0 hC hx hbl hbA) hRo hC9 hS9 (lc0 hI hC6 hi hL) (by omega) hn
  | 1, _ => exact law_case hC (rows := rC1 ad b L xs) (vC1 hC hx hbl hbA) hRo hC9 hS9 (lc1 hI hC6 hi hL) (by omega) hn
  | 2, _ => exact law_case hC (rows := rC2 ad b L xs) (vC2 hC hx hbl hbA) hRo hC9 hS9 (lc2 hI hC6 hi hL) (by omega) hn
  | 3, _ => exact law_case hC (rows := rC3 ad b L xs) (vC3 hC hx hbl hbA) hRo hC9 hS9 (lc3 hI hC6 hi hL) (by omega) hn
  | 4, _ => exact law_case hC (rows := rC4 ad b L xs) (vC4 hC hx hbl hbA) hRo hC9 hS9 (lc4 hI hC6 hi hL) (by omega) hn
  | 5, _ => exact law_case hC (rows := rC5 ad b L xs) (vC5 hC hx hbl hbA) hRo hC9 hS9 (lc5 hI hC6 hi hL) (by omega) hn
  | 6, _ => exact law_case hC (rows := rC6 ad b L xs) (vC6 hC hx hbl hbA) hRo hC9 hS9 (lc6 hI hC6 hi hL) (by omega) hn
  | 7, _ => exact law_case hC (rows := rC7 ad b L xs) (vC7 hC hx hbl hbA) hRo hC9 hS9 (lc7 hI hC6 hi hL) (by omega) hn
  | 8, _ => exact law_case hC (rows := rC8 ad b L xs) (vC8 hC hx hbl hbA) hRo hC9 hS9 (lc8 hI hC6 hi hL) (by omega) hn
  | 9, _ => exact law_case hC (rows := rC9 ad b L xs) (vC9 hC hx hbl hbA) hRo hC9 hS9 (lc9 hI hC6 hi hL) (by omega) hn
  | 10, _ => exact law_case hC (rows := rC10 ad b L xs) (vC10 hC hx hbl hbA) hRo hC9 hS9 (lc10 hI hC6 hi hL) (by omega) hn
  | 11, _ => exact law_case hC (rows := rC11 ad b L xs) (vC11 hC hx hbl hbA) hRo hC9 hS9 (lc11 hI hC6 hi hL) (by omega) hn
  | 12, _ => exact law_case hC (rows := rC12 ad b L xs) (vC12 hC hx hbl hbA) hRo hC9 hS9 (lc12 hI hC6 hi hL) (by omega) hn
  | 13, _ => exact law_case hC (rows := rC13 ad b L xs) (vC13 hC hx hbl hbA) hRo hC9 hS9 (lc13 hI hC6 hi hL) (by omega) hn
  | 14, _ => exact law_case hC (rows := rC14 ad b L xs) (vC14 hC hx hbl hbA) hRo hC9 hS9 (lc14 hI hC6 hi hL) (by omega) hn
  | 15, _ => exact law_case hC (rows := rC15 ad b L xs) (vC15 hC hx hbl hbA) hRo hC9 hS9 (lc15 hI hC6 hi hL) (by omega) hn
  | 16, _ => exact law_case hC (rows := rC16 ad b L xs) (vC16 hC hx hbl hbA) hRo hC9 hS9 (lc16 hI hC6 hi hL) (by omega) hn
  | 17, _ => exact law_case hC (rows := rC17 ad b L xs) (vC17 hC hx hbl hbA) hRo hC9 hS9 (lc17 hI hC6 hi hL) (by omega) hn
  | 18, _ => exact law_case hC (rows := rC18 ad b L xs) (vC18 hC hx hbl hbA) hRo hC9 hS9 (lc18 hI hC6 hi hL) (by omega) hn
  | 19, _ => exact law_case hC (rows := rC19 ad b L xs) (vC19 hC hx hbl hbA) hRo hC9 hS9 (lc19 hI hC6 hi hL) (by omega) hn
  | 20, _ => exact law_case hC (rows := rC20 ad b L xs) (vC20 hC hx hbl hbA) hRo hC9 hS9 (lc20 hI hC6 hi hL) (by omega) hn
  | 21, _ => exact law_case hC (rows := rC21 ad b L xs) (vC21 hC hx hbl hbA) hRo hC9 hS9 (lc21 hI hC6 hi hL) (by omega) hn
  | 22, _ => exact law_case hC (rows := rC22 ad b L xs) (vC22 hC hx hbl hbA) hRo hC9 hS9 (lc22 hI hC6 hi hL) (by omega) hn
  | 23, _ => exact law_case hC (rows := rC23 ad b L xs) (vC23 hC hx hbl hbA) hRo hC9 hS9 (lc23 hI hC6 hi hL) (by omega) hn
  | 24, _ => exact law_case hC (rows := rC24 ad b L xs) (vC24 hC hx hbl hbA) hRo hC9 hS9 (lc24 hI hC6 hi hL) (by omega) hn
  | 25, _ => exact law_case hC (rows := rC25 ad b L xs) (vC25 hC hx hbl hbA) hRo hC9 hS9 (lc25 hI hC6 hi hL) (by omega) hn
  | 26, _ => exact law_case hC (rows := rC26 ad b L xs) (vC26 hC hx hbl hbA) hRo hC9 hS9 (lc26 hI hC6 hi hL) (by omega) hn
  | 27, _ => exact law_case hC (rows := rC27 ad b L xs) (vC27 hC hx hbl hbA) hRo hC9 hS9 (lc27 hI hC6 hi hL) (by omega) hn
  | 28, _ => exact law_case hC (rows := rC28 ad b L xs) (vC28 hC hx hbl hbA) hRo hC9 hS9 (lc28 hI hC6 hi hL) (by omega) hn
  | 29, _ => exact law_case hC (rows := rC29 ad b L xs) (vC29 hC hx hbl hbA) hRo hC9 hS9 (lc29 hI hC6 hi hL) (by omega) hn
  | 30, _ => exact law_case hC (rows := rC30 ad b L xs) (vC30 hC hx hbl hbA) hRo hC9 hS9 (lc30 hI hC6 hi hL) (by omega) hn
  | 31, _ => exact law_case hC (rows := rC31 ad b L xs) (vC31 hC hx hbl hbA) hRo hC9 hS9 (lc31 hI hC6 hi hL) (by omega) hn
  | 32, _ => exact law_case hC (rows := rC32 ad b L xs) (vC32 hC hx hbl hbA) hRo hC9 hS9 (lc32 hI hC6 hi hL) (by omega) hn
  | 33, _ => exact law_case hC (rows := rC33 ad b L xs) (vC33 hC hx hbl hbA) hRo hC9 hS9 (lc33 hI hC6 hi hL) (by omega) hn
  | 34, _ => exact law_case hC (rows := rC34 ad b L xs) (vC34 hC hx hbl hbA) hRo hC9 hS9 (lc34 hI hC6 hi hL) (by omega) hn
  | 35, _ => exact law_case hC (rows := rC35 ad b L xs) (vC35 hC hx hbl hbA) hRo hC9 hS9 (lc35 hI hC6 hi hL) (by omega) hn
  | 36, _ => exact law_case hC (rows := rC36 ad b L xs) (vC36 hC hx hbl hbA) hRo hC9 hS9 (lc36 hI hC6 hi hL) (by omega) hn
  | 37, _ => exact law_case hC (rows := rC37 ad b L xs) (vC37 hC hx hbl hbA) hRo hC9 hS9 (lc37 hI hC6 hi hL) (by omega) hn
  | 38, _ => exact law_case hC (rows := rC38 ad b L xs) (vC38 hC hx hbl hbA) hRo hC9 hS9 (lc38 hI hC6 hi hL) (by omega) hn
  | 39, _ => exact law_case hC (rows := rC39 ad b L xs) (vC39 hC hx hbl hbA) hRo hC9 hS9 (lc39 hI hC6 hi hL) (by omega) hn
  | 40, _ => exact law_case hC (rows := rC40 ad b L xs) (vC40 hC hx hbl hbA) hRo hC9 hS9 (lc40 hI hC6 hi hL) (by omega) hn
  | 41, _ => exact law_case hC (rows := rC41 ad b L xs) (vC41 hC hx hbl hbA) hRo hC9 hS9 (lc41 hI hC6 hi hL) (by omega) hn
  | 42, _ =>
    obtain ⟨fo, ho⟩ := hI.2.2.2.2.1
    show pmS X 7 (1592, [some (.ref b), some (.ref h), some (.ref (h + 73)), some (.ref (h + 89)), some (.int (nI i)), none, none], [], M)
    refine ((ok_aload_n (mt := []) (ret := none) (pc := 1592) (j := 1) (i := 1) (by decide +kernel) rfl).o2 hC).2.st (fr' := (1593, [some (.ref b), some (.ref h), some (.ref (h + 73)), some (.ref (h + 89)), some (.int (nI i)), none, none], [.ref h], M)) rfl b0 b1 ?_
    refine ((ok_aload_n (mt := []) (ret := none) (pc := 1593) (j := 0) (i := 0) (by decide +kernel) rfl).o2 hC).2.st (fr' := (1594, [some (.ref b), some (.ref h), some (.ref (h + 73)), some (.ref (h + 89)), some (.int (nI i)), none, none], [.ref b, .ref h], M)) rfl b0 b1 ?_
    refine ((ok_iload (mt := []) (ret := none) (pc := 1594) (i := 4) (by decide +kernel)).o2 hC).2.st (fr' := (1596, [some (.ref b), some (.ref h), some (.ref (h + 73)), some (.ref (h + 89)), some (.int (nI i)), none, none], [.int (nI i), .ref b, .ref h], M)) rfl b0 b1 ?_
    refine ((ok_iconst (mt := []) (ret := none) (pc := 1596) (n := 1) (v := 1) (by decide +kernel) (by decide)).o2 hC).2.st (fr' := (1597, [some (.ref b), some (.ref h), some (.ref (h + 73)), some (.ref (h + 89)), some (.int (nI i)), none, none], [.int 1, .int (nI i), .ref b, .ref h], M)) rfl b0 b1 ?_
    refine ((ok_iadd (mt := []) (ret := none) (pc := 1597) (by decide +kernel)).o2 hC).2.st (fr' := (1598, [some (.ref b), some (.ref h), some (.ref (h + 73)), some (.ref (h + 89)), some (.int (nI i)), none, none], [.int (nI i + 1), .ref b, .ref h], M)) rfl b0 b1 ?_
    rw [ixa1]
    refine law_ld hC hx hbl hbA (by decide +kernel) (by omega) hL ?_
    refine ((ok_aload_n (mt := []) (ret := none) (pc := 1599) (j := 3) (i := 3) (by decide +kernel) rfl).o2 hC).2.st (fr' := (1600, [some (.ref b), some (.ref h), some (.ref (h + 73)), some (.ref (h + 89)), some (.int (nI i)), none, none], [.ref (h + 89), .int (xs (i + 1)), .ref h], M)) rfl b0 b1 ?_
    refine law_led (rest := []) hC (by decide +kernel) hl hI.1 hI.2.2.1 ho (by rw [hRo]; decide) (by rw [hRo]; decide) (by rw [hRo, hC9]; show M.2.2.1 + 1 ≤ 0 + 601024; omega) (by rw [hRo, hS9]; show M.2.2.2 + 6 ≤ 0 + 7293034; omega) (by decide) rfl ?_
    exact law_case hC (rows := rC42 ad b L xs) (vC42 hC hx hbl hbA) hRo hC9 hS9 (lc42 hI hC6 hi hL ho rfl) (by omega) hn
  | 43, _ => exact law_case hC (rows := rC43 ad b L xs) (vC43 hC hx hbl hbA) hRo hC9 hS9 (lc43 hI hC6 hi hL) (by omega) hn
  | 44, _ => exact law_case hC (rows := rC44 ad b L xs) (vC44 hC hx hbl hbA) hRo hC9 hS9 (lc44 hI hC6 hi hL) (by omega) hn
  | n + 45, hk =>
    have e : swTb.getD (n + 45) 1686 = 1686 := by rw [List.getD_eq_getElem?_getD, List.getElem?_eq_none (by show 45 ≤ n + 45; omega)]; rfl
    rw [e]
    obtain ⟨hX, hY, hIv, hS, ho, hz1, hz2, hz3⟩ := hI
    exact hn M σ ⟨hX, hY, hIv.same hC6, hS, ho, hz1, by omega, by omega⟩
theorem nI_sub6 {a c : Nat} (ha : a ≤ 3072) (hc : c ≤ 4000) : nI a - 6 < nI c ↔ a < c + 6 := by
  have h1 : (nI a).toInt = (a : Int) := nI_toInt (by omega)
  have h2 : (nI c).toInt = (c : Int) := nI_toInt (by omega)
  have h3 : (nI a - 6).toInt = (a : Int) - 6 := by
    rw [Int32.toInt_sub, h1]
    show Int.bmod ((a : Int) - 6) (2 ^ 32) = _
    rw [Int.bmod_def]
    omega
  rw [Int32.lt_iff_toInt_lt, h3, h2]
  omega
theorem gt_t {L1 : Lc} {M : Mm} {x y : Int32} (h : y < x) : ns (fIc_gt 1692 (30 + 3)) (30, L1, [.int y, .int x], M) = some (.inl (1692, L1, [], M)) := by
  unfold ns fIc_gt
  dsimp only
  rw [if_pos h]
theorem gt_f {L1 : Lc} {M : Mm} {x y : Int32} (h : ¬ y < x) : ns (fIc_gt 1692 (30 + 3)) (30, L1, [.int y, .int x], M) = some (.inl (33, L1, [], M)) := by
  unfold ns fIc_gt
  dsimp only
  rw [if_neg h]
set_option maxHeartbeats 2000000 in
theorem law_loop (hC : pmC X code 7 RL "law" ad) (hx : va_X b L xs X.St X.St.heap) (hbl : b < X.St.heap.size) (hbA : ¬ X.Ow b) (hl : X.Lh.stackTraces = false) (hRo : X.Ro = room_1) (hC9 : X.C0 = 0) (hS9 : X.S0 = 0) (hL : L ≤ 3072) (hend : ∀ (pc : Nat) (L1 : Lc) (M' : Mm), decode code pc = .ok (.ireturn, 1) → M'.2.2.1 ≤ 601024 → M'.2.2.2 ≤ 7293034 → pmS X 7 (pc, L1, [.int 1], M')) :
    ∀ (n C i : Nat) (σ : Sg) (M : Mm), i = 6 * C → C ≤ 512 → L < i + 6 * n + 6 → lwI ad h M σ C → pmS X 7 (23, [some (.ref b), some (.ref h), some (.ref (h + 73)), some (.ref (h + 89)), some (.int (nI i)), none, none], [], M) := by
  intro n
  induction n with
  | zero =>
    intro C i σ M ei hC5 hlt hI
    have hb := hI.2.2.2.2.2.2
    have b0 : M.2.2.1 ≤ X.C0 + X.Ro.cells := by rw [hRo, hC9]; show M.2.2.1 ≤ 0 + 601024; omega
    have b1 : M.2.2.2 ≤ X.S0 + X.Ro.slots := by rw [hRo, hS9]; show M.2.2.2 ≤ 0 + 7293034; omega
    have fin : pmS X 7 (1692, [some (.ref b), some (.ref h), some (.ref (h + 73)), some (.ref (h + 89)), some (.int (nI i)), none, none], [], M) := by
      refine ((ok_iconst (mt := []) (ret := none) (pc := 1692) (n := 1) (v := 1) (by decide +kernel) (by decide)).o2 hC).2.st (fr' := (1693, [some (.ref b), some (.ref h), some (.ref (h + 73)), some (.ref (h + 89)), some (.int (nI i)), none, none], [.int 1], M)) rfl b0 b1 ?_
      exact hend 1693 _ M (by decide +kernel) (by omega) (by omega)
    refine ((ok_iload (mt := []) (ret := none) (pc := 23) (i := 4) (by decide +kernel)).o2 hC).2.st (fr' := (25, [some (.ref b), some (.ref h), some (.ref (h + 73)), some (.ref (h + 89)), some (.int (nI i)), none, none], [.int (nI i)], M)) rfl b0 b1 ?_
    refine ((ok_aload_n (mt := []) (ret := none) (pc := 25) (j := 0) (i := 0) (by decide +kernel) rfl).o2 hC).2.st (fr' := (26, [some (.ref b), some (.ref h), some (.ref (h + 73)), some (.ref (h + 89)), some (.int (nI i)), none, none], [.ref b, .int (nI i)], M)) rfl b0 b1 ?_
    refine law_len hC hx hbl hbA ?_
    refine ((ok_bipush (mt := []) (ret := none) (pc := 27) (n := 6) (v := 6) (by decide +kernel) (by decide)).o2 hC).2.st (fr' := (29, [some (.ref b), some (.ref h), some (.ref (h + 73)), some (.ref (h + 89)), some (.int (nI i)), none, none], [.int 6, .int (nI L), .int (nI i)], M)) rfl b0 b1 ?_
    refine ((ok_isub (mt := []) (ret := none) (pc := 29) (by decide +kernel)).o2 hC).2.st (fr' := (30, [some (.ref b), some (.ref h), some (.ref (h + 73)), some (.ref (h + 89)), some (.int (nI i)), none, none], [.int (nI L - 6), .int (nI i)], M)) rfl b0 b1 ?_
    refine ((ok_Ic_gt (mt := []) (ret := none) (pc := 30) (off := 1662) (t := 1692) (by decide +kernel) (by decide)).o2 hC).2.st (fr' := (1692, [some (.ref b), some (.ref h), some (.ref (h + 73)), some (.ref (h + 89)), some (.int (nI i)), none, none], [], M)) (gt_t ((nI_sub6 hL (by omega)).mpr (by omega))) b0 b1 ?_
    exact fin
  | succ n ih =>
    intro C i σ M ei hC5 hlt hI
    have hb := hI.2.2.2.2.2.2
    have b0 : M.2.2.1 ≤ X.C0 + X.Ro.cells := by rw [hRo, hC9]; show M.2.2.1 ≤ 0 + 601024; omega
    have b1 : M.2.2.2 ≤ X.S0 + X.Ro.slots := by rw [hRo, hS9]; show M.2.2.2 ≤ 0 + 7293034; omega
    have fin : pmS X 7 (1692, [some (.ref b), some (.ref h), some (.ref (h + 73)), some (.ref (h + 89)), some (.int (nI i)), none, none], [], M) := by
      refine ((ok_iconst (mt := []) (ret := none) (pc := 1692) (n := 1) (v := 1) (by decide +kernel) (by decide)).o2 hC).2.st (fr' := (1693, [some (.ref b), some (.ref h), some (.ref (h + 73)), some (.ref (h + 89)), some (.int (nI i)), none, none], [.int 1], M)) rfl b0 b1 ?_
      exact hend 1693 _ M (by decide +kernel) (by omega) (by omega)
    refine ((ok_iload (mt := []) (ret := none) (pc := 23) (i := 4) (by decide +kernel)).o2 hC).2.st (fr' := (25, [some (.ref b), some (.ref h), some (.ref (h + 73)), some (.ref (h + 89)), some (.int (nI i)), none, none], [.int (nI i)], M)) rfl b0 b1 ?_
    refine ((ok_aload_n (mt := []) (ret := none) (pc := 25) (j := 0) (i := 0) (by decide +kernel) rfl).o2 hC).2.st (fr' := (26, [some (.ref b), some (.ref h), some (.ref (h + 73)), some (.ref (h + 89)), some (.int (nI i)), none, none], [.ref b, .int (nI i)], M)) rfl b0 b1 ?_
    refine law_len hC hx hbl hbA ?_
    refine ((ok_bipush (mt := []) (ret := none) (pc := 27) (n := 6) (v := 6) (by decide +kernel) (by decide)).o2 hC).2.st (fr' := (29, [some (.ref b), some (.ref h), some (.ref (h + 73)), some (.ref (h + 89)), some (.int (nI i)), none, none], [.int 6, .int (nI L), .int (nI i)], M)) rfl b0 b1 ?_
    refine ((ok_isub (mt := []) (ret := none) (pc := 29) (by decide +kernel)).o2 hC).2.st (fr' := (30, [some (.ref b), some (.ref h), some (.ref (h + 73)), some (.ref (h + 89)), some (.int (nI i)), none, none], [.int (nI L - 6), .int (nI i)], M)) rfl b0 b1 ?_
    by_cases hlast : L < i + 6
    · refine ((ok_Ic_gt (mt := []) (ret := none) (pc := 30) (off := 1662) (t := 1692) (by decide +kernel) (by decide)).o2 hC).2.st (fr' := (1692, [some (.ref b), some (.ref h), some (.ref (h + 73)), some (.ref (h + 89)), some (.int (nI i)), none, none], [], M)) (gt_t ((nI_sub6 hL (by omega)).mpr hlast)) b0 b1 ?_
      exact fin
    refine ((ok_Ic_gt (mt := []) (ret := none) (pc := 30) (off := 1662) (t := 1692) (by decide +kernel) (by decide)).o2 hC).2.st (fr' := (33, [some (.ref b), some (.ref h), some (.ref (h + 73)), some (.ref (h + 89)), some (.int (nI i)), none, none], [], M)) (gt_f (fun q => hlast ((nI_sub6 hL (by omega)).mp q))) b0 b1 ?_
    obtain ⟨k, hk, ek⟩ := pk_andE (xs i) (m := 63) 6 (by decide)
    have hnext : ∀ (M' : Mm) (σ' : Sg), lwI ad h M' σ' (C + 1) → pmS X 7 (1686, [some (.ref b), some (.ref h), some (.ref (h + 73)), some (.ref (h + 89)), some (.int (nI i)), none, none], [], M') := by
      intro M' σ' hI'
      have hb' := hI'.2.2.2.2.2.2
      have b0 : M'.2.2.1 ≤ X.C0 + X.Ro.cells := by rw [hRo, hC9]; show M'.2.2.1 ≤ 0 + 601024; omega
      have b1 : M'.2.2.2 ≤ X.S0 + X.Ro.slots := by rw [hRo, hS9]; show M'.2.2.2 ≤ 0 + 7293034; omega
      refine ((ok_iinc (mt := []) (ret := none) (pc := 1686) (i := 4) (z := 6) (y := 6) (by decide +kernel) (by decide)).o2 hC).2.st (fr' := (1689, [some (.ref b), some (.ref h), some (.ref (h + 73)), some (.ref (h + 89)), some (.int (nI i + 6)), none, none], [], M')) rfl b0 b1 ?_
      refine ((ok_goto (mt := []) (ret := none) (pc := 1689) (off := (-1666)) (t := 23) (by decide +kernel) (by decide)).o2 hC).2.st (fr' := (23, [some (.ref b), some (.ref h), some (.ref (h + 73)), some (.ref (h + 89)), some (.int (nI i + 6)), none, none], [], M')) rfl b0 b1 ?_
      rw [show nI i + 6 = nI (i + 6) from nI_add i 6]
      exact ih (C + 1) (i + 6) σ' M' (by omega) (by omega) (by omega) hI'
    refine ((ok_aload_n (mt := []) (ret := none) (pc := 33) (j := 0) (i := 0) (by decide +kernel) rfl).o2 hC).2.st (fr' := (34, [some (.ref b), some (.ref h), some (.ref (h + 73)), some (.ref (h + 89)), some (.int (nI i)), none, none], [.ref b], M)) rfl b0 b1 ?_
    refine ((ok_iload (mt := []) (ret := none) (pc := 34) (i := 4) (by decide +kernel)).o2 hC).2.st (fr' := (36, [some (.ref b), some (.ref h), some (.ref (h + 73)), some (.ref (h + 89)), some (.int (nI i)), none, none], [.int (nI i), .ref b], M)) rfl b0 b1 ?_
    refine law_ld hC hx hbl hbA (by decide +kernel) (by omega) hL ?_
    refine ((ok_bipush (mt := []) (ret := none) (pc := 37) (n := 63) (v := 63) (by decide +kernel) (by decide)).o2 hC).2.st (fr' := (39, [some (.ref b), some (.ref h), some (.ref (h + 73)), some (.ref (h + 89)), some (.int (nI i)), none, none], [.int 63, .int (xs i)], M)) rfl b0 b1 ?_
    refine ((ok_iand (mt := []) (ret := none) (pc := 39) (by decide +kernel)).o2 hC).2.st (fr' := (40, [some (.ref b), some (.ref h), some (.ref (h + 73)), some (.ref (h + 89)), some (.int (nI i)), none, none], [.int (xs i &&& 63)], M)) rfl b0 b1 ?_
    rw [ek]
    refine ((ok_tab (mt := []) (ret := none) (pc := 40) (ts := [236, 309, 334, 347, 360, 397, 434, 471, 508, 533, 570, 583, 596, 645, 706, 755, 792, 817, 830, 855, 880, 905, 918, 931, 985, 1039, 1052, 1065, 1078, 1103, 1128, 1217, 1254, 1291, 1328, 1377, 1414, 1467, 1504, 1541, 1554, 1567, 1592, 1648, 1673]) (df := 1686) (dflt := 1646) (lo := 0) (hi := 44) (offs := #[196, 269, 294, 307, 320, 357, 394, 431, 468, 493, 530, 543, 556, 605, 666, 715, 752, 777, 790, 815, 840, 865, 878, 891, 945, 999, 1012, 1025, 1038, 1063, 1088, 1177, 1214, 1251, 1288, 1337, 1374, 1427, 1464, 1501, 1514, 1527, 1552, 1608, 1633]) (len := 196) (by decide +kernel) (by decide) (tab_ok (by decide +kernel))).o2 hC).2.st (fr' := (swTb.getD k 1686, [some (.ref b), some (.ref h), some (.ref (h + 73)), some (.ref (h + 89)), some (.int (nI i)), none, none], [], M)) (by unfold ns; dsimp only; rw [show fTab 0 44 [236, 309, 334, 347, 360, 397, 434, 471, 508, 533, 570, 583, 596, 645, 706, 755, 792, 817, 830, 855, 880, 905, 918, 931, 985, 1039, 1052, 1065, 1078, 1103, 1128, 1217, 1254, 1291, 1328, 1377, 1414, 1467, 1504, 1541, 1554, 1567, 1592, 1648, 1673] 1686 _ _ = _ from sw_f (by omega)]) b0 b1 ?_
    exact law_iter hC hx hbl hbA hl hRo hC9 hS9 hI (by omega) (by omega) hL hnext k (by omega) ek
end LOOP
