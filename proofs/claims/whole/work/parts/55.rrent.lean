/-! The reference: rents, builders -/
theorem yW.x {M M2 : Mm} {b a : Nat} {σ : Sg} {oa : Int32 × Int32 × Int32} {rd : Value} {oq : Yr × Yq} {A : Ar} {g : Nat → Int32} (h : yW M b a σ oa rd oq A) (e : M2 = up M (b + 5) (.inl (0, 7, .inl g))) : yW M2 b a σ oa rd oq (sA A 5 g) := by
  obtain ⟨h1, h2, h3, h4⟩ := h
  refine ⟨h1.ar (k := 5) e (by omega), h2, h3.fr ((Fr.rf b 16 M).up e (by omega) (by omega)) (by omega), h4⟩
theorem mbN_bit (f : Nat → Int32) : ∀ n j, (mbN f n).testBit j = (decide (j < n) && mutB f j)
  | 0, j => by rw [mbN, Nat.zero_testBit]; simp
  | n + 1, j => by
    have ih := mbN_bit f n j
    rw [mbN]
    by_cases e : j = n
    · subst e
      have h0 : (mbN f j).testBit j = false := by rw [ih]; simp
      split
      · rename_i q
        rw [Nat.testBit_or, h0, Nat.testBit_two_pow_self, q]; simp
      · rename_i q
        rw [h0]; simp [q]
    · split
      · rw [Nat.testBit_or, ih, Nat.testBit_two_pow_of_ne (fun q => e q.symm), Bool.or_false]
        congr 1
        apply Bool.eq_iff_iff.mpr
        simp only [decide_eq_true_eq]
        omega
      · rw [ih]
        congr 1
        apply Bool.eq_iff_iff.mpr
        simp only [decide_eq_true_eq]
        omega
theorem mut_bit {f : Nat → Int32} {k : Nat} (hk : k < 7) : (shutI (mbF f 7) k = 1) ↔ mutB f k = true := by
  rw [mbF_N f 7 (Nat.le_refl _), shutI_bit _ (mbN_128 f) k hk, mbN_bit]
  simp [hk]
theorem sub4 (a c d e : Int32) : (a - c) - (d - e) = (a + e) - (d + c) := by
  simp only [Int32.sub_eq_add_neg, Int32.neg_add, Int32.neg_neg]
  ac_rfl
/-- tenants: more worth than the difference they don't mind -/
theorem tenF_r {w : Rw} {P Q l : Nat} (hP : P < 1000) (hQ : Q < 1000) (hl : l ≤ 9) (hw : w.2.2.2 = nI l) : tenF w (nI P - nI Q) = if nI l < nI P - nI Q then w.2.2.1 else if nI P - nI Q < -(nI l) then 0 else w.2.2.1 / 2 := by
  have e1 : (nI P - nI Q).toInt = (P : Int) - Q := pk_sub_toInt (by omega) (by omega)
  have e2 : (nI l).toInt = (l : Int) := nI_toInt (by omega)
  have e3 : (-(nI l)).toInt = -(l : Int) := by
    have h := pk_sub_toInt (a := 0) (b := l) (by omega) (by omega)
    rw [show nI 0 - nI l = -(nI l) by rw [nI_0, Int32.zero_sub]] at h
    omega
  have e4 : (-(nI P - nI Q)).toInt = (Q : Int) - P := by
    have h := pk_sub_toInt (a := Q) (b := P) (by omega) (by omega)
    rw [show nI Q - nI P = -(nI P - nI Q) by rw [Int32.neg_sub]] at h
    exact h
  generalize nI P - nI Q = x at e1 e4 ⊢
  generalize nI l = y at hw e2 e3 ⊢
  have h0 : (0 : Int32).toInt = 0 := rfl
  unfold tenF absF
  rw [hw]
  by_cases q : 0 ≤ x
  · rw [if_pos q]
    rw [Int32.le_iff_toInt_le, h0, e1] at q
    simp only [Int32.le_iff_toInt_le, Int32.lt_iff_toInt_lt, e1, e2, e3, h0]
    by_cases q1 : (l : Int) < P - Q
    · rw [if_neg (by omega), if_pos (by omega), if_pos q1]
    · rw [if_pos (by omega), if_neg q1, if_neg (by omega)]
  · rw [if_neg q]
    rw [Int32.le_iff_toInt_le, h0, e1] at q
    simp only [Int32.le_iff_toInt_le, Int32.lt_iff_toInt_lt, e1, e2, e3, e4, h0]
    by_cases q1 : (P : Int) - Q < -(l : Int)
    · rw [if_neg (by omega), if_neg (by omega), if_neg (by omega), if_pos q1]
    · rw [if_pos (by omega), if_neg (by omega), if_neg q1]
theorem mx_le {g : Nat → Int32} (h0 : g 0 = 0) : ∀ n, (∀ k, k < n → g k ≤ mxF g n) ∧ (0 < n → ∃ k, k < n ∧ mxF g n = g k) ∧ 0 ≤ mxF g n
  | 0 => ⟨fun k hk => absurd hk (by omega), fun h => absurd h (by omega), Int32.le_refl _⟩
  | n + 1 => by
    obtain ⟨i1, i2, i3⟩ := mx_le h0 n
    rw [mxF]
    unfold maxF
    by_cases c : mxF g n < g n
    · rw [if_pos c]
      refine ⟨fun k hk => ?_, fun _ => ⟨n, by omega, rfl⟩, Int32.le_trans i3 (Int32.le_of_lt c)⟩
      by_cases e : k = n
      · rw [e]; exact Int32.le_refl _
      · exact Int32.le_trans (i1 k (by omega)) (Int32.le_of_lt c)
    · rw [if_neg c]
      refine ⟨fun k hk => ?_, fun _ => ?_, i3⟩
      · by_cases e : k = n
        · rw [e]; exact Int32.not_lt.mp c
        · exact i1 k (by omega)
      · rcases Nat.eq_zero_or_pos n with e | e
        · subst e
          exact ⟨0, by omega, h0.symm⟩
        · obtain ⟨k, hk, q⟩ := i2 e
          exact ⟨k, by omega, q⟩
/-- the most of a row of gains: nobody's is more -/
theorem mx_eq {g : Nat → Int32} (h0 : g 0 = 0) {k n : Nat} (hk : k < n) : g k = mxF g n ↔ ∀ j, j < n → ¬ g k < g j := by
  obtain ⟨i1, i2, _⟩ := mx_le h0 n
  constructor
  · intro e j hj
    rw [e]
    exact Int32.not_lt.mpr (i1 j hj)
  · intro h
    obtain ⟨j, hj, e⟩ := i2 (by omega)
    apply Int32.le_antisymm (i1 k hk)
    rw [e]
    exact Int32.not_lt.mp (h j hj)
