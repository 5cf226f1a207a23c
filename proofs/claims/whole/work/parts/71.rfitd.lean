/-! The reference: whose room it is -/
theorem fit_kn {al : Nat → Nat → Bool} {uk : Nat → Bool} {n : Nat} : ∀ k h tk (r r' : Fo), r' ∈ fitL al uk n k h tk r → ∀ j, ¬ uk j = true → r' j = r j
  | 0, h, tk, r, r', q, j, hj => by rw [fitL] at q; rw [List.mem_singleton.mp q]
  | k + 1, h, tk, r, r', q, j, hj => by
    rw [fitL] at q
    split at q
    · rename_i hu
      obtain ⟨g', _, _, _, _, a⟩ := flG_mem n 0 q
      rw [fit_kn k (h + 1) _ _ r' a j hj, updN_n (fun e => hj (by rw [e]; exact hu))]
    · exact fit_kn k (h + 1) tk r r' q j hj
theorem fit_lt {al : Nat → Nat → Bool} {uk : Nat → Bool} {n : Nat} : ∀ k h tk (r r' : Fo), r' ∈ fitL al uk n k h tk r → ∀ j, h ≤ j → j < h + k → uk j = true → r' j < n
  | 0, h, tk, r, r', q, j, h1, h2, _ => by omega
  | k + 1, h, tk, r, r', q, j, h1, h2, hu => by
    rw [fitL] at q
    split at q
    · obtain ⟨g', _, a2, _, _, a⟩ := flG_mem n 0 q
      by_cases e : j = h
      · rw [e, fit_at r' a]; omega
      · exact fit_lt k (h + 1) _ _ r' a j (by omega) (by omega) hu
    · rename_i hu2
      by_cases e : j = h
      · rw [e] at hu; exact absurd hu hu2
      · exact fit_lt k (h + 1) tk r r' q j (by omega) (by omega) hu
theorem cnt_pos {L : List Fo} {h g : Nat} : 0 < cntL L h g ↔ ∃ r, r ∈ L ∧ r h = g := by
  unfold cntL
  rw [List.length_pos_iff_exists_mem]
  constructor
  · rintro ⟨r, q⟩
    have := List.mem_filter.mp q
    exact ⟨r, this.1, by simpa using this.2⟩
  · rintro ⟨r, q1, q2⟩
    exact ⟨r, List.mem_filter.mpr ⟨q1, by simp [q2]⟩⟩
theorem cnt_len {L : List Fo} {h g : Nat} : cntL L h g = L.length ↔ ∀ r, r ∈ L → r h = g := by
  unfold cntL
  rw [List.length_filter_eq_length_iff]
  constructor
  · intro q r hr; simpa using q r hr
  · intro q r hr; simpa using q r hr
theorem nI_or0 (x : Nat) : nI x ||| 0 = nI x := by
  rw [show (0 : Int32) = nI 0 from rfl, fmx_or, Nat.or_zero]
def pbR (ct : Nat → Int32) (h : Nat) : Nat → Int32
  | 0 => 0
  | g + 1 => pbR ct h g ||| (if 0 < ct (7 * h + g) then (1 : Int32) <<< (nI g &&& 31) else 0)
/-- the bits of those that occur -/
def pbN (L : List Fo) (h : Nat) : Nat → Nat
  | 0 => 0
  | g + 1 => if 0 < cntL L h g then pbN L h g ||| 2 ^ g else pbN L h g
theorem pbN_bit {L : List Fo} {h j : Nat} : ∀ g, (pbN L h g).testBit j = true ↔ j < g ∧ 0 < cntL L h j
  | 0 => by rw [pbN, Nat.zero_testBit]; exact ⟨fun q => (by cases q), fun q => absurd q.1 (by omega)⟩
  | g + 1 => by
    rw [pbN]
    split
    · rename_i c
      rw [or_bit, pbN_bit g]
      constructor
      · rintro (⟨a, d⟩ | rfl)
        · exact ⟨by omega, d⟩
        · exact ⟨by omega, c⟩
      · rintro ⟨a, d⟩
        by_cases e : j = g
        · exact Or.inr e
        · exact Or.inl ⟨by omega, d⟩
    · rename_i c
      rw [pbN_bit g]
      constructor
      · rintro ⟨a, d⟩; exact ⟨by omega, d⟩
      · rintro ⟨a, d⟩
        by_cases e : j = g
        · rw [e] at d; exact absurd d c
        · exact ⟨by omega, d⟩
theorem pbN_lt {L : List Fo} {h : Nat} : ∀ g, g ≤ 7 → pbN L h g < 2 ^ 7
  | 0, _ => by rw [pbN]; omega
  | g + 1, hg => by
    rw [pbN]
    split
    · exact Nat.or_lt_two_pow (pbN_lt g (by omega)) (Nat.pow_lt_pow_right (by omega) (by omega))
    · exact pbN_lt g (by omega)
theorem pbR_N {ct : Nat → Int32} {L : List Fo} {h : Nat} (hL : L.length < 2 ^ 30) (hc : ∀ g, g < 7 → ct (7 * h + g) = nI (cntL L h g)) : ∀ n, n ≤ 7 → pbR ct h n = nI (pbN L h n)
  | 0, _ => rfl
  | n + 1, hn => by
    rw [pbR, pbN, pbR_N hL hc n (by omega), hc n (by omega), shl_n n (by omega)]
    have hb := cntL_le L h n
    by_cases c : 0 < cntL L h n
    · rw [if_pos c, if_pos (show (0 : Int32) < nI _ from nI_lt (a := 0) c (by omega)), fmx_or]
    · rw [if_neg c, if_neg (show ¬ (0 : Int32) < nI _ from nI_nlt (a := 0) (by omega) (by omega)), nI_or0]
theorem pbF_N {ct : Nat → Int32} {L : List Fo} {h : Nat} (hL : L.length < 2 ^ 30) (hc : ∀ g, g < 7 → ct (h * 7 + g) = nI (cntL L h g)) : ∀ n, n ≤ 7 → pbF ct h n = nI (pbN L h n)
  | 0, _ => rfl
  | n + 1, hn => by
    rw [pbF, pbN, pbF_N hL hc n (by omega), hc n (by omega), shl_n n (by omega), fmx_or]
    have hb := cntL_le L h n
    by_cases c : 0 < cntL L h n
    · rw [if_pos c, if_pos (show (0 : Int32) < nI _ from nI_lt (a := 0) c (by omega))]
    · rw [if_neg c, if_neg (show ¬ (0 : Int32) < nI _ from nI_nlt (a := 0) (by omega) (by omega))]
theorem pbN_stop {L : List Fo} {h N : Nat} (hz : ∀ g, N ≤ g → cntL L h g = 0) : ∀ d, pbN L h (N + d) = pbN L h N
  | 0 => rfl
  | d + 1 => by rw [show N + (d + 1) = (N + d) + 1 by omega, pbN, if_neg (by rw [hz (N + d) (by omega)]; omega), pbN_stop hz d]
/-- all rows have this one -/
def allG (L : List Fo) (h g : Nat) : Prop := ¬ L = [] ∧ ∀ r, r ∈ L → r h = g
theorem pb_one {L : List Fo} {h g : Nat} (hg : g < 7) (hv : ∀ r, r ∈ L → r h < 7) : pbN L h 7 = 2 ^ g ↔ allG L h g := by
  constructor
  · intro e
    have hb : ∀ j, j < 7 → (0 < cntL L h j ↔ j = g) := by
      intro j hj
      have h1 := pbN_bit (L := L) (h := h) (j := j) 7
      rw [e] at h1
      by_cases q : j = g
      · subst q
        rw [Nat.testBit_two_pow_self] at h1
        exact ⟨fun _ => rfl, fun _ => (h1.mp rfl).2⟩
      · rw [Nat.testBit_two_pow_of_ne (fun w => q w.symm)] at h1
        exact ⟨fun w => (by have := h1.mpr ⟨hj, w⟩; cases this), fun w => absurd w q⟩
    refine ⟨fun q => ?_, fun r hr => (hb (r h) (hv r hr)).mp (cnt_pos.mpr ⟨r, hr, rfl⟩)⟩
    obtain ⟨r, r1, _⟩ := cnt_pos.mp ((hb g hg).mpr rfl)
    rw [q] at r1
    cases r1
  · rintro ⟨h1, h2⟩
    apply Nat.eq_of_testBit_eq
    intro j
    apply Bool.eq_iff_iff.mpr
    rw [pbN_bit]
    obtain ⟨r, hr⟩ := List.exists_mem_of_ne_nil _ h1
    by_cases q : j = g
    · subst q
      rw [Nat.testBit_two_pow_self]
      exact ⟨fun _ => rfl, fun _ => ⟨hg, cnt_pos.mpr ⟨r, hr, h2 r hr⟩⟩⟩
    · rw [Nat.testBit_two_pow_of_ne (fun w => q w.symm)]
      constructor
      · rintro ⟨_, w⟩
        obtain ⟨r', a1, a2⟩ := cnt_pos.mp w
        rw [h2 r' a1] at a2
        exact absurd a2.symm q
      · intro w; cases w
noncomputable def firG2 (L : List Fo) (h : Nat) : Nat → Nat → Int32
  | 0, _ => -2
  | n + 1, g => @ite _ (allG L h g) (Classical.propDecidable _) (nI g) (firG2 L h n (g + 1))
theorem allG_u {L : List Fo} {h g g' : Nat} (a : allG L h g) (c : allG L h g') : g = g' := by
  obtain ⟨r, hr⟩ := List.exists_mem_of_ne_nil _ a.1
  rw [← a.2 r hr, c.2 r hr]
theorem fir2_at {L : List Fo} {h g0 : Nat} (hG : allG L h g0) : ∀ n g, g ≤ g0 → g0 < g + n → firG2 L h n g = nI g0
  | 0, g, h1, h2 => by omega
  | n + 1, g, h1, h2 => by
    rw [firG2]
    by_cases c : allG L h g
    · rw [if_pos c, allG_u c hG]
    · rw [if_neg c]
      have : ¬ g = g0 := fun q => c (by rw [q]; exact hG)
      exact fir2_at hG n (g + 1) (by omega) (by omega)
theorem fir2_no {L : List Fo} {h : Nat} : ∀ n g, (∀ j, g ≤ j → j < g + n → ¬ allG L h j) → firG2 L h n g = -2
  | 0, g, _ => rfl
  | n + 1, g, q => by
    rw [firG2, if_neg (q g (by omega) (by omega))]
    exact fir2_no n (g + 1) (fun j a c => q j (by omega) (by omega))
theorem sa_fir2 {L : List Fo} {h : Nat} (hv : ∀ r, r ∈ L → r h < 7) : ∀ n g, g + n = 7 → saF (nI (pbN L h 7)) n g = firG2 L h n g
  | 0, g, _ => rfl
  | n + 1, g, hg => by
    rw [saF, firG2, shl_n g (by omega), sa_fir2 hv n (g + 1) (by omega)]
    have h1 := pbN_lt (L := L) (h := h) 7 (Nat.le_refl _)
    have h2 : 2 ^ g < 2 ^ 7 := Nat.pow_lt_pow_right (by omega) (by omega)
    have e : nI (pbN L h 7) = nI (2 ^ g) ↔ allG L h g := by rw [nI_eq (by omega) (by omega), pb_one (by omega) hv]
    by_cases c : allG L h g
    · rw [if_pos (e.mpr c), if_pos c]
    · rw [if_neg (fun w => c (e.mp w)), if_neg c]
def askU (ml : Nat → Int32) : List Nat → Option Nat → Option Nat
  | [], z => z
  | h :: us, z => askU ml us (if askL ml h z = true then some h else z)
theorem ask_U {ml : Nat → Int32} {uk : Nat → Bool} {N : Nat} (h1 : ∀ h, h < N → (uk h = true ↔ 0 < ml h)) : ∀ k h z, h + k ≤ N → askF ml k h z = askU ml (ukL uk k h) z
  | 0, h, z, _ => rfl
  | k + 1, h, z, hk => by
    rw [askF, ukL]
    by_cases c : uk h = true
    · rw [if_pos c, askU]
      have := (h1 h (by omega)).mp c
      by_cases c2 : askL ml h z = true
      · rw [if_pos ⟨this, c2⟩, if_pos c2]; exact ask_U h1 k (h + 1) _ (by omega)
      · rw [if_neg (fun w => c2 w.2), if_neg c2]; exact ask_U h1 k (h + 1) _ (by omega)
    · rw [if_neg c, if_neg (fun w => c ((h1 h (by omega)).mpr w.1))]
      exact ask_U h1 k (h + 1) _ (by omega)
theorem ask_0 {ml : Nat → Int32} : ∀ k h z, (∀ j, h ≤ j → j < h + k → ¬ 0 < ml j) → askF ml k h z = z
  | 0, h, z, _ => rfl
  | k + 1, h, z, q => by
    rw [askF, if_neg (fun w => q h (by omega) (by omega) w.1)]
    exact ask_0 k (h + 1) z (fun j a c => q j (by omega) (by omega))
theorem ask_split {ml : Nat → Int32} : ∀ k d h z, askF ml (k + d) h z = askF ml d (h + k) (askF ml k h z)
  | 0, d, h, z => by rw [Nat.zero_add]; rfl
  | k + 1, d, h, z => by
    rw [show k + 1 + d = (k + d) + 1 by omega, askF, askF, ask_split k d (h + 1), show h + 1 + k = h + (k + 1) by omega]
section RFD
variable {ad : Nat → Nat} {M : Mm} {b : Nat} {σ : Sg} {C : Nat} {a : Nat} {oa : Int32 × Int32 × Int32} {rd : Value} {r : Yr} {p1 p2 : Int32 × Int32} {q4 : Y2} {M0 : Mm} {A0 : Ar}
theorem fR_len (hI : Inv σ C) : (fitR σ.T (r0F σ)).length < 2 ^ 30 := by
  have h1 := fit_len (al := fitB σ.T) (uk := ukF σ.T.hs) hI.n7 σ.T.hs.n 0 [] (r0F σ)
  have h2 : 7 ^ σ.T.hs.n ≤ 7 ^ 7 := Nat.pow_le_pow_right (by omega) hI.n7
  exact Nat.lt_of_le_of_lt (Nat.le_trans h1 h2) (by decide)
theorem fR_known (hI : Inv σ C) (hn : 0 < σ.T.hs.n) {k : Nat} (hk : k < 7) (hu : ¬ σ.f k = -2) : ∀ w, w ∈ fitR σ.T (r0F σ) → w k = r0F σ k := fun w hw => fit_kn _ _ _ _ w hw k (fun q => hu ((hI.uk hn hk).mp q))
theorem fR_lt (hI : Inv σ C) (hn : 0 < σ.T.hs.n) {k : Nat} (hk : k < σ.T.hs.n) : ∀ w, w ∈ fitR σ.T (r0F σ) → w k < σ.T.hs.n := by
  intro w hw
  have hn7 := hI.n7
  by_cases hu : σ.f k = -2
  · exact fit_lt σ.T.hs.n 0 [] _ w hw k (by omega) (by omega) ((hI.uk hn (by omega)).mpr hu)
  · rw [fR_known hI hn (by omega) hu w hw]
    obtain ⟨_, j, hj, e⟩ := ((hI.rowI hn).1 k (by omega)).resolve_left hu
    unfold r0F
    rw [e, nI_clamp (by omega)]
    exact hj
theorem pos_len {L : List Fo} (hL : L.length < 2 ^ 30) : (0 : Int32) < nI L.length ↔ ¬ L = [] := by
  rw [show (0 : Int32) = nI 0 from rfl, nI_ltI (by omega) (by omega)]
  cases L with
  | nil => simp
  | cons x l => simp
theorem z_len {L : List Fo} (hL : L.length < 2 ^ 30) : nI L.length = 0 ↔ L = [] := by
  rw [show (0 : Int32) = nI 0 from rfl, nI_eq (by omega) (by omega)]
  exact List.length_eq_zero_iff
/-- could: both sides' bits -/
theorem cou_eq {s : Fs4} {k : Nat} (hI : Inv σ C) (hn : 0 < σ.T.hs.n) (hk : k < σ.T.hs.n) (hs : ctd σ.T s) : couG σ k s = nI (pbN (fitR σ.T (r0F σ)) k σ.T.hs.n) := by
  have hn7 := hI.n7
  obtain ⟨e1, e2, e3⟩ := ctd_fit hn7 (r0F σ) hs
  have hl := fR_len hI
  have hlt := fR_lt hI hn hk
  have hst : pbN (fitR σ.T (r0F σ)) k 7 = pbN (fitR σ.T (r0F σ)) k σ.T.hs.n := by
    have := pbN_stop (L := fitR σ.T (r0F σ)) (h := k) (N := σ.T.hs.n) (fun g hg => by
      apply Nat.eq_zero_of_not_pos
      intro w
      obtain ⟨w', a1, a2⟩ := cnt_pos.mp w
      have := hlt w' a1
      omega) (7 - σ.T.hs.n)
    rw [show σ.T.hs.n + (7 - σ.T.hs.n) = 7 by omega] at this
    exact this
  unfold couG
  by_cases hu : σ.f k = -2
  · rw [if_pos hu, pbF_N hl (fun g hg => by rw [e2 k g (by omega) hg, if_pos ⟨hk, (hI.uk hn (by omega)).mpr hu⟩]) 7 (Nat.le_refl _), hst]
  · rw [if_neg hu, e1]
    obtain ⟨_, j, hj, e⟩ := ((hI.rowI hn).1 k (by omega)).resolve_left hu
    have hk2 := fR_known hI hn (by omega) hu
    have ej : r0F σ k = j := by unfold r0F; rw [e, nI_clamp (by omega)]
    rw [ej] at hk2
    rw [← hst]
    by_cases hne : fitR σ.T (r0F σ) = []
    · rw [if_neg (fun w => (pos_len hl).mp w hne), hne]
      have : ∀ n, pbN [] k n = 0 := by
        intro n
        induction n with
        | zero => rfl
        | succ n ih => rw [pbN, cntL_nil, if_neg (by omega), ih]
      rw [this]
      rfl
    · rw [if_pos ((pos_len hl).mpr hne), (pb_one (by omega) (fun w hw => by rw [hk2 w hw]; omega)).mpr ⟨hne, hk2⟩, e, shl_n j (by omega)]
theorem sur_eq {s : Fs4} {k : Nat} (hI : Inv σ C) (hn : 0 < σ.T.hs.n) (hk : k < σ.T.hs.n) (hs : ctd σ.T s) : surG σ k s = firG2 (fitR σ.T (r0F σ)) k σ.T.hs.n 0 := by
  have hn7 := hI.n7
  obtain ⟨e1, e2, e3⟩ := ctd_fit hn7 (r0F σ) hs
  have hl := fR_len hI
  have hlt := fR_lt hI hn hk
  have hst : firG2 (fitR σ.T (r0F σ)) k 7 0 = firG2 (fitR σ.T (r0F σ)) k σ.T.hs.n 0 := by
    by_cases q : ∃ g, allG (fitR σ.T (r0F σ)) k g
    · obtain ⟨g, hg⟩ := q
      obtain ⟨w, hw⟩ := List.exists_mem_of_ne_nil _ hg.1
      have := hlt w hw
      rw [hg.2 w hw] at this
      rw [fir2_at hg 7 0 (by omega) (by omega), fir2_at hg σ.T.hs.n 0 (by omega) (by omega)]
    · rw [fir2_no 7 0 (fun j _ _ w => q ⟨j, w⟩), fir2_no σ.T.hs.n 0 (fun j _ _ w => q ⟨j, w⟩)]
  unfold surG
  by_cases hu : σ.f k = -2
  · rw [if_pos hu, pbF_N hl (fun g hg => by rw [e2 k g (by omega) hg, if_pos ⟨hk, (hI.uk hn (by omega)).mpr hu⟩]) 7 (Nat.le_refl _), sa_fir2 (fun w hw => by have := hlt w hw; omega) 7 0 rfl, hst]
  · rw [if_neg hu, e1]
    obtain ⟨_, j, hj, e⟩ := ((hI.rowI hn).1 k (by omega)).resolve_left hu
    have hk2 := fR_known hI hn (by omega) hu
    have ej : r0F σ k = j := by unfold r0F; rw [e, nI_clamp (by omega)]
    rw [ej] at hk2
    by_cases hne : fitR σ.T (r0F σ) = []
    · rw [if_neg (fun w => (pos_len hl).mp w hne)]
      exact (fir2_no σ.T.hs.n 0 (fun j _ _ w => w.1 hne)).symm
    · rw [if_pos ((pos_len hl).mpr hne), e]
      exact (fir2_at ⟨hne, hk2⟩ σ.T.hs.n 0 (by omega) (by omega)).symm
end RFD
