/-! The reference: its cells -/
section EVR5
variable {ad : Nat → Nat} {d : Nat} {rows : List (Nat × Ins)} {P : Option Value → Mm → Prop} {pc : Nat} {L : Lc} {st : List Value} {M : Mm}
theorem ean0 {t nx a n j : Nat} {f : Nat → Int32} (hr : rows.find? (fun q => q.1 == pc) = some (pc, pmW (fAld t nx))) (hM : M.1 a = some (.inl (t, n, .inl f))) (hj : j < n) (hn : Nat.ble n 2000000 = true) (kk : Ev ad d rows (nx, L, .int (f j) :: st, M) P) : Ev ad d rows (pc, L, .int (0 + nI j) :: .ref a :: st, M) P := by
  rw [Int32.zero_add]
  exact ean hr hM hj hn kk
theorem ean8 {t nx a n j : Nat} {f : Nat → Int32} (hr : rows.find? (fun q => q.1 == pc) = some (pc, pmW (fAld t nx))) (hM : M.1 a = some (.inl (t, n, .inl f))) (hj : 8 + j < n) (hn : Nat.ble n 2000000 = true) (kk : Ev ad d rows (nx, L, .int (f (8 + j)) :: st, M) P) : Ev ad d rows (pc, L, .int (8 + nI j) :: .ref a :: st, M) P := by
  rw [show (8 : Int32) + nI j = nI (8 + j) from nI_add 8 j]
  exact ean hr hM hj hn kk
theorem ean12 {t nx a n j : Nat} {f : Nat → Int32} (hr : rows.find? (fun q => q.1 == pc) = some (pc, pmW (fAld t nx))) (hM : M.1 a = some (.inl (t, n, .inl f))) (hj : 12 + j < n) (hn : Nat.ble n 2000000 = true) (kk : Ev ad d rows (nx, L, .int (f (12 + j)) :: st, M) P) : Ev ad d rows (pc, L, .int (12 + nI j) :: .ref a :: st, M) P := by
  rw [show (12 : Int32) + nI j = nI (12 + j) from nI_add 12 j]
  exact ean hr hM hj hn kk
theorem ix7r (h g : Nat) : 7 * nI h + nI g = nI (7 * h + g) := by
  rw [show (7 : Int32) * nI h = nI (7 * h) from pk_mul 7 h, nI_add]
theorem ean7 {t nx a n h g : Nat} {f : Nat → Int32} (hr : rows.find? (fun q => q.1 == pc) = some (pc, pmW (fAld t nx))) (hM : M.1 a = some (.inl (t, n, .inl f))) (hj : 7 * h + g < n) (hn : Nat.ble n 2000000 = true) (kk : Ev ad d rows (nx, L, .int (f (7 * h + g)) :: st, M) P) : Ev ad d rows (pc, L, .int (7 * nI h + nI g) :: .ref a :: st, M) P := by
  rw [ix7r]
  exact ean hr hM hj hn kk
end EVR5
abbrev Yr : Type := Int32 × Int32 × Int32 × Int32 × Int32 × Int32 × Int32 × Int32 × Int64
abbrev Yr.ta (r : Yr) : Int32 := r.1
abbrev Yr.sz (r : Yr) : Int32 := r.2.1
abbrev Yr.sp (r : Yr) : Int32 := r.2.2.1
abbrev Yr.so (r : Yr) : Int32 := r.2.2.2.1
abbrev Yr.pl (r : Yr) : Int32 := r.2.2.2.2.1
abbrev Yr.nu (r : Yr) : Int32 := r.2.2.2.2.2.1
abbrev Yr.fa (r : Yr) : Int32 := r.2.2.2.2.2.2.1
abbrev Yr.wa (r : Yr) : Int32 := r.2.2.2.2.2.2.2.1
abbrev Yr.wo (r : Yr) : Int64 := r.2.2.2.2.2.2.2.2
/-- what the text's reading doesn't touch: acts, marks; best way's size and time; unknown, rows, what asking leaves; best pairs; seed -/
abbrev Yq : Type := (Int32 × Int32) × (Int32 × Int32) × (Int32 × Int32 × Int32) × (Int32 × Int32) × Int32
abbrev Yo : Type := (Int32 × Int32 × Int32) × (Value × Value) × Yr × Yq
abbrev Yo.th (o : Yo) : Int32 := o.1.1
abbrev Yo.tr (o : Yo) : Int32 := o.1.2.1
abbrev Yo.wh (o : Yo) : Int32 := o.1.2.2
abbrev Yo.tw (o : Yo) : Value := o.2.1.1
abbrev Yo.rd (o : Yo) : Value := o.2.1.2
abbrev Yo.r (o : Yo) : Yr := o.2.2.1
abbrev Yo.q (o : Yo) : Yq := o.2.2.2
abbrev Yq.ac (q : Yq) : Int32 := q.1.1
abbrev Yq.mk (q : Yq) : Int32 := q.1.2
abbrev Yq.bz (q : Yq) : Int32 := q.2.1.1
abbrev Yq.bt (q : Yq) : Int32 := q.2.1.2
abbrev Yq.un (q : Yq) : Int32 := q.2.2.1.1
abbrev Yq.ro (q : Yq) : Int32 := q.2.2.1.2.1
abbrev Yq.al (q : Yq) : Int32 := q.2.2.1.2.2
abbrev Yq.bp (q : Yq) : Int32 := q.2.2.2.1.1
abbrev Yq.bm (q : Yq) : Int32 := q.2.2.2.1.2
abbrev Yq.sd (q : Yq) : Int32 := q.2.2.2.2
def yF (b : Nat) (o : Yo) : List Value := [.int o.th, .int o.tr, .int o.wh, o.tw, o.rd, .ref (b + 1), .int o.r.ta, .int o.r.sz, .int o.r.sp, .int o.r.so, .int o.r.pl, .int o.r.nu, .int o.r.fa, .int o.r.wa, .long o.r.wo, .ref (b + 2), .ref (b + 3), .ref (b + 4), .int o.q.ac, .int o.q.mk, .ref (b + 5), .ref (b + 6), .ref (b + 7), .int o.q.bz, .int o.q.bt, .ref (b + 8), .ref (b + 9), .ref (b + 10), .ref (b + 11), .ref (b + 12), .int o.q.un, .int o.q.ro, .int o.q.al, .ref (b + 13), .ref (b + 14), .int o.q.bp, .int o.q.bm, .ref (b + 15), .int o.q.sd]
abbrev Ar : Type := Nat → Nat → Int32
def tyk : Nat → Nat
  | 1 => 3
  | _ => 0
def szk : Nat → Nat
  | 1 => 1100
  | 2 => 16
  | 3 => 256
  | 4 => 48
  | 12 => 49
  | 13 => 3
  | 14 => 3
  | 15 => 49
  | _ => 7
/-- tape; now, past, kept; x, row, best, timeAt, asked, of, firstRow, counts, pair, bestPair, far -/
def yA (M : Mm) (b : Nat) (A : Ar) : Prop := ∀ k, 1 ≤ k → k < 16 → M.1 (b + k) = some (.inl (tyk k, szk k, .inl (A k)))
def aY (M : Mm) (b : Nat) (o : Yo) (A : Ar) : Prop := M.1 b = some (.inr (13, yF b o)) ∧ yA M b A
abbrev sA (A : Ar) (k : Nat) (g : Nat → Int32) : Ar := fun i => cond (Nat.beq i k) g (A i)
theorem sA_s {A : Ar} {k : Nat} {g : Nat → Int32} : sA A k g k = g := by unfold sA; rw [show Nat.beq k k = true from Nat.beq_refl k]; rfl
theorem sA_n {A : Ar} {k j : Nat} {g : Nat → Int32} (h : ¬ j = k) : sA A k g j = A j := by
  unfold sA
  rw [show Nat.beq j k = false from Bool.eq_false_iff.mpr (fun q => h (Nat.eq_of_beq_eq_true q))]
  rfl
theorem aY.ar {M M2 : Mm} {b k : Nat} {o : Yo} {A : Ar} {g : Nat → Int32} (h : aY M b o A) (e : M2 = up M (b + k) (.inl (tyk k, szk k, .inl g))) (h1 : 1 ≤ k) : aY M2 b o (sA A k g) := by
  refine ⟨up_k e h.1 (by omega), fun j j1 j2 => ?_⟩
  by_cases q : j = k
  · subst q
    rw [sA_s]
    exact up_w e
  · rw [sA_n q]
    exact up_k e (h.2 j j1 j2) (by omega)
theorem aY.ob {M M2 : Mm} {b : Nat} {o o2 : Yo} {A : Ar} (h : aY M b o A) (e : M2 = up M b (.inr (13, yF b o2))) : aY M2 b o2 A := ⟨up_w e, fun j j1 j2 => up_k e (h.2 j j1 j2) (by omega)⟩
theorem aY.fr {M M' : Mm} {b lo n : Nat} {o : Yo} {A : Ar} (h : aY M b o A) (hF : Fr lo n M M') (hq : b + 16 ≤ lo ∨ lo + n ≤ b) : aY M' b o A := ⟨(hF.1 _ (by omega)).trans h.1, fun j j1 j2 => (hF.1 _ (by omega)).trans (h.2 j j1 j2)⟩
theorem aY.c {M : Mm} {b : Nat} {o : Yo} {A : Ar} (h : aY M b o A) : M.1 (b + 1) = some (.inl (3, 1100, .inl (A 1))) ∧ M.1 (b + 2) = ints 16 (A 2) ∧ M.1 (b + 3) = ints 256 (A 3) ∧ M.1 (b + 4) = ints 48 (A 4) ∧ M.1 (b + 5) = ints 7 (A 5) ∧ M.1 (b + 6) = ints 7 (A 6) ∧ M.1 (b + 7) = ints 7 (A 7) ∧ M.1 (b + 8) = ints 7 (A 8) ∧ M.1 (b + 9) = ints 7 (A 9) ∧ M.1 (b + 10) = ints 7 (A 10) ∧ M.1 (b + 11) = ints 7 (A 11) ∧ M.1 (b + 12) = ints 49 (A 12) ∧ M.1 (b + 13) = ints 3 (A 13) ∧ M.1 (b + 14) = ints 3 (A 14) ∧ M.1 (b + 15) = ints 49 (A 15) :=
  ⟨h.2 1 (by omega) (by omega), h.2 2 (by omega) (by omega), h.2 3 (by omega) (by omega), h.2 4 (by omega) (by omega), h.2 5 (by omega) (by omega), h.2 6 (by omega) (by omega), h.2 7 (by omega) (by omega), h.2 8 (by omega) (by omega), h.2 9 (by omega) (by omega), h.2 10 (by omega) (by omega), h.2 11 (by omega) (by omega), h.2 12 (by omega) (by omega), h.2 13 (by omega) (by omega), h.2 14 (by omega) (by omega), h.2 15 (by omega) (by omega)⟩
/-! A town of the reference -/
abbrev Br : Type := Nat → Nat → Int64
abbrev sB (A : Br) (k : Nat) (g : Nat → Int64) : Br := fun i => cond (Nat.beq i k) g (A i)
/-- rooms, rent, bill, wrong, opens, shuts; smell; minutes; home, at; signOf, noiseOf, noise; sign; name; nameSort, numberOf -/
def mtO (a : Nat) (T : Tw) (kn : Int32) : List Value := [.int (nI T.dr), .int (nI T.lk), .int (nI T.hs.n), .int kn, .int (nI (fb_ct0 (fun j => !(T.hs.fr j == -2)) T.hs.n)), .int (nI T.ss.n), .int (nI T.np), .int (nI T.cs.sg), .int (nI T.cs.nz), .int (nI (T.hs.n + T.np)), .ref (a + 1), .ref (a + 2), .ref (a + 3), .ref (a + 4), .ref (a + 5), .ref (a + 6), .ref (a + 7), .ref (a + 8), .ref (a + 9), .ref (a + 10), .ref (a + 11), .ref (a + 12), .ref (a + 13), .ref (a + 14), .ref (a + 15), .ref (a + 16), .ref (a + 17)]
def mtc (M : Mm) (a : Nat) (A : Ar) (B : Br) : Prop := M.1 (a + 1) = ints 7 (A 1) ∧ M.1 (a + 2) = ints 7 (A 2) ∧ M.1 (a + 3) = ints 7 (A 3) ∧ M.1 (a + 4) = ints 7 (A 4) ∧ M.1 (a + 5) = ints 7 (A 5) ∧ M.1 (a + 6) = ints 7 (A 6) ∧ M.1 (a + 7) = lngs 7 (B 7) ∧ M.1 (a + 8) = ints 49 (A 8) ∧ M.1 (a + 9) = ints 4 (A 9) ∧ M.1 (a + 10) = ints 4 (A 10) ∧ M.1 (a + 11) = ints 8 (A 11) ∧ M.1 (a + 12) = ints 4 (A 12) ∧ M.1 (a + 13) = ints 4 (A 13) ∧ M.1 (a + 14) = lngs 8 (B 14) ∧ M.1 (a + 15) = lngs 11 (B 15) ∧ M.1 (a + 16) = ints 11 (A 16) ∧ M.1 (a + 17) = ints 11 (A 17)
def mtH (T : Tw) (A : Ar) (B : Br) : Prop := ∀ k, k < T.hs.n → A 1 k = T.hs.ro k ∧ A 2 k = T.hs.re k ∧ A 3 k = T.hs.bi k ∧ A 4 k = T.hs.to k ∧ A 5 k = (if T.hs.fr k = -2 then -1 else T.hs.fr k) ∧ (¬ T.hs.fr k = -2 → A 6 k = T.hs.tt k) ∧ B 7 k = T.hs.sm k
def mtS (T : Tw) (A : Ar) : Prop := ∀ i, i < 49 → A 8 i = T.ss.mi i
def mtP (T : Tw) (A : Ar) : Prop := ∀ p, p < T.np → A 9 p = T.hm p ∧ A 10 p = T.pl p
def mtC (T : Tw) (A : Ar) (B : Br) : Prop := (∀ j, j < T.cs.sg → A 11 j = T.cs.sh j ∧ B 14 j = T.cs.ss j) ∧ ∀ j, j < T.cs.nz → A 12 j = T.cs.nh j ∧ A 13 j = T.cs.nr j
def mtN (T : Tw) (A : Ar) (B : Br) : Prop := (∀ k, k < T.hs.n + T.np → (A 16 k = 0 ∧ ∃ h, h < T.hs.n ∧ A 17 k = nI h ∧ B 15 k = T.hs.nm h) ∨ (A 16 k = 1 ∧ ∃ p, p < T.np ∧ B 15 k = T.pn p)) ∧ (∀ h, h < T.hs.n → ∃ k, k < T.hs.n + T.np ∧ B 15 k = T.hs.nm h) ∧ ∀ p, p < T.np → ∃ k, k < T.hs.n + T.np ∧ B 15 k = T.pn p
def aMt (M : Mm) (a : Nat) (T : Tw) : Prop := ∃ (kn : Int32) (A : Ar) (B : Br), M.1 a = some (.inr (12, mtO a T kn)) ∧ mtc M a A B ∧ mtH T A B ∧ mtS T A ∧ mtP T A ∧ mtC T A B ∧ mtN T A B
theorem mtc.kept {M M' : Mm} {a : Nat} {A : Ar} {B : Br} (h : mtc M a A B) (hq : ∀ q, a ≤ q → q < a + 18 → M'.1 q = M.1 q) : mtc M' a A B := by
  obtain ⟨h1, h2, h3, h4, h5, h6, h7, h8, h9, h10, h11, h12, h13, h14, h15, h16, h17⟩ := h
  exact ⟨(hq _ (by omega) (by omega)).trans h1, (hq _ (by omega) (by omega)).trans h2, (hq _ (by omega) (by omega)).trans h3, (hq _ (by omega) (by omega)).trans h4, (hq _ (by omega) (by omega)).trans h5, (hq _ (by omega) (by omega)).trans h6, (hq _ (by omega) (by omega)).trans h7, (hq _ (by omega) (by omega)).trans h8, (hq _ (by omega) (by omega)).trans h9, (hq _ (by omega) (by omega)).trans h10, (hq _ (by omega) (by omega)).trans h11, (hq _ (by omega) (by omega)).trans h12, (hq _ (by omega) (by omega)).trans h13, (hq _ (by omega) (by omega)).trans h14, (hq _ (by omega) (by omega)).trans h15, (hq _ (by omega) (by omega)).trans h16, (hq _ (by omega) (by omega)).trans h17⟩
theorem aMt.kept {M M' : Mm} {a : Nat} {T : Tw} (h : aMt M a T) (hq : ∀ q, a ≤ q → q < a + 18 → M'.1 q = M.1 q) : aMt M' a T := by
  obtain ⟨kn, A, B, h0, hc, hr⟩ := h
  exact ⟨kn, A, B, (hq _ (by omega) (by omega)).trans h0, hc.kept hq, hr⟩
theorem aMt.fr {M M' : Mm} {a lo n : Nat} {T : Tw} (h : aMt M a T) (hF : Fr lo n M M') (hq : a + 18 ≤ lo ∨ lo + n ≤ a) : aMt M' a T := h.kept (fun q a1 a2 => hF.1 q (by omega))
/-! How the reference's cells stand for the one state -/
def paR (ps : Nat → Int32) (ac : List (Nat → Int32)) : Prop := ac.length ≤ 16 ∧ ∀ i r, ac[i]? = some r → ∀ j, j < 16 → ps (16 * (ac.length - 1 - i) + j) = r j
def mkR (kp : Nat → Int32) (mk : List (Nat → Int32)) : Prop := mk.length ≤ 3 ∧ ∀ i r, mk[i]? = some r → ∀ j, j < 16 → kp (16 * i + j) = r j
/-- far: 99999 where no way is -/
def flS (a by' b : Nat) (f : Nat → Int32) : Nat → Int32 := if f (7 * a + by') + f (7 * by' + b) < f (7 * a + b) then upd f (7 * a + b) (f (7 * a + by') + f (7 * by' + b)) else f
def flB (a by' : Nat) : Nat → (Nat → Int32) → (Nat → Int32)
  | 0, f => f
  | n + 1, f => flS a by' n (flB a by' n f)
def flA (N by' : Nat) : Nat → (Nat → Int32) → (Nat → Int32)
  | 0, f => f
  | n + 1, f => flB n by' N (flA N by' n f)
def flY (N : Nat) : Nat → (Nat → Int32) → (Nat → Int32)
  | 0, f => f
  | n + 1, f => flA N n N (flY N n f)
def fl0 (mi : Nat → Int32) (k : Nat) : Int32 := if k / 7 = k % 7 then 0 else if 0 < mi k then mi k else 99999
def farR (fa : Nat → Int32) (T : Tw) : Prop := ∃ f, (∀ k, k < 49 → f k = fl0 T.ss.mi k) ∧ fa = flY T.hs.n T.hs.n f
def yTn (M : Mm) (b : Nat) (σ : Sg) (tw : Value) (A : Ar) : Prop := (σ.T.hs.n = 0 ∧ tw = .null) ∨ (0 < σ.T.hs.n ∧ ∃ a, tw = .ref a ∧ b + 16 ≤ a ∧ a + 18 ≤ M.2.1 ∧ aMt M a σ.T ∧ (∀ j, j < 16 → A 2 j = σ.f j) ∧ paR (A 3) σ.ac ∧ mkR (A 4) σ.mk ∧ farR (A 15) σ.T)
def yR (M : Mm) (b : Nat) (σ : Sg) (o : Yo) (A : Ar) : Prop := aY M b o A ∧ b + 16 ≤ M.2.1 ∧ o.tr = σ.tr ∧ o.wh = (if σ.tr = 4 then σ.fp else -1) ∧ o.r.fa = σ.fn ∧ o.r.ta = nI σ.ts ∧ o.q.ac = nI σ.ac.length ∧ o.q.mk = nI σ.mk.length ∧ (∀ j, j < 1100 → A 1 j &&& 255 = σ.tp j) ∧ yTn M b σ o.tw A
def YR (M : Mm) (b : Nat) (σ : Sg) : Prop := ∃ o A, yR M b σ o A
/-- cells that no answer rests on -/
theorem yR.sc {M M' : Mm} {b : Nat} {σ : Sg} {o o' : Yo} {A A' : Ar} (h : yR M b σ o A) (hy : aY M' b o' A') (hF : Fr b 16 M M') (ho : (o'.tr, o'.wh, o'.tw, o'.r, o'.q.1) = (o.tr, o.wh, o.tw, o.r, o.q.1)) (h1 : A' 1 = A 1) (h2 : A' 2 = A 2) (h3 : A' 3 = A 3) (h4 : A' 4 = A 4) (h5 : A' 15 = A 15) : yR M' b σ o' A' := by
  obtain ⟨_, hb, e1, e2, e3, e4, e5, e6, e7, e8⟩ := h
  injection ho with q1 ho
  injection ho with q2 ho
  injection ho with q3 ho
  injection ho with q4 q5
  refine ⟨hy, by rw [hF.2]; exact hb, by rw [q1]; exact e1, by rw [q2]; exact e2, by rw [q4]; exact e3, by rw [q4]; exact e4, (congrArg Prod.fst q5).trans e5, (congrArg Prod.snd q5).trans e6, by rw [h1]; exact e7, ?_⟩
  rcases e8 with ⟨n0, t0⟩ | ⟨n1, a, t1, a1, a2, r⟩
  · exact Or.inl ⟨n0, q3.trans t0⟩
  · refine Or.inr ⟨n1, a, q3.trans t1, a1, by rw [hF.2]; exact a2, r.1.fr hF (by omega), ?_⟩
    rw [h2, h3, h4, h5]
    exact r.2
section YRL
variable {ad : Nat → Nat} {M : Mm} {b : Nat} {σ : Sg}
theorem y_good {x : Int32} (hY : YR M b σ) : EvM ad 0 (iX13_good ad) [.ref b, .int x] M (fun v' M' => v' = some (.int x) ∧ YR M' b (σ.wt 0) ∧ Fr b 1 M M') := by
  obtain ⟨⟨⟨th, tr, wh⟩, tw, r, q⟩, A, hy, hR⟩ := hY
  have h0 := hy.1
  refine ⟨Nat.le_of_ble_eq_true rfl, ?_⟩
  show Ev ad _ (rX13_good ad) (0, [some (.ref b), some (.int x)], [], M) _
  repeat (first | refine es rfl rfl rfl ?_ | refine eg rfl (by assumption) rfl ?_ | refine ean rfl (by assumption) (by assumption) rfl ?_ | refine eal rfl (by assumption) (by assumption) rfl ?_ | refine eri rfl ?_ | refine erv rfl ?_ | refine erl rfl ?_ | refine era rfl ?_ | refine erz0 rfl ?_ | refine erz1 rfl ?_ | refine ean0 rfl (by assumption) (by assumption) rfl ?_ | refine ean8 rfl (by assumption) (by assumption) rfl ?_ | refine ean12 rfl (by assumption) (by assumption) rfl ?_ | refine ean7 rfl (by assumption) (by assumption) rfl ?_)
  try dsimp only [set1, set2, kilP, List.set_cons_zero, List.set_cons_succ, List.getElem?_cons_zero, List.getElem?_cons_succ, List.nil_append, List.cons_append, Option.toList_some, Option.toList_none]
  refine epM (fs' := yF b ((th, 0, wh), tw, r, q)) rfl h0 rfl rfl rfl (fun M2 eM => ?_)
  have hy2 := hy.ob eM
  have hF := (Fr.rf b 1 M).up eM (by omega) (by omega)
  have k0 := hy2.1
  repeat (first | refine es rfl rfl rfl ?_ | refine eg rfl (by assumption) rfl ?_ | refine ean rfl (by assumption) (by assumption) rfl ?_ | refine eal rfl (by assumption) (by assumption) rfl ?_ | refine eri rfl ?_ | refine erv rfl ?_ | refine erl rfl ?_ | refine era rfl ?_ | refine erz0 rfl ?_ | refine erz1 rfl ?_ | refine ean0 rfl (by assumption) (by assumption) rfl ?_ | refine ean8 rfl (by assumption) (by assumption) rfl ?_ | refine ean12 rfl (by assumption) (by assumption) rfl ?_ | refine ean7 rfl (by assumption) (by assumption) rfl ?_)
  try dsimp only [set1, set2, kilP, List.set_cons_zero, List.set_cons_succ, List.getElem?_cons_zero, List.getElem?_cons_succ, List.nil_append, List.cons_append, Option.toList_some, Option.toList_none]
  refine epM (fs' := yF b ((th, 0, -1), tw, r, q)) rfl k0 rfl rfl rfl (fun M3 eM3 => ?_)
  have hy3 := hy2.ob eM3
  replace hF := hF.up eM3 (by omega) (by omega)
  repeat (first | refine es rfl rfl rfl ?_ | refine eg rfl (by assumption) rfl ?_ | refine ean rfl (by assumption) (by assumption) rfl ?_ | refine eal rfl (by assumption) (by assumption) rfl ?_ | refine eri rfl ?_ | refine erv rfl ?_ | refine erl rfl ?_ | refine era rfl ?_ | refine erz0 rfl ?_ | refine erz1 rfl ?_ | refine ean0 rfl (by assumption) (by assumption) rfl ?_ | refine ean8 rfl (by assumption) (by assumption) rfl ?_ | refine ean12 rfl (by assumption) (by assumption) rfl ?_ | refine ean7 rfl (by assumption) (by assumption) rfl ?_)
  try dsimp only [set1, set2, kilP, List.set_cons_zero, List.set_cons_succ, List.getElem?_cons_zero, List.getElem?_cons_succ, List.nil_append, List.cons_append, Option.toList_some, Option.toList_none]
  obtain ⟨hb, e1, e2, e3, e4, e5, e6, e7, e8⟩ := hR
  refine ⟨rfl, ⟨_, A, hy3, by rw [hF.2]; exact hb, rfl, rfl, e3, e4, e5, e6, e7, ?_⟩, hF⟩
  rcases e8 with e8 | ⟨n1, a, t1, a1, a2, r⟩
  · exact Or.inl e8
  · exact Or.inr ⟨n1, a, t1, a1, by rw [hF.2]; exact a2, r.1.fr hF (by omega), r.2⟩
theorem y_ref {x : Int32} (hY : YR M b σ) (hx : ¬ x = 4) : EvM ad 0 (iX13_refused ad) [.ref b, .int x] M (fun v' M' => v' = some (.int (-1)) ∧ YR M' b (σ.wt x) ∧ Fr b 1 M M') := by
  obtain ⟨⟨⟨th, tr, wh⟩, tw, r, q⟩, A, hy, hR⟩ := hY
  have h0 := hy.1
  refine ⟨Nat.le_of_ble_eq_true rfl, ?_⟩
  show Ev ad _ (rX13_refused ad) (0, [some (.ref b), some (.int x)], [], M) _
  repeat (first | refine es rfl rfl rfl ?_ | refine eg rfl (by assumption) rfl ?_ | refine ean rfl (by assumption) (by assumption) rfl ?_ | refine eal rfl (by assumption) (by assumption) rfl ?_ | refine eri rfl ?_ | refine erv rfl ?_ | refine erl rfl ?_ | refine era rfl ?_ | refine erz0 rfl ?_ | refine erz1 rfl ?_ | refine ean0 rfl (by assumption) (by assumption) rfl ?_ | refine ean8 rfl (by assumption) (by assumption) rfl ?_ | refine ean12 rfl (by assumption) (by assumption) rfl ?_ | refine ean7 rfl (by assumption) (by assumption) rfl ?_)
  try dsimp only [set1, set2, kilP, List.set_cons_zero, List.set_cons_succ, List.getElem?_cons_zero, List.getElem?_cons_succ, List.nil_append, List.cons_append, Option.toList_some, Option.toList_none]
  refine epM (fs' := yF b ((th, x, wh), tw, r, q)) rfl h0 rfl rfl rfl (fun M2 eM => ?_)
  have hy2 := hy.ob eM
  have hF := (Fr.rf b 1 M).up eM (by omega) (by omega)
  have k0 := hy2.1
  repeat (first | refine es rfl rfl rfl ?_ | refine eg rfl (by assumption) rfl ?_ | refine ean rfl (by assumption) (by assumption) rfl ?_ | refine eal rfl (by assumption) (by assumption) rfl ?_ | refine eri rfl ?_ | refine erv rfl ?_ | refine erl rfl ?_ | refine era rfl ?_ | refine erz0 rfl ?_ | refine erz1 rfl ?_ | refine ean0 rfl (by assumption) (by assumption) rfl ?_ | refine ean8 rfl (by assumption) (by assumption) rfl ?_ | refine ean12 rfl (by assumption) (by assumption) rfl ?_ | refine ean7 rfl (by assumption) (by assumption) rfl ?_)
  try dsimp only [set1, set2, kilP, List.set_cons_zero, List.set_cons_succ, List.getElem?_cons_zero, List.getElem?_cons_succ, List.nil_append, List.cons_append, Option.toList_some, Option.toList_none]
  refine epM (fs' := yF b ((th, x, -1), tw, r, q)) rfl k0 rfl rfl rfl (fun M3 eM3 => ?_)
  have hy3 := hy2.ob eM3
  replace hF := hF.up eM3 (by omega) (by omega)
  repeat (first | refine es rfl rfl rfl ?_ | refine eg rfl (by assumption) rfl ?_ | refine ean rfl (by assumption) (by assumption) rfl ?_ | refine eal rfl (by assumption) (by assumption) rfl ?_ | refine eri rfl ?_ | refine erv rfl ?_ | refine erl rfl ?_ | refine era rfl ?_ | refine erz0 rfl ?_ | refine erz1 rfl ?_ | refine ean0 rfl (by assumption) (by assumption) rfl ?_ | refine ean8 rfl (by assumption) (by assumption) rfl ?_ | refine ean12 rfl (by assumption) (by assumption) rfl ?_ | refine ean7 rfl (by assumption) (by assumption) rfl ?_)
  try dsimp only [set1, set2, kilP, List.set_cons_zero, List.set_cons_succ, List.getElem?_cons_zero, List.getElem?_cons_succ, List.nil_append, List.cons_append, Option.toList_some, Option.toList_none]
  obtain ⟨hb, e1, e2, e3, e4, e5, e6, e7, e8⟩ := hR
  refine ⟨rfl, ⟨_, A, hy3, by rw [hF.2]; exact hb, rfl, (if_neg hx).symm, e3, e4, e5, e6, e7, ?_⟩, hF⟩
  rcases e8 with e8 | ⟨n1, a, t1, a1, a2, r⟩
  · exact Or.inl e8
  · exact Or.inr ⟨n1, a, t1, a1, by rw [hF.2]; exact a2, r.1.fr hF (by omega), r.2⟩
theorem y_deny {x : Int32} (hY : YR M b σ) (hx : ¬ x = 4) : EvM ad 1 (iX13_denied ad) [.ref b, .int x] M (fun v' M' => v' = some (.int 0) ∧ YR M' b (σ.wt x) ∧ Fr b 1 M M') := by
  obtain ⟨o, A, hR⟩ := id hY
  have h0 := hR.1.1
  refine ⟨Nat.le_of_ble_eq_true rfl, ?_⟩
  show Ev ad _ (rX13_denied ad) (0, [some (.ref b), some (.int x)], [], M) _
  repeat (first | refine es rfl rfl rfl ?_ | refine eg rfl (by assumption) rfl ?_ | refine ean rfl (by assumption) (by assumption) rfl ?_ | refine eal rfl (by assumption) (by assumption) rfl ?_ | refine eri rfl ?_ | refine erv rfl ?_ | refine erl rfl ?_ | refine era rfl ?_ | refine erz0 rfl ?_ | refine erz1 rfl ?_ | refine ean0 rfl (by assumption) (by assumption) rfl ?_ | refine ean8 rfl (by assumption) (by assumption) rfl ?_ | refine ean12 rfl (by assumption) (by assumption) rfl ?_ | refine ean7 rfl (by assumption) (by assumption) rfl ?_)
  try dsimp only [set1, set2, kilP, List.set_cons_zero, List.set_cons_succ, List.getElem?_cons_zero, List.getElem?_cons_succ, List.nil_append, List.cons_append, Option.toList_some, Option.toList_none]
  refine ecv rfl rfl (by assumption) rfl rfl rfl (y_ref hY hx) (by first | rfl | exact Nat.blt_eq.mpr (by omega)) ?_
  rintro v M2 ⟨rfl, hY2, hF⟩
  try dsimp only [set1, set2, kilP, List.set_cons_zero, List.set_cons_succ, List.getElem?_cons_zero, List.getElem?_cons_succ, List.nil_append, List.cons_append, Option.toList_some, Option.toList_none]
  repeat (first | refine es rfl rfl rfl ?_ | refine eg rfl (by assumption) rfl ?_ | refine ean rfl (by assumption) (by assumption) rfl ?_ | refine eal rfl (by assumption) (by assumption) rfl ?_ | refine eri rfl ?_ | refine erv rfl ?_ | refine erl rfl ?_ | refine era rfl ?_ | refine erz0 rfl ?_ | refine erz1 rfl ?_ | refine ean0 rfl (by assumption) (by assumption) rfl ?_ | refine ean8 rfl (by assumption) (by assumption) rfl ?_ | refine ean12 rfl (by assumption) (by assumption) rfl ?_ | refine ean7 rfl (by assumption) (by assumption) rfl ?_)
  try dsimp only [set1, set2, kilP, List.set_cons_zero, List.set_cons_succ, List.getElem?_cons_zero, List.getElem?_cons_succ, List.nil_append, List.cons_append, Option.toList_some, Option.toList_none]
  exact ⟨rfl, hY2, hF⟩
theorem y_grant (hY : YR M b σ) : EvM ad 1 (iX13_granted ad) [.ref b] M (fun v' M' => v' = some (.int 1) ∧ YR M' b (σ.wt 0) ∧ Fr b 1 M M') := by
  obtain ⟨o, A, hR⟩ := id hY
  have h0 := hR.1.1
  refine ⟨Nat.le_of_ble_eq_true rfl, ?_⟩
  show Ev ad _ (rX13_granted ad) (0, [some (.ref b)], [], M) _
  repeat (first | refine es rfl rfl rfl ?_ | refine eg rfl (by assumption) rfl ?_ | refine ean rfl (by assumption) (by assumption) rfl ?_ | refine eal rfl (by assumption) (by assumption) rfl ?_ | refine eri rfl ?_ | refine erv rfl ?_ | refine erl rfl ?_ | refine era rfl ?_ | refine erz0 rfl ?_ | refine erz1 rfl ?_ | refine ean0 rfl (by assumption) (by assumption) rfl ?_ | refine ean8 rfl (by assumption) (by assumption) rfl ?_ | refine ean12 rfl (by assumption) (by assumption) rfl ?_ | refine ean7 rfl (by assumption) (by assumption) rfl ?_)
  try dsimp only [set1, set2, kilP, List.set_cons_zero, List.set_cons_succ, List.getElem?_cons_zero, List.getElem?_cons_succ, List.nil_append, List.cons_append, Option.toList_some, Option.toList_none]
  refine ecv rfl rfl (by assumption) rfl rfl rfl (y_good hY) (by first | rfl | exact Nat.blt_eq.mpr (by omega)) ?_
  rintro v M2 ⟨rfl, hY2, hF⟩
  try dsimp only [set1, set2, kilP, List.set_cons_zero, List.set_cons_succ, List.getElem?_cons_zero, List.getElem?_cons_succ, List.nil_append, List.cons_append, Option.toList_some, Option.toList_none]
  repeat (first | refine es rfl rfl rfl ?_ | refine eg rfl (by assumption) rfl ?_ | refine ean rfl (by assumption) (by assumption) rfl ?_ | refine eal rfl (by assumption) (by assumption) rfl ?_ | refine eri rfl ?_ | refine erv rfl ?_ | refine erl rfl ?_ | refine era rfl ?_ | refine erz0 rfl ?_ | refine erz1 rfl ?_ | refine ean0 rfl (by assumption) (by assumption) rfl ?_ | refine ean8 rfl (by assumption) (by assumption) rfl ?_ | refine ean12 rfl (by assumption) (by assumption) rfl ?_ | refine ean7 rfl (by assumption) (by assumption) rfl ?_)
  try dsimp only [set1, set2, kilP, List.set_cons_zero, List.set_cons_succ, List.getElem?_cons_zero, List.getElem?_cons_succ, List.nil_append, List.cons_append, Option.toList_some, Option.toList_none]
  exact ⟨rfl, hY2, hF⟩
/-- a public call begins: nothing is thrown yet -/
theorem yEn {d : Nat} {rows : List (Nat × Ins)} {P : Option Value → Mm → Prop} {L : Lc} (r0 : rows.find? (fun q => q.1 == 0) = some (0, ns (faload 0 1))) (r1 : rows.find? (fun q => q.1 == 1) = some (1, ns (fPush (.int 0) 2))) (r2 : rows.find? (fun q => q.1 == 2) = some (2, pmW (fPut 13 0 (.int) 5))) (hY : YR M b σ) (k : ∀ M2, YR M2 b σ → Fr b 16 M M2 → (∃ o A, yR M2 b σ o A ∧ o.th = 0) → Ev ad d rows (5, some (.ref b) :: L, [], M2) P) : Ev ad d rows (0, some (.ref b) :: L, [], M) P := by
  obtain ⟨⟨⟨th, tr, wh⟩, tw, r, q⟩, A, hR⟩ := hY
  have h0 := hR.1.1
  refine es r0 rfl rfl ?_
  refine es r1 rfl rfl ?_
  refine epM (fs' := yF b ((0, tr, wh), tw, r, q)) r2 h0 rfl rfl rfl (fun M2 eM => ?_)
  have hF := (Fr.rf b 16 M).up eM (by omega) (by omega)
  have hR2 := hR.sc (hR.1.ob eM) hF rfl rfl rfl rfl rfl rfl
  exact k M2 ⟨_, _, hR2⟩ hF ⟨_, _, hR2, rfl⟩
/-- what a call of the reference leaves: the answer is the class's, and the state -/
def Pq (b : Nat) (M : Mm) (S : Option Value → Sg → Prop) : Option Value → Mm → Prop := fun v M' => (∀ v' σ', S v' σ' → v' = v ∧ YR M' b σ') ∧ Fr b 16 M M'
theorem Pq.an {M' : Mm} {x : Int32} (hY : YR M' b (σ.wt 0)) (hF : Fr b 16 M M') : Pq b M (an σ x) (some (.int x)) M' := ⟨fun v' σ' h => by obtain ⟨rfl, rfl⟩ := h; exact ⟨rfl, hY⟩, hF⟩
theorem Pq.rf {M' : Mm} {x : Int32} (hY : YR M' b (σ.wt x)) (hF : Fr b 16 M M') : Pq b M (rf σ x) (some (.int (-1))) M' := ⟨fun v' σ' h => by obtain ⟨rfl, rfl⟩ := h; exact ⟨rfl, hY⟩, hF⟩
theorem Pq.dn {M' : Mm} {x : Int32} (hY : YR M' b (σ.wt x)) (hF : Fr b 16 M M') : Pq b M (dn σ x) (some (.int 0)) M' := ⟨fun v' σ' h => by obtain ⟨rfl, rfl⟩ := h; exact ⟨rfl, hY⟩, hF⟩
theorem Pq.sm {M' : Mm} {x : Int32} (hY : YR M' b σ) (hF : Fr b 16 M M') : Pq b M (spSame σ x) (some (.int x)) M' := ⟨fun v' σ' h => by obtain ⟨rfl, rfl⟩ := h; exact ⟨rfl, hY⟩, hF⟩
theorem y_fault (hY : YR M b σ) : EvM ad 0 (iX13_fault ad) [.ref b] M (Pq b M (spSame σ σ.fn)) := by
  refine ⟨Nat.le_of_ble_eq_true rfl, ?_⟩
  show Ev ad _ (rX13_fault ad) (0, [some (.ref b)], [], M) _
  refine yEn rfl rfl rfl hY (fun M1 hY1 hF _ => ?_)
  obtain ⟨o, A, hR⟩ := id hY1
  have h0 := hR.1.1
  repeat (first | refine es rfl rfl rfl ?_ | refine eg rfl (by assumption) rfl ?_ | refine ean rfl (by assumption) (by assumption) rfl ?_ | refine eal rfl (by assumption) (by assumption) rfl ?_ | refine eri rfl ?_ | refine erv rfl ?_ | refine erl rfl ?_ | refine era rfl ?_ | refine erz0 rfl ?_ | refine erz1 rfl ?_ | refine ean0 rfl (by assumption) (by assumption) rfl ?_ | refine ean8 rfl (by assumption) (by assumption) rfl ?_ | refine ean12 rfl (by assumption) (by assumption) rfl ?_ | refine ean7 rfl (by assumption) (by assumption) rfl ?_)
  try dsimp only [set1, set2, kilP, List.set_cons_zero, List.set_cons_succ, List.getElem?_cons_zero, List.getElem?_cons_succ, List.nil_append, List.cons_append, Option.toList_some, Option.toList_none]
  rw [show o.r.fa = σ.fn from hR.2.2.2.2.1]
  exact Pq.sm hY1 hF
theorem y_where (hY : YR M b σ) : EvM ad 0 (iX13_where ad) [.ref b] M (Pq b M (spSame σ (if σ.tr = 4 then σ.fp else -1))) := by
  refine ⟨Nat.le_of_ble_eq_true rfl, ?_⟩
  show Ev ad _ (rX13_where ad) (0, [some (.ref b)], [], M) _
  refine yEn rfl rfl rfl hY (fun M1 hY1 hF _ => ?_)
  obtain ⟨o, A, hR⟩ := id hY1
  have h0 := hR.1.1
  repeat (first | refine es rfl rfl rfl ?_ | refine eg rfl (by assumption) rfl ?_ | refine ean rfl (by assumption) (by assumption) rfl ?_ | refine eal rfl (by assumption) (by assumption) rfl ?_ | refine eri rfl ?_ | refine erv rfl ?_ | refine erl rfl ?_ | refine era rfl ?_ | refine erz0 rfl ?_ | refine erz1 rfl ?_ | refine ean0 rfl (by assumption) (by assumption) rfl ?_ | refine ean8 rfl (by assumption) (by assumption) rfl ?_ | refine ean12 rfl (by assumption) (by assumption) rfl ?_ | refine ean7 rfl (by assumption) (by assumption) rfl ?_)
  try dsimp only [set1, set2, kilP, List.set_cons_zero, List.set_cons_succ, List.getElem?_cons_zero, List.getElem?_cons_succ, List.nil_append, List.cons_append, Option.toList_some, Option.toList_none]
  rw [show o.wh = (if σ.tr = 4 then σ.fp else -1) from hR.2.2.2.1]
  exact Pq.sm hY1 hF
theorem y_trouble (hY : YR M b σ) : EvM ad 0 (iX13_trouble ad) [.ref b] M (Pq b M (spSame σ σ.tr)) := by
  refine ⟨Nat.le_of_ble_eq_true rfl, ?_⟩
  show Ev ad _ (rX13_trouble ad) (0, [some (.ref b)], [], M) _
  refine yEn rfl rfl rfl hY (fun M1 hY1 hF _ => ?_)
  obtain ⟨o, A, hR⟩ := id hY1
  have h0 := hR.1.1
  repeat (first | refine es rfl rfl rfl ?_ | refine eg rfl (by assumption) rfl ?_ | refine ean rfl (by assumption) (by assumption) rfl ?_ | refine eal rfl (by assumption) (by assumption) rfl ?_ | refine eri rfl ?_ | refine erv rfl ?_ | refine erl rfl ?_ | refine era rfl ?_ | refine erz0 rfl ?_ | refine erz1 rfl ?_ | refine ean0 rfl (by assumption) (by assumption) rfl ?_ | refine ean8 rfl (by assumption) (by assumption) rfl ?_ | refine ean12 rfl (by assumption) (by assumption) rfl ?_ | refine ean7 rfl (by assumption) (by assumption) rfl ?_)
  try dsimp only [set1, set2, kilP, List.set_cons_zero, List.set_cons_succ, List.getElem?_cons_zero, List.getElem?_cons_succ, List.nil_append, List.cons_append, Option.toList_some, Option.toList_none]
  rw [show o.tr = σ.tr from hR.2.2.1]
  exact Pq.sm hY1 hF
theorem y_thrown {o : Yo} {A : Ar} (hR : yR M b σ o A) : Rd ad 0 (iX13_thrown ad) [.ref b] M (some (.int o.th)) := by
  have h0 := hR.1.1
  refine ⟨Nat.le_of_ble_eq_true rfl, ?_⟩
  show Ev ad _ (rX13_thrown ad) (0, [some (.ref b)], [], M) _
  repeat (first | refine es rfl rfl rfl ?_ | refine eg rfl (by assumption) rfl ?_ | refine ean rfl (by assumption) (by assumption) rfl ?_ | refine eal rfl (by assumption) (by assumption) rfl ?_ | refine eri rfl ?_ | refine erv rfl ?_ | refine erl rfl ?_ | refine era rfl ?_ | refine erz0 rfl ?_ | refine erz1 rfl ?_ | refine ean0 rfl (by assumption) (by assumption) rfl ?_ | refine ean8 rfl (by assumption) (by assumption) rfl ?_ | refine ean12 rfl (by assumption) (by assumption) rfl ?_ | refine ean7 rfl (by assumption) (by assumption) rfl ?_)
  try dsimp only [set1, set2, kilP, List.set_cons_zero, List.set_cons_succ, List.getElem?_cons_zero, List.getElem?_cons_succ, List.nil_append, List.cons_append, Option.toList_some, Option.toList_none]
  exact ⟨rfl, rfl⟩
theorem y_in {x l h : Int32} : Rd ad 0 (iX13_in ad) [.int x, .int l, .int h] M (some (.int (bI (l ≤ x ∧ x ≤ h)))) := by
  refine ⟨Nat.le_of_ble_eq_true rfl, ?_⟩
  show Ev ad _ (rX13_in ad) (0, [some (.int x), some (.int l), some (.int h)], [], M) _
  repeat (first | refine es rfl rfl rfl ?_ | refine eg rfl (by assumption) rfl ?_ | refine ean rfl (by assumption) (by assumption) rfl ?_ | refine eal rfl (by assumption) (by assumption) rfl ?_ | refine eri rfl ?_ | refine erv rfl ?_ | refine erl rfl ?_ | refine era rfl ?_ | refine erz0 rfl ?_ | refine erz1 rfl ?_ | refine ean0 rfl (by assumption) (by assumption) rfl ?_ | refine ean8 rfl (by assumption) (by assumption) rfl ?_ | refine ean12 rfl (by assumption) (by assumption) rfl ?_ | refine ean7 rfl (by assumption) (by assumption) rfl ?_)
  try dsimp only [set1, set2, kilP, List.set_cons_zero, List.set_cons_succ, List.getElem?_cons_zero, List.getElem?_cons_succ, List.nil_append, List.cons_append, Option.toList_some, Option.toList_none]
  refine ei _ rfl rfl (fun c => ?_) (fun c => ?_)
  · repeat (first | refine es rfl rfl rfl ?_ | refine eg rfl (by assumption) rfl ?_ | refine ean rfl (by assumption) (by assumption) rfl ?_ | refine eal rfl (by assumption) (by assumption) rfl ?_ | refine eri rfl ?_ | refine erv rfl ?_ | refine erl rfl ?_ | refine era rfl ?_ | refine erz0 rfl ?_ | refine erz1 rfl ?_ | refine ean0 rfl (by assumption) (by assumption) rfl ?_ | refine ean8 rfl (by assumption) (by assumption) rfl ?_ | refine ean12 rfl (by assumption) (by assumption) rfl ?_ | refine ean7 rfl (by assumption) (by assumption) rfl ?_)
    try dsimp only [set1, set2, kilP, List.set_cons_zero, List.set_cons_succ, List.getElem?_cons_zero, List.getElem?_cons_succ, List.nil_append, List.cons_append, Option.toList_some, Option.toList_none]
    rw [show bI (l ≤ x ∧ x ≤ h) = 0 from if_neg (fun q => Int32.not_le.mpr c q.1)]
    exact ⟨rfl, rfl⟩
  · repeat (first | refine es rfl rfl rfl ?_ | refine eg rfl (by assumption) rfl ?_ | refine ean rfl (by assumption) (by assumption) rfl ?_ | refine eal rfl (by assumption) (by assumption) rfl ?_ | refine eri rfl ?_ | refine erv rfl ?_ | refine erl rfl ?_ | refine era rfl ?_ | refine erz0 rfl ?_ | refine erz1 rfl ?_ | refine ean0 rfl (by assumption) (by assumption) rfl ?_ | refine ean8 rfl (by assumption) (by assumption) rfl ?_ | refine ean12 rfl (by assumption) (by assumption) rfl ?_ | refine ean7 rfl (by assumption) (by assumption) rfl ?_)
    try dsimp only [set1, set2, kilP, List.set_cons_zero, List.set_cons_succ, List.getElem?_cons_zero, List.getElem?_cons_succ, List.nil_append, List.cons_append, Option.toList_some, Option.toList_none]
    refine ei _ rfl rfl (fun c2 => ?_) (fun c2 => ?_)
    · repeat (first | refine es rfl rfl rfl ?_ | refine eg rfl (by assumption) rfl ?_ | refine ean rfl (by assumption) (by assumption) rfl ?_ | refine eal rfl (by assumption) (by assumption) rfl ?_ | refine eri rfl ?_ | refine erv rfl ?_ | refine erl rfl ?_ | refine era rfl ?_ | refine erz0 rfl ?_ | refine erz1 rfl ?_ | refine ean0 rfl (by assumption) (by assumption) rfl ?_ | refine ean8 rfl (by assumption) (by assumption) rfl ?_ | refine ean12 rfl (by assumption) (by assumption) rfl ?_ | refine ean7 rfl (by assumption) (by assumption) rfl ?_)
      try dsimp only [set1, set2, kilP, List.set_cons_zero, List.set_cons_succ, List.getElem?_cons_zero, List.getElem?_cons_succ, List.nil_append, List.cons_append, Option.toList_some, Option.toList_none]
      rw [show bI (l ≤ x ∧ x ≤ h) = 0 from if_neg (fun q => Int32.not_le.mpr c2 q.2)]
      exact ⟨rfl, rfl⟩
    · repeat (first | refine es rfl rfl rfl ?_ | refine eg rfl (by assumption) rfl ?_ | refine ean rfl (by assumption) (by assumption) rfl ?_ | refine eal rfl (by assumption) (by assumption) rfl ?_ | refine eri rfl ?_ | refine erv rfl ?_ | refine erl rfl ?_ | refine era rfl ?_ | refine erz0 rfl ?_ | refine erz1 rfl ?_ | refine ean0 rfl (by assumption) (by assumption) rfl ?_ | refine ean8 rfl (by assumption) (by assumption) rfl ?_ | refine ean12 rfl (by assumption) (by assumption) rfl ?_ | refine ean7 rfl (by assumption) (by assumption) rfl ?_)
      try dsimp only [set1, set2, kilP, List.set_cons_zero, List.set_cons_succ, List.getElem?_cons_zero, List.getElem?_cons_succ, List.nil_append, List.cons_append, Option.toList_some, Option.toList_none]
      rw [show bI (l ≤ x ∧ x ≤ h) = 1 from if_pos ⟨Int32.not_lt.mp c, Int32.not_lt.mp c2⟩]
      exact ⟨rfl, rfl⟩
theorem y_bit {x : Int32} {k : Nat} : Rd ad 0 (iX13_bit ad) [.int x, .int (nI k)] M (some (.int (bI (shutI x k = 1)))) := by
  refine ⟨Nat.le_of_ble_eq_true rfl, ?_⟩
  show Ev ad _ (rX13_bit ad) (0, [some (.int x), some (.int (nI k))], [], M) _
  repeat (first | refine es rfl rfl rfl ?_ | refine eg rfl (by assumption) rfl ?_ | refine ean rfl (by assumption) (by assumption) rfl ?_ | refine eal rfl (by assumption) (by assumption) rfl ?_ | refine eri rfl ?_ | refine erv rfl ?_ | refine erl rfl ?_ | refine era rfl ?_ | refine erz0 rfl ?_ | refine erz1 rfl ?_ | refine ean0 rfl (by assumption) (by assumption) rfl ?_ | refine ean8 rfl (by assumption) (by assumption) rfl ?_ | refine ean12 rfl (by assumption) (by assumption) rfl ?_ | refine ean7 rfl (by assumption) (by assumption) rfl ?_)
  try dsimp only [set1, set2, kilP, List.set_cons_zero, List.set_cons_succ, List.getElem?_cons_zero, List.getElem?_cons_succ, List.nil_append, List.cons_append, Option.toList_some, Option.toList_none]
  refine ei _ rfl rfl (fun c => ?_) (fun c => ?_)
  · repeat (first | refine es rfl rfl rfl ?_ | refine eg rfl (by assumption) rfl ?_ | refine ean rfl (by assumption) (by assumption) rfl ?_ | refine eal rfl (by assumption) (by assumption) rfl ?_ | refine eri rfl ?_ | refine erv rfl ?_ | refine erl rfl ?_ | refine era rfl ?_ | refine erz0 rfl ?_ | refine erz1 rfl ?_ | refine ean0 rfl (by assumption) (by assumption) rfl ?_ | refine ean8 rfl (by assumption) (by assumption) rfl ?_ | refine ean12 rfl (by assumption) (by assumption) rfl ?_ | refine ean7 rfl (by assumption) (by assumption) rfl ?_)
    try dsimp only [set1, set2, kilP, List.set_cons_zero, List.set_cons_succ, List.getElem?_cons_zero, List.getElem?_cons_succ, List.nil_append, List.cons_append, Option.toList_some, Option.toList_none]
    rw [show bI (shutI x k = 1) = 0 from if_neg c]
    exact ⟨rfl, rfl⟩
  · repeat (first | refine es rfl rfl rfl ?_ | refine eg rfl (by assumption) rfl ?_ | refine ean rfl (by assumption) (by assumption) rfl ?_ | refine eal rfl (by assumption) (by assumption) rfl ?_ | refine eri rfl ?_ | refine erv rfl ?_ | refine erl rfl ?_ | refine era rfl ?_ | refine erz0 rfl ?_ | refine erz1 rfl ?_ | refine ean0 rfl (by assumption) (by assumption) rfl ?_ | refine ean8 rfl (by assumption) (by assumption) rfl ?_ | refine ean12 rfl (by assumption) (by assumption) rfl ?_ | refine ean7 rfl (by assumption) (by assumption) rfl ?_)
    try dsimp only [set1, set2, kilP, List.set_cons_zero, List.set_cons_succ, List.getElem?_cons_zero, List.getElem?_cons_succ, List.nil_append, List.cons_append, Option.toList_some, Option.toList_none]
    rw [show bI (shutI x k = 1) = 1 from if_pos (Decidable.not_not.mp c)]
    exact ⟨rfl, rfl⟩
theorem y_isH {x : Int32} (hY : YR M b σ) : Rd ad 0 (iX13_isHouse ad) [.ref b, .int x] M (some (.int (bI (isH σ x)))) := by
  obtain ⟨⟨oa, ⟨tw, rd⟩, oq⟩, A, hR⟩ := hY
  have h0 := hR.1.1
  rcases hR.2.2.2.2.2.2.2.2.2 with ⟨n0, t0⟩ | ⟨n1, a, t0, a1, a2, ⟨kn, A2, B2, m0, _⟩, _⟩
  · replace t0 : tw = .null := t0
    subst t0
    refine ⟨Nat.le_of_ble_eq_true rfl, ?_⟩
    show Ev ad _ (rX13_isHouse ad) (0, [some (.ref b), some (.int x)], [], M) _
    repeat (first | refine es rfl rfl rfl ?_ | refine eg rfl (by assumption) rfl ?_ | refine ean rfl (by assumption) (by assumption) rfl ?_ | refine eal rfl (by assumption) (by assumption) rfl ?_ | refine eri rfl ?_ | refine erv rfl ?_ | refine erl rfl ?_ | refine era rfl ?_ | refine erz0 rfl ?_ | refine erz1 rfl ?_ | refine ean0 rfl (by assumption) (by assumption) rfl ?_ | refine ean8 rfl (by assumption) (by assumption) rfl ?_ | refine ean12 rfl (by assumption) (by assumption) rfl ?_ | refine ean7 rfl (by assumption) (by assumption) rfl ?_)
    try dsimp only [set1, set2, kilP, List.set_cons_zero, List.set_cons_succ, List.getElem?_cons_zero, List.getElem?_cons_succ, List.nil_append, List.cons_append, Option.toList_some, Option.toList_none]
    rw [show bI (isH σ x) = 0 from if_neg (fun q => Int32.not_le.mpr (show x < 0 by have := q.2; rw [n0] at this; exact this) q.1)]
    exact ⟨rfl, rfl⟩
  · replace t0 : tw = .ref a := t0
    subst t0
    refine ⟨Nat.le_of_ble_eq_true rfl, ?_⟩
    show Ev ad _ (rX13_isHouse ad) (0, [some (.ref b), some (.int x)], [], M) _
    repeat (first | refine es rfl rfl rfl ?_ | refine eg rfl (by assumption) rfl ?_ | refine ean rfl (by assumption) (by assumption) rfl ?_ | refine eal rfl (by assumption) (by assumption) rfl ?_ | refine eri rfl ?_ | refine erv rfl ?_ | refine erl rfl ?_ | refine era rfl ?_ | refine erz0 rfl ?_ | refine erz1 rfl ?_ | refine ean0 rfl (by assumption) (by assumption) rfl ?_ | refine ean8 rfl (by assumption) (by assumption) rfl ?_ | refine ean12 rfl (by assumption) (by assumption) rfl ?_ | refine ean7 rfl (by assumption) (by assumption) rfl ?_)
    try dsimp only [set1, set2, kilP, List.set_cons_zero, List.set_cons_succ, List.getElem?_cons_zero, List.getElem?_cons_succ, List.nil_append, List.cons_append, Option.toList_some, Option.toList_none]
    refine ei _ rfl rfl (fun c => ?_) (fun c => ?_)
    · repeat (first | refine es rfl rfl rfl ?_ | refine eg rfl (by assumption) rfl ?_ | refine ean rfl (by assumption) (by assumption) rfl ?_ | refine eal rfl (by assumption) (by assumption) rfl ?_ | refine eri rfl ?_ | refine erv rfl ?_ | refine erl rfl ?_ | refine era rfl ?_ | refine erz0 rfl ?_ | refine erz1 rfl ?_ | refine ean0 rfl (by assumption) (by assumption) rfl ?_ | refine ean8 rfl (by assumption) (by assumption) rfl ?_ | refine ean12 rfl (by assumption) (by assumption) rfl ?_ | refine ean7 rfl (by assumption) (by assumption) rfl ?_)
      try dsimp only [set1, set2, kilP, List.set_cons_zero, List.set_cons_succ, List.getElem?_cons_zero, List.getElem?_cons_succ, List.nil_append, List.cons_append, Option.toList_some, Option.toList_none]
      rw [show bI (isH σ x) = 0 from if_neg (fun q => Int32.not_le.mpr c q.1)]
      exact ⟨rfl, rfl⟩
    · repeat (first | refine es rfl rfl rfl ?_ | refine eg rfl (by assumption) rfl ?_ | refine ean rfl (by assumption) (by assumption) rfl ?_ | refine eal rfl (by assumption) (by assumption) rfl ?_ | refine eri rfl ?_ | refine erv rfl ?_ | refine erl rfl ?_ | refine era rfl ?_ | refine erz0 rfl ?_ | refine erz1 rfl ?_ | refine ean0 rfl (by assumption) (by assumption) rfl ?_ | refine ean8 rfl (by assumption) (by assumption) rfl ?_ | refine ean12 rfl (by assumption) (by assumption) rfl ?_ | refine ean7 rfl (by assumption) (by assumption) rfl ?_)
      try dsimp only [set1, set2, kilP, List.set_cons_zero, List.set_cons_succ, List.getElem?_cons_zero, List.getElem?_cons_succ, List.nil_append, List.cons_append, Option.toList_some, Option.toList_none]
      refine ei _ rfl rfl (fun c2 => ?_) (fun c2 => ?_)
      · repeat (first | refine es rfl rfl rfl ?_ | refine eg rfl (by assumption) rfl ?_ | refine ean rfl (by assumption) (by assumption) rfl ?_ | refine eal rfl (by assumption) (by assumption) rfl ?_ | refine eri rfl ?_ | refine erv rfl ?_ | refine erl rfl ?_ | refine era rfl ?_ | refine erz0 rfl ?_ | refine erz1 rfl ?_ | refine ean0 rfl (by assumption) (by assumption) rfl ?_ | refine ean8 rfl (by assumption) (by assumption) rfl ?_ | refine ean12 rfl (by assumption) (by assumption) rfl ?_ | refine ean7 rfl (by assumption) (by assumption) rfl ?_)
        try dsimp only [set1, set2, kilP, List.set_cons_zero, List.set_cons_succ, List.getElem?_cons_zero, List.getElem?_cons_succ, List.nil_append, List.cons_append, Option.toList_some, Option.toList_none]
        rw [show bI (isH σ x) = 0 from if_neg (fun q => Int32.not_le.mpr q.2 c2)]
        exact ⟨rfl, rfl⟩
      · repeat (first | refine es rfl rfl rfl ?_ | refine eg rfl (by assumption) rfl ?_ | refine ean rfl (by assumption) (by assumption) rfl ?_ | refine eal rfl (by assumption) (by assumption) rfl ?_ | refine eri rfl ?_ | refine erv rfl ?_ | refine erl rfl ?_ | refine era rfl ?_ | refine erz0 rfl ?_ | refine erz1 rfl ?_ | refine ean0 rfl (by assumption) (by assumption) rfl ?_ | refine ean8 rfl (by assumption) (by assumption) rfl ?_ | refine ean12 rfl (by assumption) (by assumption) rfl ?_ | refine ean7 rfl (by assumption) (by assumption) rfl ?_)
        try dsimp only [set1, set2, kilP, List.set_cons_zero, List.set_cons_succ, List.getElem?_cons_zero, List.getElem?_cons_succ, List.nil_append, List.cons_append, Option.toList_some, Option.toList_none]
        rw [show bI (isH σ x) = 1 from if_pos ⟨Int32.not_lt.mp c, Int32.not_le.mp c2⟩]
        exact ⟨rfl, rfl⟩
end YRL
