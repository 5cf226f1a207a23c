/-! The law's cases -/
def rC24 (ad : Nat → Nat) (b L : Nat) (xs : Nat → Int32) : List (Nat × Ins) := [(985, ns (faload 1 986)), (986, ns (faload 0 987)), (987, ns (fiload 4 989)), (989, ns (fPush (.int 1) 990)), (990, ns (fB (fun x y => x + y) 991)), (991, pmW (fSld b L xs 992)), (992, ns (faload 0 993)), (993, ns (fiload 4 995)), (995, ns (fPush (.int 2) 996)), (996, ns (fB (fun x y => x + y) 997)), (997, pmW (fSld b L xs 998)), (998, ns (fIf_eq 1005 1001)), (1001, ns (fPush (.int 1) 1002)), (1002, ns (fGoto 1006)), (1005, ns (fPush (.int 0) 1006)), (1006, fCv 147 2 11 1009), (1009, ns (faload 2 1010)), (1010, ns (faload 0 1011)), (1011, ns (fiload 4 1013)), (1013, ns (fPush (.int 1) 1014)), (1014, ns (fB (fun x y => x + y) 1015)), (1015, pmW (fSld b L xs 1016)), (1016, ns (faload 0 1017)), (1017, ns (fiload 4 1019)), (1019, ns (fPush (.int 2) 1020)), (1020, ns (fB (fun x y => x + y) 1021)), (1021, pmW (fSld b L xs 1022)), (1022, ns (fIf_eq 1029 1025)), (1025, ns (fPush (.int 1) 1026)), (1026, ns (fGoto 1030)), (1029, ns (fPush (.int 0) 1030)), (1030, fCv 277 2 13 1033), (1033, ns (fLcmp 1034)), (1034, ns (fIf_eq 1686 1037)), (1037, ns (fPush (.int 0) 1038)), (1038, fRz)]
set_option maxRecDepth 20000 in
theorem vC24 {X : Cxt} {ad : Nat → Nat} {b L : Nat} {xs : Nat → Int32} (hC : pmC X code 7 RL "law" ad) (hx : va_X b L xs X.St X.St.heap) (hbl : b < X.St.heap.size) (hbA : ¬ X.Ow b) : ∀ q ∈ rC24 ad b L xs, (pmN q ∧ pmO2 (mtb ad) X 7 q) ∧ noN q := by
  unfold rC24
  exact fa_c ((ok_aload_n (ret := some .boolean) (j := 1) (by decide +kernel) rfl).o3 hC) (fa_c ((ok_aload_n (ret := some .boolean) (j := 0) (by decide +kernel) rfl).o3 hC) (fa_c ((ok_iload (ret := some .boolean) (by decide +kernel)).o3 hC) (fa_c ((ok_iconst (ret := some .boolean) (n := 1) (by decide +kernel) (by decide)).o3 hC) (fa_c ((ok_iadd (ret := some .boolean) (by decide +kernel)).o3 hC) (fa_c (ok_sld3 (pc := 991) hC hx hbl hbA (by decide +kernel)) (fa_c ((ok_aload_n (ret := some .boolean) (j := 0) (by decide +kernel) rfl).o3 hC) (fa_c ((ok_iload (ret := some .boolean) (by decide +kernel)).o3 hC) (fa_c ((ok_iconst (ret := some .boolean) (n := 2) (by decide +kernel) (by decide)).o3 hC) (fa_c ((ok_iadd (ret := some .boolean) (by decide +kernel)).o3 hC) (fa_c (ok_sld3 (pc := 997) hC hx hbl hbA (by decide +kernel)) (fa_c ((ok_If_eq (ret := some .boolean) (off := 7) (t := 1005) (by decide +kernel) (by decide)).o3 hC) (fa_c ((ok_iconst (ret := some .boolean) (n := 1) (by decide +kernel) (by decide)).o3 hC) (fa_c ((ok_goto (ret := some .boolean) (off := 4) (t := 1006) (by decide +kernel) (by decide)).o3 hC) (fa_c ((ok_iconst (ret := some .boolean) (n := 0) (by decide +kernel) (by decide)).o3 hC) (fa_c ((ok_callv (ret := some .boolean) (ix := 121) (i := iX11_net ad) (C := RX11) (T := TX11) (by decide +kernel) rfl clX11 rfl (caX11_net ad) wt974 wt975 wt976).o3 hC) (fa_c ((ok_aload_n (ret := some .boolean) (j := 2) (by decide +kernel) rfl).o3 hC) (fa_c ((ok_aload_n (ret := some .boolean) (j := 0) (by decide +kernel) rfl).o3 hC) (fa_c ((ok_iload (ret := some .boolean) (by decide +kernel)).o3 hC) (fa_c ((ok_iconst (ret := some .boolean) (n := 1) (by decide +kernel) (by decide)).o3 hC) (fa_c ((ok_iadd (ret := some .boolean) (by decide +kernel)).o3 hC) (fa_c (ok_sld3 (pc := 1015) hC hx hbl hbA (by decide +kernel)) (fa_c ((ok_aload_n (ret := some .boolean) (j := 0) (by decide +kernel) rfl).o3 hC) (fa_c ((ok_iload (ret := some .boolean) (by decide +kernel)).o3 hC) (fa_c ((ok_iconst (ret := some .boolean) (n := 2) (by decide +kernel) (by decide)).o3 hC) (fa_c ((ok_iadd (ret := some .boolean) (by decide +kernel)).o3 hC) (fa_c (ok_sld3 (pc := 1021) hC hx hbl hbA (by decide +kernel)) (fa_c ((ok_If_eq (ret := some .boolean) (off := 7) (t := 1029) (by decide +kernel) (by decide)).o3 hC) (fa_c ((ok_iconst (ret := some .boolean) (n := 1) (by decide +kernel) (by decide)).o3 hC) (fa_c ((ok_goto (ret := some .boolean) (off := 4) (t := 1030) (by decide +kernel) (by decide)).o3 hC) (fa_c ((ok_iconst (ret := some .boolean) (n := 0) (by decide +kernel) (by decide)).o3 hC) (fa_c ((ok_callv (ret := some .boolean) (ix := 124) (i := iX13_net ad) (C := RX13) (T := TX13) (by decide +kernel) rfl clX13 rfl (caX13_net ad) wt1898 wt1899 wt1900).o3 hC) (fa_c ((ok_lcmp (ret := some .boolean) (by decide +kernel)).o3 hC) (fa_c ((ok_If_eq (ret := some .boolean) (off := 652) (t := 1686) (by decide +kernel) (by decide)).o3 hC) (fa_c ((ok_iconst (ret := some .boolean) (n := 0) (by decide +kernel) (by decide)).o3 hC) (fa_c ((ok_rz (ret := some .boolean) (by decide +kernel) rfl).o3 hC) (fa_n))))))))))))))))))))))))))))))))))))
theorem lc24 {ad : Nat → Nat} {b L : Nat} {xs : Nat → Int32} {h C i : Nat} {M : Mm} {σ : Sg} (hI : lwI ad h M σ C) (hc : C + 1 ≤ 600) (hi : i + 6 ≤ L) (hL : L ≤ 3072) : Ev ad 20 (rC24 ad b L xs ++ [(1686, fHd b h (h + 73) (h + 89) (nI i))]) (985, [some (.ref b), some (.ref h), some (.ref (h + 73)), some (.ref (h + 89)), some (.int (nI i)), none, none], [], M) (lwP ad h C) := by
  obtain ⟨hX, hY, hIv, hS, ⟨fo, ho⟩, hz1, hz2, hz3⟩ := id hI
  obtain ⟨tb, sp, hts, h0, _⟩ := id hX
  unfold xTop at h0
  repeat (first | refine es rfl rfl rfl ?_ | refine eslw rfl (by first | exact ixa1 _ | exact ixa2 _ | exact ixa3 _ | exact ixa4 _ | exact ixa5 _) ⟨by omega, hL⟩ ?_ | refine ehd rfl ?_)
  try dsimp only [set1, set2, kilP, List.set_cons_zero, List.set_cons_succ, List.getElem?_cons_zero, List.getElem?_cons_succ, List.nil_append, List.cons_append, Option.toList_some, Option.toList_none]
  refine ei _ rfl rfl (fun c1 => ?_) (fun c1 => ?_)
  · repeat (first | refine es rfl rfl rfl ?_ | refine eslw rfl (by first | exact ixa1 _ | exact ixa2 _ | exact ixa3 _ | exact ixa4 _ | exact ixa5 _) ⟨by omega, hL⟩ ?_ | refine ehd rfl ?_)
    try dsimp only [set1, set2, kilP, List.set_cons_zero, List.set_cons_succ, List.getElem?_cons_zero, List.getElem?_cons_succ, List.nil_append, List.cons_append, Option.toList_some, Option.toList_none]
    refine ecv rfl rfl (by assumption) rfl rfl rfl (x_net hX hIv) (by first | rfl | exact Nat.blt_eq.mpr (by omega)) ?_
    rintro v M1 ⟨σ', hsp, hX1, hF1⟩
    obtain ⟨a, rfl⟩ := spNet_L hsp
    have hY1 := hY.lo hF1 (by omega)
    obtain ⟨oy, Ay, hRy⟩ := id hY1
    have y0 := hRy.1.1
    try dsimp only [set1, set2, kilP, List.set_cons_zero, List.set_cons_succ, List.getElem?_cons_zero, List.getElem?_cons_succ, List.nil_append, List.cons_append, Option.toList_some, Option.toList_none]
    repeat (first | refine es rfl rfl rfl ?_ | refine eslw rfl (by first | exact ixa1 _ | exact ixa2 _ | exact ixa3 _ | exact ixa4 _ | exact ixa5 _) ⟨by omega, hL⟩ ?_ | refine ehd rfl ?_)
    try dsimp only [set1, set2, kilP, List.set_cons_zero, List.set_cons_succ, List.getElem?_cons_zero, List.getElem?_cons_succ, List.nil_append, List.cons_append, Option.toList_some, Option.toList_none]
    refine ei _ rfl rfl (fun c2 => ?_) (fun c2 => ?_)
    · repeat (first | refine es rfl rfl rfl ?_ | refine eslw rfl (by first | exact ixa1 _ | exact ixa2 _ | exact ixa3 _ | exact ixa4 _ | exact ixa5 _) ⟨by omega, hL⟩ ?_ | refine ehd rfl ?_)
      try dsimp only [set1, set2, kilP, List.set_cons_zero, List.set_cons_succ, List.getElem?_cons_zero, List.getElem?_cons_succ, List.nil_append, List.cons_append, Option.toList_some, Option.toList_none]
      refine ecv rfl rfl (by assumption) rfl rfl rfl (y_net hY1 hIv) (by first | rfl | exact Nat.blt_eq.mpr (by omega)) ?_
      rintro v M2 ⟨hq, hF2⟩
      obtain ⟨rfl, hY2⟩ := hq _ _ hsp
      try dsimp only [set1, set2, kilP, List.set_cons_zero, List.set_cons_succ, List.getElem?_cons_zero, List.getElem?_cons_succ, List.nil_append, List.cons_append, Option.toList_some, Option.toList_none]
      refine es rfl rfl rfl ?_
      refine ei _ rfl rfl (fun c9 => ?_) (fun c9 => ?_)
      · repeat (first | refine es rfl rfl rfl ?_ | refine eslw rfl (by first | exact ixa1 _ | exact ixa2 _ | exact ixa3 _ | exact ixa4 _ | exact ixa5 _) ⟨by omega, hL⟩ ?_ | refine ehd rfl ?_)
        exact ⟨rfl, σ', hI.st hF1 hX1 hF2 hY2 (spNet_I hIv hc hsp)⟩
      · exact absurd (lg_cs a) c9
    · exact absurd c1 c2
  · repeat (first | refine es rfl rfl rfl ?_ | refine eslw rfl (by first | exact ixa1 _ | exact ixa2 _ | exact ixa3 _ | exact ixa4 _ | exact ixa5 _) ⟨by omega, hL⟩ ?_ | refine ehd rfl ?_)
    try dsimp only [set1, set2, kilP, List.set_cons_zero, List.set_cons_succ, List.getElem?_cons_zero, List.getElem?_cons_succ, List.nil_append, List.cons_append, Option.toList_some, Option.toList_none]
    refine ecv rfl rfl (by assumption) rfl rfl rfl (x_net hX hIv) (by first | rfl | exact Nat.blt_eq.mpr (by omega)) ?_
    rintro v M1 ⟨σ', hsp, hX1, hF1⟩
    obtain ⟨a, rfl⟩ := spNet_L hsp
    have hY1 := hY.lo hF1 (by omega)
    obtain ⟨oy, Ay, hRy⟩ := id hY1
    have y0 := hRy.1.1
    try dsimp only [set1, set2, kilP, List.set_cons_zero, List.set_cons_succ, List.getElem?_cons_zero, List.getElem?_cons_succ, List.nil_append, List.cons_append, Option.toList_some, Option.toList_none]
    repeat (first | refine es rfl rfl rfl ?_ | refine eslw rfl (by first | exact ixa1 _ | exact ixa2 _ | exact ixa3 _ | exact ixa4 _ | exact ixa5 _) ⟨by omega, hL⟩ ?_ | refine ehd rfl ?_)
    try dsimp only [set1, set2, kilP, List.set_cons_zero, List.set_cons_succ, List.getElem?_cons_zero, List.getElem?_cons_succ, List.nil_append, List.cons_append, Option.toList_some, Option.toList_none]
    refine ei _ rfl rfl (fun c2 => ?_) (fun c2 => ?_)
    · exact absurd c2 c1
    · repeat (first | refine es rfl rfl rfl ?_ | refine eslw rfl (by first | exact ixa1 _ | exact ixa2 _ | exact ixa3 _ | exact ixa4 _ | exact ixa5 _) ⟨by omega, hL⟩ ?_ | refine ehd rfl ?_)
      try dsimp only [set1, set2, kilP, List.set_cons_zero, List.set_cons_succ, List.getElem?_cons_zero, List.getElem?_cons_succ, List.nil_append, List.cons_append, Option.toList_some, Option.toList_none]
      refine ecv rfl rfl (by assumption) rfl rfl rfl (y_net hY1 hIv) (by first | rfl | exact Nat.blt_eq.mpr (by omega)) ?_
      rintro v M2 ⟨hq, hF2⟩
      obtain ⟨rfl, hY2⟩ := hq _ _ hsp
      try dsimp only [set1, set2, kilP, List.set_cons_zero, List.set_cons_succ, List.getElem?_cons_zero, List.getElem?_cons_succ, List.nil_append, List.cons_append, Option.toList_some, Option.toList_none]
      refine es rfl rfl rfl ?_
      refine ei _ rfl rfl (fun c9 => ?_) (fun c9 => ?_)
      · repeat (first | refine es rfl rfl rfl ?_ | refine eslw rfl (by first | exact ixa1 _ | exact ixa2 _ | exact ixa3 _ | exact ixa4 _ | exact ixa5 _) ⟨by omega, hL⟩ ?_ | refine ehd rfl ?_)
        exact ⟨rfl, σ', hI.st hF1 hX1 hF2 hY2 (spNet_I hIv hc hsp)⟩
      · exact absurd (lg_cs a) c9
def rC25 (ad : Nat → Nat) (b L : Nat) (xs : Nat → Int32) : List (Nat × Ins) := [(1039, ns (faload 1 1040)), (1040, fCv 148 0 11 1043), (1043, ns (faload 2 1044)), (1044, fCv 278 0 13 1047), (1047, ns (fIc_eq 1686 1050)), (1050, ns (fPush (.int 0) 1051)), (1051, fRz)]
set_option maxRecDepth 20000 in
theorem vC25 {X : Cxt} {ad : Nat → Nat} {b L : Nat} {xs : Nat → Int32} (hC : pmC X code 7 RL "law" ad) (hx : va_X b L xs X.St X.St.heap) (hbl : b < X.St.heap.size) (hbA : ¬ X.Ow b) : ∀ q ∈ rC25 ad b L xs, (pmN q ∧ pmO2 (mtb ad) X 7 q) ∧ noN q := by
  unfold rC25
  exact fa_c ((ok_aload_n (ret := some .boolean) (j := 1) (by decide +kernel) rfl).o3 hC) (fa_c ((ok_callv (ret := some .boolean) (ix := 125) (i := iX11_debtor ad) (C := RX11) (T := TX11) (by decide +kernel) rfl clX11 rfl (caX11_debtor ad) wt979 wt980 wt981).o3 hC) (fa_c ((ok_aload_n (ret := some .boolean) (j := 2) (by decide +kernel) rfl).o3 hC) (fa_c ((ok_callv (ret := some .boolean) (ix := 128) (i := iX13_debtor ad) (C := RX13) (T := TX13) (by decide +kernel) rfl clX13 rfl (caX13_debtor ad) wt1903 wt1904 wt1905).o3 hC) (fa_c ((ok_Ic_eq (ret := some .boolean) (off := 639) (t := 1686) (by decide +kernel) (by decide)).o3 hC) (fa_c ((ok_iconst (ret := some .boolean) (n := 0) (by decide +kernel) (by decide)).o3 hC) (fa_c ((ok_rz (ret := some .boolean) (by decide +kernel) rfl).o3 hC) (fa_n)))))))
theorem lc25 {ad : Nat → Nat} {b L : Nat} {xs : Nat → Int32} {h C i : Nat} {M : Mm} {σ : Sg} (hI : lwI ad h M σ C) (hc : C + 1 ≤ 600) (hi : i + 6 ≤ L) (hL : L ≤ 3072) : Ev ad 20 (rC25 ad b L xs ++ [(1686, fHd b h (h + 73) (h + 89) (nI i))]) (1039, [some (.ref b), some (.ref h), some (.ref (h + 73)), some (.ref (h + 89)), some (.int (nI i)), none, none], [], M) (lwP ad h C) := by
  obtain ⟨hX, hY, hIv, hS, ⟨fo, ho⟩, hz1, hz2, hz3⟩ := id hI
  obtain ⟨tb, sp, hts, h0, _⟩ := id hX
  unfold xTop at h0
  repeat (first | refine es rfl rfl rfl ?_ | refine eslw rfl (by first | exact ixa1 _ | exact ixa2 _ | exact ixa3 _ | exact ixa4 _ | exact ixa5 _) ⟨by omega, hL⟩ ?_ | refine ehd rfl ?_)
  try dsimp only [set1, set2, kilP, List.set_cons_zero, List.set_cons_succ, List.getElem?_cons_zero, List.getElem?_cons_succ, List.nil_append, List.cons_append, Option.toList_some, Option.toList_none]
  refine ecv rfl rfl (by assumption) rfl rfl rfl (x_debtor hX hIv) (by first | rfl | exact Nat.blt_eq.mpr (by omega)) ?_
  rintro v M1 ⟨σ', hsp, hX1, hF1⟩
  obtain ⟨a, rfl⟩ := spDebtor_V hsp
  have hY1 := hY.lo hF1 (by omega)
  obtain ⟨oy, Ay, hRy⟩ := id hY1
  have y0 := hRy.1.1
  try dsimp only [set1, set2, kilP, List.set_cons_zero, List.set_cons_succ, List.getElem?_cons_zero, List.getElem?_cons_succ, List.nil_append, List.cons_append, Option.toList_some, Option.toList_none]
  repeat (first | refine es rfl rfl rfl ?_ | refine eslw rfl (by first | exact ixa1 _ | exact ixa2 _ | exact ixa3 _ | exact ixa4 _ | exact ixa5 _) ⟨by omega, hL⟩ ?_ | refine ehd rfl ?_)
  try dsimp only [set1, set2, kilP, List.set_cons_zero, List.set_cons_succ, List.getElem?_cons_zero, List.getElem?_cons_succ, List.nil_append, List.cons_append, Option.toList_some, Option.toList_none]
  refine ecv rfl rfl (by assumption) rfl rfl rfl (y_debtor hY1 hIv) (by first | rfl | exact Nat.blt_eq.mpr (by omega)) ?_
  rintro v M2 ⟨hq, hF2⟩
  obtain ⟨rfl, hY2⟩ := hq _ _ hsp
  try dsimp only [set1, set2, kilP, List.set_cons_zero, List.set_cons_succ, List.getElem?_cons_zero, List.getElem?_cons_succ, List.nil_append, List.cons_append, Option.toList_some, Option.toList_none]
  refine ei _ rfl rfl (fun c9 => ?_) (fun c9 => ?_)
  · repeat (first | refine es rfl rfl rfl ?_ | refine eslw rfl (by first | exact ixa1 _ | exact ixa2 _ | exact ixa3 _ | exact ixa4 _ | exact ixa5 _) ⟨by omega, hL⟩ ?_ | refine ehd rfl ?_)
    exact ⟨rfl, σ', hI.st hF1 hX1 hF2 hY2 (spDebtor_I hIv hc hsp)⟩
  · exact absurd rfl c9
def rC26 (ad : Nat → Nat) (b L : Nat) (xs : Nat → Int32) : List (Nat × Ins) := [(1052, ns (faload 1 1053)), (1053, fCv 153 0 11 1056), (1056, ns (faload 2 1057)), (1057, fCv 283 0 13 1060), (1060, ns (fIc_eq 1686 1063)), (1063, ns (fPush (.int 0) 1064)), (1064, fRz)]
set_option maxRecDepth 20000 in
theorem vC26 {X : Cxt} {ad : Nat → Nat} {b L : Nat} {xs : Nat → Int32} (hC : pmC X code 7 RL "law" ad) (hx : va_X b L xs X.St X.St.heap) (hbl : b < X.St.heap.size) (hbA : ¬ X.Ow b) : ∀ q ∈ rC26 ad b L xs, (pmN q ∧ pmO2 (mtb ad) X 7 q) ∧ noN q := by
  unfold rC26
  exact fa_c ((ok_aload_n (ret := some .boolean) (j := 1) (by decide +kernel) rfl).o3 hC) (fa_c ((ok_callv (ret := some .boolean) (ix := 129) (i := iX11_paired ad) (C := RX11) (T := TX11) (by decide +kernel) rfl clX11 rfl (caX11_paired ad) wt983 wt984 wt985).o3 hC) (fa_c ((ok_aload_n (ret := some .boolean) (j := 2) (by decide +kernel) rfl).o3 hC) (fa_c ((ok_callv (ret := some .boolean) (ix := 132) (i := iX13_paired ad) (C := RX13) (T := TX13) (by decide +kernel) rfl clX13 rfl (caX13_paired ad) wt1907 wt1908 wt1909).o3 hC) (fa_c ((ok_Ic_eq (ret := some .boolean) (off := 626) (t := 1686) (by decide +kernel) (by decide)).o3 hC) (fa_c ((ok_iconst (ret := some .boolean) (n := 0) (by decide +kernel) (by decide)).o3 hC) (fa_c ((ok_rz (ret := some .boolean) (by decide +kernel) rfl).o3 hC) (fa_n)))))))
theorem lc26 {ad : Nat → Nat} {b L : Nat} {xs : Nat → Int32} {h C i : Nat} {M : Mm} {σ : Sg} (hI : lwI ad h M σ C) (hc : C + 1 ≤ 600) (hi : i + 6 ≤ L) (hL : L ≤ 3072) : Ev ad 20 (rC26 ad b L xs ++ [(1686, fHd b h (h + 73) (h + 89) (nI i))]) (1052, [some (.ref b), some (.ref h), some (.ref (h + 73)), some (.ref (h + 89)), some (.int (nI i)), none, none], [], M) (lwP ad h C) := by
  obtain ⟨hX, hY, hIv, hS, ⟨fo, ho⟩, hz1, hz2, hz3⟩ := id hI
  obtain ⟨tb, sp, hts, h0, _⟩ := id hX
  unfold xTop at h0
  repeat (first | refine es rfl rfl rfl ?_ | refine eslw rfl (by first | exact ixa1 _ | exact ixa2 _ | exact ixa3 _ | exact ixa4 _ | exact ixa5 _) ⟨by omega, hL⟩ ?_ | refine ehd rfl ?_)
  try dsimp only [set1, set2, kilP, List.set_cons_zero, List.set_cons_succ, List.getElem?_cons_zero, List.getElem?_cons_succ, List.nil_append, List.cons_append, Option.toList_some, Option.toList_none]
  refine ecv rfl rfl (by assumption) rfl rfl rfl (x_paired hX hIv) (by first | rfl | exact Nat.blt_eq.mpr (by omega)) ?_
  rintro v M1 ⟨σ', hsp, hX1, hF1⟩
  obtain ⟨a, rfl⟩ := spSw_V hsp
  have hY1 := hY.lo hF1 (by omega)
  obtain ⟨oy, Ay, hRy⟩ := id hY1
  have y0 := hRy.1.1
  try dsimp only [set1, set2, kilP, List.set_cons_zero, List.set_cons_succ, List.getElem?_cons_zero, List.getElem?_cons_succ, List.nil_append, List.cons_append, Option.toList_some, Option.toList_none]
  repeat (first | refine es rfl rfl rfl ?_ | refine eslw rfl (by first | exact ixa1 _ | exact ixa2 _ | exact ixa3 _ | exact ixa4 _ | exact ixa5 _) ⟨by omega, hL⟩ ?_ | refine ehd rfl ?_)
  try dsimp only [set1, set2, kilP, List.set_cons_zero, List.set_cons_succ, List.getElem?_cons_zero, List.getElem?_cons_succ, List.nil_append, List.cons_append, Option.toList_some, Option.toList_none]
  refine ecv rfl rfl (by assumption) rfl rfl rfl (y_paired hY1 hIv) (by first | rfl | exact Nat.blt_eq.mpr (by omega)) ?_
  rintro v M2 ⟨hq, hF2⟩
  obtain ⟨rfl, hY2⟩ := hq _ _ hsp
  try dsimp only [set1, set2, kilP, List.set_cons_zero, List.set_cons_succ, List.getElem?_cons_zero, List.getElem?_cons_succ, List.nil_append, List.cons_append, Option.toList_some, Option.toList_none]
  refine ei _ rfl rfl (fun c9 => ?_) (fun c9 => ?_)
  · repeat (first | refine es rfl rfl rfl ?_ | refine eslw rfl (by first | exact ixa1 _ | exact ixa2 _ | exact ixa3 _ | exact ixa4 _ | exact ixa5 _) ⟨by omega, hL⟩ ?_ | refine ehd rfl ?_)
    exact ⟨rfl, σ', hI.st hF1 hX1 hF2 hY2 (spSw_I hIv hc hsp)⟩
  · exact absurd rfl c9
def rC27 (ad : Nat → Nat) (b L : Nat) (xs : Nat → Int32) : List (Nat × Ins) := [(1065, ns (faload 1 1066)), (1066, fCv 154 0 11 1069), (1069, ns (faload 2 1070)), (1070, fCv 284 0 13 1073), (1073, ns (fIc_eq 1686 1076)), (1076, ns (fPush (.int 0) 1077)), (1077, fRz)]
set_option maxRecDepth 20000 in
theorem vC27 {X : Cxt} {ad : Nat → Nat} {b L : Nat} {xs : Nat → Int32} (hC : pmC X code 7 RL "law" ad) (hx : va_X b L xs X.St X.St.heap) (hbl : b < X.St.heap.size) (hbA : ¬ X.Ow b) : ∀ q ∈ rC27 ad b L xs, (pmN q ∧ pmO2 (mtb ad) X 7 q) ∧ noN q := by
  unfold rC27
  exact fa_c ((ok_aload_n (ret := some .boolean) (j := 1) (by decide +kernel) rfl).o3 hC) (fa_c ((ok_callv (ret := some .boolean) (ix := 133) (i := iX11_fewest ad) (C := RX11) (T := TX11) (by decide +kernel) rfl clX11 rfl (caX11_fewest ad) wt1029 wt1030 wt1031).o3 hC) (fa_c ((ok_aload_n (ret := some .boolean) (j := 2) (by decide +kernel) rfl).o3 hC) (fa_c ((ok_callv (ret := some .boolean) (ix := 136) (i := iX13_fewest ad) (C := RX13) (T := TX13) (by decide +kernel) rfl clX13 rfl (caX13_fewest ad) wt1936 wt1937 wt1938).o3 hC) (fa_c ((ok_Ic_eq (ret := some .boolean) (off := 613) (t := 1686) (by decide +kernel) (by decide)).o3 hC) (fa_c ((ok_iconst (ret := some .boolean) (n := 0) (by decide +kernel) (by decide)).o3 hC) (fa_c ((ok_rz (ret := some .boolean) (by decide +kernel) rfl).o3 hC) (fa_n)))))))
theorem lc27 {ad : Nat → Nat} {b L : Nat} {xs : Nat → Int32} {h C i : Nat} {M : Mm} {σ : Sg} (hI : lwI ad h M σ C) (hc : C + 1 ≤ 600) (hi : i + 6 ≤ L) (hL : L ≤ 3072) : Ev ad 20 (rC27 ad b L xs ++ [(1686, fHd b h (h + 73) (h + 89) (nI i))]) (1065, [some (.ref b), some (.ref h), some (.ref (h + 73)), some (.ref (h + 89)), some (.int (nI i)), none, none], [], M) (lwP ad h C) := by
  obtain ⟨hX, hY, hIv, hS, ⟨fo, ho⟩, hz1, hz2, hz3⟩ := id hI
  obtain ⟨tb, sp, hts, h0, _⟩ := id hX
  unfold xTop at h0
  repeat (first | refine es rfl rfl rfl ?_ | refine eslw rfl (by first | exact ixa1 _ | exact ixa2 _ | exact ixa3 _ | exact ixa4 _ | exact ixa5 _) ⟨by omega, hL⟩ ?_ | refine ehd rfl ?_)
  try dsimp only [set1, set2, kilP, List.set_cons_zero, List.set_cons_succ, List.getElem?_cons_zero, List.getElem?_cons_succ, List.nil_append, List.cons_append, Option.toList_some, Option.toList_none]
  refine ecv rfl rfl (by assumption) rfl rfl rfl (x_fewest hX hIv) (by first | rfl | exact Nat.blt_eq.mpr (by omega)) ?_
  rintro v M1 ⟨σ', hsp, hX1, hF1⟩
  obtain ⟨a, rfl⟩ := spSw_V hsp
  have hY1 := hY.lo hF1 (by omega)
  obtain ⟨oy, Ay, hRy⟩ := id hY1
  have y0 := hRy.1.1
  try dsimp only [set1, set2, kilP, List.set_cons_zero, List.set_cons_succ, List.getElem?_cons_zero, List.getElem?_cons_succ, List.nil_append, List.cons_append, Option.toList_some, Option.toList_none]
  repeat (first | refine es rfl rfl rfl ?_ | refine eslw rfl (by first | exact ixa1 _ | exact ixa2 _ | exact ixa3 _ | exact ixa4 _ | exact ixa5 _) ⟨by omega, hL⟩ ?_ | refine ehd rfl ?_)
  try dsimp only [set1, set2, kilP, List.set_cons_zero, List.set_cons_succ, List.getElem?_cons_zero, List.getElem?_cons_succ, List.nil_append, List.cons_append, Option.toList_some, Option.toList_none]
  refine ecv rfl rfl (by assumption) rfl rfl rfl (y_fewest hY1 hIv) (by first | rfl | exact Nat.blt_eq.mpr (by omega)) ?_
  rintro v M2 ⟨hq, hF2⟩
  obtain ⟨rfl, hY2⟩ := hq _ _ hsp
  try dsimp only [set1, set2, kilP, List.set_cons_zero, List.set_cons_succ, List.getElem?_cons_zero, List.getElem?_cons_succ, List.nil_append, List.cons_append, Option.toList_some, Option.toList_none]
  refine ei _ rfl rfl (fun c9 => ?_) (fun c9 => ?_)
  · repeat (first | refine es rfl rfl rfl ?_ | refine eslw rfl (by first | exact ixa1 _ | exact ixa2 _ | exact ixa3 _ | exact ixa4 _ | exact ixa5 _) ⟨by omega, hL⟩ ?_ | refine ehd rfl ?_)
    exact ⟨rfl, σ', hI.st hF1 hX1 hF2 hY2 (spSw_I hIv hc hsp)⟩
  · exact absurd rfl c9
def rC28 (ad : Nat → Nat) (b L : Nat) (xs : Nat → Int32) : List (Nat × Ins) := [(1078, ns (faload 1 1079)), (1079, ns (faload 0 1080)), (1080, ns (fiload 4 1082)), (1082, ns (fPush (.int 1) 1083)), (1083, ns (fB (fun x y => x + y) 1084)), (1084, pmW (fSld b L xs 1085)), (1085, fCv 155 1 11 1088), (1088, ns (faload 2 1089)), (1089, ns (faload 0 1090)), (1090, ns (fiload 4 1092)), (1092, ns (fPush (.int 1) 1093)), (1093, ns (fB (fun x y => x + y) 1094)), (1094, pmW (fSld b L xs 1095)), (1095, fCv 285 1 13 1098), (1098, ns (fIc_eq 1686 1101)), (1101, ns (fPush (.int 0) 1102)), (1102, fRz)]
set_option maxRecDepth 20000 in
theorem vC28 {X : Cxt} {ad : Nat → Nat} {b L : Nat} {xs : Nat → Int32} (hC : pmC X code 7 RL "law" ad) (hx : va_X b L xs X.St X.St.heap) (hbl : b < X.St.heap.size) (hbA : ¬ X.Ow b) : ∀ q ∈ rC28 ad b L xs, (pmN q ∧ pmO2 (mtb ad) X 7 q) ∧ noN q := by
  unfold rC28
  exact fa_c ((ok_aload_n (ret := some .boolean) (j := 1) (by decide +kernel) rfl).o3 hC) (fa_c ((ok_aload_n (ret := some .boolean) (j := 0) (by decide +kernel) rfl).o3 hC) (fa_c ((ok_iload (ret := some .boolean) (by decide +kernel)).o3 hC) (fa_c ((ok_iconst (ret := some .boolean) (n := 1) (by decide +kernel) (by decide)).o3 hC) (fa_c ((ok_iadd (ret := some .boolean) (by decide +kernel)).o3 hC) (fa_c (ok_sld3 (pc := 1084) hC hx hbl hbA (by decide +kernel)) (fa_c ((ok_callv (ret := some .boolean) (ix := 137) (i := iX11_exchangeAt ad) (C := RX11) (T := TX11) (by decide +kernel) rfl clX11 rfl (caX11_exchangeAt ad) wt1037 wt1038 wt1039).o3 hC) (fa_c ((ok_aload_n (ret := some .boolean) (j := 2) (by decide +kernel) rfl).o3 hC) (fa_c ((ok_aload_n (ret := some .boolean) (j := 0) (by decide +kernel) rfl).o3 hC) (fa_c ((ok_iload (ret := some .boolean) (by decide +kernel)).o3 hC) (fa_c ((ok_iconst (ret := some .boolean) (n := 1) (by decide +kernel) (by decide)).o3 hC) (fa_c ((ok_iadd (ret := some .boolean) (by decide +kernel)).o3 hC) (fa_c (ok_sld3 (pc := 1094) hC hx hbl hbA (by decide +kernel)) (fa_c ((ok_callv (ret := some .boolean) (ix := 140) (i := iX13_exchangeAt ad) (C := RX13) (T := TX13) (by decide +kernel) rfl clX13 rfl (caX13_exchangeAt ad) wt1940 wt1941 wt1942).o3 hC) (fa_c ((ok_Ic_eq (ret := some .boolean) (off := 588) (t := 1686) (by decide +kernel) (by decide)).o3 hC) (fa_c ((ok_iconst (ret := some .boolean) (n := 0) (by decide +kernel) (by decide)).o3 hC) (fa_c ((ok_rz (ret := some .boolean) (by decide +kernel) rfl).o3 hC) (fa_n)))))))))))))))))
theorem lc28 {ad : Nat → Nat} {b L : Nat} {xs : Nat → Int32} {h C i : Nat} {M : Mm} {σ : Sg} (hI : lwI ad h M σ C) (hc : C + 1 ≤ 600) (hi : i + 6 ≤ L) (hL : L ≤ 3072) : Ev ad 20 (rC28 ad b L xs ++ [(1686, fHd b h (h + 73) (h + 89) (nI i))]) (1078, [some (.ref b), some (.ref h), some (.ref (h + 73)), some (.ref (h + 89)), some (.int (nI i)), none, none], [], M) (lwP ad h C) := by
  obtain ⟨hX, hY, hIv, hS, ⟨fo, ho⟩, hz1, hz2, hz3⟩ := id hI
  obtain ⟨tb, sp, hts, h0, _⟩ := id hX
  unfold xTop at h0
  repeat (first | refine es rfl rfl rfl ?_ | refine eslw rfl (by first | exact ixa1 _ | exact ixa2 _ | exact ixa3 _ | exact ixa4 _ | exact ixa5 _) ⟨by omega, hL⟩ ?_ | refine ehd rfl ?_)
  try dsimp only [set1, set2, kilP, List.set_cons_zero, List.set_cons_succ, List.getElem?_cons_zero, List.getElem?_cons_succ, List.nil_append, List.cons_append, Option.toList_some, Option.toList_none]
  refine ecv rfl rfl (by assumption) rfl rfl rfl (x_exchangeAt hX hIv) (by first | rfl | exact Nat.blt_eq.mpr (by omega)) ?_
  rintro v M1 ⟨σ', hsp, hX1, hF1⟩
  obtain ⟨a, rfl⟩ := spExAt_V hsp
  have hY1 := hY.lo hF1 (by omega)
  obtain ⟨oy, Ay, hRy⟩ := id hY1
  have y0 := hRy.1.1
  try dsimp only [set1, set2, kilP, List.set_cons_zero, List.set_cons_succ, List.getElem?_cons_zero, List.getElem?_cons_succ, List.nil_append, List.cons_append, Option.toList_some, Option.toList_none]
  repeat (first | refine es rfl rfl rfl ?_ | refine eslw rfl (by first | exact ixa1 _ | exact ixa2 _ | exact ixa3 _ | exact ixa4 _ | exact ixa5 _) ⟨by omega, hL⟩ ?_ | refine ehd rfl ?_)
  try dsimp only [set1, set2, kilP, List.set_cons_zero, List.set_cons_succ, List.getElem?_cons_zero, List.getElem?_cons_succ, List.nil_append, List.cons_append, Option.toList_some, Option.toList_none]
  refine ecv rfl rfl (by assumption) rfl rfl rfl (y_exchangeAt hY1 hIv) (by first | rfl | exact Nat.blt_eq.mpr (by omega)) ?_
  rintro v M2 ⟨hq, hF2⟩
  obtain ⟨rfl, hY2⟩ := hq _ _ hsp
  try dsimp only [set1, set2, kilP, List.set_cons_zero, List.set_cons_succ, List.getElem?_cons_zero, List.getElem?_cons_succ, List.nil_append, List.cons_append, Option.toList_some, Option.toList_none]
  refine ei _ rfl rfl (fun c9 => ?_) (fun c9 => ?_)
  · repeat (first | refine es rfl rfl rfl ?_ | refine eslw rfl (by first | exact ixa1 _ | exact ixa2 _ | exact ixa3 _ | exact ixa4 _ | exact ixa5 _) ⟨by omega, hL⟩ ?_ | refine ehd rfl ?_)
    exact ⟨rfl, σ', hI.st hF1 hX1 hF2 hY2 (spExAt_I hIv hc hsp)⟩
  · exact absurd rfl c9
def rC29 (ad : Nat → Nat) (b L : Nat) (xs : Nat → Int32) : List (Nat × Ins) := [(1103, ns (faload 1 1104)), (1104, ns (faload 0 1105)), (1105, ns (fiload 4 1107)), (1107, ns (fPush (.int 1) 1108)), (1108, ns (fB (fun x y => x + y) 1109)), (1109, pmW (fSld b L xs 1110)), (1110, fCv 156 1 11 1113), (1113, ns (faload 2 1114)), (1114, ns (faload 0 1115)), (1115, ns (fiload 4 1117)), (1117, ns (fPush (.int 1) 1118)), (1118, ns (fB (fun x y => x + y) 1119)), (1119, pmW (fSld b L xs 1120)), (1120, fCv 288 1 13 1123), (1123, ns (fIc_eq 1686 1126)), (1126, ns (fPush (.int 0) 1127)), (1127, fRz)]
set_option maxRecDepth 20000 in
theorem vC29 {X : Cxt} {ad : Nat → Nat} {b L : Nat} {xs : Nat → Int32} (hC : pmC X code 7 RL "law" ad) (hx : va_X b L xs X.St X.St.heap) (hbl : b < X.St.heap.size) (hbA : ¬ X.Ow b) : ∀ q ∈ rC29 ad b L xs, (pmN q ∧ pmO2 (mtb ad) X 7 q) ∧ noN q := by
  unfold rC29
  exact fa_c ((ok_aload_n (ret := some .boolean) (j := 1) (by decide +kernel) rfl).o3 hC) (fa_c ((ok_aload_n (ret := some .boolean) (j := 0) (by decide +kernel) rfl).o3 hC) (fa_c ((ok_iload (ret := some .boolean) (by decide +kernel)).o3 hC) (fa_c ((ok_iconst (ret := some .boolean) (n := 1) (by decide +kernel) (by decide)).o3 hC) (fa_c ((ok_iadd (ret := some .boolean) (by decide +kernel)).o3 hC) (fa_c (ok_sld3 (pc := 1109) hC hx hbl hbA (by decide +kernel)) (fa_c ((ok_callv (ret := some .boolean) (ix := 141) (i := iX11_stands ad) (C := RX11) (T := TX11) (by decide +kernel) rfl clX11 rfl (caX11_stands ad) wt1045 wt1046 wt1047).o3 hC) (fa_c ((ok_aload_n (ret := some .boolean) (j := 2) (by decide +kernel) rfl).o3 hC) (fa_c ((ok_aload_n (ret := some .boolean) (j := 0) (by decide +kernel) rfl).o3 hC) (fa_c ((ok_iload (ret := some .boolean) (by decide +kernel)).o3 hC) (fa_c ((ok_iconst (ret := some .boolean) (n := 1) (by decide +kernel) (by decide)).o3 hC) (fa_c ((ok_iadd (ret := some .boolean) (by decide +kernel)).o3 hC) (fa_c (ok_sld3 (pc := 1119) hC hx hbl hbA (by decide +kernel)) (fa_c ((ok_callv (ret := some .boolean) (ix := 144) (i := iX13_stands ad) (C := RX13) (T := TX13) (by decide +kernel) rfl clX13 rfl (caX13_stands ad) wt1944 wt1945 wt1946).o3 hC) (fa_c ((ok_Ic_eq (ret := some .boolean) (off := 563) (t := 1686) (by decide +kernel) (by decide)).o3 hC) (fa_c ((ok_iconst (ret := some .boolean) (n := 0) (by decide +kernel) (by decide)).o3 hC) (fa_c ((ok_rz (ret := some .boolean) (by decide +kernel) rfl).o3 hC) (fa_n)))))))))))))))))
theorem lc29 {ad : Nat → Nat} {b L : Nat} {xs : Nat → Int32} {h C i : Nat} {M : Mm} {σ : Sg} (hI : lwI ad h M σ C) (hc : C + 1 ≤ 600) (hi : i + 6 ≤ L) (hL : L ≤ 3072) : Ev ad 20 (rC29 ad b L xs ++ [(1686, fHd b h (h + 73) (h + 89) (nI i))]) (1103, [some (.ref b), some (.ref h), some (.ref (h + 73)), some (.ref (h + 89)), some (.int (nI i)), none, none], [], M) (lwP ad h C) := by
  obtain ⟨hX, hY, hIv, hS, ⟨fo, ho⟩, hz1, hz2, hz3⟩ := id hI
  obtain ⟨tb, sp, hts, h0, _⟩ := id hX
  unfold xTop at h0
  repeat (first | refine es rfl rfl rfl ?_ | refine eslw rfl (by first | exact ixa1 _ | exact ixa2 _ | exact ixa3 _ | exact ixa4 _ | exact ixa5 _) ⟨by omega, hL⟩ ?_ | refine ehd rfl ?_)
  try dsimp only [set1, set2, kilP, List.set_cons_zero, List.set_cons_succ, List.getElem?_cons_zero, List.getElem?_cons_succ, List.nil_append, List.cons_append, Option.toList_some, Option.toList_none]
  refine ecv rfl rfl (by assumption) rfl rfl rfl (x_stands hX hIv) (by first | rfl | exact Nat.blt_eq.mpr (by omega)) ?_
  rintro v M1 ⟨σ', hsp, hX1, hF1⟩
  obtain ⟨a, rfl⟩ := spStands_V hsp
  have hY1 := hY.lo hF1 (by omega)
  obtain ⟨oy, Ay, hRy⟩ := id hY1
  have y0 := hRy.1.1
  try dsimp only [set1, set2, kilP, List.set_cons_zero, List.set_cons_succ, List.getElem?_cons_zero, List.getElem?_cons_succ, List.nil_append, List.cons_append, Option.toList_some, Option.toList_none]
  repeat (first | refine es rfl rfl rfl ?_ | refine eslw rfl (by first | exact ixa1 _ | exact ixa2 _ | exact ixa3 _ | exact ixa4 _ | exact ixa5 _) ⟨by omega, hL⟩ ?_ | refine ehd rfl ?_)
  try dsimp only [set1, set2, kilP, List.set_cons_zero, List.set_cons_succ, List.getElem?_cons_zero, List.getElem?_cons_succ, List.nil_append, List.cons_append, Option.toList_some, Option.toList_none]
  refine ecv rfl rfl (by assumption) rfl rfl rfl (y_stands hY1 hIv) (by first | rfl | exact Nat.blt_eq.mpr (by omega)) ?_
  rintro v M2 ⟨hq, hF2⟩
  obtain ⟨rfl, hY2⟩ := hq _ _ hsp
  try dsimp only [set1, set2, kilP, List.set_cons_zero, List.set_cons_succ, List.getElem?_cons_zero, List.getElem?_cons_succ, List.nil_append, List.cons_append, Option.toList_some, Option.toList_none]
  refine ei _ rfl rfl (fun c9 => ?_) (fun c9 => ?_)
  · repeat (first | refine es rfl rfl rfl ?_ | refine eslw rfl (by first | exact ixa1 _ | exact ixa2 _ | exact ixa3 _ | exact ixa4 _ | exact ixa5 _) ⟨by omega, hL⟩ ?_ | refine ehd rfl ?_)
    exact ⟨rfl, σ', hI.st hF1 hX1 hF2 hY2 (spStands_I hIv hc hsp)⟩
  · exact absurd rfl c9
def rC30 (ad : Nat → Nat) (b L : Nat) (xs : Nat → Int32) : List (Nat × Ins) := [(1128, ns (faload 1 1129)), (1129, ns (faload 0 1130)), (1130, ns (fiload 4 1132)), (1132, ns (fPush (.int 1) 1133)), (1133, ns (fB (fun x y => x + y) 1134)), (1134, pmW (fSld b L xs 1135)), (1135, ns (faload 0 1136)), (1136, ns (fiload 4 1138)), (1138, ns (fPush (.int 2) 1139)), (1139, ns (fB (fun x y => x + y) 1140)), (1140, pmW (fSld b L xs 1141)), (1141, ns (faload 0 1142)), (1142, ns (fiload 4 1144)), (1144, ns (fPush (.int 3) 1145)), (1145, ns (fB (fun x y => x + y) 1146)), (1146, pmW (fSld b L xs 1147)), (1147, ns (faload 0 1148)), (1148, ns (fiload 4 1150)), (1150, ns (fPush (.int 4) 1151)), (1151, ns (fB (fun x y => x + y) 1152)), (1152, pmW (fSld b L xs 1153)), (1153, ns (faload 0 1154)), (1154, ns (fiload 4 1156)), (1156, ns (fPush (.int 5) 1157)), (1157, ns (fB (fun x y => x + y) 1158)), (1158, pmW (fSld b L xs 1159)), (1159, ns (fIf_eq 1166 1162)), (1162, ns (fPush (.int 1) 1163)), (1163, ns (fGoto 1167)), (1166, ns (fPush (.int 0) 1167)), (1167, fCv 157 5 11 1170), (1170, ns (faload 2 1171)), (1171, ns (faload 0 1172)), (1172, ns (fiload 4 1174)), (1174, ns (fPush (.int 1) 1175)), (1175, ns (fB (fun x y => x + y) 1176)), (1176, pmW (fSld b L xs 1177)), (1177, ns (faload 0 1178)), (1178, ns (fiload 4 1180)), (1180, ns (fPush (.int 2) 1181)), (1181, ns (fB (fun x y => x + y) 1182)), (1182, pmW (fSld b L xs 1183)), (1183, ns (faload 0 1184)), (1184, ns (fiload 4 1186)), (1186, ns (fPush (.int 3) 1187)), (1187, ns (fB (fun x y => x + y) 1188)), (1188, pmW (fSld b L xs 1189)), (1189, ns (faload 0 1190)), (1190, ns (fiload 4 1192)), (1192, ns (fPush (.int 4) 1193)), (1193, ns (fB (fun x y => x + y) 1194)), (1194, pmW (fSld b L xs 1195)), (1195, ns (faload 0 1196)), (1196, ns (fiload 4 1198)), (1198, ns (fPush (.int 5) 1199)), (1199, ns (fB (fun x y => x + y) 1200)), (1200, pmW (fSld b L xs 1201)), (1201, ns (fIf_eq 1208 1204)), (1204, ns (fPush (.int 1) 1205)), (1205, ns (fGoto 1209)), (1208, ns (fPush (.int 0) 1209)), (1209, fCv 291 5 13 1212), (1212, ns (fIc_eq 1686 1215)), (1215, ns (fPush (.int 0) 1216)), (1216, fRz)]
set_option maxRecDepth 20000 in
theorem vC30 {X : Cxt} {ad : Nat → Nat} {b L : Nat} {xs : Nat → Int32} (hC : pmC X code 7 RL "law" ad) (hx : va_X b L xs X.St X.St.heap) (hbl : b < X.St.heap.size) (hbA : ¬ X.Ow b) : ∀ q ∈ rC30 ad b L xs, (pmN q ∧ pmO2 (mtb ad) X 7 q) ∧ noN q := by
  unfold rC30
  exact fa_c ((ok_aload_n (ret := some .boolean) (j := 1) (by decide +kernel) rfl).o3 hC) (fa_c ((ok_aload_n (ret := some .boolean) (j := 0) (by decide +kernel) rfl).o3 hC) (fa_c ((ok_iload (ret := some .boolean) (by decide +kernel)).o3 hC) (fa_c ((ok_iconst (ret := some .boolean) (n := 1) (by decide +kernel) (by decide)).o3 hC) (fa_c ((ok_iadd (ret := some .boolean) (by decide +kernel)).o3 hC) (fa_c (ok_sld3 (pc := 1134) hC hx hbl hbA (by decide +kernel)) (fa_c ((ok_aload_n (ret := some .boolean) (j := 0) (by decide +kernel) rfl).o3 hC) (fa_c ((ok_iload (ret := some .boolean) (by decide +kernel)).o3 hC) (fa_c ((ok_iconst (ret := some .boolean) (n := 2) (by decide +kernel) (by decide)).o3 hC) (fa_c ((ok_iadd (ret := some .boolean) (by decide +kernel)).o3 hC) (fa_c (ok_sld3 (pc := 1140) hC hx hbl hbA (by decide +kernel)) (fa_c ((ok_aload_n (ret := some .boolean) (j := 0) (by decide +kernel) rfl).o3 hC) (fa_c ((ok_iload (ret := some .boolean) (by decide +kernel)).o3 hC) (fa_c ((ok_iconst (ret := some .boolean) (n := 3) (by decide +kernel) (by decide)).o3 hC) (fa_c ((ok_iadd (ret := some .boolean) (by decide +kernel)).o3 hC) (fa_c (ok_sld3 (pc := 1146) hC hx hbl hbA (by decide +kernel)) (fa_c ((ok_aload_n (ret := some .boolean) (j := 0) (by decide +kernel) rfl).o3 hC) (fa_c ((ok_iload (ret := some .boolean) (by decide +kernel)).o3 hC) (fa_c ((ok_iconst (ret := some .boolean) (n := 4) (by decide +kernel) (by decide)).o3 hC) (fa_c ((ok_iadd (ret := some .boolean) (by decide +kernel)).o3 hC) (fa_c (ok_sld3 (pc := 1152) hC hx hbl hbA (by decide +kernel)) (fa_c ((ok_aload_n (ret := some .boolean) (j := 0) (by decide +kernel) rfl).o3 hC) (fa_c ((ok_iload (ret := some .boolean) (by decide +kernel)).o3 hC) (fa_c ((ok_iconst (ret := some .boolean) (n := 5) (by decide +kernel) (by decide)).o3 hC) (fa_c ((ok_iadd (ret := some .boolean) (by decide +kernel)).o3 hC) (fa_c (ok_sld3 (pc := 1158) hC hx hbl hbA (by decide +kernel)) (fa_c ((ok_If_eq (ret := some .boolean) (off := 7) (t := 1166) (by decide +kernel) (by decide)).o3 hC) (fa_c ((ok_iconst (ret := some .boolean) (n := 1) (by decide +kernel) (by decide)).o3 hC) (fa_c ((ok_goto (ret := some .boolean) (off := 4) (t := 1167) (by decide +kernel) (by decide)).o3 hC) (fa_c ((ok_iconst (ret := some .boolean) (n := 0) (by decide +kernel) (by decide)).o3 hC) (fa_c ((ok_callv (ret := some .boolean) (ix := 145) (i := iX11_gain ad) (C := RX11) (T := TX11) (by decide +kernel) rfl clX11 rfl (caX11_gain ad) wt1062 wt1063 wt1064).o3 hC) (fa_c ((ok_aload_n (ret := some .boolean) (j := 2) (by decide +kernel) rfl).o3 hC) (fa_c ((ok_aload_n (ret := some .boolean) (j := 0) (by decide +kernel) rfl).o3 hC) (fa_c ((ok_iload (ret := some .boolean) (by decide +kernel)).o3 hC) (fa_c ((ok_iconst (ret := some .boolean) (n := 1) (by decide +kernel) (by decide)).o3 hC) (fa_c ((ok_iadd (ret := some .boolean) (by decide +kernel)).o3 hC) (fa_c (ok_sld3 (pc := 1176) hC hx hbl hbA (by decide +kernel)) (fa_c ((ok_aload_n (ret := some .boolean) (j := 0) (by decide +kernel) rfl).o3 hC) (fa_c ((ok_iload (ret := some .boolean) (by decide +kernel)).o3 hC) (fa_c ((ok_iconst (ret := some .boolean) (n := 2) (by decide +kernel) (by decide)).o3 hC) (fa_c ((ok_iadd (ret := some .boolean) (by decide +kernel)).o3 hC) (fa_c (ok_sld3 (pc := 1182) hC hx hbl hbA (by decide +kernel)) (fa_c ((ok_aload_n (ret := some .boolean) (j := 0) (by decide +kernel) rfl).o3 hC) (fa_c ((ok_iload (ret := some .boolean) (by decide +kernel)).o3 hC) (fa_c ((ok_iconst (ret := some .boolean) (n := 3) (by decide +kernel) (by decide)).o3 hC) (fa_c ((ok_iadd (ret := some .boolean) (by decide +kernel)).o3 hC) (fa_c (ok_sld3 (pc := 1188) hC hx hbl hbA (by decide +kernel)) (fa_c ((ok_aload_n (ret := some .boolean) (j := 0) (by decide +kernel) rfl).o3 hC) (fa_c ((ok_iload (ret := some .boolean) (by decide +kernel)).o3 hC) (fa_c ((ok_iconst (ret := some .boolean) (n := 4) (by decide +kernel) (by decide)).o3 hC) (fa_c ((ok_iadd (ret := some .boolean) (by decide +kernel)).o3 hC) (fa_c (ok_sld3 (pc := 1194) hC hx hbl hbA (by decide +kernel)) (fa_c ((ok_aload_n (ret := some .boolean) (j := 0) (by decide +kernel) rfl).o3 hC) (fa_c ((ok_iload (ret := some .boolean) (by decide +kernel)).o3 hC) (fa_c ((ok_iconst (ret := some .boolean) (n := 5) (by decide +kernel) (by decide)).o3 hC) (fa_c ((ok_iadd (ret := some .boolean) (by decide +kernel)).o3 hC) (fa_c (ok_sld3 (pc := 1200) hC hx hbl hbA (by decide +kernel)) (fa_c ((ok_If_eq (ret := some .boolean) (off := 7) (t := 1208) (by decide +kernel) (by decide)).o3 hC) (fa_c ((ok_iconst (ret := some .boolean) (n := 1) (by decide +kernel) (by decide)).o3 hC) (fa_c ((ok_goto (ret := some .boolean) (off := 4) (t := 1209) (by decide +kernel) (by decide)).o3 hC) (fa_c ((ok_iconst (ret := some .boolean) (n := 0) (by decide +kernel) (by decide)).o3 hC) (fa_c ((ok_callv (ret := some .boolean) (ix := 149) (i := iX13_gain ad) (C := RX13) (T := TX13) (by decide +kernel) rfl clX13 rfl (caX13_gain ad) wt1952 wt1953 wt1954).o3 hC) (fa_c ((ok_Ic_eq (ret := some .boolean) (off := 474) (t := 1686) (by decide +kernel) (by decide)).o3 hC) (fa_c ((ok_iconst (ret := some .boolean) (n := 0) (by decide +kernel) (by decide)).o3 hC) (fa_c ((ok_rz (ret := some .boolean) (by decide +kernel) rfl).o3 hC) (fa_n)))))))))))))))))))))))))))))))))))))))))))))))))))))))))))))))))
theorem lc30 {ad : Nat → Nat} {b L : Nat} {xs : Nat → Int32} {h C i : Nat} {M : Mm} {σ : Sg} (hI : lwI ad h M σ C) (hc : C + 1 ≤ 600) (hi : i + 6 ≤ L) (hL : L ≤ 3072) : Ev ad 20 (rC30 ad b L xs ++ [(1686, fHd b h (h + 73) (h + 89) (nI i))]) (1128, [some (.ref b), some (.ref h), some (.ref (h + 73)), some (.ref (h + 89)), some (.int (nI i)), none, none], [], M) (lwP ad h C) := by
  obtain ⟨hX, hY, hIv, hS, ⟨fo, ho⟩, hz1, hz2, hz3⟩ := id hI
  obtain ⟨tb, sp, hts, h0, _⟩ := id hX
  unfold xTop at h0
  repeat (first | refine es rfl rfl rfl ?_ | refine eslw rfl (by first | exact ixa1 _ | exact ixa2 _ | exact ixa3 _ | exact ixa4 _ | exact ixa5 _) ⟨by omega, hL⟩ ?_ | refine ehd rfl ?_)
  try dsimp only [set1, set2, kilP, List.set_cons_zero, List.set_cons_succ, List.getElem?_cons_zero, List.getElem?_cons_succ, List.nil_append, List.cons_append, Option.toList_some, Option.toList_none]
  refine ei _ rfl rfl (fun c1 => ?_) (fun c1 => ?_)
  · repeat (first | refine es rfl rfl rfl ?_ | refine eslw rfl (by first | exact ixa1 _ | exact ixa2 _ | exact ixa3 _ | exact ixa4 _ | exact ixa5 _) ⟨by omega, hL⟩ ?_ | refine ehd rfl ?_)
    try dsimp only [set1, set2, kilP, List.set_cons_zero, List.set_cons_succ, List.getElem?_cons_zero, List.getElem?_cons_succ, List.nil_append, List.cons_append, Option.toList_some, Option.toList_none]
    refine ecv rfl rfl (by assumption) rfl rfl rfl (x_gain hX hIv) (by first | rfl | exact Nat.blt_eq.mpr (by omega)) ?_
    rintro v M1 ⟨σ', hsp, hX1, hF1⟩
    obtain ⟨a, rfl⟩ := spGain_V hsp
    have hY1 := hY.lo hF1 (by omega)
    obtain ⟨oy, Ay, hRy⟩ := id hY1
    have y0 := hRy.1.1
    try dsimp only [set1, set2, kilP, List.set_cons_zero, List.set_cons_succ, List.getElem?_cons_zero, List.getElem?_cons_succ, List.nil_append, List.cons_append, Option.toList_some, Option.toList_none]
    repeat (first | refine es rfl rfl rfl ?_ | refine eslw rfl (by first | exact ixa1 _ | exact ixa2 _ | exact ixa3 _ | exact ixa4 _ | exact ixa5 _) ⟨by omega, hL⟩ ?_ | refine ehd rfl ?_)
    try dsimp only [set1, set2, kilP, List.set_cons_zero, List.set_cons_succ, List.getElem?_cons_zero, List.getElem?_cons_succ, List.nil_append, List.cons_append, Option.toList_some, Option.toList_none]
    refine ei _ rfl rfl (fun c2 => ?_) (fun c2 => ?_)
    · repeat (first | refine es rfl rfl rfl ?_ | refine eslw rfl (by first | exact ixa1 _ | exact ixa2 _ | exact ixa3 _ | exact ixa4 _ | exact ixa5 _) ⟨by omega, hL⟩ ?_ | refine ehd rfl ?_)
      try dsimp only [set1, set2, kilP, List.set_cons_zero, List.set_cons_succ, List.getElem?_cons_zero, List.getElem?_cons_succ, List.nil_append, List.cons_append, Option.toList_some, Option.toList_none]
      refine ecv rfl rfl (by assumption) rfl rfl rfl (y_gain hY1 hIv) (by first | rfl | exact Nat.blt_eq.mpr (by omega)) ?_
      rintro v M2 ⟨hq, hF2⟩
      obtain ⟨rfl, hY2⟩ := hq _ _ hsp
      try dsimp only [set1, set2, kilP, List.set_cons_zero, List.set_cons_succ, List.getElem?_cons_zero, List.getElem?_cons_succ, List.nil_append, List.cons_append, Option.toList_some, Option.toList_none]
      refine ei _ rfl rfl (fun c9 => ?_) (fun c9 => ?_)
      · repeat (first | refine es rfl rfl rfl ?_ | refine eslw rfl (by first | exact ixa1 _ | exact ixa2 _ | exact ixa3 _ | exact ixa4 _ | exact ixa5 _) ⟨by omega, hL⟩ ?_ | refine ehd rfl ?_)
        exact ⟨rfl, σ', hI.st hF1 hX1 hF2 hY2 (spGain_I hIv hc hsp)⟩
      · exact absurd rfl c9
    · exact absurd c1 c2
  · repeat (first | refine es rfl rfl rfl ?_ | refine eslw rfl (by first | exact ixa1 _ | exact ixa2 _ | exact ixa3 _ | exact ixa4 _ | exact ixa5 _) ⟨by omega, hL⟩ ?_ | refine ehd rfl ?_)
    try dsimp only [set1, set2, kilP, List.set_cons_zero, List.set_cons_succ, List.getElem?_cons_zero, List.getElem?_cons_succ, List.nil_append, List.cons_append, Option.toList_some, Option.toList_none]
    refine ecv rfl rfl (by assumption) rfl rfl rfl (x_gain hX hIv) (by first | rfl | exact Nat.blt_eq.mpr (by omega)) ?_
    rintro v M1 ⟨σ', hsp, hX1, hF1⟩
    obtain ⟨a, rfl⟩ := spGain_V hsp
    have hY1 := hY.lo hF1 (by omega)
    obtain ⟨oy, Ay, hRy⟩ := id hY1
    have y0 := hRy.1.1
    try dsimp only [set1, set2, kilP, List.set_cons_zero, List.set_cons_succ, List.getElem?_cons_zero, List.getElem?_cons_succ, List.nil_append, List.cons_append, Option.toList_some, Option.toList_none]
    repeat (first | refine es rfl rfl rfl ?_ | refine eslw rfl (by first | exact ixa1 _ | exact ixa2 _ | exact ixa3 _ | exact ixa4 _ | exact ixa5 _) ⟨by omega, hL⟩ ?_ | refine ehd rfl ?_)
    try dsimp only [set1, set2, kilP, List.set_cons_zero, List.set_cons_succ, List.getElem?_cons_zero, List.getElem?_cons_succ, List.nil_append, List.cons_append, Option.toList_some, Option.toList_none]
    refine ei _ rfl rfl (fun c2 => ?_) (fun c2 => ?_)
    · exact absurd c2 c1
    · repeat (first | refine es rfl rfl rfl ?_ | refine eslw rfl (by first | exact ixa1 _ | exact ixa2 _ | exact ixa3 _ | exact ixa4 _ | exact ixa5 _) ⟨by omega, hL⟩ ?_ | refine ehd rfl ?_)
      try dsimp only [set1, set2, kilP, List.set_cons_zero, List.set_cons_succ, List.getElem?_cons_zero, List.getElem?_cons_succ, List.nil_append, List.cons_append, Option.toList_some, Option.toList_none]
      refine ecv rfl rfl (by assumption) rfl rfl rfl (y_gain hY1 hIv) (by first | rfl | exact Nat.blt_eq.mpr (by omega)) ?_
      rintro v M2 ⟨hq, hF2⟩
      obtain ⟨rfl, hY2⟩ := hq _ _ hsp
      try dsimp only [set1, set2, kilP, List.set_cons_zero, List.set_cons_succ, List.getElem?_cons_zero, List.getElem?_cons_succ, List.nil_append, List.cons_append, Option.toList_some, Option.toList_none]
      refine ei _ rfl rfl (fun c9 => ?_) (fun c9 => ?_)
      · repeat (first | refine es rfl rfl rfl ?_ | refine eslw rfl (by first | exact ixa1 _ | exact ixa2 _ | exact ixa3 _ | exact ixa4 _ | exact ixa5 _) ⟨by omega, hL⟩ ?_ | refine ehd rfl ?_)
        exact ⟨rfl, σ', hI.st hF1 hX1 hF2 hY2 (spGain_I hIv hc hsp)⟩
      · exact absurd rfl c9
