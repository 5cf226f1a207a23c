/-! The law's cases -/
def rC16 (ad : Nat → Nat) (b L : Nat) (xs : Nat → Int32) : List (Nat × Ins) := [(792, ns (faload 1 793)), (793, ns (faload 0 794)), (794, ns (fiload 4 796)), (796, ns (fPush (.int 1) 797)), (797, ns (fB (fun x y => x + y) 798)), (798, pmW (fSld b L xs 799)), (799, fCv 138 1 11 802), (802, ns (faload 2 803)), (803, ns (faload 0 804)), (804, ns (fiload 4 806)), (806, ns (fPush (.int 1) 807)), (807, ns (fB (fun x y => x + y) 808)), (808, pmW (fSld b L xs 809)), (809, fCv 263 1 13 812), (812, ns (fIc_eq 1686 815)), (815, ns (fPush (.int 0) 816)), (816, fRz)]
set_option maxRecDepth 20000 in
theorem vC16 {X : Cxt} {ad : Nat → Nat} {b L : Nat} {xs : Nat → Int32} (hC : pmC X code 7 RL "law" ad) (hx : va_X b L xs X.St X.St.heap) (hbl : b < X.St.heap.size) (hbA : ¬ X.Ow b) : ∀ q ∈ rC16 ad b L xs, (pmN q ∧ pmO2 (mtb ad) X 7 q) ∧ noN q := by
  unfold rC16
  exact fa_c ((ok_aload_n (ret := some .boolean) (j := 1) (by decide +kernel) rfl).o3 hC) (fa_c ((ok_aload_n (ret := some .boolean) (j := 0) (by decide +kernel) rfl).o3 hC) (fa_c ((ok_iload (ret := some .boolean) (by decide +kernel)).o3 hC) (fa_c ((ok_iconst (ret := some .boolean) (n := 1) (by decide +kernel) (by decide)).o3 hC) (fa_c ((ok_iadd (ret := some .boolean) (by decide +kernel)).o3 hC) (fa_c (ok_sld3 (pc := 798) hC hx hbl hbA (by decide +kernel)) (fa_c ((ok_callv (ret := some .boolean) (ix := 88) (i := iX11_homeIn ad) (C := RX11) (T := TX11) (by decide +kernel) rfl clX11 rfl (caX11_homeIn ad) wt860 wt861 wt862).o3 hC) (fa_c ((ok_aload_n (ret := some .boolean) (j := 2) (by decide +kernel) rfl).o3 hC) (fa_c ((ok_aload_n (ret := some .boolean) (j := 0) (by decide +kernel) rfl).o3 hC) (fa_c ((ok_iload (ret := some .boolean) (by decide +kernel)).o3 hC) (fa_c ((ok_iconst (ret := some .boolean) (n := 1) (by decide +kernel) (by decide)).o3 hC) (fa_c ((ok_iadd (ret := some .boolean) (by decide +kernel)).o3 hC) (fa_c (ok_sld3 (pc := 808) hC hx hbl hbA (by decide +kernel)) (fa_c ((ok_callv (ret := some .boolean) (ix := 91) (i := iX13_homeIn ad) (C := RX13) (T := TX13) (by decide +kernel) rfl clX13 rfl (caX13_homeIn ad) wt1831 wt1832 wt1833).o3 hC) (fa_c ((ok_Ic_eq (ret := some .boolean) (off := 874) (t := 1686) (by decide +kernel) (by decide)).o3 hC) (fa_c ((ok_iconst (ret := some .boolean) (n := 0) (by decide +kernel) (by decide)).o3 hC) (fa_c ((ok_rz (ret := some .boolean) (by decide +kernel) rfl).o3 hC) (fa_n)))))))))))))))))
theorem lc16 {ad : Nat → Nat} {b L : Nat} {xs : Nat → Int32} {h C i : Nat} {M : Mm} {σ : Sg} (hI : lwI ad h M σ C) (hc : C + 1 ≤ 600) (hi : i + 6 ≤ L) (hL : L ≤ 3072) : Ev ad 20 (rC16 ad b L xs ++ [(1686, fHd b h (h + 73) (h + 89) (nI i))]) (792, [some (.ref b), some (.ref h), some (.ref (h + 73)), some (.ref (h + 89)), some (.int (nI i)), none, none], [], M) (lwP ad h C) := by
  obtain ⟨hX, hY, hIv, hS, ⟨fo, ho⟩, hz1, hz2, hz3⟩ := id hI
  obtain ⟨tb, sp, hts, h0, _⟩ := id hX
  unfold xTop at h0
  repeat (first | refine es rfl rfl rfl ?_ | refine eslw rfl (by first | exact ixa1 _ | exact ixa2 _ | exact ixa3 _ | exact ixa4 _ | exact ixa5 _) ⟨by omega, hL⟩ ?_ | refine ehd rfl ?_)
  try dsimp only [set1, set2, kilP, List.set_cons_zero, List.set_cons_succ, List.getElem?_cons_zero, List.getElem?_cons_succ, List.nil_append, List.cons_append, Option.toList_some, Option.toList_none]
  refine ecv rfl rfl (by assumption) rfl rfl rfl (x_homeIn hX hIv) (by first | rfl | exact Nat.blt_eq.mpr (by omega)) ?_
  rintro v M1 ⟨σ', hsp, hX1, hF1⟩
  obtain ⟨a, rfl⟩ := spHomeIn_V hsp
  have hY1 := hY.lo hF1 (by omega)
  obtain ⟨oy, Ay, hRy⟩ := id hY1
  have y0 := hRy.1.1
  try dsimp only [set1, set2, kilP, List.set_cons_zero, List.set_cons_succ, List.getElem?_cons_zero, List.getElem?_cons_succ, List.nil_append, List.cons_append, Option.toList_some, Option.toList_none]
  repeat (first | refine es rfl rfl rfl ?_ | refine eslw rfl (by first | exact ixa1 _ | exact ixa2 _ | exact ixa3 _ | exact ixa4 _ | exact ixa5 _) ⟨by omega, hL⟩ ?_ | refine ehd rfl ?_)
  try dsimp only [set1, set2, kilP, List.set_cons_zero, List.set_cons_succ, List.getElem?_cons_zero, List.getElem?_cons_succ, List.nil_append, List.cons_append, Option.toList_some, Option.toList_none]
  refine ecv rfl rfl (by assumption) rfl rfl rfl (y_homeIn hY1 hIv) (by first | rfl | exact Nat.blt_eq.mpr (by omega)) ?_
  rintro v M2 ⟨hq, hF2⟩
  obtain ⟨rfl, hY2⟩ := hq _ _ hsp
  try dsimp only [set1, set2, kilP, List.set_cons_zero, List.set_cons_succ, List.getElem?_cons_zero, List.getElem?_cons_succ, List.nil_append, List.cons_append, Option.toList_some, Option.toList_none]
  refine ei _ rfl rfl (fun c9 => ?_) (fun c9 => ?_)
  · repeat (first | refine es rfl rfl rfl ?_ | refine eslw rfl (by first | exact ixa1 _ | exact ixa2 _ | exact ixa3 _ | exact ixa4 _ | exact ixa5 _) ⟨by omega, hL⟩ ?_ | refine ehd rfl ?_)
    exact ⟨rfl, σ', hI.st hF1 hX1 hF2 hY2 (spHomeIn_I hIv hc hsp)⟩
  · exact absurd rfl c9
def rC17 (ad : Nat → Nat) (b L : Nat) (xs : Nat → Int32) : List (Nat × Ins) := [(817, ns (faload 1 818)), (818, fCv 139 0 11 821), (821, ns (faload 2 822)), (822, fCv 267 0 13 825), (825, ns (fIc_eq 1686 828)), (828, ns (fPush (.int 0) 829)), (829, fRz)]
set_option maxRecDepth 20000 in
theorem vC17 {X : Cxt} {ad : Nat → Nat} {b L : Nat} {xs : Nat → Int32} (hC : pmC X code 7 RL "law" ad) (hx : va_X b L xs X.St X.St.heap) (hbl : b < X.St.heap.size) (hbA : ¬ X.Ow b) : ∀ q ∈ rC17 ad b L xs, (pmN q ∧ pmO2 (mtb ad) X 7 q) ∧ noN q := by
  unfold rC17
  exact fa_c ((ok_aload_n (ret := some .boolean) (j := 1) (by decide +kernel) rfl).o3 hC) (fa_c ((ok_callv (ret := some .boolean) (ix := 92) (i := iX11_fits ad) (C := RX11) (T := TX11) (by decide +kernel) rfl clX11 rfl (caX11_fits ad) wt870 wt871 wt872).o3 hC) (fa_c ((ok_aload_n (ret := some .boolean) (j := 2) (by decide +kernel) rfl).o3 hC) (fa_c ((ok_callv (ret := some .boolean) (ix := 95) (i := iX13_fits ad) (C := RX13) (T := TX13) (by decide +kernel) rfl clX13 rfl (caX13_fits ad) wt1835 wt1836 wt1837).o3 hC) (fa_c ((ok_Ic_eq (ret := some .boolean) (off := 861) (t := 1686) (by decide +kernel) (by decide)).o3 hC) (fa_c ((ok_iconst (ret := some .boolean) (n := 0) (by decide +kernel) (by decide)).o3 hC) (fa_c ((ok_rz (ret := some .boolean) (by decide +kernel) rfl).o3 hC) (fa_n)))))))
theorem lc17 {ad : Nat → Nat} {b L : Nat} {xs : Nat → Int32} {h C i : Nat} {M : Mm} {σ : Sg} (hI : lwI ad h M σ C) (hc : C + 1 ≤ 600) (hi : i + 6 ≤ L) (hL : L ≤ 3072) : Ev ad 20 (rC17 ad b L xs ++ [(1686, fHd b h (h + 73) (h + 89) (nI i))]) (817, [some (.ref b), some (.ref h), some (.ref (h + 73)), some (.ref (h + 89)), some (.int (nI i)), none, none], [], M) (lwP ad h C) := by
  obtain ⟨hX, hY, hIv, hS, ⟨fo, ho⟩, hz1, hz2, hz3⟩ := id hI
  obtain ⟨tb, sp, hts, h0, _⟩ := id hX
  unfold xTop at h0
  repeat (first | refine es rfl rfl rfl ?_ | refine eslw rfl (by first | exact ixa1 _ | exact ixa2 _ | exact ixa3 _ | exact ixa4 _ | exact ixa5 _) ⟨by omega, hL⟩ ?_ | refine ehd rfl ?_)
  try dsimp only [set1, set2, kilP, List.set_cons_zero, List.set_cons_succ, List.getElem?_cons_zero, List.getElem?_cons_succ, List.nil_append, List.cons_append, Option.toList_some, Option.toList_none]
  refine ecv rfl rfl (by assumption) rfl rfl rfl (x_fits hX hIv) (by first | rfl | exact Nat.blt_eq.mpr (by omega)) ?_
  rintro v M1 ⟨σ', hsp, hX1, hF1⟩
  obtain ⟨a, rfl⟩ := spFits_V hsp
  have hY1 := hY.lo hF1 (by omega)
  obtain ⟨oy, Ay, hRy⟩ := id hY1
  have y0 := hRy.1.1
  try dsimp only [set1, set2, kilP, List.set_cons_zero, List.set_cons_succ, List.getElem?_cons_zero, List.getElem?_cons_succ, List.nil_append, List.cons_append, Option.toList_some, Option.toList_none]
  repeat (first | refine es rfl rfl rfl ?_ | refine eslw rfl (by first | exact ixa1 _ | exact ixa2 _ | exact ixa3 _ | exact ixa4 _ | exact ixa5 _) ⟨by omega, hL⟩ ?_ | refine ehd rfl ?_)
  try dsimp only [set1, set2, kilP, List.set_cons_zero, List.set_cons_succ, List.getElem?_cons_zero, List.getElem?_cons_succ, List.nil_append, List.cons_append, Option.toList_some, Option.toList_none]
  refine ecv rfl rfl (by assumption) rfl rfl rfl (y_fits hY1 hIv) (by first | rfl | exact Nat.blt_eq.mpr (by omega)) ?_
  rintro v M2 ⟨hq, hF2⟩
  obtain ⟨rfl, hY2⟩ := hq _ _ hsp
  try dsimp only [set1, set2, kilP, List.set_cons_zero, List.set_cons_succ, List.getElem?_cons_zero, List.getElem?_cons_succ, List.nil_append, List.cons_append, Option.toList_some, Option.toList_none]
  refine ei _ rfl rfl (fun c9 => ?_) (fun c9 => ?_)
  · repeat (first | refine es rfl rfl rfl ?_ | refine eslw rfl (by first | exact ixa1 _ | exact ixa2 _ | exact ixa3 _ | exact ixa4 _ | exact ixa5 _) ⟨by omega, hL⟩ ?_ | refine ehd rfl ?_)
    exact ⟨rfl, σ', hI.st hF1 hX1 hF2 hY2 (spFits_I hIv hc hsp)⟩
  · exact absurd rfl c9
def rC18 (ad : Nat → Nat) (b L : Nat) (xs : Nat → Int32) : List (Nat × Ins) := [(830, ns (faload 1 831)), (831, ns (faload 0 832)), (832, ns (fiload 4 834)), (834, ns (fPush (.int 1) 835)), (835, ns (fB (fun x y => x + y) 836)), (836, pmW (fSld b L xs 837)), (837, fCv 140 1 11 840), (840, ns (faload 2 841)), (841, ns (faload 0 842)), (842, ns (fiload 4 844)), (844, ns (fPush (.int 1) 845)), (845, ns (fB (fun x y => x + y) 846)), (846, pmW (fSld b L xs 847)), (847, fCv 268 1 13 850), (850, ns (fIc_eq 1686 853)), (853, ns (fPush (.int 0) 854)), (854, fRz)]
set_option maxRecDepth 20000 in
theorem vC18 {X : Cxt} {ad : Nat → Nat} {b L : Nat} {xs : Nat → Int32} (hC : pmC X code 7 RL "law" ad) (hx : va_X b L xs X.St X.St.heap) (hbl : b < X.St.heap.size) (hbA : ¬ X.Ow b) : ∀ q ∈ rC18 ad b L xs, (pmN q ∧ pmO2 (mtb ad) X 7 q) ∧ noN q := by
  unfold rC18
  exact fa_c ((ok_aload_n (ret := some .boolean) (j := 1) (by decide +kernel) rfl).o3 hC) (fa_c ((ok_aload_n (ret := some .boolean) (j := 0) (by decide +kernel) rfl).o3 hC) (fa_c ((ok_iload (ret := some .boolean) (by decide +kernel)).o3 hC) (fa_c ((ok_iconst (ret := some .boolean) (n := 1) (by decide +kernel) (by decide)).o3 hC) (fa_c ((ok_iadd (ret := some .boolean) (by decide +kernel)).o3 hC) (fa_c (ok_sld3 (pc := 836) hC hx hbl hbA (by decide +kernel)) (fa_c ((ok_callv (ret := some .boolean) (ix := 96) (i := iX11_could ad) (C := RX11) (T := TX11) (by decide +kernel) rfl clX11 rfl (caX11_could ad) wt904 wt905 wt906).o3 hC) (fa_c ((ok_aload_n (ret := some .boolean) (j := 2) (by decide +kernel) rfl).o3 hC) (fa_c ((ok_aload_n (ret := some .boolean) (j := 0) (by decide +kernel) rfl).o3 hC) (fa_c ((ok_iload (ret := some .boolean) (by decide +kernel)).o3 hC) (fa_c ((ok_iconst (ret := some .boolean) (n := 1) (by decide +kernel) (by decide)).o3 hC) (fa_c ((ok_iadd (ret := some .boolean) (by decide +kernel)).o3 hC) (fa_c (ok_sld3 (pc := 846) hC hx hbl hbA (by decide +kernel)) (fa_c ((ok_callv (ret := some .boolean) (ix := 99) (i := iX13_could ad) (C := RX13) (T := TX13) (by decide +kernel) rfl clX13 rfl (caX13_could ad) wt1855 wt1856 wt1857).o3 hC) (fa_c ((ok_Ic_eq (ret := some .boolean) (off := 836) (t := 1686) (by decide +kernel) (by decide)).o3 hC) (fa_c ((ok_iconst (ret := some .boolean) (n := 0) (by decide +kernel) (by decide)).o3 hC) (fa_c ((ok_rz (ret := some .boolean) (by decide +kernel) rfl).o3 hC) (fa_n)))))))))))))))))
theorem lc18 {ad : Nat → Nat} {b L : Nat} {xs : Nat → Int32} {h C i : Nat} {M : Mm} {σ : Sg} (hI : lwI ad h M σ C) (hc : C + 1 ≤ 600) (hi : i + 6 ≤ L) (hL : L ≤ 3072) : Ev ad 20 (rC18 ad b L xs ++ [(1686, fHd b h (h + 73) (h + 89) (nI i))]) (830, [some (.ref b), some (.ref h), some (.ref (h + 73)), some (.ref (h + 89)), some (.int (nI i)), none, none], [], M) (lwP ad h C) := by
  obtain ⟨hX, hY, hIv, hS, ⟨fo, ho⟩, hz1, hz2, hz3⟩ := id hI
  obtain ⟨tb, sp, hts, h0, _⟩ := id hX
  unfold xTop at h0
  repeat (first | refine es rfl rfl rfl ?_ | refine eslw rfl (by first | exact ixa1 _ | exact ixa2 _ | exact ixa3 _ | exact ixa4 _ | exact ixa5 _) ⟨by omega, hL⟩ ?_ | refine ehd rfl ?_)
  try dsimp only [set1, set2, kilP, List.set_cons_zero, List.set_cons_succ, List.getElem?_cons_zero, List.getElem?_cons_succ, List.nil_append, List.cons_append, Option.toList_some, Option.toList_none]
  refine ecv rfl rfl (by assumption) rfl rfl rfl (x_could hX hIv) (by first | rfl | exact Nat.blt_eq.mpr (by omega)) ?_
  rintro v M1 ⟨σ', hsp, hX1, hF1⟩
  obtain ⟨a, rfl⟩ := spFitsH_V hsp
  have hY1 := hY.lo hF1 (by omega)
  obtain ⟨oy, Ay, hRy⟩ := id hY1
  have y0 := hRy.1.1
  try dsimp only [set1, set2, kilP, List.set_cons_zero, List.set_cons_succ, List.getElem?_cons_zero, List.getElem?_cons_succ, List.nil_append, List.cons_append, Option.toList_some, Option.toList_none]
  repeat (first | refine es rfl rfl rfl ?_ | refine eslw rfl (by first | exact ixa1 _ | exact ixa2 _ | exact ixa3 _ | exact ixa4 _ | exact ixa5 _) ⟨by omega, hL⟩ ?_ | refine ehd rfl ?_)
  try dsimp only [set1, set2, kilP, List.set_cons_zero, List.set_cons_succ, List.getElem?_cons_zero, List.getElem?_cons_succ, List.nil_append, List.cons_append, Option.toList_some, Option.toList_none]
  refine ecv rfl rfl (by assumption) rfl rfl rfl (y_could hY1 hIv) (by first | rfl | exact Nat.blt_eq.mpr (by omega)) ?_
  rintro v M2 ⟨hq, hF2⟩
  obtain ⟨rfl, hY2⟩ := hq _ _ hsp
  try dsimp only [set1, set2, kilP, List.set_cons_zero, List.set_cons_succ, List.getElem?_cons_zero, List.getElem?_cons_succ, List.nil_append, List.cons_append, Option.toList_some, Option.toList_none]
  refine ei _ rfl rfl (fun c9 => ?_) (fun c9 => ?_)
  · repeat (first | refine es rfl rfl rfl ?_ | refine eslw rfl (by first | exact ixa1 _ | exact ixa2 _ | exact ixa3 _ | exact ixa4 _ | exact ixa5 _) ⟨by omega, hL⟩ ?_ | refine ehd rfl ?_)
    exact ⟨rfl, σ', hI.st hF1 hX1 hF2 hY2 (spFitsH_I hIv hc hsp)⟩
  · exact absurd rfl c9
def rC19 (ad : Nat → Nat) (b L : Nat) (xs : Nat → Int32) : List (Nat × Ins) := [(855, ns (faload 1 856)), (856, ns (faload 0 857)), (857, ns (fiload 4 859)), (859, ns (fPush (.int 1) 860)), (860, ns (fB (fun x y => x + y) 861)), (861, pmW (fSld b L xs 862)), (862, fCv 141 1 11 865), (865, ns (faload 2 866)), (866, ns (faload 0 867)), (867, ns (fiload 4 869)), (869, ns (fPush (.int 1) 870)), (870, ns (fB (fun x y => x + y) 871)), (871, pmW (fSld b L xs 872)), (872, fCv 269 1 13 875), (875, ns (fIc_eq 1686 878)), (878, ns (fPush (.int 0) 879)), (879, fRz)]
set_option maxRecDepth 20000 in
theorem vC19 {X : Cxt} {ad : Nat → Nat} {b L : Nat} {xs : Nat → Int32} (hC : pmC X code 7 RL "law" ad) (hx : va_X b L xs X.St X.St.heap) (hbl : b < X.St.heap.size) (hbA : ¬ X.Ow b) : ∀ q ∈ rC19 ad b L xs, (pmN q ∧ pmO2 (mtb ad) X 7 q) ∧ noN q := by
  unfold rC19
  exact fa_c ((ok_aload_n (ret := some .boolean) (j := 1) (by decide +kernel) rfl).o3 hC) (fa_c ((ok_aload_n (ret := some .boolean) (j := 0) (by decide +kernel) rfl).o3 hC) (fa_c ((ok_iload (ret := some .boolean) (by decide +kernel)).o3 hC) (fa_c ((ok_iconst (ret := some .boolean) (n := 1) (by decide +kernel) (by decide)).o3 hC) (fa_c ((ok_iadd (ret := some .boolean) (by decide +kernel)).o3 hC) (fa_c (ok_sld3 (pc := 861) hC hx hbl hbA (by decide +kernel)) (fa_c ((ok_callv (ret := some .boolean) (ix := 100) (i := iX11_surely ad) (C := RX11) (T := TX11) (by decide +kernel) rfl clX11 rfl (caX11_surely ad) wt912 wt913 wt914).o3 hC) (fa_c ((ok_aload_n (ret := some .boolean) (j := 2) (by decide +kernel) rfl).o3 hC) (fa_c ((ok_aload_n (ret := some .boolean) (j := 0) (by decide +kernel) rfl).o3 hC) (fa_c ((ok_iload (ret := some .boolean) (by decide +kernel)).o3 hC) (fa_c ((ok_iconst (ret := some .boolean) (n := 1) (by decide +kernel) (by decide)).o3 hC) (fa_c ((ok_iadd (ret := some .boolean) (by decide +kernel)).o3 hC) (fa_c (ok_sld3 (pc := 871) hC hx hbl hbA (by decide +kernel)) (fa_c ((ok_callv (ret := some .boolean) (ix := 103) (i := iX13_surely ad) (C := RX13) (T := TX13) (by decide +kernel) rfl clX13 rfl (caX13_surely ad) wt1859 wt1860 wt1861).o3 hC) (fa_c ((ok_Ic_eq (ret := some .boolean) (off := 811) (t := 1686) (by decide +kernel) (by decide)).o3 hC) (fa_c ((ok_iconst (ret := some .boolean) (n := 0) (by decide +kernel) (by decide)).o3 hC) (fa_c ((ok_rz (ret := some .boolean) (by decide +kernel) rfl).o3 hC) (fa_n)))))))))))))))))
theorem lc19 {ad : Nat → Nat} {b L : Nat} {xs : Nat → Int32} {h C i : Nat} {M : Mm} {σ : Sg} (hI : lwI ad h M σ C) (hc : C + 1 ≤ 600) (hi : i + 6 ≤ L) (hL : L ≤ 3072) : Ev ad 20 (rC19 ad b L xs ++ [(1686, fHd b h (h + 73) (h + 89) (nI i))]) (855, [some (.ref b), some (.ref h), some (.ref (h + 73)), some (.ref (h + 89)), some (.int (nI i)), none, none], [], M) (lwP ad h C) := by
  obtain ⟨hX, hY, hIv, hS, ⟨fo, ho⟩, hz1, hz2, hz3⟩ := id hI
  obtain ⟨tb, sp, hts, h0, _⟩ := id hX
  unfold xTop at h0
  repeat (first | refine es rfl rfl rfl ?_ | refine eslw rfl (by first | exact ixa1 _ | exact ixa2 _ | exact ixa3 _ | exact ixa4 _ | exact ixa5 _) ⟨by omega, hL⟩ ?_ | refine ehd rfl ?_)
  try dsimp only [set1, set2, kilP, List.set_cons_zero, List.set_cons_succ, List.getElem?_cons_zero, List.getElem?_cons_succ, List.nil_append, List.cons_append, Option.toList_some, Option.toList_none]
  refine ecv rfl rfl (by assumption) rfl rfl rfl (x_surely hX hIv) (by first | rfl | exact Nat.blt_eq.mpr (by omega)) ?_
  rintro v M1 ⟨σ', hsp, hX1, hF1⟩
  obtain ⟨a, rfl⟩ := spFitsH_V hsp
  have hY1 := hY.lo hF1 (by omega)
  obtain ⟨oy, Ay, hRy⟩ := id hY1
  have y0 := hRy.1.1
  try dsimp only [set1, set2, kilP, List.set_cons_zero, List.set_cons_succ, List.getElem?_cons_zero, List.getElem?_cons_succ, List.nil_append, List.cons_append, Option.toList_some, Option.toList_none]
  repeat (first | refine es rfl rfl rfl ?_ | refine eslw rfl (by first | exact ixa1 _ | exact ixa2 _ | exact ixa3 _ | exact ixa4 _ | exact ixa5 _) ⟨by omega, hL⟩ ?_ | refine ehd rfl ?_)
  try dsimp only [set1, set2, kilP, List.set_cons_zero, List.set_cons_succ, List.getElem?_cons_zero, List.getElem?_cons_succ, List.nil_append, List.cons_append, Option.toList_some, Option.toList_none]
  refine ecv rfl rfl (by assumption) rfl rfl rfl (y_surely hY1 hIv) (by first | rfl | exact Nat.blt_eq.mpr (by omega)) ?_
  rintro v M2 ⟨hq, hF2⟩
  obtain ⟨rfl, hY2⟩ := hq _ _ hsp
  try dsimp only [set1, set2, kilP, List.set_cons_zero, List.set_cons_succ, List.getElem?_cons_zero, List.getElem?_cons_succ, List.nil_append, List.cons_append, Option.toList_some, Option.toList_none]
  refine ei _ rfl rfl (fun c9 => ?_) (fun c9 => ?_)
  · repeat (first | refine es rfl rfl rfl ?_ | refine eslw rfl (by first | exact ixa1 _ | exact ixa2 _ | exact ixa3 _ | exact ixa4 _ | exact ixa5 _) ⟨by omega, hL⟩ ?_ | refine ehd rfl ?_)
    exact ⟨rfl, σ', hI.st hF1 hX1 hF2 hY2 (spFitsH_I hIv hc hsp)⟩
  · exact absurd rfl c9
def rC20 (ad : Nat → Nat) (b L : Nat) (xs : Nat → Int32) : List (Nat × Ins) := [(880, ns (faload 1 881)), (881, ns (faload 0 882)), (882, ns (fiload 4 884)), (884, ns (fPush (.int 1) 885)), (885, ns (fB (fun x y => x + y) 886)), (886, pmW (fSld b L xs 887)), (887, fCv 142 1 11 890), (890, ns (faload 2 891)), (891, ns (faload 0 892)), (892, ns (fiload 4 894)), (894, ns (fPush (.int 1) 895)), (895, ns (fB (fun x y => x + y) 896)), (896, pmW (fSld b L xs 897)), (897, fCv 270 1 13 900), (900, ns (fIc_eq 1686 903)), (903, ns (fPush (.int 0) 904)), (904, fRz)]
set_option maxRecDepth 20000 in
theorem vC20 {X : Cxt} {ad : Nat → Nat} {b L : Nat} {xs : Nat → Int32} (hC : pmC X code 7 RL "law" ad) (hx : va_X b L xs X.St X.St.heap) (hbl : b < X.St.heap.size) (hbA : ¬ X.Ow b) : ∀ q ∈ rC20 ad b L xs, (pmN q ∧ pmO2 (mtb ad) X 7 q) ∧ noN q := by
  unfold rC20
  exact fa_c ((ok_aload_n (ret := some .boolean) (j := 1) (by decide +kernel) rfl).o3 hC) (fa_c ((ok_aload_n (ret := some .boolean) (j := 0) (by decide +kernel) rfl).o3 hC) (fa_c ((ok_iload (ret := some .boolean) (by decide +kernel)).o3 hC) (fa_c ((ok_iconst (ret := some .boolean) (n := 1) (by decide +kernel) (by decide)).o3 hC) (fa_c ((ok_iadd (ret := some .boolean) (by decide +kernel)).o3 hC) (fa_c (ok_sld3 (pc := 886) hC hx hbl hbA (by decide +kernel)) (fa_c ((ok_callv (ret := some .boolean) (ix := 104) (i := iX11_firstOf ad) (C := RX11) (T := TX11) (by decide +kernel) rfl clX11 rfl (caX11_firstOf ad) wt921 wt922 wt923).o3 hC) (fa_c ((ok_aload_n (ret := some .boolean) (j := 2) (by decide +kernel) rfl).o3 hC) (fa_c ((ok_aload_n (ret := some .boolean) (j := 0) (by decide +kernel) rfl).o3 hC) (fa_c ((ok_iload (ret := some .boolean) (by decide +kernel)).o3 hC) (fa_c ((ok_iconst (ret := some .boolean) (n := 1) (by decide +kernel) (by decide)).o3 hC) (fa_c ((ok_iadd (ret := some .boolean) (by decide +kernel)).o3 hC) (fa_c (ok_sld3 (pc := 896) hC hx hbl hbA (by decide +kernel)) (fa_c ((ok_callv (ret := some .boolean) (ix := 107) (i := iX13_firstOf ad) (C := RX13) (T := TX13) (by decide +kernel) rfl clX13 rfl (caX13_firstOf ad) wt1863 wt1864 wt1865).o3 hC) (fa_c ((ok_Ic_eq (ret := some .boolean) (off := 786) (t := 1686) (by decide +kernel) (by decide)).o3 hC) (fa_c ((ok_iconst (ret := some .boolean) (n := 0) (by decide +kernel) (by decide)).o3 hC) (fa_c ((ok_rz (ret := some .boolean) (by decide +kernel) rfl).o3 hC) (fa_n)))))))))))))))))
theorem lc20 {ad : Nat → Nat} {b L : Nat} {xs : Nat → Int32} {h C i : Nat} {M : Mm} {σ : Sg} (hI : lwI ad h M σ C) (hc : C + 1 ≤ 600) (hi : i + 6 ≤ L) (hL : L ≤ 3072) : Ev ad 20 (rC20 ad b L xs ++ [(1686, fHd b h (h + 73) (h + 89) (nI i))]) (880, [some (.ref b), some (.ref h), some (.ref (h + 73)), some (.ref (h + 89)), some (.int (nI i)), none, none], [], M) (lwP ad h C) := by
  obtain ⟨hX, hY, hIv, hS, ⟨fo, ho⟩, hz1, hz2, hz3⟩ := id hI
  obtain ⟨tb, sp, hts, h0, _⟩ := id hX
  unfold xTop at h0
  repeat (first | refine es rfl rfl rfl ?_ | refine eslw rfl (by first | exact ixa1 _ | exact ixa2 _ | exact ixa3 _ | exact ixa4 _ | exact ixa5 _) ⟨by omega, hL⟩ ?_ | refine ehd rfl ?_)
  try dsimp only [set1, set2, kilP, List.set_cons_zero, List.set_cons_succ, List.getElem?_cons_zero, List.getElem?_cons_succ, List.nil_append, List.cons_append, Option.toList_some, Option.toList_none]
  refine ecv rfl rfl (by assumption) rfl rfl rfl (x_firstOf hX hIv) (by first | rfl | exact Nat.blt_eq.mpr (by omega)) ?_
  rintro v M1 ⟨σ', hsp, hX1, hF1⟩
  obtain ⟨a, rfl⟩ := spFitsH_V hsp
  have hY1 := hY.lo hF1 (by omega)
  obtain ⟨oy, Ay, hRy⟩ := id hY1
  have y0 := hRy.1.1
  try dsimp only [set1, set2, kilP, List.set_cons_zero, List.set_cons_succ, List.getElem?_cons_zero, List.getElem?_cons_succ, List.nil_append, List.cons_append, Option.toList_some, Option.toList_none]
  repeat (first | refine es rfl rfl rfl ?_ | refine eslw rfl (by first | exact ixa1 _ | exact ixa2 _ | exact ixa3 _ | exact ixa4 _ | exact ixa5 _) ⟨by omega, hL⟩ ?_ | refine ehd rfl ?_)
  try dsimp only [set1, set2, kilP, List.set_cons_zero, List.set_cons_succ, List.getElem?_cons_zero, List.getElem?_cons_succ, List.nil_append, List.cons_append, Option.toList_some, Option.toList_none]
  refine ecv rfl rfl (by assumption) rfl rfl rfl (y_firstOf hY1 hIv) (by first | rfl | exact Nat.blt_eq.mpr (by omega)) ?_
  rintro v M2 ⟨hq, hF2⟩
  obtain ⟨rfl, hY2⟩ := hq _ _ hsp
  try dsimp only [set1, set2, kilP, List.set_cons_zero, List.set_cons_succ, List.getElem?_cons_zero, List.getElem?_cons_succ, List.nil_append, List.cons_append, Option.toList_some, Option.toList_none]
  refine ei _ rfl rfl (fun c9 => ?_) (fun c9 => ?_)
  · repeat (first | refine es rfl rfl rfl ?_ | refine eslw rfl (by first | exact ixa1 _ | exact ixa2 _ | exact ixa3 _ | exact ixa4 _ | exact ixa5 _) ⟨by omega, hL⟩ ?_ | refine ehd rfl ?_)
    exact ⟨rfl, σ', hI.st hF1 hX1 hF2 hY2 (spFitsH_I hIv hc hsp)⟩
  · exact absurd rfl c9
def rC21 (ad : Nat → Nat) (b L : Nat) (xs : Nat → Int32) : List (Nat × Ins) := [(905, ns (faload 1 906)), (906, fCv 143 0 11 909), (909, ns (faload 2 910)), (910, fCv 272 0 13 913), (913, ns (fIc_eq 1686 916)), (916, ns (fPush (.int 0) 917)), (917, fRz)]
set_option maxRecDepth 20000 in
theorem vC21 {X : Cxt} {ad : Nat → Nat} {b L : Nat} {xs : Nat → Int32} (hC : pmC X code 7 RL "law" ad) (hx : va_X b L xs X.St X.St.heap) (hbl : b < X.St.heap.size) (hbA : ¬ X.Ow b) : ∀ q ∈ rC21 ad b L xs, (pmN q ∧ pmO2 (mtb ad) X 7 q) ∧ noN q := by
  unfold rC21
  exact fa_c ((ok_aload_n (ret := some .boolean) (j := 1) (by decide +kernel) rfl).o3 hC) (fa_c ((ok_callv (ret := some .boolean) (ix := 108) (i := iX11_ask ad) (C := RX11) (T := TX11) (by decide +kernel) rfl clX11 rfl (caX11_ask ad) wt929 wt930 wt931).o3 hC) (fa_c ((ok_aload_n (ret := some .boolean) (j := 2) (by decide +kernel) rfl).o3 hC) (fa_c ((ok_callv (ret := some .boolean) (ix := 111) (i := iX13_ask ad) (C := RX13) (T := TX13) (by decide +kernel) rfl clX13 rfl (caX13_ask ad) wt1867 wt1868 wt1869).o3 hC) (fa_c ((ok_Ic_eq (ret := some .boolean) (off := 773) (t := 1686) (by decide +kernel) (by decide)).o3 hC) (fa_c ((ok_iconst (ret := some .boolean) (n := 0) (by decide +kernel) (by decide)).o3 hC) (fa_c ((ok_rz (ret := some .boolean) (by decide +kernel) rfl).o3 hC) (fa_n)))))))
theorem lc21 {ad : Nat → Nat} {b L : Nat} {xs : Nat → Int32} {h C i : Nat} {M : Mm} {σ : Sg} (hI : lwI ad h M σ C) (hc : C + 1 ≤ 600) (hi : i + 6 ≤ L) (hL : L ≤ 3072) : Ev ad 20 (rC21 ad b L xs ++ [(1686, fHd b h (h + 73) (h + 89) (nI i))]) (905, [some (.ref b), some (.ref h), some (.ref (h + 73)), some (.ref (h + 89)), some (.int (nI i)), none, none], [], M) (lwP ad h C) := by
  obtain ⟨hX, hY, hIv, hS, ⟨fo, ho⟩, hz1, hz2, hz3⟩ := id hI
  obtain ⟨tb, sp, hts, h0, _⟩ := id hX
  unfold xTop at h0
  repeat (first | refine es rfl rfl rfl ?_ | refine eslw rfl (by first | exact ixa1 _ | exact ixa2 _ | exact ixa3 _ | exact ixa4 _ | exact ixa5 _) ⟨by omega, hL⟩ ?_ | refine ehd rfl ?_)
  try dsimp only [set1, set2, kilP, List.set_cons_zero, List.set_cons_succ, List.getElem?_cons_zero, List.getElem?_cons_succ, List.nil_append, List.cons_append, Option.toList_some, Option.toList_none]
  refine ecv rfl rfl (by assumption) rfl rfl rfl (x_ask hX hIv) (by first | rfl | exact Nat.blt_eq.mpr (by omega)) ?_
  rintro v M1 ⟨σ', hsp, hX1, hF1⟩
  obtain ⟨a, rfl⟩ := spFits_V hsp
  have hY1 := hY.lo hF1 (by omega)
  obtain ⟨oy, Ay, hRy⟩ := id hY1
  have y0 := hRy.1.1
  try dsimp only [set1, set2, kilP, List.set_cons_zero, List.set_cons_succ, List.getElem?_cons_zero, List.getElem?_cons_succ, List.nil_append, List.cons_append, Option.toList_some, Option.toList_none]
  repeat (first | refine es rfl rfl rfl ?_ | refine eslw rfl (by first | exact ixa1 _ | exact ixa2 _ | exact ixa3 _ | exact ixa4 _ | exact ixa5 _) ⟨by omega, hL⟩ ?_ | refine ehd rfl ?_)
  try dsimp only [set1, set2, kilP, List.set_cons_zero, List.set_cons_succ, List.getElem?_cons_zero, List.getElem?_cons_succ, List.nil_append, List.cons_append, Option.toList_some, Option.toList_none]
  refine ecv rfl rfl (by assumption) rfl rfl rfl (y_ask hY1 hIv) (by first | rfl | exact Nat.blt_eq.mpr (by omega)) ?_
  rintro v M2 ⟨hq, hF2⟩
  obtain ⟨rfl, hY2⟩ := hq _ _ hsp
  try dsimp only [set1, set2, kilP, List.set_cons_zero, List.set_cons_succ, List.getElem?_cons_zero, List.getElem?_cons_succ, List.nil_append, List.cons_append, Option.toList_some, Option.toList_none]
  refine ei _ rfl rfl (fun c9 => ?_) (fun c9 => ?_)
  · repeat (first | refine es rfl rfl rfl ?_ | refine eslw rfl (by first | exact ixa1 _ | exact ixa2 _ | exact ixa3 _ | exact ixa4 _ | exact ixa5 _) ⟨by omega, hL⟩ ?_ | refine ehd rfl ?_)
    exact ⟨rfl, σ', hI.st hF1 hX1 hF2 hY2 (spFits_I hIv hc hsp)⟩
  · exact absurd rfl c9
def rC22 (ad : Nat → Nat) (b L : Nat) (xs : Nat → Int32) : List (Nat × Ins) := [(918, ns (faload 1 919)), (919, fCv 144 0 11 922), (922, ns (faload 2 923)), (923, fCv 273 0 13 926), (926, ns (fIc_eq 1686 929)), (929, ns (fPush (.int 0) 930)), (930, fRz)]
set_option maxRecDepth 20000 in
theorem vC22 {X : Cxt} {ad : Nat → Nat} {b L : Nat} {xs : Nat → Int32} (hC : pmC X code 7 RL "law" ad) (hx : va_X b L xs X.St X.St.heap) (hbl : b < X.St.heap.size) (hbA : ¬ X.Ow b) : ∀ q ∈ rC22 ad b L xs, (pmN q ∧ pmO2 (mtb ad) X 7 q) ∧ noN q := by
  unfold rC22
  exact fa_c ((ok_aload_n (ret := some .boolean) (j := 1) (by decide +kernel) rfl).o3 hC) (fa_c ((ok_callv (ret := some .boolean) (ix := 112) (i := iX11_askLeaves ad) (C := RX11) (T := TX11) (by decide +kernel) rfl clX11 rfl (caX11_askLeaves ad) wt944 wt945 wt946).o3 hC) (fa_c ((ok_aload_n (ret := some .boolean) (j := 2) (by decide +kernel) rfl).o3 hC) (fa_c ((ok_callv (ret := some .boolean) (ix := 115) (i := iX13_askLeaves ad) (C := RX13) (T := TX13) (by decide +kernel) rfl clX13 rfl (caX13_askLeaves ad) wt1875 wt1876 wt1877).o3 hC) (fa_c ((ok_Ic_eq (ret := some .boolean) (off := 760) (t := 1686) (by decide +kernel) (by decide)).o3 hC) (fa_c ((ok_iconst (ret := some .boolean) (n := 0) (by decide +kernel) (by decide)).o3 hC) (fa_c ((ok_rz (ret := some .boolean) (by decide +kernel) rfl).o3 hC) (fa_n)))))))
theorem lc22 {ad : Nat → Nat} {b L : Nat} {xs : Nat → Int32} {h C i : Nat} {M : Mm} {σ : Sg} (hI : lwI ad h M σ C) (hc : C + 1 ≤ 600) (hi : i + 6 ≤ L) (hL : L ≤ 3072) : Ev ad 20 (rC22 ad b L xs ++ [(1686, fHd b h (h + 73) (h + 89) (nI i))]) (918, [some (.ref b), some (.ref h), some (.ref (h + 73)), some (.ref (h + 89)), some (.int (nI i)), none, none], [], M) (lwP ad h C) := by
  obtain ⟨hX, hY, hIv, hS, ⟨fo, ho⟩, hz1, hz2, hz3⟩ := id hI
  obtain ⟨tb, sp, hts, h0, _⟩ := id hX
  unfold xTop at h0
  repeat (first | refine es rfl rfl rfl ?_ | refine eslw rfl (by first | exact ixa1 _ | exact ixa2 _ | exact ixa3 _ | exact ixa4 _ | exact ixa5 _) ⟨by omega, hL⟩ ?_ | refine ehd rfl ?_)
  try dsimp only [set1, set2, kilP, List.set_cons_zero, List.set_cons_succ, List.getElem?_cons_zero, List.getElem?_cons_succ, List.nil_append, List.cons_append, Option.toList_some, Option.toList_none]
  refine ecv rfl rfl (by assumption) rfl rfl rfl (x_askLeaves hX hIv) (by first | rfl | exact Nat.blt_eq.mpr (by omega)) ?_
  rintro v M1 ⟨σ', hsp, hX1, hF1⟩
  obtain ⟨a, rfl⟩ := spFits_V hsp
  have hY1 := hY.lo hF1 (by omega)
  obtain ⟨oy, Ay, hRy⟩ := id hY1
  have y0 := hRy.1.1
  try dsimp only [set1, set2, kilP, List.set_cons_zero, List.set_cons_succ, List.getElem?_cons_zero, List.getElem?_cons_succ, List.nil_append, List.cons_append, Option.toList_some, Option.toList_none]
  repeat (first | refine es rfl rfl rfl ?_ | refine eslw rfl (by first | exact ixa1 _ | exact ixa2 _ | exact ixa3 _ | exact ixa4 _ | exact ixa5 _) ⟨by omega, hL⟩ ?_ | refine ehd rfl ?_)
  try dsimp only [set1, set2, kilP, List.set_cons_zero, List.set_cons_succ, List.getElem?_cons_zero, List.getElem?_cons_succ, List.nil_append, List.cons_append, Option.toList_some, Option.toList_none]
  refine ecv rfl rfl (by assumption) rfl rfl rfl (y_askLeaves hY1 hIv) (by first | rfl | exact Nat.blt_eq.mpr (by omega)) ?_
  rintro v M2 ⟨hq, hF2⟩
  obtain ⟨rfl, hY2⟩ := hq _ _ hsp
  try dsimp only [set1, set2, kilP, List.set_cons_zero, List.set_cons_succ, List.getElem?_cons_zero, List.getElem?_cons_succ, List.nil_append, List.cons_append, Option.toList_some, Option.toList_none]
  refine ei _ rfl rfl (fun c9 => ?_) (fun c9 => ?_)
  · repeat (first | refine es rfl rfl rfl ?_ | refine eslw rfl (by first | exact ixa1 _ | exact ixa2 _ | exact ixa3 _ | exact ixa4 _ | exact ixa5 _) ⟨by omega, hL⟩ ?_ | refine ehd rfl ?_)
    exact ⟨rfl, σ', hI.st hF1 hX1 hF2 hY2 (spFits_I hIv hc hsp)⟩
  · exact absurd rfl c9
def rC23 (ad : Nat → Nat) (b L : Nat) (xs : Nat → Int32) : List (Nat × Ins) := [(931, ns (faload 1 932)), (932, ns (faload 0 933)), (933, ns (fiload 4 935)), (935, ns (fPush (.int 1) 936)), (936, ns (fB (fun x y => x + y) 937)), (937, pmW (fSld b L xs 938)), (938, ns (faload 0 939)), (939, ns (fiload 4 941)), (941, ns (fPush (.int 2) 942)), (942, ns (fB (fun x y => x + y) 943)), (943, pmW (fSld b L xs 944)), (944, ns (fIf_eq 951 947)), (947, ns (fPush (.int 1) 948)), (948, ns (fGoto 952)), (951, ns (fPush (.int 0) 952)), (952, fCv 146 2 11 955), (955, ns (faload 2 956)), (956, ns (faload 0 957)), (957, ns (fiload 4 959)), (959, ns (fPush (.int 1) 960)), (960, ns (fB (fun x y => x + y) 961)), (961, pmW (fSld b L xs 962)), (962, ns (faload 0 963)), (963, ns (fiload 4 965)), (965, ns (fPush (.int 2) 966)), (966, ns (fB (fun x y => x + y) 967)), (967, pmW (fSld b L xs 968)), (968, ns (fIf_eq 975 971)), (971, ns (fPush (.int 1) 972)), (972, ns (fGoto 976)), (975, ns (fPush (.int 0) 976)), (976, fCv 276 2 13 979), (979, ns (fLcmp 980)), (980, ns (fIf_eq 1686 983)), (983, ns (fPush (.int 0) 984)), (984, fRz)]
set_option maxRecDepth 20000 in
theorem vC23 {X : Cxt} {ad : Nat → Nat} {b L : Nat} {xs : Nat → Int32} (hC : pmC X code 7 RL "law" ad) (hx : va_X b L xs X.St X.St.heap) (hbl : b < X.St.heap.size) (hbA : ¬ X.Ow b) : ∀ q ∈ rC23 ad b L xs, (pmN q ∧ pmO2 (mtb ad) X 7 q) ∧ noN q := by
  unfold rC23
  exact fa_c ((ok_aload_n (ret := some .boolean) (j := 1) (by decide +kernel) rfl).o3 hC) (fa_c ((ok_aload_n (ret := some .boolean) (j := 0) (by decide +kernel) rfl).o3 hC) (fa_c ((ok_iload (ret := some .boolean) (by decide +kernel)).o3 hC) (fa_c ((ok_iconst (ret := some .boolean) (n := 1) (by decide +kernel) (by decide)).o3 hC) (fa_c ((ok_iadd (ret := some .boolean) (by decide +kernel)).o3 hC) (fa_c (ok_sld3 (pc := 937) hC hx hbl hbA (by decide +kernel)) (fa_c ((ok_aload_n (ret := some .boolean) (j := 0) (by decide +kernel) rfl).o3 hC) (fa_c ((ok_iload (ret := some .boolean) (by decide +kernel)).o3 hC) (fa_c ((ok_iconst (ret := some .boolean) (n := 2) (by decide +kernel) (by decide)).o3 hC) (fa_c ((ok_iadd (ret := some .boolean) (by decide +kernel)).o3 hC) (fa_c (ok_sld3 (pc := 943) hC hx hbl hbA (by decide +kernel)) (fa_c ((ok_If_eq (ret := some .boolean) (off := 7) (t := 951) (by decide +kernel) (by decide)).o3 hC) (fa_c ((ok_iconst (ret := some .boolean) (n := 1) (by decide +kernel) (by decide)).o3 hC) (fa_c ((ok_goto (ret := some .boolean) (off := 4) (t := 952) (by decide +kernel) (by decide)).o3 hC) (fa_c ((ok_iconst (ret := some .boolean) (n := 0) (by decide +kernel) (by decide)).o3 hC) (fa_c ((ok_callv (ret := some .boolean) (ix := 116) (i := iX11_owes ad) (C := RX11) (T := TX11) (by decide +kernel) rfl clX11 rfl (caX11_owes ad) wt949 wt950 wt951).o3 hC) (fa_c ((ok_aload_n (ret := some .boolean) (j := 2) (by decide +kernel) rfl).o3 hC) (fa_c ((ok_aload_n (ret := some .boolean) (j := 0) (by decide +kernel) rfl).o3 hC) (fa_c ((ok_iload (ret := some .boolean) (by decide +kernel)).o3 hC) (fa_c ((ok_iconst (ret := some .boolean) (n := 1) (by decide +kernel) (by decide)).o3 hC) (fa_c ((ok_iadd (ret := some .boolean) (by decide +kernel)).o3 hC) (fa_c (ok_sld3 (pc := 961) hC hx hbl hbA (by decide +kernel)) (fa_c ((ok_aload_n (ret := some .boolean) (j := 0) (by decide +kernel) rfl).o3 hC) (fa_c ((ok_iload (ret := some .boolean) (by decide +kernel)).o3 hC) (fa_c ((ok_iconst (ret := some .boolean) (n := 2) (by decide +kernel) (by decide)).o3 hC) (fa_c ((ok_iadd (ret := some .boolean) (by decide +kernel)).o3 hC) (fa_c (ok_sld3 (pc := 967) hC hx hbl hbA (by decide +kernel)) (fa_c ((ok_If_eq (ret := some .boolean) (off := 7) (t := 975) (by decide +kernel) (by decide)).o3 hC) (fa_c ((ok_iconst (ret := some .boolean) (n := 1) (by decide +kernel) (by decide)).o3 hC) (fa_c ((ok_goto (ret := some .boolean) (off := 4) (t := 976) (by decide +kernel) (by decide)).o3 hC) (fa_c ((ok_iconst (ret := some .boolean) (n := 0) (by decide +kernel) (by decide)).o3 hC) (fa_c ((ok_callv (ret := some .boolean) (ix := 120) (i := iX13_owes ad) (C := RX13) (T := TX13) (by decide +kernel) rfl clX13 rfl (caX13_owes ad) wt1879 wt1880 wt1881).o3 hC) (fa_c ((ok_lcmp (ret := some .boolean) (by decide +kernel)).o3 hC) (fa_c ((ok_If_eq (ret := some .boolean) (off := 706) (t := 1686) (by decide +kernel) (by decide)).o3 hC) (fa_c ((ok_iconst (ret := some .boolean) (n := 0) (by decide +kernel) (by decide)).o3 hC) (fa_c ((ok_rz (ret := some .boolean) (by decide +kernel) rfl).o3 hC) (fa_n))))))))))))))))))))))))))))))))))))
theorem lc23 {ad : Nat → Nat} {b L : Nat} {xs : Nat → Int32} {h C i : Nat} {M : Mm} {σ : Sg} (hI : lwI ad h M σ C) (hc : C + 1 ≤ 600) (hi : i + 6 ≤ L) (hL : L ≤ 3072) : Ev ad 20 (rC23 ad b L xs ++ [(1686, fHd b h (h + 73) (h + 89) (nI i))]) (931, [some (.ref b), some (.ref h), some (.ref (h + 73)), some (.ref (h + 89)), some (.int (nI i)), none, none], [], M) (lwP ad h C) := by
  obtain ⟨hX, hY, hIv, hS, ⟨fo, ho⟩, hz1, hz2, hz3⟩ := id hI
  obtain ⟨tb, sp, hts, h0, _⟩ := id hX
  unfold xTop at h0
  repeat (first | refine es rfl rfl rfl ?_ | refine eslw rfl (by first | exact ixa1 _ | exact ixa2 _ | exact ixa3 _ | exact ixa4 _ | exact ixa5 _) ⟨by omega, hL⟩ ?_ | refine ehd rfl ?_)
  try dsimp only [set1, set2, kilP, List.set_cons_zero, List.set_cons_succ, List.getElem?_cons_zero, List.getElem?_cons_succ, List.nil_append, List.cons_append, Option.toList_some, Option.toList_none]
  refine ei _ rfl rfl (fun c1 => ?_) (fun c1 => ?_)
  · repeat (first | refine es rfl rfl rfl ?_ | refine eslw rfl (by first | exact ixa1 _ | exact ixa2 _ | exact ixa3 _ | exact ixa4 _ | exact ixa5 _) ⟨by omega, hL⟩ ?_ | refine ehd rfl ?_)
    try dsimp only [set1, set2, kilP, List.set_cons_zero, List.set_cons_succ, List.getElem?_cons_zero, List.getElem?_cons_succ, List.nil_append, List.cons_append, Option.toList_some, Option.toList_none]
    refine ecv rfl rfl (by assumption) rfl rfl rfl (x_owes hX hIv) (by first | rfl | exact Nat.blt_eq.mpr (by omega)) ?_
    rintro v M1 ⟨σ', hsp, hX1, hF1⟩
    obtain ⟨a, rfl⟩ := spOwes_L hsp
    have hY1 := hY.lo hF1 (by omega)
    obtain ⟨oy, Ay, hRy⟩ := id hY1
    have y0 := hRy.1.1
    try dsimp only [set1, set2, kilP, List.set_cons_zero, List.set_cons_succ, List.getElem?_cons_zero, List.getElem?_cons_succ, List.nil_append, List.cons_append, Option.toList_some, Option.toList_none]
    repeat (first | refine es rfl rfl rfl ?_ | refine eslw rfl (by first | exact ixa1 _ | exact ixa2 _ | exact ixa3 _ | exact ixa4 _ | exact ixa5 _) ⟨by omega, hL⟩ ?_ | refine ehd rfl ?_)
    try dsimp only [set1, set2, kilP, List.set_cons_zero, List.set_cons_succ, List.getElem?_cons_zero, List.getElem?_cons_succ, List.nil_append, List.cons_append, Option.toList_some, Option.toList_none]
    refine ei _ rfl rfl (fun c2 => ?_) (fun c2 => ?_)
    · repeat (first | refine es rfl rfl rfl ?_ | refine eslw rfl (by first | exact ixa1 _ | exact ixa2 _ | exact ixa3 _ | exact ixa4 _ | exact ixa5 _) ⟨by omega, hL⟩ ?_ | refine ehd rfl ?_)
      try dsimp only [set1, set2, kilP, List.set_cons_zero, List.set_cons_succ, List.getElem?_cons_zero, List.getElem?_cons_succ, List.nil_append, List.cons_append, Option.toList_some, Option.toList_none]
      refine ecv rfl rfl (by assumption) rfl rfl rfl (y_owes hY1 hIv) (by first | rfl | exact Nat.blt_eq.mpr (by omega)) ?_
      rintro v M2 ⟨hq, hF2⟩
      obtain ⟨rfl, hY2⟩ := hq _ _ hsp
      try dsimp only [set1, set2, kilP, List.set_cons_zero, List.set_cons_succ, List.getElem?_cons_zero, List.getElem?_cons_succ, List.nil_append, List.cons_append, Option.toList_some, Option.toList_none]
      refine es rfl rfl rfl ?_
      refine ei _ rfl rfl (fun c9 => ?_) (fun c9 => ?_)
      · repeat (first | refine es rfl rfl rfl ?_ | refine eslw rfl (by first | exact ixa1 _ | exact ixa2 _ | exact ixa3 _ | exact ixa4 _ | exact ixa5 _) ⟨by omega, hL⟩ ?_ | refine ehd rfl ?_)
        exact ⟨rfl, σ', hI.st hF1 hX1 hF2 hY2 (spOwes_I hIv hc hsp)⟩
      · exact absurd (lg_cs a) c9
    · exact absurd c1 c2
  · repeat (first | refine es rfl rfl rfl ?_ | refine eslw rfl (by first | exact ixa1 _ | exact ixa2 _ | exact ixa3 _ | exact ixa4 _ | exact ixa5 _) ⟨by omega, hL⟩ ?_ | refine ehd rfl ?_)
    try dsimp only [set1, set2, kilP, List.set_cons_zero, List.set_cons_succ, List.getElem?_cons_zero, List.getElem?_cons_succ, List.nil_append, List.cons_append, Option.toList_some, Option.toList_none]
    refine ecv rfl rfl (by assumption) rfl rfl rfl (x_owes hX hIv) (by first | rfl | exact Nat.blt_eq.mpr (by omega)) ?_
    rintro v M1 ⟨σ', hsp, hX1, hF1⟩
    obtain ⟨a, rfl⟩ := spOwes_L hsp
    have hY1 := hY.lo hF1 (by omega)
    obtain ⟨oy, Ay, hRy⟩ := id hY1
    have y0 := hRy.1.1
    try dsimp only [set1, set2, kilP, List.set_cons_zero, List.set_cons_succ, List.getElem?_cons_zero, List.getElem?_cons_succ, List.nil_append, List.cons_append, Option.toList_some, Option.toList_none]
    repeat (first | refine es rfl rfl rfl ?_ | refine eslw rfl (by first | exact ixa1 _ | exact ixa2 _ | exact ixa3 _ | exact ixa4 _ | exact ixa5 _) ⟨by omega, hL⟩ ?_ | refine ehd rfl ?_)
    try dsimp only [set1, set2, kilP, List.set_cons_zero, List.set_cons_succ, List.getElem?_cons_zero, List.getElem?_cons_succ, List.nil_append, List.cons_append, Option.toList_some, Option.toList_none]
    refine ei _ rfl rfl (fun c2 => ?_) (fun c2 => ?_)
    · exact absurd c2 c1
    · repeat (first | refine es rfl rfl rfl ?_ | refine eslw rfl (by first | exact ixa1 _ | exact ixa2 _ | exact ixa3 _ | exact ixa4 _ | exact ixa5 _) ⟨by omega, hL⟩ ?_ | refine ehd rfl ?_)
      try dsimp only [set1, set2, kilP, List.set_cons_zero, List.set_cons_succ, List.getElem?_cons_zero, List.getElem?_cons_succ, List.nil_append, List.cons_append, Option.toList_some, Option.toList_none]
      refine ecv rfl rfl (by assumption) rfl rfl rfl (y_owes hY1 hIv) (by first | rfl | exact Nat.blt_eq.mpr (by omega)) ?_
      rintro v M2 ⟨hq, hF2⟩
      obtain ⟨rfl, hY2⟩ := hq _ _ hsp
      try dsimp only [set1, set2, kilP, List.set_cons_zero, List.set_cons_succ, List.getElem?_cons_zero, List.getElem?_cons_succ, List.nil_append, List.cons_append, Option.toList_some, Option.toList_none]
      refine es rfl rfl rfl ?_
      refine ei _ rfl rfl (fun c9 => ?_) (fun c9 => ?_)
      · repeat (first | refine es rfl rfl rfl ?_ | refine eslw rfl (by first | exact ixa1 _ | exact ixa2 _ | exact ixa3 _ | exact ixa4 _ | exact ixa5 _) ⟨by omega, hL⟩ ?_ | refine ehd rfl ?_)
        exact ⟨rfl, σ', hI.st hF1 hX1 hF2 hY2 (spOwes_I hIv hc hsp)⟩
      · exact absurd (lg_cs a) c9
