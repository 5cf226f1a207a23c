/-! The law's cases -/
def rC38 (ad : Nat → Nat) (b L : Nat) (xs : Nat → Int32) : List (Nat × Ins) := [(1504, ns (faload 1 1505)), (1505, ns (faload 0 1506)), (1506, ns (fiload 4 1508)), (1508, ns (fPush (.int 1) 1509)), (1509, ns (fB (fun x y => x + y) 1510)), (1510, pmW (fSld b L xs 1511)), (1511, ns (faload 0 1512)), (1512, ns (fiload 4 1514)), (1514, ns (fPush (.int 2) 1515)), (1515, ns (fB (fun x y => x + y) 1516)), (1516, pmW (fSld b L xs 1517)), (1517, fCv 168 2 11 1520), (1520, ns (faload 2 1521)), (1521, ns (faload 0 1522)), (1522, ns (fiload 4 1524)), (1524, ns (fPush (.int 1) 1525)), (1525, ns (fB (fun x y => x + y) 1526)), (1526, pmW (fSld b L xs 1527)), (1527, ns (faload 0 1528)), (1528, ns (fiload 4 1530)), (1530, ns (fPush (.int 2) 1531)), (1531, ns (fB (fun x y => x + y) 1532)), (1532, pmW (fSld b L xs 1533)), (1533, fCv 303 2 13 1536), (1536, ns (fIc_eq 1686 1539)), (1539, ns (fPush (.int 0) 1540)), (1540, fRz)]
set_option maxRecDepth 20000 in
theorem vC38 {X : Cxt} {ad : Nat → Nat} {b L : Nat} {xs : Nat → Int32} (hC : pmC X code 7 RL "law" ad) (hx : va_X b L xs X.St X.St.heap) (hbl : b < X.St.heap.size) (hbA : ¬ X.Ow b) : ∀ q ∈ rC38 ad b L xs, (pmN q ∧ pmO2 (mtb ad) X 7 q) ∧ noN q := by
  unfold rC38
  exact fa_c ((ok_aload_n (ret := some .boolean) (j := 1) (by decide +kernel) rfl).o3 hC) (fa_c ((ok_aload_n (ret := some .boolean) (j := 0) (by decide +kernel) rfl).o3 hC) (fa_c ((ok_iload (ret := some .boolean) (by decide +kernel)).o3 hC) (fa_c ((ok_iconst (ret := some .boolean) (n := 1) (by decide +kernel) (by decide)).o3 hC) (fa_c ((ok_iadd (ret := some .boolean) (by decide +kernel)).o3 hC) (fa_c (ok_sld3 (pc := 1510) hC hx hbl hbA (by decide +kernel)) (fa_c ((ok_aload_n (ret := some .boolean) (j := 0) (by decide +kernel) rfl).o3 hC) (fa_c ((ok_iload (ret := some .boolean) (by decide +kernel)).o3 hC) (fa_c ((ok_iconst (ret := some .boolean) (n := 2) (by decide +kernel) (by decide)).o3 hC) (fa_c ((ok_iadd (ret := some .boolean) (by decide +kernel)).o3 hC) (fa_c (ok_sld3 (pc := 1516) hC hx hbl hbA (by decide +kernel)) (fa_c ((ok_callv (ret := some .boolean) (ix := 180) (i := iX11_waits ad) (C := RX11) (T := TX11) (by decide +kernel) rfl clX11 rfl (caX11_waits ad) wt1180 wt1181 wt1182).o3 hC) (fa_c ((ok_aload_n (ret := some .boolean) (j := 2) (by decide +kernel) rfl).o3 hC) (fa_c ((ok_aload_n (ret := some .boolean) (j := 0) (by decide +kernel) rfl).o3 hC) (fa_c ((ok_iload (ret := some .boolean) (by decide +kernel)).o3 hC) (fa_c ((ok_iconst (ret := some .boolean) (n := 1) (by decide +kernel) (by decide)).o3 hC) (fa_c ((ok_iadd (ret := some .boolean) (by decide +kernel)).o3 hC) (fa_c (ok_sld3 (pc := 1526) hC hx hbl hbA (by decide +kernel)) (fa_c ((ok_aload_n (ret := some .boolean) (j := 0) (by decide +kernel) rfl).o3 hC) (fa_c ((ok_iload (ret := some .boolean) (by decide +kernel)).o3 hC) (fa_c ((ok_iconst (ret := some .boolean) (n := 2) (by decide +kernel) (by decide)).o3 hC) (fa_c ((ok_iadd (ret := some .boolean) (by decide +kernel)).o3 hC) (fa_c (ok_sld3 (pc := 1532) hC hx hbl hbA (by decide +kernel)) (fa_c ((ok_callv (ret := some .boolean) (ix := 183) (i := iX13_waits ad) (C := RX13) (T := TX13) (by decide +kernel) rfl clX13 rfl (caX13_waits ad) wt2020 wt2021 wt2022).o3 hC) (fa_c ((ok_Ic_eq (ret := some .boolean) (off := 150) (t := 1686) (by decide +kernel) (by decide)).o3 hC) (fa_c ((ok_iconst (ret := some .boolean) (n := 0) (by decide +kernel) (by decide)).o3 hC) (fa_c ((ok_rz (ret := some .boolean) (by decide +kernel) rfl).o3 hC) (fa_n)))))))))))))))))))))))))))
theorem lc38 {ad : Nat → Nat} {b L : Nat} {xs : Nat → Int32} {h C i : Nat} {M : Mm} {σ : Sg} (hI : lwI ad h M σ C) (hc : C + 1 ≤ 600) (hi : i + 6 ≤ L) (hL : L ≤ 3072) : Ev ad 20 (rC38 ad b L xs ++ [(1686, fHd b h (h + 73) (h + 89) (nI i))]) (1504, [some (.ref b), some (.ref h), some (.ref (h + 73)), some (.ref (h + 89)), some (.int (nI i)), none, none], [], M) (lwP ad h C) := by
  obtain ⟨hX, hY, hIv, hS, ⟨fo, ho⟩, hz1, hz2, hz3⟩ := id hI
  obtain ⟨tb, sp, hts, h0, _⟩ := id hX
  unfold xTop at h0
  repeat (first | refine es rfl rfl rfl ?_ | refine eslw rfl (by first | exact ixa1 _ | exact ixa2 _ | exact ixa3 _ | exact ixa4 _ | exact ixa5 _) ⟨by omega, hL⟩ ?_ | refine ehd rfl ?_)
  try dsimp only [set1, set2, kilP, List.set_cons_zero, List.set_cons_succ, List.getElem?_cons_zero, List.getElem?_cons_succ, List.nil_append, List.cons_append, Option.toList_some, Option.toList_none]
  refine ecv rfl rfl (by assumption) rfl rfl rfl (x_waits hX hIv) (by first | rfl | exact Nat.blt_eq.mpr (by omega)) ?_
  rintro v M1 ⟨σ', hsp, hX1, hF1⟩
  obtain ⟨a, rfl⟩ := spWaits_V hsp
  have hY1 := hY.lo hF1 (by omega)
  obtain ⟨oy, Ay, hRy⟩ := id hY1
  have y0 := hRy.1.1
  try dsimp only [set1, set2, kilP, List.set_cons_zero, List.set_cons_succ, List.getElem?_cons_zero, List.getElem?_cons_succ, List.nil_append, List.cons_append, Option.toList_some, Option.toList_none]
  repeat (first | refine es rfl rfl rfl ?_ | refine eslw rfl (by first | exact ixa1 _ | exact ixa2 _ | exact ixa3 _ | exact ixa4 _ | exact ixa5 _) ⟨by omega, hL⟩ ?_ | refine ehd rfl ?_)
  try dsimp only [set1, set2, kilP, List.set_cons_zero, List.set_cons_succ, List.getElem?_cons_zero, List.getElem?_cons_succ, List.nil_append, List.cons_append, Option.toList_some, Option.toList_none]
  refine ecv rfl rfl (by assumption) rfl rfl rfl (y_waits hY1 hIv) (by first | rfl | exact Nat.blt_eq.mpr (by omega)) ?_
  rintro v M2 ⟨hq, hF2⟩
  obtain ⟨rfl, hY2⟩ := hq _ _ hsp
  try dsimp only [set1, set2, kilP, List.set_cons_zero, List.set_cons_succ, List.getElem?_cons_zero, List.getElem?_cons_succ, List.nil_append, List.cons_append, Option.toList_some, Option.toList_none]
  refine ei _ rfl rfl (fun c9 => ?_) (fun c9 => ?_)
  · repeat (first | refine es rfl rfl rfl ?_ | refine eslw rfl (by first | exact ixa1 _ | exact ixa2 _ | exact ixa3 _ | exact ixa4 _ | exact ixa5 _) ⟨by omega, hL⟩ ?_ | refine ehd rfl ?_)
    exact ⟨rfl, σ', hI.st hF1 hX1 hF2 hY2 (spWaits_I hIv hc hsp)⟩
  · exact absurd rfl c9
def rC39 (ad : Nat → Nat) (b L : Nat) (xs : Nat → Int32) : List (Nat × Ins) := [(1541, ns (faload 1 1542)), (1542, fCv 169 0 11 1545), (1545, ns (faload 2 1546)), (1546, fCv 304 0 13 1549), (1549, ns (fIc_eq 1686 1552)), (1552, ns (fPush (.int 0) 1553)), (1553, fRz)]
set_option maxRecDepth 20000 in
theorem vC39 {X : Cxt} {ad : Nat → Nat} {b L : Nat} {xs : Nat → Int32} (hC : pmC X code 7 RL "law" ad) (hx : va_X b L xs X.St X.St.heap) (hbl : b < X.St.heap.size) (hbA : ¬ X.Ow b) : ∀ q ∈ rC39 ad b L xs, (pmN q ∧ pmO2 (mtb ad) X 7 q) ∧ noN q := by
  unfold rC39
  exact fa_c ((ok_aload_n (ret := some .boolean) (j := 1) (by decide +kernel) rfl).o3 hC) (fa_c ((ok_callv (ret := some .boolean) (ix := 184) (i := iX11_undo ad) (C := RX11) (T := TX11) (by decide +kernel) rfl clX11 rfl (caX11_undo ad) wt1184 wt1185 wt1186).o3 hC) (fa_c ((ok_aload_n (ret := some .boolean) (j := 2) (by decide +kernel) rfl).o3 hC) (fa_c ((ok_callv (ret := some .boolean) (ix := 188) (i := iX13_undo ad) (C := RX13) (T := TX13) (by decide +kernel) rfl clX13 rfl (caX13_undo ad) wt2024 wt2025 wt2026).o3 hC) (fa_c ((ok_Ic_eq (ret := some .boolean) (off := 137) (t := 1686) (by decide +kernel) (by decide)).o3 hC) (fa_c ((ok_iconst (ret := some .boolean) (n := 0) (by decide +kernel) (by decide)).o3 hC) (fa_c ((ok_rz (ret := some .boolean) (by decide +kernel) rfl).o3 hC) (fa_n)))))))
theorem lc39 {ad : Nat → Nat} {b L : Nat} {xs : Nat → Int32} {h C i : Nat} {M : Mm} {σ : Sg} (hI : lwI ad h M σ C) (hc : C + 1 ≤ 600) (hi : i + 6 ≤ L) (hL : L ≤ 3072) : Ev ad 20 (rC39 ad b L xs ++ [(1686, fHd b h (h + 73) (h + 89) (nI i))]) (1541, [some (.ref b), some (.ref h), some (.ref (h + 73)), some (.ref (h + 89)), some (.int (nI i)), none, none], [], M) (lwP ad h C) := by
  obtain ⟨hX, hY, hIv, hS, ⟨fo, ho⟩, hz1, hz2, hz3⟩ := id hI
  obtain ⟨tb, sp, hts, h0, _⟩ := id hX
  unfold xTop at h0
  repeat (first | refine es rfl rfl rfl ?_ | refine eslw rfl (by first | exact ixa1 _ | exact ixa2 _ | exact ixa3 _ | exact ixa4 _ | exact ixa5 _) ⟨by omega, hL⟩ ?_ | refine ehd rfl ?_)
  try dsimp only [set1, set2, kilP, List.set_cons_zero, List.set_cons_succ, List.getElem?_cons_zero, List.getElem?_cons_succ, List.nil_append, List.cons_append, Option.toList_some, Option.toList_none]
  refine ecv rfl rfl (by assumption) rfl rfl rfl (x_undo hX) (by first | rfl | exact Nat.blt_eq.mpr (by omega)) ?_
  rintro v M1 ⟨σ', hsp, hX1, hF1⟩
  obtain ⟨a, rfl⟩ := spUndo_V hsp
  have hY1 := hY.lo hF1 (by omega)
  obtain ⟨oy, Ay, hRy⟩ := id hY1
  have y0 := hRy.1.1
  try dsimp only [set1, set2, kilP, List.set_cons_zero, List.set_cons_succ, List.getElem?_cons_zero, List.getElem?_cons_succ, List.nil_append, List.cons_append, Option.toList_some, Option.toList_none]
  repeat (first | refine es rfl rfl rfl ?_ | refine eslw rfl (by first | exact ixa1 _ | exact ixa2 _ | exact ixa3 _ | exact ixa4 _ | exact ixa5 _) ⟨by omega, hL⟩ ?_ | refine ehd rfl ?_)
  try dsimp only [set1, set2, kilP, List.set_cons_zero, List.set_cons_succ, List.getElem?_cons_zero, List.getElem?_cons_succ, List.nil_append, List.cons_append, Option.toList_some, Option.toList_none]
  refine ecv rfl rfl (by assumption) rfl rfl rfl (y_undo hY1 hIv) (by first | rfl | exact Nat.blt_eq.mpr (by omega)) ?_
  rintro v M2 ⟨hq, hF2⟩
  obtain ⟨rfl, hY2⟩ := hq _ _ hsp
  try dsimp only [set1, set2, kilP, List.set_cons_zero, List.set_cons_succ, List.getElem?_cons_zero, List.getElem?_cons_succ, List.nil_append, List.cons_append, Option.toList_some, Option.toList_none]
  refine ei _ rfl rfl (fun c9 => ?_) (fun c9 => ?_)
  · repeat (first | refine es rfl rfl rfl ?_ | refine eslw rfl (by first | exact ixa1 _ | exact ixa2 _ | exact ixa3 _ | exact ixa4 _ | exact ixa5 _) ⟨by omega, hL⟩ ?_ | refine ehd rfl ?_)
    exact ⟨rfl, σ', hI.st hF1 hX1 hF2 hY2 (spUndo_I hIv hc hsp)⟩
  · exact absurd rfl c9
def rC40 (ad : Nat → Nat) (b L : Nat) (xs : Nat → Int32) : List (Nat × Ins) := [(1554, ns (faload 1 1555)), (1555, fCv 170 0 11 1558), (1558, ns (faload 2 1559)), (1559, fCv 305 0 13 1562), (1562, ns (fIc_eq 1686 1565)), (1565, ns (fPush (.int 0) 1566)), (1566, fRz)]
set_option maxRecDepth 20000 in
theorem vC40 {X : Cxt} {ad : Nat → Nat} {b L : Nat} {xs : Nat → Int32} (hC : pmC X code 7 RL "law" ad) (hx : va_X b L xs X.St X.St.heap) (hbl : b < X.St.heap.size) (hbA : ¬ X.Ow b) : ∀ q ∈ rC40 ad b L xs, (pmN q ∧ pmO2 (mtb ad) X 7 q) ∧ noN q := by
  unfold rC40
  exact fa_c ((ok_aload_n (ret := some .boolean) (j := 1) (by decide +kernel) rfl).o3 hC) (fa_c ((ok_callv (ret := some .boolean) (ix := 189) (i := iX11_mark ad) (C := RX11) (T := TX11) (by decide +kernel) rfl clX11 rfl (caX11_mark ad) wt1200 wt1201 wt1202).o3 hC) (fa_c ((ok_aload_n (ret := some .boolean) (j := 2) (by decide +kernel) rfl).o3 hC) (fa_c ((ok_callv (ret := some .boolean) (ix := 192) (i := iX13_mark ad) (C := RX13) (T := TX13) (by decide +kernel) rfl clX13 rfl (caX13_mark ad) wt2028 wt2029 wt2030).o3 hC) (fa_c ((ok_Ic_eq (ret := some .boolean) (off := 124) (t := 1686) (by decide +kernel) (by decide)).o3 hC) (fa_c ((ok_iconst (ret := some .boolean) (n := 0) (by decide +kernel) (by decide)).o3 hC) (fa_c ((ok_rz (ret := some .boolean) (by decide +kernel) rfl).o3 hC) (fa_n)))))))
theorem lc40 {ad : Nat → Nat} {b L : Nat} {xs : Nat → Int32} {h C i : Nat} {M : Mm} {σ : Sg} (hI : lwI ad h M σ C) (hc : C + 1 ≤ 600) (hi : i + 6 ≤ L) (hL : L ≤ 3072) : Ev ad 20 (rC40 ad b L xs ++ [(1686, fHd b h (h + 73) (h + 89) (nI i))]) (1554, [some (.ref b), some (.ref h), some (.ref (h + 73)), some (.ref (h + 89)), some (.int (nI i)), none, none], [], M) (lwP ad h C) := by
  obtain ⟨hX, hY, hIv, hS, ⟨fo, ho⟩, hz1, hz2, hz3⟩ := id hI
  obtain ⟨tb, sp, hts, h0, _⟩ := id hX
  unfold xTop at h0
  repeat (first | refine es rfl rfl rfl ?_ | refine eslw rfl (by first | exact ixa1 _ | exact ixa2 _ | exact ixa3 _ | exact ixa4 _ | exact ixa5 _) ⟨by omega, hL⟩ ?_ | refine ehd rfl ?_)
  try dsimp only [set1, set2, kilP, List.set_cons_zero, List.set_cons_succ, List.getElem?_cons_zero, List.getElem?_cons_succ, List.nil_append, List.cons_append, Option.toList_some, Option.toList_none]
  refine ecv rfl rfl (by assumption) rfl rfl rfl (x_mark hX hIv) (by first | rfl | exact Nat.blt_eq.mpr (by omega)) ?_
  rintro v M1 ⟨σ', hsp, hX1, hF1⟩
  obtain ⟨a, rfl⟩ := spMark_V hsp
  have hY1 := hY.lo hF1 (by omega)
  obtain ⟨oy, Ay, hRy⟩ := id hY1
  have y0 := hRy.1.1
  try dsimp only [set1, set2, kilP, List.set_cons_zero, List.set_cons_succ, List.getElem?_cons_zero, List.getElem?_cons_succ, List.nil_append, List.cons_append, Option.toList_some, Option.toList_none]
  repeat (first | refine es rfl rfl rfl ?_ | refine eslw rfl (by first | exact ixa1 _ | exact ixa2 _ | exact ixa3 _ | exact ixa4 _ | exact ixa5 _) ⟨by omega, hL⟩ ?_ | refine ehd rfl ?_)
  try dsimp only [set1, set2, kilP, List.set_cons_zero, List.set_cons_succ, List.getElem?_cons_zero, List.getElem?_cons_succ, List.nil_append, List.cons_append, Option.toList_some, Option.toList_none]
  refine ecv rfl rfl (by assumption) rfl rfl rfl (y_mark hY1 hIv) (by first | rfl | exact Nat.blt_eq.mpr (by omega)) ?_
  rintro v M2 ⟨hq, hF2⟩
  obtain ⟨rfl, hY2⟩ := hq _ _ hsp
  try dsimp only [set1, set2, kilP, List.set_cons_zero, List.set_cons_succ, List.getElem?_cons_zero, List.getElem?_cons_succ, List.nil_append, List.cons_append, Option.toList_some, Option.toList_none]
  refine ei _ rfl rfl (fun c9 => ?_) (fun c9 => ?_)
  · repeat (first | refine es rfl rfl rfl ?_ | refine eslw rfl (by first | exact ixa1 _ | exact ixa2 _ | exact ixa3 _ | exact ixa4 _ | exact ixa5 _) ⟨by omega, hL⟩ ?_ | refine ehd rfl ?_)
    exact ⟨rfl, σ', hI.st hF1 hX1 hF2 hY2 (spMark_I hIv hc hsp)⟩
  · exact absurd rfl c9
def rC41 (ad : Nat → Nat) (b L : Nat) (xs : Nat → Int32) : List (Nat × Ins) := [(1567, ns (faload 1 1568)), (1568, ns (faload 0 1569)), (1569, ns (fiload 4 1571)), (1571, ns (fPush (.int 1) 1572)), (1572, ns (fB (fun x y => x + y) 1573)), (1573, pmW (fSld b L xs 1574)), (1574, fCv 171 1 11 1577), (1577, ns (faload 2 1578)), (1578, ns (faload 0 1579)), (1579, ns (fiload 4 1581)), (1581, ns (fPush (.int 1) 1582)), (1582, ns (fB (fun x y => x + y) 1583)), (1583, pmW (fSld b L xs 1584)), (1584, fCv 306 1 13 1587), (1587, ns (fIc_eq 1686 1590)), (1590, ns (fPush (.int 0) 1591)), (1591, fRz)]
set_option maxRecDepth 20000 in
theorem vC41 {X : Cxt} {ad : Nat → Nat} {b L : Nat} {xs : Nat → Int32} (hC : pmC X code 7 RL "law" ad) (hx : va_X b L xs X.St X.St.heap) (hbl : b < X.St.heap.size) (hbA : ¬ X.Ow b) : ∀ q ∈ rC41 ad b L xs, (pmN q ∧ pmO2 (mtb ad) X 7 q) ∧ noN q := by
  unfold rC41
  exact fa_c ((ok_aload_n (ret := some .boolean) (j := 1) (by decide +kernel) rfl).o3 hC) (fa_c ((ok_aload_n (ret := some .boolean) (j := 0) (by decide +kernel) rfl).o3 hC) (fa_c ((ok_iload (ret := some .boolean) (by decide +kernel)).o3 hC) (fa_c ((ok_iconst (ret := some .boolean) (n := 1) (by decide +kernel) (by decide)).o3 hC) (fa_c ((ok_iadd (ret := some .boolean) (by decide +kernel)).o3 hC) (fa_c (ok_sld3 (pc := 1573) hC hx hbl hbA (by decide +kernel)) (fa_c ((ok_callv (ret := some .boolean) (ix := 193) (i := iX11_back ad) (C := RX11) (T := TX11) (by decide +kernel) rfl clX11 rfl (caX11_back ad) wt1212 wt1213 wt1214).o3 hC) (fa_c ((ok_aload_n (ret := some .boolean) (j := 2) (by decide +kernel) rfl).o3 hC) (fa_c ((ok_aload_n (ret := some .boolean) (j := 0) (by decide +kernel) rfl).o3 hC) (fa_c ((ok_iload (ret := some .boolean) (by decide +kernel)).o3 hC) (fa_c ((ok_iconst (ret := some .boolean) (n := 1) (by decide +kernel) (by decide)).o3 hC) (fa_c ((ok_iadd (ret := some .boolean) (by decide +kernel)).o3 hC) (fa_c (ok_sld3 (pc := 1583) hC hx hbl hbA (by decide +kernel)) (fa_c ((ok_callv (ret := some .boolean) (ix := 197) (i := iX13_back ad) (C := RX13) (T := TX13) (by decide +kernel) rfl clX13 rfl (caX13_back ad) wt2032 wt2033 wt2034).o3 hC) (fa_c ((ok_Ic_eq (ret := some .boolean) (off := 99) (t := 1686) (by decide +kernel) (by decide)).o3 hC) (fa_c ((ok_iconst (ret := some .boolean) (n := 0) (by decide +kernel) (by decide)).o3 hC) (fa_c ((ok_rz (ret := some .boolean) (by decide +kernel) rfl).o3 hC) (fa_n)))))))))))))))))
theorem lc41 {ad : Nat → Nat} {b L : Nat} {xs : Nat → Int32} {h C i : Nat} {M : Mm} {σ : Sg} (hI : lwI ad h M σ C) (hc : C + 1 ≤ 600) (hi : i + 6 ≤ L) (hL : L ≤ 3072) : Ev ad 20 (rC41 ad b L xs ++ [(1686, fHd b h (h + 73) (h + 89) (nI i))]) (1567, [some (.ref b), some (.ref h), some (.ref (h + 73)), some (.ref (h + 89)), some (.int (nI i)), none, none], [], M) (lwP ad h C) := by
  obtain ⟨hX, hY, hIv, hS, ⟨fo, ho⟩, hz1, hz2, hz3⟩ := id hI
  obtain ⟨tb, sp, hts, h0, _⟩ := id hX
  unfold xTop at h0
  repeat (first | refine es rfl rfl rfl ?_ | refine eslw rfl (by first | exact ixa1 _ | exact ixa2 _ | exact ixa3 _ | exact ixa4 _ | exact ixa5 _) ⟨by omega, hL⟩ ?_ | refine ehd rfl ?_)
  try dsimp only [set1, set2, kilP, List.set_cons_zero, List.set_cons_succ, List.getElem?_cons_zero, List.getElem?_cons_succ, List.nil_append, List.cons_append, Option.toList_some, Option.toList_none]
  refine ecv rfl rfl (by assumption) rfl rfl rfl (x_back hX) (by first | rfl | exact Nat.blt_eq.mpr (by omega)) ?_
  rintro v M1 ⟨σ', hsp, hX1, hF1⟩
  obtain ⟨a, rfl⟩ := spBack_V hsp
  have hY1 := hY.lo hF1 (by omega)
  obtain ⟨oy, Ay, hRy⟩ := id hY1
  have y0 := hRy.1.1
  try dsimp only [set1, set2, kilP, List.set_cons_zero, List.set_cons_succ, List.getElem?_cons_zero, List.getElem?_cons_succ, List.nil_append, List.cons_append, Option.toList_some, Option.toList_none]
  repeat (first | refine es rfl rfl rfl ?_ | refine eslw rfl (by first | exact ixa1 _ | exact ixa2 _ | exact ixa3 _ | exact ixa4 _ | exact ixa5 _) ⟨by omega, hL⟩ ?_ | refine ehd rfl ?_)
  try dsimp only [set1, set2, kilP, List.set_cons_zero, List.set_cons_succ, List.getElem?_cons_zero, List.getElem?_cons_succ, List.nil_append, List.cons_append, Option.toList_some, Option.toList_none]
  refine ecv rfl rfl (by assumption) rfl rfl rfl (y_back hY1 hIv) (by first | rfl | exact Nat.blt_eq.mpr (by omega)) ?_
  rintro v M2 ⟨hq, hF2⟩
  obtain ⟨rfl, hY2⟩ := hq _ _ hsp
  try dsimp only [set1, set2, kilP, List.set_cons_zero, List.set_cons_succ, List.getElem?_cons_zero, List.getElem?_cons_succ, List.nil_append, List.cons_append, Option.toList_some, Option.toList_none]
  refine ei _ rfl rfl (fun c9 => ?_) (fun c9 => ?_)
  · repeat (first | refine es rfl rfl rfl ?_ | refine eslw rfl (by first | exact ixa1 _ | exact ixa2 _ | exact ixa3 _ | exact ixa4 _ | exact ixa5 _) ⟨by omega, hL⟩ ?_ | refine ehd rfl ?_)
    exact ⟨rfl, σ', hI.st hF1 hX1 hF2 hY2 (spBack_I hIv hc hsp)⟩
  · exact absurd rfl c9
def rC42 (ad : Nat → Nat) (b L : Nat) (xs : Nat → Int32) : List (Nat × Ins) := [(1603, ns (fistore 7 5 1605)), (1605, ns (faload 2 1606)), (1606, ns (faload 0 1607)), (1607, ns (fiload 4 1609)), (1609, ns (fPush (.int 1) 1610)), (1610, ns (fB (fun x y => x + y) 1611)), (1611, pmW (fSld b L xs 1612)), (1612, fCv 307 1 13 1615), (1615, ns (fistore 7 6 1617)), (1617, ns (faload 2 1618)), (1618, fCv 194 0 13 1621), (1621, ns (fiload 5 1623)), (1623, ns (fIc_eq 1628 1626)), (1626, ns (fPush (.int 0) 1627)), (1627, fRz), (1628, ns (fiload 5 1630)), (1630, ns (fIf_ne 1645 1633)), (1633, ns (faload 3 1634)), (1634, ns (fPush (.int 0) 1635)), (1635, pmW (fLald 1636)), (1636, ns (fiload 6 1638)), (1638, ns (fI2l 1639)), (1639, ns (fLcmp 1640)), (1640, ns (fIf_eq 1645 1643)), (1643, ns (fPush (.int 0) 1644)), (1644, fRz), (1645, ns (fGoto 1686))]
set_option maxRecDepth 20000 in
theorem vC42 {X : Cxt} {ad : Nat → Nat} {b L : Nat} {xs : Nat → Int32} (hC : pmC X code 7 RL "law" ad) (hx : va_X b L xs X.St X.St.heap) (hbl : b < X.St.heap.size) (hbA : ¬ X.Ow b) : ∀ q ∈ rC42 ad b L xs, (pmN q ∧ pmO2 (mtb ad) X 7 q) ∧ noN q := by
  unfold rC42
  exact fa_c ((ok_istore (ret := some .boolean) (by decide +kernel)).o3 hC) (fa_c ((ok_aload_n (ret := some .boolean) (j := 2) (by decide +kernel) rfl).o3 hC) (fa_c ((ok_aload_n (ret := some .boolean) (j := 0) (by decide +kernel) rfl).o3 hC) (fa_c ((ok_iload (ret := some .boolean) (by decide +kernel)).o3 hC) (fa_c ((ok_iconst (ret := some .boolean) (n := 1) (by decide +kernel) (by decide)).o3 hC) (fa_c ((ok_iadd (ret := some .boolean) (by decide +kernel)).o3 hC) (fa_c (ok_sld3 (pc := 1611) hC hx hbl hbA (by decide +kernel)) (fa_c ((ok_callv (ret := some .boolean) (ix := 203) (i := iX13_led ad) (C := RX13) (T := TX13) (by decide +kernel) rfl clX13 rfl (caX13_led ad) wt2036 wt2037 wt2038).o3 hC) (fa_c ((ok_istore (ret := some .boolean) (by decide +kernel)).o3 hC) (fa_c ((ok_aload_n (ret := some .boolean) (j := 2) (by decide +kernel) rfl).o3 hC) (fa_c ((ok_callv (ret := some .boolean) (ix := 204) (i := iX13_thrown ad) (C := RX13) (T := TX13) (by decide +kernel) rfl clX13 rfl (caX13_thrown ad) wt1434 wt1435 wt1436).o3 hC) (fa_c ((ok_iload (ret := some .boolean) (by decide +kernel)).o3 hC) (fa_c ((ok_Ic_eq (ret := some .boolean) (off := 5) (t := 1628) (by decide +kernel) (by decide)).o3 hC) (fa_c ((ok_iconst (ret := some .boolean) (n := 0) (by decide +kernel) (by decide)).o3 hC) (fa_c ((ok_rz (ret := some .boolean) (by decide +kernel) rfl).o3 hC) (fa_c ((ok_iload (ret := some .boolean) (by decide +kernel)).o3 hC) (fa_c ((ok_If_ne (ret := some .boolean) (off := 15) (t := 1645) (by decide +kernel) (by decide)).o3 hC) (fa_c ((ok_aload_n (ret := some .boolean) (j := 3) (by decide +kernel) rfl).o3 hC) (fa_c ((ok_iconst (ret := some .boolean) (n := 0) (by decide +kernel) (by decide)).o3 hC) (fa_c ((ok_lald (ret := some .boolean) (by decide +kernel)).o3 hC) (fa_c ((ok_iload (ret := some .boolean) (by decide +kernel)).o3 hC) (fa_c ((ok_i2l (ret := some .boolean) (by decide +kernel)).o3 hC) (fa_c ((ok_lcmp (ret := some .boolean) (by decide +kernel)).o3 hC) (fa_c ((ok_If_eq (ret := some .boolean) (off := 5) (t := 1645) (by decide +kernel) (by decide)).o3 hC) (fa_c ((ok_iconst (ret := some .boolean) (n := 0) (by decide +kernel) (by decide)).o3 hC) (fa_c ((ok_rz (ret := some .boolean) (by decide +kernel) rfl).o3 hC) (fa_c ((ok_goto (ret := some .boolean) (off := 41) (t := 1686) (by decide +kernel) (by decide)).o3 hC) (fa_n)))))))))))))))))))))))))))
def rC43 (ad : Nat → Nat) (b L : Nat) (xs : Nat → Int32) : List (Nat × Ins) := [(1648, ns (faload 1 1649)), (1649, ns (faload 0 1650)), (1650, ns (fiload 4 1652)), (1652, ns (fPush (.int 1) 1653)), (1653, ns (fB (fun x y => x + y) 1654)), (1654, pmW (fSld b L xs 1655)), (1655, fCv 173 1 11 1658), (1658, ns (faload 2 1659)), (1659, ns (faload 0 1660)), (1660, ns (fiload 4 1662)), (1662, ns (fPush (.int 1) 1663)), (1663, ns (fB (fun x y => x + y) 1664)), (1664, pmW (fSld b L xs 1665)), (1665, fCv 309 1 13 1668), (1668, ns (fIc_eq 1686 1671)), (1671, ns (fPush (.int 0) 1672)), (1672, fRz)]
set_option maxRecDepth 20000 in
theorem vC43 {X : Cxt} {ad : Nat → Nat} {b L : Nat} {xs : Nat → Int32} (hC : pmC X code 7 RL "law" ad) (hx : va_X b L xs X.St X.St.heap) (hbl : b < X.St.heap.size) (hbA : ¬ X.Ow b) : ∀ q ∈ rC43 ad b L xs, (pmN q ∧ pmO2 (mtb ad) X 7 q) ∧ noN q := by
  unfold rC43
  exact fa_c ((ok_aload_n (ret := some .boolean) (j := 1) (by decide +kernel) rfl).o3 hC) (fa_c ((ok_aload_n (ret := some .boolean) (j := 0) (by decide +kernel) rfl).o3 hC) (fa_c ((ok_iload (ret := some .boolean) (by decide +kernel)).o3 hC) (fa_c ((ok_iconst (ret := some .boolean) (n := 1) (by decide +kernel) (by decide)).o3 hC) (fa_c ((ok_iadd (ret := some .boolean) (by decide +kernel)).o3 hC) (fa_c (ok_sld3 (pc := 1654) hC hx hbl hbA (by decide +kernel)) (fa_c ((ok_callv (ret := some .boolean) (ix := 207) (i := iX11_size ad) (C := RX11) (T := TX11) (by decide +kernel) rfl clX11 rfl (caX11_size ad) wt1220 wt1221 wt1222).o3 hC) (fa_c ((ok_aload_n (ret := some .boolean) (j := 2) (by decide +kernel) rfl).o3 hC) (fa_c ((ok_aload_n (ret := some .boolean) (j := 0) (by decide +kernel) rfl).o3 hC) (fa_c ((ok_iload (ret := some .boolean) (by decide +kernel)).o3 hC) (fa_c ((ok_iconst (ret := some .boolean) (n := 1) (by decide +kernel) (by decide)).o3 hC) (fa_c ((ok_iadd (ret := some .boolean) (by decide +kernel)).o3 hC) (fa_c (ok_sld3 (pc := 1664) hC hx hbl hbA (by decide +kernel)) (fa_c ((ok_callv (ret := some .boolean) (ix := 210) (i := iX13_size ad) (C := RX13) (T := TX13) (by decide +kernel) rfl clX13 rfl (caX13_size ad) wt2040 wt2041 wt2042).o3 hC) (fa_c ((ok_Ic_eq (ret := some .boolean) (off := 18) (t := 1686) (by decide +kernel) (by decide)).o3 hC) (fa_c ((ok_iconst (ret := some .boolean) (n := 0) (by decide +kernel) (by decide)).o3 hC) (fa_c ((ok_rz (ret := some .boolean) (by decide +kernel) rfl).o3 hC) (fa_n)))))))))))))))))
theorem lc43 {ad : Nat → Nat} {b L : Nat} {xs : Nat → Int32} {h C i : Nat} {M : Mm} {σ : Sg} (hI : lwI ad h M σ C) (hc : C + 1 ≤ 600) (hi : i + 6 ≤ L) (hL : L ≤ 3072) : Ev ad 20 (rC43 ad b L xs ++ [(1686, fHd b h (h + 73) (h + 89) (nI i))]) (1648, [some (.ref b), some (.ref h), some (.ref (h + 73)), some (.ref (h + 89)), some (.int (nI i)), none, none], [], M) (lwP ad h C) := by
  obtain ⟨hX, hY, hIv, hS, ⟨fo, ho⟩, hz1, hz2, hz3⟩ := id hI
  obtain ⟨tb, sp, hts, h0, _⟩ := id hX
  unfold xTop at h0
  repeat (first | refine es rfl rfl rfl ?_ | refine eslw rfl (by first | exact ixa1 _ | exact ixa2 _ | exact ixa3 _ | exact ixa4 _ | exact ixa5 _) ⟨by omega, hL⟩ ?_ | refine ehd rfl ?_)
  try dsimp only [set1, set2, kilP, List.set_cons_zero, List.set_cons_succ, List.getElem?_cons_zero, List.getElem?_cons_succ, List.nil_append, List.cons_append, Option.toList_some, Option.toList_none]
  refine ecv rfl rfl (by assumption) rfl rfl rfl (x_size hX hIv) (by first | rfl | exact Nat.blt_eq.mpr (by omega)) ?_
  rintro v M1 ⟨σ', hsp, hX1, hF1⟩
  obtain ⟨a, rfl⟩ := spSize_V hsp
  have hY1 := hY.lo hF1 (by omega)
  obtain ⟨oy, Ay, hRy⟩ := id hY1
  have y0 := hRy.1.1
  try dsimp only [set1, set2, kilP, List.set_cons_zero, List.set_cons_succ, List.getElem?_cons_zero, List.getElem?_cons_succ, List.nil_append, List.cons_append, Option.toList_some, Option.toList_none]
  repeat (first | refine es rfl rfl rfl ?_ | refine eslw rfl (by first | exact ixa1 _ | exact ixa2 _ | exact ixa3 _ | exact ixa4 _ | exact ixa5 _) ⟨by omega, hL⟩ ?_ | refine ehd rfl ?_)
  try dsimp only [set1, set2, kilP, List.set_cons_zero, List.set_cons_succ, List.getElem?_cons_zero, List.getElem?_cons_succ, List.nil_append, List.cons_append, Option.toList_some, Option.toList_none]
  refine ecv rfl rfl (by assumption) rfl rfl rfl (y_size hY1 hIv) (by first | rfl | exact Nat.blt_eq.mpr (by omega)) ?_
  rintro v M2 ⟨hq, hF2⟩
  obtain ⟨rfl, hY2⟩ := hq _ _ hsp
  try dsimp only [set1, set2, kilP, List.set_cons_zero, List.set_cons_succ, List.getElem?_cons_zero, List.getElem?_cons_succ, List.nil_append, List.cons_append, Option.toList_some, Option.toList_none]
  refine ei _ rfl rfl (fun c9 => ?_) (fun c9 => ?_)
  · repeat (first | refine es rfl rfl rfl ?_ | refine eslw rfl (by first | exact ixa1 _ | exact ixa2 _ | exact ixa3 _ | exact ixa4 _ | exact ixa5 _) ⟨by omega, hL⟩ ?_ | refine ehd rfl ?_)
    exact ⟨rfl, σ', hI.st hF1 hX1 hF2 hY2 (spSize_I hIv hc hsp)⟩
  · exact absurd rfl c9
def rC44 (ad : Nat → Nat) (b L : Nat) (xs : Nat → Int32) : List (Nat × Ins) := [(1673, ns (faload 1 1674)), (1674, fCv 174 0 11 1677), (1677, ns (faload 2 1678)), (1678, fCv 310 0 13 1681), (1681, ns (fIc_eq 1686 1684)), (1684, ns (fPush (.int 0) 1685)), (1685, fRz)]
set_option maxRecDepth 20000 in
theorem vC44 {X : Cxt} {ad : Nat → Nat} {b L : Nat} {xs : Nat → Int32} (hC : pmC X code 7 RL "law" ad) (hx : va_X b L xs X.St X.St.heap) (hbl : b < X.St.heap.size) (hbA : ¬ X.Ow b) : ∀ q ∈ rC44 ad b L xs, (pmN q ∧ pmO2 (mtb ad) X 7 q) ∧ noN q := by
  unfold rC44
  exact fa_c ((ok_aload_n (ret := some .boolean) (j := 1) (by decide +kernel) rfl).o3 hC) (fa_c ((ok_callv (ret := some .boolean) (ix := 211) (i := iX11_trouble ad) (C := RX11) (T := TX11) (by decide +kernel) rfl clX11 rfl (caX11_trouble ad) wt1237 wt1238 wt1239).o3 hC) (fa_c ((ok_aload_n (ret := some .boolean) (j := 2) (by decide +kernel) rfl).o3 hC) (fa_c ((ok_callv (ret := some .boolean) (ix := 214) (i := iX13_trouble ad) (C := RX13) (T := TX13) (by decide +kernel) rfl clX13 rfl (caX13_trouble ad) wt2048 wt2049 wt2050).o3 hC) (fa_c ((ok_Ic_eq (ret := some .boolean) (off := 5) (t := 1686) (by decide +kernel) (by decide)).o3 hC) (fa_c ((ok_iconst (ret := some .boolean) (n := 0) (by decide +kernel) (by decide)).o3 hC) (fa_c ((ok_rz (ret := some .boolean) (by decide +kernel) rfl).o3 hC) (fa_n)))))))
theorem lc44 {ad : Nat → Nat} {b L : Nat} {xs : Nat → Int32} {h C i : Nat} {M : Mm} {σ : Sg} (hI : lwI ad h M σ C) (hc : C + 1 ≤ 600) (hi : i + 6 ≤ L) (hL : L ≤ 3072) : Ev ad 20 (rC44 ad b L xs ++ [(1686, fHd b h (h + 73) (h + 89) (nI i))]) (1673, [some (.ref b), some (.ref h), some (.ref (h + 73)), some (.ref (h + 89)), some (.int (nI i)), none, none], [], M) (lwP ad h C) := by
  obtain ⟨hX, hY, hIv, hS, ⟨fo, ho⟩, hz1, hz2, hz3⟩ := id hI
  obtain ⟨tb, sp, hts, h0, _⟩ := id hX
  unfold xTop at h0
  repeat (first | refine es rfl rfl rfl ?_ | refine eslw rfl (by first | exact ixa1 _ | exact ixa2 _ | exact ixa3 _ | exact ixa4 _ | exact ixa5 _) ⟨by omega, hL⟩ ?_ | refine ehd rfl ?_)
  try dsimp only [set1, set2, kilP, List.set_cons_zero, List.set_cons_succ, List.getElem?_cons_zero, List.getElem?_cons_succ, List.nil_append, List.cons_append, Option.toList_some, Option.toList_none]
  refine ecv rfl rfl (by assumption) rfl rfl rfl (x_trouble hX) (by first | rfl | exact Nat.blt_eq.mpr (by omega)) ?_
  rintro v M1 ⟨σ', hsp, hX1, hF1⟩
  obtain ⟨a, rfl⟩ := spSame_V hsp
  have hY1 := hY.lo hF1 (by omega)
  obtain ⟨oy, Ay, hRy⟩ := id hY1
  have y0 := hRy.1.1
  try dsimp only [set1, set2, kilP, List.set_cons_zero, List.set_cons_succ, List.getElem?_cons_zero, List.getElem?_cons_succ, List.nil_append, List.cons_append, Option.toList_some, Option.toList_none]
  repeat (first | refine es rfl rfl rfl ?_ | refine eslw rfl (by first | exact ixa1 _ | exact ixa2 _ | exact ixa3 _ | exact ixa4 _ | exact ixa5 _) ⟨by omega, hL⟩ ?_ | refine ehd rfl ?_)
  try dsimp only [set1, set2, kilP, List.set_cons_zero, List.set_cons_succ, List.getElem?_cons_zero, List.getElem?_cons_succ, List.nil_append, List.cons_append, Option.toList_some, Option.toList_none]
  refine ecv rfl rfl (by assumption) rfl rfl rfl (y_trouble hY1) (by first | rfl | exact Nat.blt_eq.mpr (by omega)) ?_
  rintro v M2 ⟨hq, hF2⟩
  obtain ⟨rfl, hY2⟩ := hq _ _ hsp
  try dsimp only [set1, set2, kilP, List.set_cons_zero, List.set_cons_succ, List.getElem?_cons_zero, List.getElem?_cons_succ, List.nil_append, List.cons_append, Option.toList_some, Option.toList_none]
  refine ei _ rfl rfl (fun c9 => ?_) (fun c9 => ?_)
  · repeat (first | refine es rfl rfl rfl ?_ | refine eslw rfl (by first | exact ixa1 _ | exact ixa2 _ | exact ixa3 _ | exact ixa4 _ | exact ixa5 _) ⟨by omega, hL⟩ ?_ | refine ehd rfl ?_)
    exact ⟨rfl, σ', hI.st hF1 hX1 hF2 hY2 (spSame_I hIv hc hsp)⟩
  · exact absurd rfl c9
