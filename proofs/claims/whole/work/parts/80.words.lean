theorem T0_a1 {w : Cond} (i : Nat) (h : tables_1_1[i]? = some w) (hg : goodWord w = true) : w ∈ T0 := T0_in (List.mem_append_left _ (List.mem_of_getElem? h)) hg
theorem T0_a2 {w : Cond} (i : Nat) (h : tables_1_2[i]? = some w) (hg : goodWord w = true) : w ∈ T0 := T0_in (List.mem_append_right _ (List.mem_append_left _ (List.mem_of_getElem? h))) hg
theorem T0_a3 {w : Cond} (i : Nat) (h : tables_1_3[i]? = some w) (hg : goodWord w = true) : w ∈ T0 := T0_in (List.mem_append_right _ (List.mem_append_right _ (List.mem_append_left _ (List.mem_of_getElem? h)))) hg
theorem T0_a4 {w : Cond} (i : Nat) (h : tables_1_4[i]? = some w) (hg : goodWord w = true) : w ∈ T0 := T0_in (List.mem_append_right _ (List.mem_append_right _ (List.mem_append_right _ (List.mem_append_left _ (List.mem_of_getElem? h))))) hg
theorem T0_a5 {w : Cond} (i : Nat) (h : tables_1_5[i]? = some w) (hg : goodWord w = true) : w ∈ T0 := T0_in (List.mem_append_right _ (List.mem_append_right _ (List.mem_append_right _ (List.mem_append_right _ (List.mem_append_left _ (List.mem_of_getElem? h)))))) hg
theorem T0_a6 {w : Cond} (i : Nat) (h : tables_1_6[i]? = some w) (hg : goodWord w = true) : w ∈ T0 := T0_in (List.mem_append_right _ (List.mem_append_right _ (List.mem_append_right _ (List.mem_append_right _ (List.mem_append_right _ (List.mem_append_left _ (List.mem_of_getElem? h))))))) hg
theorem T0_a7 {w : Cond} (i : Nat) (h : tables_1_7[i]? = some w) (hg : goodWord w = true) : w ∈ T0 := T0_in (List.mem_append_right _ (List.mem_append_right _ (List.mem_append_right _ (List.mem_append_right _ (List.mem_append_right _ (List.mem_append_right _ (List.mem_append_left _ (List.mem_of_getElem? h)))))))) hg
theorem T0_a8 {w : Cond} (i : Nat) (h : tables_1_8[i]? = some w) (hg : goodWord w = true) : w ∈ T0 := T0_in (List.mem_append_right _ (List.mem_append_right _ (List.mem_append_right _ (List.mem_append_right _ (List.mem_append_right _ (List.mem_append_right _ (List.mem_append_right _ (List.mem_append_left _ (List.mem_of_getElem? h))))))))) hg
theorem T0_a9 {w : Cond} (i : Nat) (h : tables_1_9[i]? = some w) (hg : goodWord w = true) : w ∈ T0 := T0_in (List.mem_append_right _ (List.mem_append_right _ (List.mem_append_right _ (List.mem_append_right _ (List.mem_append_right _ (List.mem_append_right _ (List.mem_append_right _ (List.mem_append_right _ ((List.mem_of_getElem? h)))))))))) hg
theorem T0_sel {w : Cond} (i : Nat) (h : (k2_sels lw_privs)[i]? = some w) (hg : goodWord w = true) : w ∈ T0 := List.mem_filter.mpr ⟨List.mem_append_left _ (List.mem_of_getElem? h), hg⟩
theorem sub_tb (ws : List Cond) (ps : List Nat) (h : ws = ps.filterMap (fun i => tables_1[i]?)) (hg : ws.all goodWord = true) : ∀ w ∈ ws, w ∈ T0 := by
  intro w hw
  have h1 := List.all_eq_true.mp hg w hw
  rw [h] at hw
  obtain ⟨i, -, hi⟩ := List.mem_filterMap.mp hw
  exact T0_at i hi h1
theorem all_lt {ty : Nat → FieldType} {fs : List Value} {N : Nat} (h : (List.range N).all (fun j => decide (defaultValue (ty j) = vp_V fs j)) = true) : ∀ j, j < N → defaultValue (ty j) = vp_V fs j := fun j hj => by simpa using List.all_eq_true.mp h j (List.mem_range.mpr hj)
theorem tab_ok {pc : Nat} {ts : List Nat} {offs : Array Int} (h : (List.range ts.length).all (fun j => match ts[j]?, offs[j]? with | some t, some off => decide ((pc : Int) + off = (t : Int)) | _, _ => false) = true) : ∀ (j t : Nat), ts[j]? = some t → ∃ off, offs[j]? = some off ∧ (pc : Int) + off = (t : Int) := by
  intro j t hj
  have h1 := List.all_eq_true.mp h j (List.mem_range.mpr (List.getElem?_eq_some_iff.mp hj).1)
  rw [hj] at h1
  cases ho : offs[j]? with
  | none => rw [ho] at h1; cases h1
  | some off => rw [ho] at h1; exact ⟨off, rfl, by simpa using h1⟩
theorem fa_c {α : Type} {P : α → Prop} {a : α} {l : List α} (h : P a) (t : ∀ q ∈ l, P q) : ∀ q ∈ a :: l, P q := List.forall_mem_cons.mpr ⟨h, t⟩
theorem fa_n {α : Type} {P : α → Prop} : ∀ q ∈ ([] : List α), P q := fun _ h => by cases h
theorem wt1 : (Cond.initialized "WrongRoom") ∈ T0 := T0_a1 1 (by decide +kernel) rfl
theorem wt2 : (Cond.initialized "WrongRoom$Reader") ∈ T0 := T0_a1 2 (by decide +kernel) rfl
theorem wt3 : (Cond.initialized "WrongRoom$Town") ∈ T0 := T0_a1 3 (by decide +kernel) rfl
theorem wt4 : (Cond.initialized "WrongRoom$Houses") ∈ T0 := T0_a1 4 (by decide +kernel) rfl
theorem wt5 : (Cond.initialized "WrongRoom$Streets") ∈ T0 := T0_a1 5 (by decide +kernel) rfl
theorem wt6 : (Cond.initialized "WrongRoom$Clues") ∈ T0 := T0_a1 6 (by decide +kernel) rfl
theorem wt11 : (Cond.initialized "WrongRoom$Now") ∈ T0 := T0_a1 11 (by decide +kernel) rfl
theorem wt12 : (Cond.initialized "WrongRoom$Past") ∈ T0 := T0_a1 12 (by decide +kernel) rfl
theorem wt13 : (Cond.initialized "WrongRoom$Ways") ∈ T0 := T0_a1 13 (by decide +kernel) rfl
theorem wt14 : (Cond.initialized "WrongRoom$Fitting") ∈ T0 := T0_a1 14 (by decide +kernel) rfl
theorem wt15 : (Cond.initialized "WrongRoom$Swaps") ∈ T0 := T0_a1 15 (by decide +kernel) rfl
theorem wt16 : (Cond.initialized "WrongRoom$Rents") ∈ T0 := T0_a1 16 (by decide +kernel) rfl
theorem wt17 : (Cond.initialized "WrongRoomModel") ∈ T0 := T0_a1 17 (by decide +kernel) rfl
theorem wt18 : (Cond.initialized "java/lang/Math") ∈ T0 := T0_a1 18 (by decide +kernel) rfl
theorem wt19 : (Cond.initialized "WrongRoomModel$Town") ∈ T0 := T0_a1 19 (by decide +kernel) rfl
theorem wt20 : (Cond.initialized "java/lang/System") ∈ T0 := T0_a1 20 (by decide +kernel) rfl
theorem wt21 : (Cond.initialized "java/lang/Integer") ∈ T0 := T0_a1 21 (by decide +kernel) rfl
theorem wt30 : (Cond.code ({ cls := "WrongRoom", name := "<init>", desc := "()V" } : Jvm.MethodName) prog_1_method_1_code (1 : Nat) (Option.none : Option Jvm.ClassFile.FieldType)) ∈ T0 := T0_a1 30 (by decide +kernel) rfl
theorem wt31 : (Cond.methodLink "WrongRoom" (1 : Nat) ({ cls := "java/lang/Object", name := "<init>", desc := "()V" } : Jvm.MethodName)) ∈ T0 := T0_a1 31 (by decide +kernel) rfl
theorem wt32 : (Cond.instanceMethod ({ cls := "java/lang/Object", name := "<init>", desc := "()V" } : Jvm.MethodName)) ∈ T0 := T0_a1 32 (by decide +kernel) rfl
theorem wt33 : (Cond.code ({ cls := "java/lang/Object", name := "<init>", desc := "()V" } : Jvm.MethodName) object_method_1_code (1 : Nat) (Option.none : Option Jvm.ClassFile.FieldType)) ∈ T0 := T0_a1 33 (by decide +kernel) rfl
theorem wt34 : (Cond.classLink "WrongRoom" (7 : Nat) "WrongRoom$Reader") ∈ T0 := T0_a1 34 (by decide +kernel) rfl
theorem wt35 : (Cond.instantiable "WrongRoom$Reader" (13 : Nat)) ∈ T0 := T0_a1 35 (by decide +kernel) rfl
theorem wt36 : (Cond.methodLink "WrongRoom" (9 : Nat) ({ cls := "WrongRoom$Reader", name := "<init>", desc := "()V" } : Jvm.MethodName)) ∈ T0 := T0_a1 36 (by decide +kernel) rfl
theorem wt37 : (Cond.instanceMethod ({ cls := "WrongRoom$Reader", name := "<init>", desc := "()V" } : Jvm.MethodName)) ∈ T0 := T0_a1 37 (by decide +kernel) rfl
theorem wt38 : (Cond.code ({ cls := "WrongRoom$Reader", name := "<init>", desc := "()V" } : Jvm.MethodName) prog_7_method_1_code (1 : Nat) (Option.none : Option Jvm.ClassFile.FieldType)) ∈ T0 := T0_a1 38 (by decide +kernel) rfl
theorem wt39 : (Cond.methodLink "WrongRoom$Reader" (3 : Nat) ({ cls := "java/lang/Object", name := "<init>", desc := "()V" } : Jvm.MethodName)) ∈ T0 := T0_a1 39 (by decide +kernel) rfl
theorem wt40 : (Cond.classLink "WrongRoom$Reader" (25 : Nat) "WrongRoom$Town") ∈ T0 := T0_a1 40 (by decide +kernel) rfl
theorem wt41 : (Cond.instantiable "WrongRoom$Town" (9 : Nat)) ∈ T0 := T0_a1 41 (by decide +kernel) rfl
theorem wt43 : (Cond.instanceMethod ({ cls := "WrongRoom$Town", name := "<init>", desc := "()V" } : Jvm.MethodName)) ∈ T0 := T0_a1 43 (by decide +kernel) rfl
theorem wt44 : (Cond.code ({ cls := "WrongRoom$Town", name := "<init>", desc := "()V" } : Jvm.MethodName) prog_11_method_1_code (1 : Nat) (Option.none : Option Jvm.ClassFile.FieldType)) ∈ T0 := T0_a1 44 (by decide +kernel) rfl
theorem wt45 : (Cond.methodLink "WrongRoom$Town" (3 : Nat) ({ cls := "java/lang/Object", name := "<init>", desc := "()V" } : Jvm.MethodName)) ∈ T0 := T0_a1 45 (by decide +kernel) rfl
theorem wt46 : (Cond.classLink "WrongRoom$Town" (18 : Nat) "WrongRoom$Houses") ∈ T0 := T0_a1 46 (by decide +kernel) rfl
theorem wt47 : (Cond.instantiable "WrongRoom$Houses" (9 : Nat)) ∈ T0 := T0_a1 47 (by decide +kernel) rfl
theorem wt49 : (Cond.instanceMethod ({ cls := "WrongRoom$Houses", name := "<init>", desc := "()V" } : Jvm.MethodName)) ∈ T0 := T0_a1 49 (by decide +kernel) rfl
theorem wt50 : (Cond.code ({ cls := "WrongRoom$Houses", name := "<init>", desc := "()V" } : Jvm.MethodName) prog_4_method_1_code (1 : Nat) (Option.none : Option Jvm.ClassFile.FieldType)) ∈ T0 := T0_a1 50 (by decide +kernel) rfl
theorem wt51 : (Cond.methodLink "WrongRoom$Houses" (3 : Nat) ({ cls := "java/lang/Object", name := "<init>", desc := "()V" } : Jvm.MethodName)) ∈ T0 := T0_a1 51 (by decide +kernel) rfl
theorem wt52 : (Cond.fieldLink "WrongRoom$Houses" (9 : Nat) "WrongRoom$Houses" "count" "I") ∈ T0 := T0_a1 52 (by decide +kernel) rfl
theorem wt53 : (Cond.fieldLink "WrongRoom" (103 : Nat) "WrongRoom$Houses" "count" "I") ∈ T0 := T0_a1 53 (by decide +kernel) rfl
theorem wt54 : (Cond.fieldLink "WrongRoom$Reader" (102 : Nat) "WrongRoom$Houses" "count" "I") ∈ T0 := T0_a1 54 (by decide +kernel) rfl
theorem wt55 : (Cond.fieldLink "WrongRoom$Ways" (52 : Nat) "WrongRoom$Houses" "count" "I") ∈ T0 := T0_a1 55 (by decide +kernel) rfl
theorem wt56 : (Cond.fieldLink "WrongRoom$Fitting" (59 : Nat) "WrongRoom$Houses" "count" "I") ∈ T0 := T0_a1 56 (by decide +kernel) rfl
theorem wt57 : (Cond.fieldLink "WrongRoom$Houses" (15 : Nat) "WrongRoom$Houses" "names" "[J") ∈ T0 := T0_a1 57 (by decide +kernel) rfl
theorem wt58 : (Cond.fieldLink "WrongRoom$Reader" (185 : Nat) "WrongRoom$Houses" "names" "[J") ∈ T0 := T0_a1 58 (by decide +kernel) rfl
theorem wt59 : (Cond.fieldLink "WrongRoom$Houses" (19 : Nat) "WrongRoom$Houses" "rooms" "[I") ∈ T0 := T0_a1 59 (by decide +kernel) rfl
theorem wt60 : (Cond.fieldLink "WrongRoom$Rents" (43 : Nat) "WrongRoom$Houses" "rooms" "[I") ∈ T0 := T0_a1 60 (by decide +kernel) rfl
theorem wt61 : (Cond.fieldLink "WrongRoom" (120 : Nat) "WrongRoom$Houses" "rooms" "[I") ∈ T0 := T0_a1 61 (by decide +kernel) rfl
theorem wt62 : (Cond.fieldLink "WrongRoom$Reader" (190 : Nat) "WrongRoom$Houses" "rooms" "[I") ∈ T0 := T0_a1 62 (by decide +kernel) rfl
theorem wt63 : (Cond.fieldLink "WrongRoom$Fitting" (76 : Nat) "WrongRoom$Houses" "rooms" "[I") ∈ T0 := T0_a1 63 (by decide +kernel) rfl
theorem wt64 : (Cond.fieldLink "WrongRoom$Houses" (23 : Nat) "WrongRoom$Houses" "rents" "[I") ∈ T0 := T0_a1 64 (by decide +kernel) rfl
theorem wt65 : (Cond.fieldLink "WrongRoom" (124 : Nat) "WrongRoom$Houses" "rents" "[I") ∈ T0 := T0_a1 65 (by decide +kernel) rfl
theorem wt66 : (Cond.fieldLink "WrongRoom$Reader" (195 : Nat) "WrongRoom$Houses" "rents" "[I") ∈ T0 := T0_a1 66 (by decide +kernel) rfl
theorem wt67 : (Cond.fieldLink "WrongRoom$Houses" (26 : Nat) "WrongRoom$Houses" "bills" "[I") ∈ T0 := T0_a1 67 (by decide +kernel) rfl
theorem wt68 : (Cond.fieldLink "WrongRoom" (126 : Nat) "WrongRoom$Houses" "bills" "[I") ∈ T0 := T0_a1 68 (by decide +kernel) rfl
theorem wt69 : (Cond.fieldLink "WrongRoom$Reader" (200 : Nat) "WrongRoom$Houses" "bills" "[I") ∈ T0 := T0_a1 69 (by decide +kernel) rfl
theorem wt70 : (Cond.fieldLink "WrongRoom$Houses" (29 : Nat) "WrongRoom$Houses" "smells" "[J") ∈ T0 := T0_a1 70 (by decide +kernel) rfl
theorem wt71 : (Cond.fieldLink "WrongRoom$Reader" (205 : Nat) "WrongRoom$Houses" "smells" "[J") ∈ T0 := T0_a1 71 (by decide +kernel) rfl
theorem wt72 : (Cond.fieldLink "WrongRoom$Fitting" (72 : Nat) "WrongRoom$Houses" "smells" "[J") ∈ T0 := T0_a1 72 (by decide +kernel) rfl
theorem wt73 : (Cond.fieldLink "WrongRoom" (193 : Nat) "WrongRoom$Houses" "smells" "[J") ∈ T0 := T0_a1 73 (by decide +kernel) rfl
theorem wt74 : (Cond.fieldLink "WrongRoom$Houses" (32 : Nat) "WrongRoom$Houses" "toldOf" "[I") ∈ T0 := T0_a1 74 (by decide +kernel) rfl
theorem wt75 : (Cond.fieldLink "WrongRoom$Now" (21 : Nat) "WrongRoom$Houses" "toldOf" "[I") ∈ T0 := T0_a1 75 (by decide +kernel) rfl
theorem wt76 : (Cond.fieldLink "WrongRoom$Reader" (210 : Nat) "WrongRoom$Houses" "toldOf" "[I") ∈ T0 := T0_a1 76 (by decide +kernel) rfl
theorem wt77 : (Cond.fieldLink "WrongRoom$Fitting" (88 : Nat) "WrongRoom$Houses" "toldOf" "[I") ∈ T0 := T0_a1 77 (by decide +kernel) rfl
theorem wt78 : (Cond.fieldLink "WrongRoom$Houses" (35 : Nat) "WrongRoom$Houses" "fromHours" "[I") ∈ T0 := T0_a1 78 (by decide +kernel) rfl
theorem wt79 : (Cond.fieldLink "WrongRoom$Reader" (218 : Nat) "WrongRoom$Houses" "fromHours" "[I") ∈ T0 := T0_a1 79 (by decide +kernel) rfl
theorem wt80 : (Cond.fieldLink "WrongRoom$Houses" (38 : Nat) "WrongRoom$Houses" "toHours" "[I") ∈ T0 := T0_a1 80 (by decide +kernel) rfl
theorem wt81 : (Cond.fieldLink "WrongRoom$Reader" (225 : Nat) "WrongRoom$Houses" "toHours" "[I") ∈ T0 := T0_a1 81 (by decide +kernel) rfl
theorem wt101 : (Cond.arrayClass Jvm.ClassFile.FieldType.char) ∈ T0 := T0_a1 101 (by decide +kernel) rfl
theorem wt102 : (Cond.arrayClass Jvm.ClassFile.FieldType.long) ∈ T0 := T0_a1 102 (by decide +kernel) rfl
theorem wt103 : (Cond.arrayClass Jvm.ClassFile.FieldType.int) ∈ T0 := T0_a1 103 (by decide +kernel) rfl
theorem wt104 : (Cond.classLink "WrongRoom$Town" (25 : Nat) "WrongRoom$Streets") ∈ T0 := T0_a1 104 (by decide +kernel) rfl
theorem wt105 : (Cond.instantiable "WrongRoom$Streets" (4 : Nat)) ∈ T0 := T0_a1 105 (by decide +kernel) rfl
theorem wt107 : (Cond.instanceMethod ({ cls := "WrongRoom$Streets", name := "<init>", desc := "()V" } : Jvm.MethodName)) ∈ T0 := T0_a1 107 (by decide +kernel) rfl
theorem wt108 : (Cond.code ({ cls := "WrongRoom$Streets", name := "<init>", desc := "()V" } : Jvm.MethodName) prog_9_method_1_code (1 : Nat) (Option.none : Option Jvm.ClassFile.FieldType)) ∈ T0 := T0_a1 108 (by decide +kernel) rfl
theorem wt109 : (Cond.methodLink "WrongRoom$Streets" (3 : Nat) ({ cls := "java/lang/Object", name := "<init>", desc := "()V" } : Jvm.MethodName)) ∈ T0 := T0_a1 109 (by decide +kernel) rfl
theorem wt110 : (Cond.fieldLink "WrongRoom$Streets" (9 : Nat) "WrongRoom$Streets" "count" "I") ∈ T0 := T0_a1 110 (by decide +kernel) rfl
theorem wt111 : (Cond.fieldLink "WrongRoom$Reader" (153 : Nat) "WrongRoom$Streets" "count" "I") ∈ T0 := T0_a1 111 (by decide +kernel) rfl
theorem wt112 : (Cond.fieldLink "WrongRoom" (389 : Nat) "WrongRoom$Streets" "count" "I") ∈ T0 := T0_a1 112 (by decide +kernel) rfl
theorem wt113 : (Cond.fieldLink "WrongRoom$Streets" (15 : Nat) "WrongRoom$Streets" "minutes" "[I") ∈ T0 := T0_a1 113 (by decide +kernel) rfl
theorem wt114 : (Cond.fieldLink "WrongRoom$Streets" (19 : Nat) "WrongRoom$Streets" "shortest" "[I") ∈ T0 := T0_a1 114 (by decide +kernel) rfl
theorem wt115 : (Cond.fieldLink "WrongRoom$Streets" (22 : Nat) "WrongRoom$Streets" "near" "[I") ∈ T0 := T0_a1 115 (by decide +kernel) rfl
theorem wt125 : (Cond.classLink "WrongRoom$Town" (32 : Nat) "WrongRoom$Clues") ∈ T0 := T0_a1 125 (by decide +kernel) rfl
theorem wt126 : (Cond.instantiable "WrongRoom$Clues" (6 : Nat)) ∈ T0 := T0_a1 126 (by decide +kernel) rfl
theorem wt128 : (Cond.instanceMethod ({ cls := "WrongRoom$Clues", name := "<init>", desc := "()V" } : Jvm.MethodName)) ∈ T0 := T0_a1 128 (by decide +kernel) rfl
theorem wt129 : (Cond.code ({ cls := "WrongRoom$Clues", name := "<init>", desc := "()V" } : Jvm.MethodName) prog_2_method_1_code (1 : Nat) (Option.none : Option Jvm.ClassFile.FieldType)) ∈ T0 := T0_a1 129 (by decide +kernel) rfl
theorem wt130 : (Cond.methodLink "WrongRoom$Clues" (3 : Nat) ({ cls := "java/lang/Object", name := "<init>", desc := "()V" } : Jvm.MethodName)) ∈ T0 := T0_a1 130 (by decide +kernel) rfl
theorem wt131 : (Cond.fieldLink "WrongRoom$Clues" (9 : Nat) "WrongRoom$Clues" "signs" "I") ∈ T0 := T0_a1 131 (by decide +kernel) rfl
theorem wt132 : (Cond.fieldLink "WrongRoom$Reader" (161 : Nat) "WrongRoom$Clues" "signs" "I") ∈ T0 := T0_a1 132 (by decide +kernel) rfl
theorem wt133 : (Cond.fieldLink "WrongRoom" (185 : Nat) "WrongRoom$Clues" "signs" "I") ∈ T0 := T0_a1 133 (by decide +kernel) rfl
theorem wt134 : (Cond.fieldLink "WrongRoom$Clues" (15 : Nat) "WrongRoom$Clues" "signHouses" "[I") ∈ T0 := T0_a1 134 (by decide +kernel) rfl
theorem wt135 : (Cond.fieldLink "WrongRoom" (190 : Nat) "WrongRoom$Clues" "signHouses" "[I") ∈ T0 := T0_a1 135 (by decide +kernel) rfl
theorem wt136 : (Cond.fieldLink "WrongRoom$Clues" (19 : Nat) "WrongRoom$Clues" "signSmells" "[J") ∈ T0 := T0_a1 136 (by decide +kernel) rfl
theorem wt137 : (Cond.fieldLink "WrongRoom" (197 : Nat) "WrongRoom$Clues" "signSmells" "[J") ∈ T0 := T0_a1 137 (by decide +kernel) rfl
theorem wt138 : (Cond.fieldLink "WrongRoom$Clues" (23 : Nat) "WrongRoom$Clues" "noises" "I") ∈ T0 := T0_a1 138 (by decide +kernel) rfl
theorem wt139 : (Cond.fieldLink "WrongRoom$Reader" (166 : Nat) "WrongRoom$Clues" "noises" "I") ∈ T0 := T0_a1 139 (by decide +kernel) rfl
theorem wt140 : (Cond.fieldLink "WrongRoom" (390 : Nat) "WrongRoom$Clues" "noises" "I") ∈ T0 := T0_a1 140 (by decide +kernel) rfl
theorem wt141 : (Cond.fieldLink "WrongRoom$Clues" (26 : Nat) "WrongRoom$Clues" "noiseHouses" "[I") ∈ T0 := T0_a1 141 (by decide +kernel) rfl
theorem wt142 : (Cond.fieldLink "WrongRoom$Clues" (29 : Nat) "WrongRoom$Clues" "noiseRooms" "[I") ∈ T0 := T0_a1 142 (by decide +kernel) rfl
theorem wt156 : (Cond.fieldLink "WrongRoom$Town" (9 : Nat) "WrongRoom$Town" "door" "I") ∈ T0 := T0_a1 156 (by decide +kernel) rfl
theorem wt157 : (Cond.fieldLink "WrongRoom$Reader" (123 : Nat) "WrongRoom$Town" "door" "I") ∈ T0 := T0_a1 157 (by decide +kernel) rfl
theorem wt158 : (Cond.fieldLink "WrongRoom$Ways" (89 : Nat) "WrongRoom$Town" "door" "I") ∈ T0 := T0_a1 158 (by decide +kernel) rfl
theorem wt159 : (Cond.fieldLink "WrongRoom" (354 : Nat) "WrongRoom$Town" "door" "I") ∈ T0 := T0_a1 159 (by decide +kernel) rfl
theorem wt160 : (Cond.fieldLink "WrongRoom$Town" (15 : Nat) "WrongRoom$Town" "like" "I") ∈ T0 := T0_a1 160 (by decide +kernel) rfl
theorem wt161 : (Cond.fieldLink "WrongRoom$Rents" (48 : Nat) "WrongRoom$Town" "like" "I") ∈ T0 := T0_a1 161 (by decide +kernel) rfl
theorem wt162 : (Cond.fieldLink "WrongRoom$Reader" (180 : Nat) "WrongRoom$Town" "like" "I") ∈ T0 := T0_a1 162 (by decide +kernel) rfl
theorem wt163 : (Cond.fieldLink "WrongRoom" (380 : Nat) "WrongRoom$Town" "like" "I") ∈ T0 := T0_a1 163 (by decide +kernel) rfl
theorem wt164 : (Cond.fieldLink "WrongRoom$Town" (21 : Nat) "WrongRoom$Town" "houses" "LWrongRoom$Houses;") ∈ T0 := T0_a1 164 (by decide +kernel) rfl
theorem wt165 : (Cond.fieldLink "WrongRoom$Rents" (37 : Nat) "WrongRoom$Town" "houses" "LWrongRoom$Houses;") ∈ T0 := T0_a1 165 (by decide +kernel) rfl
theorem wt166 : (Cond.fieldLink "WrongRoom$Now" (15 : Nat) "WrongRoom$Town" "houses" "LWrongRoom$Houses;") ∈ T0 := T0_a1 166 (by decide +kernel) rfl
theorem wt167 : (Cond.fieldLink "WrongRoom$Fitting" (36 : Nat) "WrongRoom$Town" "houses" "LWrongRoom$Houses;") ∈ T0 := T0_a1 167 (by decide +kernel) rfl
theorem wt168 : (Cond.fieldLink "WrongRoom" (99 : Nat) "WrongRoom$Town" "houses" "LWrongRoom$Houses;") ∈ T0 := T0_a1 168 (by decide +kernel) rfl
theorem wt169 : (Cond.fieldLink "WrongRoom$Reader" (98 : Nat) "WrongRoom$Town" "houses" "LWrongRoom$Houses;") ∈ T0 := T0_a1 169 (by decide +kernel) rfl
theorem wt170 : (Cond.fieldLink "WrongRoom$Ways" (46 : Nat) "WrongRoom$Town" "houses" "LWrongRoom$Houses;") ∈ T0 := T0_a1 170 (by decide +kernel) rfl
theorem wt171 : (Cond.fieldLink "WrongRoom$Town" (28 : Nat) "WrongRoom$Town" "streets" "LWrongRoom$Streets;") ∈ T0 := T0_a1 171 (by decide +kernel) rfl
theorem wt172 : (Cond.fieldLink "WrongRoom$Reader" (107 : Nat) "WrongRoom$Town" "streets" "LWrongRoom$Streets;") ∈ T0 := T0_a1 172 (by decide +kernel) rfl
theorem wt173 : (Cond.fieldLink "WrongRoom" (148 : Nat) "WrongRoom$Town" "streets" "LWrongRoom$Streets;") ∈ T0 := T0_a1 173 (by decide +kernel) rfl
theorem wt174 : (Cond.fieldLink "WrongRoom$Ways" (67 : Nat) "WrongRoom$Town" "streets" "LWrongRoom$Streets;") ∈ T0 := T0_a1 174 (by decide +kernel) rfl
theorem wt175 : (Cond.fieldLink "WrongRoom$Town" (35 : Nat) "WrongRoom$Town" "clues" "LWrongRoom$Clues;") ∈ T0 := T0_a1 175 (by decide +kernel) rfl
theorem wt176 : (Cond.fieldLink "WrongRoom$Reader" (157 : Nat) "WrongRoom$Town" "clues" "LWrongRoom$Clues;") ∈ T0 := T0_a1 176 (by decide +kernel) rfl
theorem wt177 : (Cond.fieldLink "WrongRoom$Fitting" (68 : Nat) "WrongRoom$Town" "clues" "LWrongRoom$Clues;") ∈ T0 := T0_a1 177 (by decide +kernel) rfl
theorem wt178 : (Cond.fieldLink "WrongRoom" (181 : Nat) "WrongRoom$Town" "clues" "LWrongRoom$Clues;") ∈ T0 := T0_a1 178 (by decide +kernel) rfl
theorem wt179 : (Cond.fieldLink "WrongRoom$Town" (39 : Nat) "WrongRoom$Town" "people" "I") ∈ T0 := T0_a1 179 (by decide +kernel) rfl
theorem wt180 : (Cond.fieldLink "WrongRoom$Now" (26 : Nat) "WrongRoom$Town" "people" "I") ∈ T0 := T0_a1 180 (by decide +kernel) rfl
theorem wt181 : (Cond.fieldLink "WrongRoom$Reader" (154 : Nat) "WrongRoom$Town" "people" "I") ∈ T0 := T0_a1 181 (by decide +kernel) rfl
theorem wt182 : (Cond.fieldLink "WrongRoom" (374 : Nat) "WrongRoom$Town" "people" "I") ∈ T0 := T0_a1 182 (by decide +kernel) rfl
theorem wt183 : (Cond.fieldLink "WrongRoom$Town" (42 : Nat) "WrongRoom$Town" "peopleNames" "[J") ∈ T0 := T0_a1 183 (by decide +kernel) rfl
theorem wt184 : (Cond.fieldLink "WrongRoom$Town" (46 : Nat) "WrongRoom$Town" "homes" "[I") ∈ T0 := T0_a1 184 (by decide +kernel) rfl
theorem wt185 : (Cond.fieldLink "WrongRoom" (161 : Nat) "WrongRoom$Town" "homes" "[I") ∈ T0 := T0_a1 185 (by decide +kernel) rfl
theorem wt186 : (Cond.fieldLink "WrongRoom$Town" (50 : Nat) "WrongRoom$Town" "places" "[I") ∈ T0 := T0_a1 186 (by decide +kernel) rfl
theorem wt187 : (Cond.fieldLink "WrongRoom$Now" (30 : Nat) "WrongRoom$Town" "places" "[I") ∈ T0 := T0_a1 187 (by decide +kernel) rfl
theorem wt208 : (Cond.methodLink "WrongRoom$Reader" (60 : Nat) ({ cls := "WrongRoom$Reader", name := "codeOf", desc := "(Ljava/lang/String;)J" } : Jvm.MethodName)) ∈ T0 := T0_a1 208 (by decide +kernel) rfl
theorem wt209 : (Cond.static ({ cls := "WrongRoom$Reader", name := "codeOf", desc := "(Ljava/lang/String;)J" } : Jvm.MethodName)) ∈ T0 := T0_a1 209 (by decide +kernel) rfl
theorem wt210 : (Cond.code ({ cls := "WrongRoom$Reader", name := "codeOf", desc := "(Ljava/lang/String;)J" } : Jvm.MethodName) prog_7_method_28_code (4 : Nat) (Option.some Jvm.ClassFile.FieldType.long)) ∈ T0 := T0_a1 210 (by decide +kernel) rfl
theorem wt211 : (Cond.methodLink "WrongRoom$Reader" (279 : Nat) ({ cls := "java/lang/String", name := "length", desc := "()I" } : Jvm.MethodName)) ∈ T0 := T0_a1 211 (by decide +kernel) rfl
theorem wt221 : (Cond.methodLink "WrongRoom$Reader" (283 : Nat) ({ cls := "java/lang/String", name := "charAt", desc := "(I)C" } : Jvm.MethodName)) ∈ T0 := T0_a1 221 (by decide +kernel) rfl
theorem wt259 : (Cond.methodLink "WrongRoom$Reader" (273 : Nat) ({ cls := "WrongRoom$Reader", name := "withLetter", desc := "(JC)J" } : Jvm.MethodName)) ∈ T0 := T0_a2 19 (by decide +kernel) rfl
theorem wt260 : (Cond.static ({ cls := "WrongRoom$Reader", name := "withLetter", desc := "(JC)J" } : Jvm.MethodName)) ∈ T0 := T0_a2 20 (by decide +kernel) rfl
theorem wt261 : (Cond.code ({ cls := "WrongRoom$Reader", name := "withLetter", desc := "(JC)J" } : Jvm.MethodName) prog_7_method_27_code (3 : Nat) (Option.some Jvm.ClassFile.FieldType.long)) ∈ T0 := T0_a2 21 (by decide +kernel) rfl
theorem wt262 : (Cond.constantLong "WrongRoom$Reader" (277 : Nat) (32 : Int64)) ∈ T0 := T0_a2 22 (by decide +kernel) rfl
theorem wt270 : (Cond.fieldLink "WrongRoom$Reader" (9 : Nat) "WrongRoom$Reader" "faultNumber" "I") ∈ T0 := T0_a2 30 (by decide +kernel) rfl
theorem wt271 : (Cond.fieldLink "WrongRoom" (111 : Nat) "WrongRoom$Reader" "faultNumber" "I") ∈ T0 := T0_a2 31 (by decide +kernel) rfl
theorem wt272 : (Cond.fieldLink "WrongRoom$Reader" (15 : Nat) "WrongRoom$Reader" "faultPlace" "I") ∈ T0 := T0_a2 32 (by decide +kernel) rfl
theorem wt273 : (Cond.fieldLink "WrongRoom" (114 : Nat) "WrongRoom$Reader" "faultPlace" "I") ∈ T0 := T0_a2 33 (by decide +kernel) rfl
theorem wt274 : (Cond.fieldLink "WrongRoom$Reader" (18 : Nat) "WrongRoom$Reader" "tapeSize" "I") ∈ T0 := T0_a2 34 (by decide +kernel) rfl
theorem wt275 : (Cond.fieldLink "WrongRoom" (72 : Nat) "WrongRoom$Reader" "tapeSize" "I") ∈ T0 := T0_a2 35 (by decide +kernel) rfl
theorem wt276 : (Cond.fieldLink "WrongRoom$Reader" (21 : Nat) "WrongRoom$Reader" "tape" "[C") ∈ T0 := T0_a2 36 (by decide +kernel) rfl
theorem wt277 : (Cond.fieldLink "WrongRoom$Reader" (28 : Nat) "WrongRoom$Reader" "into" "LWrongRoom$Town;") ∈ T0 := T0_a2 37 (by decide +kernel) rfl
theorem wt278 : (Cond.fieldLink "WrongRoom$Reader" (32 : Nat) "WrongRoom$Reader" "sortCodes" "[J") ∈ T0 := T0_a2 38 (by decide +kernel) rfl
theorem wt279 : (Cond.fieldLink "WrongRoom$Reader" (36 : Nat) "WrongRoom$Reader" "length" "I") ∈ T0 := T0_a2 39 (by decide +kernel) rfl
theorem wt280 : (Cond.fieldLink "WrongRoom$Reader" (39 : Nat) "WrongRoom$Reader" "at" "I") ∈ T0 := T0_a2 40 (by decide +kernel) rfl
theorem wt281 : (Cond.fieldLink "WrongRoom$Reader" (42 : Nat) "WrongRoom$Reader" "kind" "I") ∈ T0 := T0_a2 41 (by decide +kernel) rfl
theorem wt282 : (Cond.fieldLink "WrongRoom$Reader" (45 : Nat) "WrongRoom$Reader" "start" "I") ∈ T0 := T0_a2 42 (by decide +kernel) rfl
theorem wt283 : (Cond.fieldLink "WrongRoom$Reader" (48 : Nat) "WrongRoom$Reader" "word" "J") ∈ T0 := T0_a2 43 (by decide +kernel) rfl
theorem wt284 : (Cond.fieldLink "WrongRoom$Reader" (52 : Nat) "WrongRoom$Reader" "whole" "I") ∈ T0 := T0_a2 44 (by decide +kernel) rfl
theorem wt285 : (Cond.fieldLink "WrongRoom$Reader" (55 : Nat) "WrongRoom$Reader" "houseRead" "I") ∈ T0 := T0_a2 45 (by decide +kernel) rfl
theorem wt313 : (Cond.arrayClass Jvm.ClassFile.FieldType.byte) ∈ T0 := T0_a2 73 (by decide +kernel) rfl
theorem wt314 : (Cond.classLink "WrongRoom" (16 : Nat) "WrongRoom$Town") ∈ T0 := T0_a2 74 (by decide +kernel) rfl
theorem wt316 : (Cond.classLink "WrongRoom" (23 : Nat) "WrongRoom$Now") ∈ T0 := T0_a2 76 (by decide +kernel) rfl
theorem wt317 : (Cond.instantiable "WrongRoom$Now" (1 : Nat)) ∈ T0 := T0_a2 77 (by decide +kernel) rfl
theorem wt318 : (Cond.methodLink "WrongRoom" (25 : Nat) ({ cls := "WrongRoom$Now", name := "<init>", desc := "()V" } : Jvm.MethodName)) ∈ T0 := T0_a2 78 (by decide +kernel) rfl
theorem wt319 : (Cond.instanceMethod ({ cls := "WrongRoom$Now", name := "<init>", desc := "()V" } : Jvm.MethodName)) ∈ T0 := T0_a2 79 (by decide +kernel) rfl
theorem wt320 : (Cond.code ({ cls := "WrongRoom$Now", name := "<init>", desc := "()V" } : Jvm.MethodName) prog_5_method_1_code (2 : Nat) (Option.none : Option Jvm.ClassFile.FieldType)) ∈ T0 := T0_a2 80 (by decide +kernel) rfl
theorem wt321 : (Cond.methodLink "WrongRoom$Now" (3 : Nat) ({ cls := "java/lang/Object", name := "<init>", desc := "()V" } : Jvm.MethodName)) ∈ T0 := T0_a2 81 (by decide +kernel) rfl
theorem wt322 : (Cond.fieldLink "WrongRoom$Now" (11 : Nat) "WrongRoom$Now" "row" "[I") ∈ T0 := T0_a2 82 (by decide +kernel) rfl
theorem wt326 : (Cond.classLink "WrongRoom" (33 : Nat) "WrongRoom$Past") ∈ T0 := T0_a2 86 (by decide +kernel) rfl
theorem wt327 : (Cond.instantiable "WrongRoom$Past" (5 : Nat)) ∈ T0 := T0_a2 87 (by decide +kernel) rfl
theorem wt329 : (Cond.instanceMethod ({ cls := "WrongRoom$Past", name := "<init>", desc := "()V" } : Jvm.MethodName)) ∈ T0 := T0_a2 89 (by decide +kernel) rfl
theorem wt330 : (Cond.code ({ cls := "WrongRoom$Past", name := "<init>", desc := "()V" } : Jvm.MethodName) prog_6_method_1_code (1 : Nat) (Option.none : Option Jvm.ClassFile.FieldType)) ∈ T0 := T0_a2 90 (by decide +kernel) rfl
theorem wt331 : (Cond.methodLink "WrongRoom$Past" (1 : Nat) ({ cls := "java/lang/Object", name := "<init>", desc := "()V" } : Jvm.MethodName)) ∈ T0 := T0_a2 91 (by decide +kernel) rfl
theorem wt332 : (Cond.fieldLink "WrongRoom$Past" (11 : Nat) "WrongRoom$Past" "acts" "[I") ∈ T0 := T0_a2 92 (by decide +kernel) rfl
theorem wt333 : (Cond.fieldLink "WrongRoom$Past" (15 : Nat) "WrongRoom$Past" "nextAct" "I") ∈ T0 := T0_a2 93 (by decide +kernel) rfl
theorem wt334 : (Cond.fieldLink "WrongRoom$Past" (19 : Nat) "WrongRoom$Past" "actsKept" "I") ∈ T0 := T0_a2 94 (by decide +kernel) rfl
theorem wt335 : (Cond.fieldLink "WrongRoom$Past" (22 : Nat) "WrongRoom$Past" "marks" "[I") ∈ T0 := T0_a2 95 (by decide +kernel) rfl
theorem wt336 : (Cond.fieldLink "WrongRoom$Past" (25 : Nat) "WrongRoom$Past" "marksKept" "I") ∈ T0 := T0_a2 96 (by decide +kernel) rfl
theorem wt348 : (Cond.classLink "WrongRoom" (40 : Nat) "WrongRoom$Ways") ∈ T0 := T0_a2 108 (by decide +kernel) rfl
theorem wt349 : (Cond.instantiable "WrongRoom$Ways" (7 : Nat)) ∈ T0 := T0_a2 109 (by decide +kernel) rfl
theorem wt351 : (Cond.instanceMethod ({ cls := "WrongRoom$Ways", name := "<init>", desc := "()V" } : Jvm.MethodName)) ∈ T0 := T0_a2 111 (by decide +kernel) rfl
theorem wt352 : (Cond.code ({ cls := "WrongRoom$Ways", name := "<init>", desc := "()V" } : Jvm.MethodName) prog_12_method_1_code (1 : Nat) (Option.none : Option Jvm.ClassFile.FieldType)) ∈ T0 := T0_a2 112 (by decide +kernel) rfl
theorem wt353 : (Cond.methodLink "WrongRoom$Ways" (3 : Nat) ({ cls := "java/lang/Object", name := "<init>", desc := "()V" } : Jvm.MethodName)) ∈ T0 := T0_a2 113 (by decide +kernel) rfl
theorem wt354 : (Cond.fieldLink "WrongRoom$Ways" (9 : Nat) "WrongRoom$Ways" "times" "[I") ∈ T0 := T0_a2 114 (by decide +kernel) rfl
theorem wt355 : (Cond.fieldLink "WrongRoom$Ways" (15 : Nat) "WrongRoom$Ways" "walked" "[I") ∈ T0 := T0_a2 115 (by decide +kernel) rfl
theorem wt356 : (Cond.fieldLink "WrongRoom$Ways" (18 : Nat) "WrongRoom$Ways" "best" "[I") ∈ T0 := T0_a2 116 (by decide +kernel) rfl
theorem wt357 : (Cond.fieldLink "WrongRoom$Ways" (21 : Nat) "WrongRoom$Ways" "bestHouses" "I") ∈ T0 := T0_a2 117 (by decide +kernel) rfl
theorem wt358 : (Cond.fieldLink "WrongRoom$Ways" (25 : Nat) "WrongRoom$Ways" "been" "I") ∈ T0 := T0_a2 118 (by decide +kernel) rfl
theorem wt359 : (Cond.fieldLink "WrongRoom$Ways" (28 : Nat) "WrongRoom$Ways" "goal" "I") ∈ T0 := T0_a2 119 (by decide +kernel) rfl
theorem wt360 : (Cond.fieldLink "WrongRoom$Ways" (31 : Nat) "WrongRoom$Ways" "begun" "I") ∈ T0 := T0_a2 120 (by decide +kernel) rfl
theorem wt376 : (Cond.classLink "WrongRoom" (47 : Nat) "WrongRoom$Fitting") ∈ T0 := T0_a2 136 (by decide +kernel) rfl
theorem wt377 : (Cond.instantiable "WrongRoom$Fitting" (6 : Nat)) ∈ T0 := T0_a2 137 (by decide +kernel) rfl
theorem wt379 : (Cond.instanceMethod ({ cls := "WrongRoom$Fitting", name := "<init>", desc := "()V" } : Jvm.MethodName)) ∈ T0 := T0_a2 139 (by decide +kernel) rfl
theorem wt380 : (Cond.code ({ cls := "WrongRoom$Fitting", name := "<init>", desc := "()V" } : Jvm.MethodName) prog_3_method_1_code (1 : Nat) (Option.none : Option Jvm.ClassFile.FieldType)) ∈ T0 := T0_a2 140 (by decide +kernel) rfl
theorem wt381 : (Cond.methodLink "WrongRoom$Fitting" (3 : Nat) ({ cls := "java/lang/Object", name := "<init>", desc := "()V" } : Jvm.MethodName)) ∈ T0 := T0_a2 141 (by decide +kernel) rfl
theorem wt382 : (Cond.fieldLink "WrongRoom$Fitting" (9 : Nat) "WrongRoom$Fitting" "mayBe" "[I") ∈ T0 := T0_a2 142 (by decide +kernel) rfl
theorem wt383 : (Cond.fieldLink "WrongRoom$Fitting" (15 : Nat) "WrongRoom$Fitting" "counts" "[I") ∈ T0 := T0_a2 143 (by decide +kernel) rfl
theorem wt384 : (Cond.fieldLink "WrongRoom$Fitting" (18 : Nat) "WrongRoom$Fitting" "placed" "[I") ∈ T0 := T0_a2 144 (by decide +kernel) rfl
theorem wt385 : (Cond.fieldLink "WrongRoom$Fitting" (21 : Nat) "WrongRoom$Fitting" "firstRow" "[I") ∈ T0 := T0_a2 145 (by decide +kernel) rfl
theorem wt386 : (Cond.fieldLink "WrongRoom$Fitting" (24 : Nat) "WrongRoom$Fitting" "rows" "I") ∈ T0 := T0_a2 146 (by decide +kernel) rfl
theorem wt387 : (Cond.fieldLink "WrongRoom$Fitting" (28 : Nat) "WrongRoom$Fitting" "isCounted" "Z") ∈ T0 := T0_a2 147 (by decide +kernel) rfl
theorem wt401 : (Cond.classLink "WrongRoom" (54 : Nat) "WrongRoom$Swaps") ∈ T0 := T0_a2 161 (by decide +kernel) rfl
theorem wt402 : (Cond.instantiable "WrongRoom$Swaps" (7 : Nat)) ∈ T0 := T0_a2 162 (by decide +kernel) rfl
theorem wt404 : (Cond.instanceMethod ({ cls := "WrongRoom$Swaps", name := "<init>", desc := "()V" } : Jvm.MethodName)) ∈ T0 := T0_a2 164 (by decide +kernel) rfl
theorem wt405 : (Cond.code ({ cls := "WrongRoom$Swaps", name := "<init>", desc := "()V" } : Jvm.MethodName) prog_10_method_1_code (1 : Nat) (Option.none : Option Jvm.ClassFile.FieldType)) ∈ T0 := T0_a2 165 (by decide +kernel) rfl
theorem wt406 : (Cond.methodLink "WrongRoom$Swaps" (3 : Nat) ({ cls := "java/lang/Object", name := "<init>", desc := "()V" } : Jvm.MethodName)) ∈ T0 := T0_a2 166 (by decide +kernel) rfl
theorem wt407 : (Cond.classLink "WrongRoom$Swaps" (19 : Nat) "WrongRoom$Now") ∈ T0 := T0_a2 167 (by decide +kernel) rfl
theorem wt408 : (Cond.methodLink "WrongRoom$Swaps" (21 : Nat) ({ cls := "WrongRoom$Now", name := "<init>", desc := "()V" } : Jvm.MethodName)) ∈ T0 := T0_a2 168 (by decide +kernel) rfl
theorem wt409 : (Cond.fieldLink "WrongRoom$Swaps" (9 : Nat) "WrongRoom$Swaps" "foundFor" "[I") ∈ T0 := T0_a2 169 (by decide +kernel) rfl
theorem wt410 : (Cond.fieldLink "WrongRoom$Swaps" (15 : Nat) "WrongRoom$Swaps" "isFound" "Z") ∈ T0 := T0_a2 170 (by decide +kernel) rfl
theorem wt411 : (Cond.fieldLink "WrongRoom$Swaps" (22 : Nat) "WrongRoom$Swaps" "tried" "LWrongRoom$Now;") ∈ T0 := T0_a2 171 (by decide +kernel) rfl
theorem wt412 : (Cond.fieldLink "WrongRoom$Swaps" (26 : Nat) "WrongRoom$Swaps" "row" "[I") ∈ T0 := T0_a2 172 (by decide +kernel) rfl
theorem wt413 : (Cond.fieldLink "WrongRoom$Swaps" (29 : Nat) "WrongRoom$Swaps" "best" "[I") ∈ T0 := T0_a2 173 (by decide +kernel) rfl
theorem wt414 : (Cond.fieldLink "WrongRoom$Swaps" (32 : Nat) "WrongRoom$Swaps" "bestRow" "I") ∈ T0 := T0_a2 174 (by decide +kernel) rfl
theorem wt415 : (Cond.fieldLink "WrongRoom$Swaps" (36 : Nat) "WrongRoom$Swaps" "mostPaired" "I") ∈ T0 := T0_a2 175 (by decide +kernel) rfl
theorem wt431 : (Cond.classLink "WrongRoom" (61 : Nat) "WrongRoom$Rents") ∈ T0 := T0_a2 191 (by decide +kernel) rfl
theorem wt432 : (Cond.instantiable "WrongRoom$Rents" (8 : Nat)) ∈ T0 := T0_a2 192 (by decide +kernel) rfl
theorem wt434 : (Cond.instanceMethod ({ cls := "WrongRoom$Rents", name := "<init>", desc := "()V" } : Jvm.MethodName)) ∈ T0 := T0_a2 194 (by decide +kernel) rfl
theorem wt435 : (Cond.code ({ cls := "WrongRoom$Rents", name := "<init>", desc := "()V" } : Jvm.MethodName) prog_8_method_1_code (1 : Nat) (Option.none : Option Jvm.ClassFile.FieldType)) ∈ T0 := T0_a2 195 (by decide +kernel) rfl
theorem wt436 : (Cond.methodLink "WrongRoom$Rents" (3 : Nat) ({ cls := "java/lang/Object", name := "<init>", desc := "()V" } : Jvm.MethodName)) ∈ T0 := T0_a2 196 (by decide +kernel) rfl
theorem wt437 : (Cond.fieldLink "WrongRoom$Rents" (9 : Nat) "WrongRoom$Rents" "oneWorth" "I") ∈ T0 := T0_a2 197 (by decide +kernel) rfl
theorem wt438 : (Cond.fieldLink "WrongRoom$Rents" (15 : Nat) "WrongRoom$Rents" "otherWorth" "I") ∈ T0 := T0_a2 198 (by decide +kernel) rfl
theorem wt439 : (Cond.fieldLink "WrongRoom$Rents" (18 : Nat) "WrongRoom$Rents" "tenants" "I") ∈ T0 := T0_a2 199 (by decide +kernel) rfl
theorem wt440 : (Cond.fieldLink "WrongRoom$Rents" (21 : Nat) "WrongRoom$Rents" "like" "I") ∈ T0 := T0_a2 200 (by decide +kernel) rfl
theorem wt441 : (Cond.fieldLink "WrongRoom$Rents" (24 : Nat) "WrongRoom$Rents" "oneBest" "[I") ∈ T0 := T0_a2 201 (by decide +kernel) rfl
theorem wt442 : (Cond.fieldLink "WrongRoom$Rents" (28 : Nat) "WrongRoom$Rents" "otherBest" "[I") ∈ T0 := T0_a2 202 (by decide +kernel) rfl
theorem wt443 : (Cond.fieldLink "WrongRoom$Rents" (31 : Nat) "WrongRoom$Rents" "restsFound" "I") ∈ T0 := T0_a2 203 (by decide +kernel) rfl
theorem wt444 : (Cond.fieldLink "WrongRoom$Rents" (34 : Nat) "WrongRoom$Rents" "firstFound" "I") ∈ T0 := T0_a2 204 (by decide +kernel) rfl
theorem wt462 : (Cond.fieldLink "WrongRoom" (10 : Nat) "WrongRoom" "reader" "LWrongRoom$Reader;") ∈ T0 := T0_a2 222 (by decide +kernel) rfl
theorem wt463 : (Cond.fieldLink "WrongRoom" (19 : Nat) "WrongRoom" "told" "LWrongRoom$Town;") ∈ T0 := T0_a2 223 (by decide +kernel) rfl
theorem wt464 : (Cond.fieldLink "WrongRoom" (26 : Nat) "WrongRoom" "now" "LWrongRoom$Now;") ∈ T0 := T0_a2 224 (by decide +kernel) rfl
theorem wt465 : (Cond.fieldLink "WrongRoom" (30 : Nat) "WrongRoom" "trial" "LWrongRoom$Now;") ∈ T0 := T0_a2 225 (by decide +kernel) rfl
theorem wt466 : (Cond.fieldLink "WrongRoom" (36 : Nat) "WrongRoom" "past" "LWrongRoom$Past;") ∈ T0 := T0_a2 226 (by decide +kernel) rfl
theorem wt467 : (Cond.fieldLink "WrongRoom" (43 : Nat) "WrongRoom" "ways" "LWrongRoom$Ways;") ∈ T0 := T0_a2 227 (by decide +kernel) rfl
theorem wt468 : (Cond.fieldLink "WrongRoom" (50 : Nat) "WrongRoom" "fitting" "LWrongRoom$Fitting;") ∈ T0 := T0_a2 228 (by decide +kernel) rfl
theorem wt469 : (Cond.fieldLink "WrongRoom" (57 : Nat) "WrongRoom" "swaps" "LWrongRoom$Swaps;") ∈ T0 := T0_a2 229 (by decide +kernel) rfl
theorem wt470 : (Cond.fieldLink "WrongRoom" (64 : Nat) "WrongRoom" "rents" "LWrongRoom$Rents;") ∈ T0 := T0_a2 230 (by decide +kernel) rfl
theorem wt471 : (Cond.fieldLink "WrongRoom" (68 : Nat) "WrongRoom" "troubleNumber" "I") ∈ T0 := T0_a2 231 (by decide +kernel) rfl
theorem wt496 : (Cond.code ({ cls := "WrongRoom", name := "feed", desc := "(IIIII)I" } : Jvm.MethodName) prog_1_method_2_code (6 : Nat) (Option.some Jvm.ClassFile.FieldType.int)) ∈ T0 := T0_a3 16 (by decide +kernel) rfl
theorem wt497 : (Cond.methodLink "WrongRoom" (75 : Nat) ({ cls := "WrongRoom$Reader", name := "putNumber", desc := "(I)V" } : Jvm.MethodName)) ∈ T0 := T0_a3 17 (by decide +kernel) rfl
theorem wt498 : (Cond.instanceMethod ({ cls := "WrongRoom$Reader", name := "putNumber", desc := "(I)V" } : Jvm.MethodName)) ∈ T0 := T0_a3 18 (by decide +kernel) rfl
theorem wt499 : (Cond.selects "WrongRoom$Reader" ({ cls := "WrongRoom$Reader", name := "putNumber", desc := "(I)V" } : Jvm.MethodName) ({ cls := "WrongRoom$Reader", name := "putNumber", desc := "(I)V" } : Jvm.MethodName)) ∈ T0 := T0_a3 19 (by decide +kernel) rfl
theorem wt500 : (Cond.code ({ cls := "WrongRoom$Reader", name := "putNumber", desc := "(I)V" } : Jvm.MethodName) prog_7_method_2_code (3 : Nat) (Option.none : Option Jvm.ClassFile.FieldType)) ∈ T0 := T0_a3 20 (by decide +kernel) rfl
theorem wt504 : (Cond.code ({ cls := "WrongRoom", name := "town", desc := "(I)I" } : Jvm.MethodName) prog_1_method_3_code (2 : Nat) (Option.some Jvm.ClassFile.FieldType.int)) ∈ T0 := T0_a3 24 (by decide +kernel) rfl
theorem wt505 : (Cond.methodLink "WrongRoom" (79 : Nat) ({ cls := "WrongRoom", name := "refuse", desc := "(I)I" } : Jvm.MethodName)) ∈ T0 := T0_a3 25 (by decide +kernel) rfl
theorem wt507 : (Cond.instanceMethod ({ cls := "WrongRoom", name := "refuse", desc := "(I)I" } : Jvm.MethodName)) ∈ T0 := T0_a3 27 (by decide +kernel) rfl
theorem wt508 : (Cond.code ({ cls := "WrongRoom", name := "refuse", desc := "(I)I" } : Jvm.MethodName) prog_1_method_56_code (2 : Nat) (Option.some Jvm.ClassFile.FieldType.int)) ∈ T0 := T0_a3 28 (by decide +kernel) rfl
theorem wt509 : (Cond.methodLink "WrongRoom" (83 : Nat) ({ cls := "WrongRoom$Reader", name := "readTown", desc := "(I)Z" } : Jvm.MethodName)) ∈ T0 := T0_a3 29 (by decide +kernel) rfl
theorem wt510 : (Cond.instanceMethod ({ cls := "WrongRoom$Reader", name := "readTown", desc := "(I)Z" } : Jvm.MethodName)) ∈ T0 := T0_a3 30 (by decide +kernel) rfl
theorem wt511 : (Cond.selects "WrongRoom$Reader" ({ cls := "WrongRoom$Reader", name := "readTown", desc := "(I)Z" } : Jvm.MethodName) ({ cls := "WrongRoom$Reader", name := "readTown", desc := "(I)Z" } : Jvm.MethodName)) ∈ T0 := T0_a3 31 (by decide +kernel) rfl
theorem wt512 : (Cond.code ({ cls := "WrongRoom$Reader", name := "readTown", desc := "(I)Z" } : Jvm.MethodName) prog_7_method_4_code (3 : Nat) (Option.some Jvm.ClassFile.FieldType.boolean)) ∈ T0 := T0_a3 32 (by decide +kernel) rfl
theorem wt513 : (Cond.methodLink "WrongRoom$Reader" (78 : Nat) ({ cls := "java/lang/Math", name := "min", desc := "(II)I" } : Jvm.MethodName)) ∈ T0 := T0_a3 33 (by decide +kernel) rfl
theorem wt514 : (Cond.static ({ cls := "java/lang/Math", name := "min", desc := "(II)I" } : Jvm.MethodName)) ∈ T0 := T0_a3 34 (by decide +kernel) rfl
theorem wt515 : (Cond.code ({ cls := "java/lang/Math", name := "min", desc := "(II)I" } : Jvm.MethodName) prog_21_method_69_code (2 : Nat) (Option.some Jvm.ClassFile.FieldType.int)) ∈ T0 := T0_a3 35 (by decide +kernel) rfl
theorem wt516 : (Cond.methodLink "WrongRoom$Reader" (84 : Nat) ({ cls := "WrongRoom$Town", name := "clear", desc := "()V" } : Jvm.MethodName)) ∈ T0 := T0_a3 36 (by decide +kernel) rfl
theorem wt517 : (Cond.instanceMethod ({ cls := "WrongRoom$Town", name := "clear", desc := "()V" } : Jvm.MethodName)) ∈ T0 := T0_a3 37 (by decide +kernel) rfl
theorem wt518 : (Cond.selects "WrongRoom$Town" ({ cls := "WrongRoom$Town", name := "clear", desc := "()V" } : Jvm.MethodName) ({ cls := "WrongRoom$Town", name := "clear", desc := "()V" } : Jvm.MethodName)) ∈ T0 := T0_a3 38 (by decide +kernel) rfl
theorem wt519 : (Cond.code ({ cls := "WrongRoom$Town", name := "clear", desc := "()V" } : Jvm.MethodName) prog_11_method_2_code (1 : Nat) (Option.none : Option Jvm.ClassFile.FieldType)) ∈ T0 := T0_a3 39 (by decide +kernel) rfl
theorem wt520 : (Cond.methodLink "WrongRoom$Town" (53 : Nat) ({ cls := "WrongRoom$Houses", name := "clear", desc := "()V" } : Jvm.MethodName)) ∈ T0 := T0_a3 40 (by decide +kernel) rfl
theorem wt521 : (Cond.instanceMethod ({ cls := "WrongRoom$Houses", name := "clear", desc := "()V" } : Jvm.MethodName)) ∈ T0 := T0_a3 41 (by decide +kernel) rfl
theorem wt522 : (Cond.selects "WrongRoom$Houses" ({ cls := "WrongRoom$Houses", name := "clear", desc := "()V" } : Jvm.MethodName) ({ cls := "WrongRoom$Houses", name := "clear", desc := "()V" } : Jvm.MethodName)) ∈ T0 := T0_a3 42 (by decide +kernel) rfl
theorem wt523 : (Cond.code ({ cls := "WrongRoom$Houses", name := "clear", desc := "()V" } : Jvm.MethodName) prog_4_method_2_code (2 : Nat) (Option.none : Option Jvm.ClassFile.FieldType)) ∈ T0 := T0_a3 43 (by decide +kernel) rfl
theorem wt524 : (Cond.methodLink "WrongRoom$Town" (56 : Nat) ({ cls := "WrongRoom$Streets", name := "clear", desc := "()V" } : Jvm.MethodName)) ∈ T0 := T0_a3 44 (by decide +kernel) rfl
theorem wt525 : (Cond.instanceMethod ({ cls := "WrongRoom$Streets", name := "clear", desc := "()V" } : Jvm.MethodName)) ∈ T0 := T0_a3 45 (by decide +kernel) rfl
theorem wt526 : (Cond.selects "WrongRoom$Streets" ({ cls := "WrongRoom$Streets", name := "clear", desc := "()V" } : Jvm.MethodName) ({ cls := "WrongRoom$Streets", name := "clear", desc := "()V" } : Jvm.MethodName)) ∈ T0 := T0_a3 46 (by decide +kernel) rfl
theorem wt527 : (Cond.code ({ cls := "WrongRoom$Streets", name := "clear", desc := "()V" } : Jvm.MethodName) prog_9_method_2_code (2 : Nat) (Option.none : Option Jvm.ClassFile.FieldType)) ∈ T0 := T0_a3 47 (by decide +kernel) rfl
theorem wt528 : (Cond.methodLink "WrongRoom$Town" (57 : Nat) ({ cls := "WrongRoom$Clues", name := "clear", desc := "()V" } : Jvm.MethodName)) ∈ T0 := T0_a3 48 (by decide +kernel) rfl
theorem wt529 : (Cond.instanceMethod ({ cls := "WrongRoom$Clues", name := "clear", desc := "()V" } : Jvm.MethodName)) ∈ T0 := T0_a3 49 (by decide +kernel) rfl
theorem wt530 : (Cond.selects "WrongRoom$Clues" ({ cls := "WrongRoom$Clues", name := "clear", desc := "()V" } : Jvm.MethodName) ({ cls := "WrongRoom$Clues", name := "clear", desc := "()V" } : Jvm.MethodName)) ∈ T0 := T0_a3 50 (by decide +kernel) rfl
theorem wt531 : (Cond.code ({ cls := "WrongRoom$Clues", name := "clear", desc := "()V" } : Jvm.MethodName) prog_2_method_2_code (1 : Nat) (Option.none : Option Jvm.ClassFile.FieldType)) ∈ T0 := T0_a3 51 (by decide +kernel) rfl
theorem wt532 : (Cond.methodLink "WrongRoom$Reader" (87 : Nat) ({ cls := "WrongRoom$Reader", name := "fail", desc := "(I)Z" } : Jvm.MethodName)) ∈ T0 := T0_a3 52 (by decide +kernel) rfl
theorem wt534 : (Cond.instanceMethod ({ cls := "WrongRoom$Reader", name := "fail", desc := "(I)Z" } : Jvm.MethodName)) ∈ T0 := T0_a3 54 (by decide +kernel) rfl
theorem wt535 : (Cond.code ({ cls := "WrongRoom$Reader", name := "fail", desc := "(I)Z" } : Jvm.MethodName) prog_7_method_15_code (2 : Nat) (Option.some Jvm.ClassFile.FieldType.boolean)) ∈ T0 := T0_a3 55 (by decide +kernel) rfl
theorem wt536 : (Cond.methodLink "WrongRoom$Reader" (91 : Nat) ({ cls := "WrongRoom$Reader", name := "readLine", desc := "()Z" } : Jvm.MethodName)) ∈ T0 := T0_a3 56 (by decide +kernel) rfl
theorem wt538 : (Cond.instanceMethod ({ cls := "WrongRoom$Reader", name := "readLine", desc := "()Z" } : Jvm.MethodName)) ∈ T0 := T0_a3 58 (by decide +kernel) rfl
theorem wt539 : (Cond.code ({ cls := "WrongRoom$Reader", name := "readLine", desc := "()Z" } : Jvm.MethodName) prog_7_method_5_code (3 : Nat) (Option.some Jvm.ClassFile.FieldType.boolean)) ∈ T0 := T0_a3 59 (by decide +kernel) rfl
theorem wt540 : (Cond.methodLink "WrongRoom$Reader" (116 : Nat) ({ cls := "WrongRoom$Reader", name := "anyWord", desc := "()Z" } : Jvm.MethodName)) ∈ T0 := T0_a3 60 (by decide +kernel) rfl
theorem wt542 : (Cond.instanceMethod ({ cls := "WrongRoom$Reader", name := "anyWord", desc := "()Z" } : Jvm.MethodName)) ∈ T0 := T0_a3 62 (by decide +kernel) rfl
theorem wt543 : (Cond.code ({ cls := "WrongRoom$Reader", name := "anyWord", desc := "()Z" } : Jvm.MethodName) prog_7_method_16_code (1 : Nat) (Option.some Jvm.ClassFile.FieldType.boolean)) ∈ T0 := T0_a3 63 (by decide +kernel) rfl
theorem wt544 : (Cond.methodLink "WrongRoom$Reader" (95 : Nat) ({ cls := "WrongRoom$Reader", name := "advance", desc := "()V" } : Jvm.MethodName)) ∈ T0 := T0_a3 64 (by decide +kernel) rfl
theorem wt546 : (Cond.instanceMethod ({ cls := "WrongRoom$Reader", name := "advance", desc := "()V" } : Jvm.MethodName)) ∈ T0 := T0_a3 66 (by decide +kernel) rfl
theorem wt547 : (Cond.code ({ cls := "WrongRoom$Reader", name := "advance", desc := "()V" } : Jvm.MethodName) prog_7_method_22_code (1 : Nat) (Option.none : Option Jvm.ClassFile.FieldType)) ∈ T0 := T0_a3 67 (by decide +kernel) rfl
theorem wt548 : (Cond.methodLink "WrongRoom$Reader" (260 : Nat) ({ cls := "WrongRoom$Reader", name := "isLetter", desc := "(C)Z" } : Jvm.MethodName)) ∈ T0 := T0_a3 68 (by decide +kernel) rfl
theorem wt549 : (Cond.static ({ cls := "WrongRoom$Reader", name := "isLetter", desc := "(C)Z" } : Jvm.MethodName)) ∈ T0 := T0_a3 69 (by decide +kernel) rfl
theorem wt550 : (Cond.code ({ cls := "WrongRoom$Reader", name := "isLetter", desc := "(C)Z" } : Jvm.MethodName) prog_7_method_25_code (1 : Nat) (Option.some Jvm.ClassFile.FieldType.boolean)) ∈ T0 := T0_a3 70 (by decide +kernel) rfl
theorem wt551 : (Cond.methodLink "WrongRoom$Reader" (264 : Nat) ({ cls := "WrongRoom$Reader", name := "advanceWord", desc := "()V" } : Jvm.MethodName)) ∈ T0 := T0_a3 71 (by decide +kernel) rfl
theorem wt553 : (Cond.instanceMethod ({ cls := "WrongRoom$Reader", name := "advanceWord", desc := "()V" } : Jvm.MethodName)) ∈ T0 := T0_a3 73 (by decide +kernel) rfl
theorem wt554 : (Cond.code ({ cls := "WrongRoom$Reader", name := "advanceWord", desc := "()V" } : Jvm.MethodName) prog_7_method_23_code (1 : Nat) (Option.none : Option Jvm.ClassFile.FieldType)) ∈ T0 := T0_a3 74 (by decide +kernel) rfl
theorem wt555 : (Cond.methodLink "WrongRoom$Reader" (267 : Nat) ({ cls := "WrongRoom$Reader", name := "isDigit", desc := "(C)Z" } : Jvm.MethodName)) ∈ T0 := T0_a3 75 (by decide +kernel) rfl
theorem wt556 : (Cond.static ({ cls := "WrongRoom$Reader", name := "isDigit", desc := "(C)Z" } : Jvm.MethodName)) ∈ T0 := T0_a3 76 (by decide +kernel) rfl
theorem wt557 : (Cond.code ({ cls := "WrongRoom$Reader", name := "isDigit", desc := "(C)Z" } : Jvm.MethodName) prog_7_method_26_code (1 : Nat) (Option.some Jvm.ClassFile.FieldType.boolean)) ∈ T0 := T0_a3 77 (by decide +kernel) rfl
theorem wt558 : (Cond.methodLink "WrongRoom$Reader" (270 : Nat) ({ cls := "WrongRoom$Reader", name := "advanceWhole", desc := "()V" } : Jvm.MethodName)) ∈ T0 := T0_a3 78 (by decide +kernel) rfl
theorem wt560 : (Cond.instanceMethod ({ cls := "WrongRoom$Reader", name := "advanceWhole", desc := "()V" } : Jvm.MethodName)) ∈ T0 := T0_a3 80 (by decide +kernel) rfl
theorem wt561 : (Cond.code ({ cls := "WrongRoom$Reader", name := "advanceWhole", desc := "()V" } : Jvm.MethodName) prog_7_method_24_code (1 : Nat) (Option.none : Option Jvm.ClassFile.FieldType)) ∈ T0 := T0_a3 81 (by decide +kernel) rfl
theorem wt562 : (Cond.methodLink "WrongRoom$Reader" (119 : Nat) ({ cls := "WrongRoom$Reader", name := "sortOfWord", desc := "()I" } : Jvm.MethodName)) ∈ T0 := T0_a3 82 (by decide +kernel) rfl
theorem wt564 : (Cond.instanceMethod ({ cls := "WrongRoom$Reader", name := "sortOfWord", desc := "()I" } : Jvm.MethodName)) ∈ T0 := T0_a3 84 (by decide +kernel) rfl
theorem wt565 : (Cond.code ({ cls := "WrongRoom$Reader", name := "sortOfWord", desc := "()I" } : Jvm.MethodName) prog_7_method_21_code (2 : Nat) (Option.some Jvm.ClassFile.FieldType.int)) ∈ T0 := T0_a3 85 (by decide +kernel) rfl
theorem wt566 : (Cond.methodLink "WrongRoom$Reader" (126 : Nat) ({ cls := "WrongRoom$Reader", name := "isFull", desc := "(I)Z" } : Jvm.MethodName)) ∈ T0 := T0_a3 86 (by decide +kernel) rfl
theorem wt568 : (Cond.instanceMethod ({ cls := "WrongRoom$Reader", name := "isFull", desc := "(I)Z" } : Jvm.MethodName)) ∈ T0 := T0_a3 88 (by decide +kernel) rfl
theorem wt569 : (Cond.code ({ cls := "WrongRoom$Reader", name := "isFull", desc := "(I)Z" } : Jvm.MethodName) prog_7_method_6_code (2 : Nat) (Option.some Jvm.ClassFile.FieldType.boolean)) ∈ T0 := T0_a3 89 (by decide +kernel) rfl
theorem wt570 : (Cond.methodLink "WrongRoom$Reader" (129 : Nat) ({ cls := "WrongRoom$Reader", name := "readTownLine", desc := "()Z" } : Jvm.MethodName)) ∈ T0 := T0_a3 90 (by decide +kernel) rfl
theorem wt572 : (Cond.instanceMethod ({ cls := "WrongRoom$Reader", name := "readTownLine", desc := "()Z" } : Jvm.MethodName)) ∈ T0 := T0_a3 92 (by decide +kernel) rfl
theorem wt573 : (Cond.code ({ cls := "WrongRoom$Reader", name := "readTownLine", desc := "()Z" } : Jvm.MethodName) prog_7_method_7_code (2 : Nat) (Option.some Jvm.ClassFile.FieldType.boolean)) ∈ T0 := T0_a3 93 (by decide +kernel) rfl
theorem wt575 : (Cond.methodLink "WrongRoom$Reader" (170 : Nat) ({ cls := "WrongRoom$Reader", name := "thisWord", desc := "(Ljava/lang/String;)Z" } : Jvm.MethodName)) ∈ T0 := T0_a3 95 (by decide +kernel) rfl
theorem wt577 : (Cond.instanceMethod ({ cls := "WrongRoom$Reader", name := "thisWord", desc := "(Ljava/lang/String;)Z" } : Jvm.MethodName)) ∈ T0 := T0_a3 97 (by decide +kernel) rfl
theorem wt578 : (Cond.code ({ cls := "WrongRoom$Reader", name := "thisWord", desc := "(Ljava/lang/String;)Z" } : Jvm.MethodName) prog_7_method_17_code (2 : Nat) (Option.some Jvm.ClassFile.FieldType.boolean)) ∈ T0 := T0_a3 98 (by decide +kernel) rfl
theorem wt579 : (Cond.methodLink "WrongRoom$Reader" (174 : Nat) ({ cls := "WrongRoom$Reader", name := "wholeWithin", desc := "(II)Z" } : Jvm.MethodName)) ∈ T0 := T0_a3 99 (by decide +kernel) rfl
theorem wt581 : (Cond.instanceMethod ({ cls := "WrongRoom$Reader", name := "wholeWithin", desc := "(II)Z" } : Jvm.MethodName)) ∈ T0 := T0_a3 101 (by decide +kernel) rfl
theorem wt582 : (Cond.code ({ cls := "WrongRoom$Reader", name := "wholeWithin", desc := "(II)Z" } : Jvm.MethodName) prog_7_method_18_code (3 : Nat) (Option.some Jvm.ClassFile.FieldType.boolean)) ∈ T0 := T0_a3 102 (by decide +kernel) rfl
theorem wt584 : (Cond.methodLink "WrongRoom$Reader" (132 : Nat) ({ cls := "WrongRoom$Reader", name := "readHouseLine", desc := "()Z" } : Jvm.MethodName)) ∈ T0 := T0_a3 104 (by decide +kernel) rfl
theorem wt586 : (Cond.instanceMethod ({ cls := "WrongRoom$Reader", name := "readHouseLine", desc := "()Z" } : Jvm.MethodName)) ∈ T0 := T0_a3 106 (by decide +kernel) rfl
theorem wt587 : (Cond.code ({ cls := "WrongRoom$Reader", name := "readHouseLine", desc := "()Z" } : Jvm.MethodName) prog_7_method_8_code (3 : Nat) (Option.some Jvm.ClassFile.FieldType.boolean)) ∈ T0 := T0_a3 107 (by decide +kernel) rfl
theorem wt588 : (Cond.methodLink "WrongRoom$Reader" (182 : Nat) ({ cls := "WrongRoom$Reader", name := "newName", desc := "()Z" } : Jvm.MethodName)) ∈ T0 := T0_a3 108 (by decide +kernel) rfl
theorem wt590 : (Cond.instanceMethod ({ cls := "WrongRoom$Reader", name := "newName", desc := "()Z" } : Jvm.MethodName)) ∈ T0 := T0_a3 110 (by decide +kernel) rfl
theorem wt591 : (Cond.code ({ cls := "WrongRoom$Reader", name := "newName", desc := "()Z" } : Jvm.MethodName) prog_7_method_19_code (1 : Nat) (Option.some Jvm.ClassFile.FieldType.boolean)) ∈ T0 := T0_a3 111 (by decide +kernel) rfl
theorem wt592 : (Cond.methodLink "WrongRoom$Reader" (252 : Nat) ({ cls := "WrongRoom$Town", name := "isNameTold", desc := "(J)Z" } : Jvm.MethodName)) ∈ T0 := T0_a3 112 (by decide +kernel) rfl
theorem wt593 : (Cond.instanceMethod ({ cls := "WrongRoom$Town", name := "isNameTold", desc := "(J)Z" } : Jvm.MethodName)) ∈ T0 := T0_a3 113 (by decide +kernel) rfl
theorem wt594 : (Cond.selects "WrongRoom$Town" ({ cls := "WrongRoom$Town", name := "isNameTold", desc := "(J)Z" } : Jvm.MethodName) ({ cls := "WrongRoom$Town", name := "isNameTold", desc := "(J)Z" } : Jvm.MethodName)) ∈ T0 := T0_a3 114 (by decide +kernel) rfl
theorem wt595 : (Cond.code ({ cls := "WrongRoom$Town", name := "isNameTold", desc := "(J)Z" } : Jvm.MethodName) prog_11_method_4_code (4 : Nat) (Option.some Jvm.ClassFile.FieldType.boolean)) ∈ T0 := T0_a3 115 (by decide +kernel) rfl
theorem wt596 : (Cond.methodLink "WrongRoom$Town" (58 : Nat) ({ cls := "WrongRoom$Houses", name := "called", desc := "(J)I" } : Jvm.MethodName)) ∈ T0 := T0_a3 116 (by decide +kernel) rfl
theorem wt597 : (Cond.instanceMethod ({ cls := "WrongRoom$Houses", name := "called", desc := "(J)I" } : Jvm.MethodName)) ∈ T0 := T0_a3 117 (by decide +kernel) rfl
theorem wt598 : (Cond.selects "WrongRoom$Houses" ({ cls := "WrongRoom$Houses", name := "called", desc := "(J)I" } : Jvm.MethodName) ({ cls := "WrongRoom$Houses", name := "called", desc := "(J)I" } : Jvm.MethodName)) ∈ T0 := T0_a3 118 (by decide +kernel) rfl
theorem wt599 : (Cond.code ({ cls := "WrongRoom$Houses", name := "called", desc := "(J)I" } : Jvm.MethodName) prog_4_method_3_code (4 : Nat) (Option.some Jvm.ClassFile.FieldType.int)) ∈ T0 := T0_a3 119 (by decide +kernel) rfl
theorem wt604 : (Cond.methodLink "WrongRoom$Reader" (135 : Nat) ({ cls := "WrongRoom$Reader", name := "readWrongLine", desc := "()Z" } : Jvm.MethodName)) ∈ T0 := T0_a3 124 (by decide +kernel) rfl
theorem wt606 : (Cond.instanceMethod ({ cls := "WrongRoom$Reader", name := "readWrongLine", desc := "()Z" } : Jvm.MethodName)) ∈ T0 := T0_a3 126 (by decide +kernel) rfl
theorem wt607 : (Cond.code ({ cls := "WrongRoom$Reader", name := "readWrongLine", desc := "()Z" } : Jvm.MethodName) prog_7_method_9_code (2 : Nat) (Option.some Jvm.ClassFile.FieldType.boolean)) ∈ T0 := T0_a3 127 (by decide +kernel) rfl
theorem wt608 : (Cond.methodLink "WrongRoom$Reader" (207 : Nat) ({ cls := "WrongRoom$Reader", name := "toldHouse", desc := "()Z" } : Jvm.MethodName)) ∈ T0 := T0_a3 128 (by decide +kernel) rfl
theorem wt610 : (Cond.instanceMethod ({ cls := "WrongRoom$Reader", name := "toldHouse", desc := "()Z" } : Jvm.MethodName)) ∈ T0 := T0_a3 130 (by decide +kernel) rfl
theorem wt611 : (Cond.code ({ cls := "WrongRoom$Reader", name := "toldHouse", desc := "()Z" } : Jvm.MethodName) prog_7_method_20_code (1 : Nat) (Option.some Jvm.ClassFile.FieldType.boolean)) ∈ T0 := T0_a3 131 (by decide +kernel) rfl
theorem wt612 : (Cond.methodLink "WrongRoom$Reader" (256 : Nat) ({ cls := "WrongRoom$Houses", name := "called", desc := "(J)I" } : Jvm.MethodName)) ∈ T0 := T0_a3 132 (by decide +kernel) rfl
theorem wt614 : (Cond.methodLink "WrongRoom$Reader" (215 : Nat) ({ cls := "WrongRoom$Houses", name := "isToldOf", desc := "(I)Z" } : Jvm.MethodName)) ∈ T0 := T0_a3 134 (by decide +kernel) rfl
theorem wt615 : (Cond.instanceMethod ({ cls := "WrongRoom$Houses", name := "isToldOf", desc := "(I)Z" } : Jvm.MethodName)) ∈ T0 := T0_a3 135 (by decide +kernel) rfl
theorem wt616 : (Cond.selects "WrongRoom$Houses" ({ cls := "WrongRoom$Houses", name := "isToldOf", desc := "(I)Z" } : Jvm.MethodName) ({ cls := "WrongRoom$Houses", name := "isToldOf", desc := "(I)Z" } : Jvm.MethodName)) ∈ T0 := T0_a3 136 (by decide +kernel) rfl
theorem wt617 : (Cond.code ({ cls := "WrongRoom$Houses", name := "isToldOf", desc := "(I)Z" } : Jvm.MethodName) prog_4_method_4_code (3 : Nat) (Option.some Jvm.ClassFile.FieldType.boolean)) ∈ T0 := T0_a3 137 (by decide +kernel) rfl
theorem wt618 : (Cond.methodLink "WrongRoom$Reader" (138 : Nat) ({ cls := "WrongRoom$Reader", name := "readOpenLine", desc := "()Z" } : Jvm.MethodName)) ∈ T0 := T0_a3 138 (by decide +kernel) rfl
theorem wt620 : (Cond.instanceMethod ({ cls := "WrongRoom$Reader", name := "readOpenLine", desc := "()Z" } : Jvm.MethodName)) ∈ T0 := T0_a3 140 (by decide +kernel) rfl
theorem wt621 : (Cond.code ({ cls := "WrongRoom$Reader", name := "readOpenLine", desc := "()Z" } : Jvm.MethodName) prog_7_method_10_code (3 : Nat) (Option.some Jvm.ClassFile.FieldType.boolean)) ∈ T0 := T0_a3 141 (by decide +kernel) rfl
theorem wt624 : (Cond.methodLink "WrongRoom$Reader" (141 : Nat) ({ cls := "WrongRoom$Reader", name := "readStreetLine", desc := "()Z" } : Jvm.MethodName)) ∈ T0 := T0_a3 144 (by decide +kernel) rfl
theorem wt626 : (Cond.instanceMethod ({ cls := "WrongRoom$Reader", name := "readStreetLine", desc := "()Z" } : Jvm.MethodName)) ∈ T0 := T0_a3 146 (by decide +kernel) rfl
theorem wt627 : (Cond.code ({ cls := "WrongRoom$Reader", name := "readStreetLine", desc := "()Z" } : Jvm.MethodName) prog_7_method_11_code (3 : Nat) (Option.some Jvm.ClassFile.FieldType.boolean)) ∈ T0 := T0_a3 147 (by decide +kernel) rfl
theorem wt628 : (Cond.methodLink "WrongRoom$Reader" (228 : Nat) ({ cls := "WrongRoom$Streets", name := "between", desc := "(II)I" } : Jvm.MethodName)) ∈ T0 := T0_a3 148 (by decide +kernel) rfl
theorem wt629 : (Cond.instanceMethod ({ cls := "WrongRoom$Streets", name := "between", desc := "(II)I" } : Jvm.MethodName)) ∈ T0 := T0_a3 149 (by decide +kernel) rfl
theorem wt630 : (Cond.selects "WrongRoom$Streets" ({ cls := "WrongRoom$Streets", name := "between", desc := "(II)I" } : Jvm.MethodName) ({ cls := "WrongRoom$Streets", name := "between", desc := "(II)I" } : Jvm.MethodName)) ∈ T0 := T0_a3 150 (by decide +kernel) rfl
theorem wt631 : (Cond.code ({ cls := "WrongRoom$Streets", name := "between", desc := "(II)I" } : Jvm.MethodName) prog_9_method_4_code (3 : Nat) (Option.some Jvm.ClassFile.FieldType.int)) ∈ T0 := T0_a3 151 (by decide +kernel) rfl
theorem wt633 : (Cond.methodLink "WrongRoom$Reader" (233 : Nat) ({ cls := "WrongRoom$Streets", name := "addStreet", desc := "(III)V" } : Jvm.MethodName)) ∈ T0 := T0_a3 153 (by decide +kernel) rfl
theorem wt634 : (Cond.instanceMethod ({ cls := "WrongRoom$Streets", name := "addStreet", desc := "(III)V" } : Jvm.MethodName)) ∈ T0 := T0_a3 154 (by decide +kernel) rfl
theorem wt635 : (Cond.selects "WrongRoom$Streets" ({ cls := "WrongRoom$Streets", name := "addStreet", desc := "(III)V" } : Jvm.MethodName) ({ cls := "WrongRoom$Streets", name := "addStreet", desc := "(III)V" } : Jvm.MethodName)) ∈ T0 := T0_a3 155 (by decide +kernel) rfl
theorem wt636 : (Cond.code ({ cls := "WrongRoom$Streets", name := "addStreet", desc := "(III)V" } : Jvm.MethodName) prog_9_method_3_code (4 : Nat) (Option.none : Option Jvm.ClassFile.FieldType)) ∈ T0 := T0_a3 156 (by decide +kernel) rfl
theorem wt637 : (Cond.methodLink "WrongRoom$Reader" (144 : Nat) ({ cls := "WrongRoom$Reader", name := "readPersonLine", desc := "()Z" } : Jvm.MethodName)) ∈ T0 := T0_a3 157 (by decide +kernel) rfl
theorem wt639 : (Cond.instanceMethod ({ cls := "WrongRoom$Reader", name := "readPersonLine", desc := "()Z" } : Jvm.MethodName)) ∈ T0 := T0_a3 159 (by decide +kernel) rfl
theorem wt640 : (Cond.code ({ cls := "WrongRoom$Reader", name := "readPersonLine", desc := "()Z" } : Jvm.MethodName) prog_7_method_12_code (4 : Nat) (Option.some Jvm.ClassFile.FieldType.boolean)) ∈ T0 := T0_a3 160 (by decide +kernel) rfl
theorem wt643 : (Cond.methodLink "WrongRoom$Reader" (240 : Nat) ({ cls := "WrongRoom$Town", name := "addPerson", desc := "(JII)V" } : Jvm.MethodName)) ∈ T0 := T0_a3 163 (by decide +kernel) rfl
theorem wt644 : (Cond.instanceMethod ({ cls := "WrongRoom$Town", name := "addPerson", desc := "(JII)V" } : Jvm.MethodName)) ∈ T0 := T0_a3 164 (by decide +kernel) rfl
theorem wt645 : (Cond.selects "WrongRoom$Town" ({ cls := "WrongRoom$Town", name := "addPerson", desc := "(JII)V" } : Jvm.MethodName) ({ cls := "WrongRoom$Town", name := "addPerson", desc := "(JII)V" } : Jvm.MethodName)) ∈ T0 := T0_a3 165 (by decide +kernel) rfl
theorem wt646 : (Cond.code ({ cls := "WrongRoom$Town", name := "addPerson", desc := "(JII)V" } : Jvm.MethodName) prog_11_method_3_code (5 : Nat) (Option.none : Option Jvm.ClassFile.FieldType)) ∈ T0 := T0_a3 166 (by decide +kernel) rfl
theorem wt647 : (Cond.methodLink "WrongRoom$Reader" (147 : Nat) ({ cls := "WrongRoom$Reader", name := "readSignLine", desc := "()Z" } : Jvm.MethodName)) ∈ T0 := T0_a3 167 (by decide +kernel) rfl
theorem wt649 : (Cond.instanceMethod ({ cls := "WrongRoom$Reader", name := "readSignLine", desc := "()Z" } : Jvm.MethodName)) ∈ T0 := T0_a3 169 (by decide +kernel) rfl
theorem wt650 : (Cond.code ({ cls := "WrongRoom$Reader", name := "readSignLine", desc := "()Z" } : Jvm.MethodName) prog_7_method_13_code (1 : Nat) (Option.some Jvm.ClassFile.FieldType.boolean)) ∈ T0 := T0_a3 170 (by decide +kernel) rfl
theorem wt651 : (Cond.methodLink "WrongRoom$Reader" (244 : Nat) ({ cls := "WrongRoom$Clues", name := "addSign", desc := "(IJ)V" } : Jvm.MethodName)) ∈ T0 := T0_a3 171 (by decide +kernel) rfl
theorem wt652 : (Cond.instanceMethod ({ cls := "WrongRoom$Clues", name := "addSign", desc := "(IJ)V" } : Jvm.MethodName)) ∈ T0 := T0_a3 172 (by decide +kernel) rfl
theorem wt653 : (Cond.selects "WrongRoom$Clues" ({ cls := "WrongRoom$Clues", name := "addSign", desc := "(IJ)V" } : Jvm.MethodName) ({ cls := "WrongRoom$Clues", name := "addSign", desc := "(IJ)V" } : Jvm.MethodName)) ∈ T0 := T0_a3 173 (by decide +kernel) rfl
theorem wt654 : (Cond.code ({ cls := "WrongRoom$Clues", name := "addSign", desc := "(IJ)V" } : Jvm.MethodName) prog_2_method_3_code (4 : Nat) (Option.none : Option Jvm.ClassFile.FieldType)) ∈ T0 := T0_a3 174 (by decide +kernel) rfl
theorem wt655 : (Cond.methodLink "WrongRoom$Reader" (150 : Nat) ({ cls := "WrongRoom$Reader", name := "readNoiseLine", desc := "()Z" } : Jvm.MethodName)) ∈ T0 := T0_a3 175 (by decide +kernel) rfl
theorem wt657 : (Cond.instanceMethod ({ cls := "WrongRoom$Reader", name := "readNoiseLine", desc := "()Z" } : Jvm.MethodName)) ∈ T0 := T0_a3 177 (by decide +kernel) rfl
theorem wt658 : (Cond.code ({ cls := "WrongRoom$Reader", name := "readNoiseLine", desc := "()Z" } : Jvm.MethodName) prog_7_method_14_code (1 : Nat) (Option.some Jvm.ClassFile.FieldType.boolean)) ∈ T0 := T0_a3 178 (by decide +kernel) rfl
theorem wt659 : (Cond.methodLink "WrongRoom$Reader" (248 : Nat) ({ cls := "WrongRoom$Clues", name := "addNoise", desc := "(II)V" } : Jvm.MethodName)) ∈ T0 := T0_a3 179 (by decide +kernel) rfl
theorem wt660 : (Cond.instanceMethod ({ cls := "WrongRoom$Clues", name := "addNoise", desc := "(II)V" } : Jvm.MethodName)) ∈ T0 := T0_a3 180 (by decide +kernel) rfl
theorem wt661 : (Cond.selects "WrongRoom$Clues" ({ cls := "WrongRoom$Clues", name := "addNoise", desc := "(II)V" } : Jvm.MethodName) ({ cls := "WrongRoom$Clues", name := "addNoise", desc := "(II)V" } : Jvm.MethodName)) ∈ T0 := T0_a3 181 (by decide +kernel) rfl
theorem wt662 : (Cond.code ({ cls := "WrongRoom$Clues", name := "addNoise", desc := "(II)V" } : Jvm.MethodName) prog_2_method_4_code (3 : Nat) (Option.none : Option Jvm.ClassFile.FieldType)) ∈ T0 := T0_a3 182 (by decide +kernel) rfl
theorem wt663 : (Cond.methodLink "WrongRoom$Reader" (111 : Nat) ({ cls := "WrongRoom$Streets", name := "measure", desc := "()V" } : Jvm.MethodName)) ∈ T0 := T0_a3 183 (by decide +kernel) rfl
theorem wt664 : (Cond.instanceMethod ({ cls := "WrongRoom$Streets", name := "measure", desc := "()V" } : Jvm.MethodName)) ∈ T0 := T0_a3 184 (by decide +kernel) rfl
theorem wt665 : (Cond.selects "WrongRoom$Streets" ({ cls := "WrongRoom$Streets", name := "measure", desc := "()V" } : Jvm.MethodName) ({ cls := "WrongRoom$Streets", name := "measure", desc := "()V" } : Jvm.MethodName)) ∈ T0 := T0_a3 185 (by decide +kernel) rfl
theorem wt666 : (Cond.code ({ cls := "WrongRoom$Streets", name := "measure", desc := "()V" } : Jvm.MethodName) prog_9_method_6_code (3 : Nat) (Option.none : Option Jvm.ClassFile.FieldType)) ∈ T0 := T0_a3 186 (by decide +kernel) rfl
theorem wt667 : (Cond.methodLink "WrongRoom$Streets" (25 : Nat) ({ cls := "WrongRoom$Streets", name := "shortenThrough", desc := "(II)V" } : Jvm.MethodName)) ∈ T0 := T0_a3 187 (by decide +kernel) rfl
theorem wt669 : (Cond.instanceMethod ({ cls := "WrongRoom$Streets", name := "shortenThrough", desc := "(II)V" } : Jvm.MethodName)) ∈ T0 := T0_a3 189 (by decide +kernel) rfl
theorem wt670 : (Cond.code ({ cls := "WrongRoom$Streets", name := "shortenThrough", desc := "(II)V" } : Jvm.MethodName) prog_9_method_7_code (7 : Nat) (Option.none : Option Jvm.ClassFile.FieldType)) ∈ T0 := T0_a3 190 (by decide +kernel) rfl
theorem wt671 : (Cond.methodLink "WrongRoom$Streets" (29 : Nat) ({ cls := "WrongRoom$Streets", name := "apart", desc := "(II)I" } : Jvm.MethodName)) ∈ T0 := T0_a3 191 (by decide +kernel) rfl
theorem wt672 : (Cond.instanceMethod ({ cls := "WrongRoom$Streets", name := "apart", desc := "(II)I" } : Jvm.MethodName)) ∈ T0 := T0_a3 192 (by decide +kernel) rfl
theorem wt673 : (Cond.selects "WrongRoom$Streets" ({ cls := "WrongRoom$Streets", name := "apart", desc := "(II)I" } : Jvm.MethodName) ({ cls := "WrongRoom$Streets", name := "apart", desc := "(II)I" } : Jvm.MethodName)) ∈ T0 := T0_a3 193 (by decide +kernel) rfl
theorem wt674 : (Cond.code ({ cls := "WrongRoom$Streets", name := "apart", desc := "(II)I" } : Jvm.MethodName) prog_9_method_5_code (3 : Nat) (Option.some Jvm.ClassFile.FieldType.int)) ∈ T0 := T0_a3 194 (by decide +kernel) rfl
theorem wt675 : (Cond.methodLink "WrongRoom" (87 : Nat) ({ cls := "WrongRoom$Reader", name := "changeTown", desc := "(LWrongRoom$Town;)LWrongRoom$Town;" } : Jvm.MethodName)) ∈ T0 := T0_a3 195 (by decide +kernel) rfl
theorem wt676 : (Cond.instanceMethod ({ cls := "WrongRoom$Reader", name := "changeTown", desc := "(LWrongRoom$Town;)LWrongRoom$Town;" } : Jvm.MethodName)) ∈ T0 := T0_a3 196 (by decide +kernel) rfl
theorem wt677 : (Cond.selects "WrongRoom$Reader" ({ cls := "WrongRoom$Reader", name := "changeTown", desc := "(LWrongRoom$Town;)LWrongRoom$Town;" } : Jvm.MethodName) ({ cls := "WrongRoom$Reader", name := "changeTown", desc := "(LWrongRoom$Town;)LWrongRoom$Town;" } : Jvm.MethodName)) ∈ T0 := T0_a3 197 (by decide +kernel) rfl
theorem wt678 : (Cond.code ({ cls := "WrongRoom$Reader", name := "changeTown", desc := "(LWrongRoom$Town;)LWrongRoom$Town;" } : Jvm.MethodName) prog_7_method_3_code (3 : Nat) (Option.some (Jvm.ClassFile.FieldType.object "WrongRoom$Town"))) ∈ T0 := T0_a3 198 (by decide +kernel) rfl
theorem wt679 : (Cond.methodLink "WrongRoom" (91 : Nat) ({ cls := "WrongRoom$Now", name := "begin", desc := "(LWrongRoom$Town;)V" } : Jvm.MethodName)) ∈ T0 := T0_a3 199 (by decide +kernel) rfl
theorem wt680 : (Cond.instanceMethod ({ cls := "WrongRoom$Now", name := "begin", desc := "(LWrongRoom$Town;)V" } : Jvm.MethodName)) ∈ T0 := T0_a3 200 (by decide +kernel) rfl
theorem wt681 : (Cond.selects "WrongRoom$Now" ({ cls := "WrongRoom$Now", name := "begin", desc := "(LWrongRoom$Town;)V" } : Jvm.MethodName) ({ cls := "WrongRoom$Now", name := "begin", desc := "(LWrongRoom$Town;)V" } : Jvm.MethodName)) ∈ T0 := T0_a3 201 (by decide +kernel) rfl
theorem wt682 : (Cond.code ({ cls := "WrongRoom$Now", name := "begin", desc := "(LWrongRoom$Town;)V" } : Jvm.MethodName) prog_5_method_2_code (3 : Nat) (Option.none : Option Jvm.ClassFile.FieldType)) ∈ T0 := T0_a3 202 (by decide +kernel) rfl
theorem wt683 : (Cond.methodLink "WrongRoom" (95 : Nat) ({ cls := "WrongRoom$Past", name := "forget", desc := "()V" } : Jvm.MethodName)) ∈ T0 := T0_a3 203 (by decide +kernel) rfl
theorem wt684 : (Cond.instanceMethod ({ cls := "WrongRoom$Past", name := "forget", desc := "()V" } : Jvm.MethodName)) ∈ T0 := T0_a3 204 (by decide +kernel) rfl
theorem wt685 : (Cond.selects "WrongRoom$Past" ({ cls := "WrongRoom$Past", name := "forget", desc := "()V" } : Jvm.MethodName) ({ cls := "WrongRoom$Past", name := "forget", desc := "()V" } : Jvm.MethodName)) ∈ T0 := T0_a3 205 (by decide +kernel) rfl
theorem wt686 : (Cond.code ({ cls := "WrongRoom$Past", name := "forget", desc := "()V" } : Jvm.MethodName) prog_6_method_2_code (1 : Nat) (Option.none : Option Jvm.ClassFile.FieldType)) ∈ T0 := T0_a3 206 (by decide +kernel) rfl
theorem wt687 : (Cond.methodLink "WrongRoom" (98 : Nat) ({ cls := "WrongRoom$Fitting", name := "forget", desc := "()V" } : Jvm.MethodName)) ∈ T0 := T0_a3 207 (by decide +kernel) rfl
theorem wt688 : (Cond.instanceMethod ({ cls := "WrongRoom$Fitting", name := "forget", desc := "()V" } : Jvm.MethodName)) ∈ T0 := T0_a3 208 (by decide +kernel) rfl
theorem wt689 : (Cond.selects "WrongRoom$Fitting" ({ cls := "WrongRoom$Fitting", name := "forget", desc := "()V" } : Jvm.MethodName) ({ cls := "WrongRoom$Fitting", name := "forget", desc := "()V" } : Jvm.MethodName)) ∈ T0 := T0_a3 209 (by decide +kernel) rfl
theorem wt690 : (Cond.code ({ cls := "WrongRoom$Fitting", name := "forget", desc := "()V" } : Jvm.MethodName) prog_3_method_2_code (1 : Nat) (Option.none : Option Jvm.ClassFile.FieldType)) ∈ T0 := T0_a3 210 (by decide +kernel) rfl
theorem wt691 : (Cond.methodLink "WrongRoom" (108 : Nat) ({ cls := "WrongRoom", name := "answer", desc := "(I)I" } : Jvm.MethodName)) ∈ T0 := T0_a3 211 (by decide +kernel) rfl
theorem wt693 : (Cond.instanceMethod ({ cls := "WrongRoom", name := "answer", desc := "(I)I" } : Jvm.MethodName)) ∈ T0 := T0_a3 213 (by decide +kernel) rfl
theorem wt694 : (Cond.code ({ cls := "WrongRoom", name := "answer", desc := "(I)I" } : Jvm.MethodName) prog_1_method_55_code (2 : Nat) (Option.some Jvm.ClassFile.FieldType.int)) ∈ T0 := T0_a3 214 (by decide +kernel) rfl
theorem wt698 : (Cond.code ({ cls := "WrongRoom", name := "fault", desc := "()I" } : Jvm.MethodName) prog_1_method_4_code (1 : Nat) (Option.some Jvm.ClassFile.FieldType.int)) ∈ T0 := T0_a3 218 (by decide +kernel) rfl
theorem wt702 : (Cond.code ({ cls := "WrongRoom", name := "where", desc := "()I" } : Jvm.MethodName) prog_1_method_5_code (1 : Nat) (Option.some Jvm.ClassFile.FieldType.int)) ∈ T0 := T0_a3 222 (by decide +kernel) rfl
theorem wt706 : (Cond.code ({ cls := "WrongRoom", name := "house", desc := "(II)I" } : Jvm.MethodName) prog_1_method_6_code (3 : Nat) (Option.some Jvm.ClassFile.FieldType.int)) ∈ T0 := T0_a3 226 (by decide +kernel) rfl
theorem wt707 : (Cond.methodLink "WrongRoom" (117 : Nat) ({ cls := "WrongRoom", name := "isHouse", desc := "(I)Z" } : Jvm.MethodName)) ∈ T0 := T0_a3 227 (by decide +kernel) rfl
theorem wt709 : (Cond.instanceMethod ({ cls := "WrongRoom", name := "isHouse", desc := "(I)Z" } : Jvm.MethodName)) ∈ T0 := T0_a3 229 (by decide +kernel) rfl
theorem wt710 : (Cond.code ({ cls := "WrongRoom", name := "isHouse", desc := "(I)Z" } : Jvm.MethodName) prog_1_method_60_code (2 : Nat) (Option.some Jvm.ClassFile.FieldType.boolean)) ∈ T0 := T0_a3 230 (by decide +kernel) rfl
theorem wt711 : (Cond.methodLink "WrongRoom" (129 : Nat) ({ cls := "WrongRoom$Now", name := "roomOf", desc := "(I)I" } : Jvm.MethodName)) ∈ T0 := T0_a3 231 (by decide +kernel) rfl
theorem wt712 : (Cond.instanceMethod ({ cls := "WrongRoom$Now", name := "roomOf", desc := "(I)I" } : Jvm.MethodName)) ∈ T0 := T0_a3 232 (by decide +kernel) rfl
theorem wt713 : (Cond.selects "WrongRoom$Now" ({ cls := "WrongRoom$Now", name := "roomOf", desc := "(I)I" } : Jvm.MethodName) ({ cls := "WrongRoom$Now", name := "roomOf", desc := "(I)I" } : Jvm.MethodName)) ∈ T0 := T0_a3 233 (by decide +kernel) rfl
theorem wt714 : (Cond.code ({ cls := "WrongRoom$Now", name := "roomOf", desc := "(I)I" } : Jvm.MethodName) prog_5_method_6_code (2 : Nat) (Option.some Jvm.ClassFile.FieldType.int)) ∈ T0 := T0_a3 234 (by decide +kernel) rfl
theorem wt715 : (Cond.methodLink "WrongRoom" (132 : Nat) ({ cls := "WrongRoom$Now", name := "whoseRoomIsOf", desc := "(I)I" } : Jvm.MethodName)) ∈ T0 := T0_a3 235 (by decide +kernel) rfl
theorem wt716 : (Cond.instanceMethod ({ cls := "WrongRoom$Now", name := "whoseRoomIsOf", desc := "(I)I" } : Jvm.MethodName)) ∈ T0 := T0_a3 236 (by decide +kernel) rfl
theorem wt717 : (Cond.selects "WrongRoom$Now" ({ cls := "WrongRoom$Now", name := "whoseRoomIsOf", desc := "(I)I" } : Jvm.MethodName) ({ cls := "WrongRoom$Now", name := "whoseRoomIsOf", desc := "(I)I" } : Jvm.MethodName)) ∈ T0 := T0_a3 237 (by decide +kernel) rfl
theorem wt718 : (Cond.code ({ cls := "WrongRoom$Now", name := "whoseRoomIsOf", desc := "(I)I" } : Jvm.MethodName) prog_5_method_7_code (3 : Nat) (Option.some Jvm.ClassFile.FieldType.int)) ∈ T0 := T0_a3 238 (by decide +kernel) rfl
theorem wt719 : (Cond.methodLink "WrongRoom" (135 : Nat) ({ cls := "WrongRoom$Now", name := "isShut", desc := "(I)Z" } : Jvm.MethodName)) ∈ T0 := T0_a3 239 (by decide +kernel) rfl
theorem wt720 : (Cond.instanceMethod ({ cls := "WrongRoom$Now", name := "isShut", desc := "(I)Z" } : Jvm.MethodName)) ∈ T0 := T0_a4 0 (by decide +kernel) rfl
theorem wt721 : (Cond.selects "WrongRoom$Now" ({ cls := "WrongRoom$Now", name := "isShut", desc := "(I)Z" } : Jvm.MethodName) ({ cls := "WrongRoom$Now", name := "isShut", desc := "(I)Z" } : Jvm.MethodName)) ∈ T0 := T0_a4 1 (by decide +kernel) rfl
theorem wt722 : (Cond.code ({ cls := "WrongRoom$Now", name := "isShut", desc := "(I)Z" } : Jvm.MethodName) prog_5_method_14_code (2 : Nat) (Option.some Jvm.ClassFile.FieldType.boolean)) ∈ T0 := T0_a4 2 (by decide +kernel) rfl
theorem wt726 : (Cond.code ({ cls := "WrongRoom", name := "open", desc := "(II)I" } : Jvm.MethodName) prog_1_method_7_code (3 : Nat) (Option.some Jvm.ClassFile.FieldType.int)) ∈ T0 := T0_a4 6 (by decide +kernel) rfl
theorem wt727 : (Cond.methodLink "WrongRoom" (138 : Nat) ({ cls := "WrongRoom", name := "isMinute", desc := "(I)Z" } : Jvm.MethodName)) ∈ T0 := T0_a4 7 (by decide +kernel) rfl
theorem wt728 : (Cond.static ({ cls := "WrongRoom", name := "isMinute", desc := "(I)Z" } : Jvm.MethodName)) ∈ T0 := T0_a4 8 (by decide +kernel) rfl
theorem wt729 : (Cond.code ({ cls := "WrongRoom", name := "isMinute", desc := "(I)Z" } : Jvm.MethodName) prog_1_method_63_code (1 : Nat) (Option.some Jvm.ClassFile.FieldType.boolean)) ∈ T0 := T0_a4 9 (by decide +kernel) rfl
theorem wt730 : (Cond.methodLink "WrongRoom" (141 : Nat) ({ cls := "WrongRoom", name := "isDoorOpen", desc := "(II)Z" } : Jvm.MethodName)) ∈ T0 := T0_a4 10 (by decide +kernel) rfl
theorem wt732 : (Cond.instanceMethod ({ cls := "WrongRoom", name := "isDoorOpen", desc := "(II)Z" } : Jvm.MethodName)) ∈ T0 := T0_a4 12 (by decide +kernel) rfl
theorem wt733 : (Cond.code ({ cls := "WrongRoom", name := "isDoorOpen", desc := "(II)Z" } : Jvm.MethodName) prog_1_method_66_code (3 : Nat) (Option.some Jvm.ClassFile.FieldType.boolean)) ∈ T0 := T0_a4 13 (by decide +kernel) rfl
theorem wt734 : (Cond.methodLink "WrongRoom" (396 : Nat) ({ cls := "WrongRoom$Now", name := "hasDoor", desc := "(I)Z" } : Jvm.MethodName)) ∈ T0 := T0_a4 14 (by decide +kernel) rfl
theorem wt735 : (Cond.instanceMethod ({ cls := "WrongRoom$Now", name := "hasDoor", desc := "(I)Z" } : Jvm.MethodName)) ∈ T0 := T0_a4 15 (by decide +kernel) rfl
theorem wt736 : (Cond.selects "WrongRoom$Now" ({ cls := "WrongRoom$Now", name := "hasDoor", desc := "(I)Z" } : Jvm.MethodName) ({ cls := "WrongRoom$Now", name := "hasDoor", desc := "(I)Z" } : Jvm.MethodName)) ∈ T0 := T0_a4 16 (by decide +kernel) rfl
theorem wt737 : (Cond.code ({ cls := "WrongRoom$Now", name := "hasDoor", desc := "(I)Z" } : Jvm.MethodName) prog_5_method_17_code (2 : Nat) (Option.some Jvm.ClassFile.FieldType.boolean)) ∈ T0 := T0_a4 17 (by decide +kernel) rfl
theorem wt738 : (Cond.methodLink "WrongRoom$Now" (53 : Nat) ({ cls := "WrongRoom$Now", name := "isShut", desc := "(I)Z" } : Jvm.MethodName)) ∈ T0 := T0_a4 18 (by decide +kernel) rfl
theorem wt739 : (Cond.methodLink "WrongRoom" (399 : Nat) ({ cls := "WrongRoom$Houses", name := "untilOpen", desc := "(II)I" } : Jvm.MethodName)) ∈ T0 := T0_a4 19 (by decide +kernel) rfl
theorem wt740 : (Cond.instanceMethod ({ cls := "WrongRoom$Houses", name := "untilOpen", desc := "(II)I" } : Jvm.MethodName)) ∈ T0 := T0_a4 20 (by decide +kernel) rfl
theorem wt741 : (Cond.selects "WrongRoom$Houses" ({ cls := "WrongRoom$Houses", name := "untilOpen", desc := "(II)I" } : Jvm.MethodName) ({ cls := "WrongRoom$Houses", name := "untilOpen", desc := "(II)I" } : Jvm.MethodName)) ∈ T0 := T0_a4 21 (by decide +kernel) rfl
theorem wt742 : (Cond.code ({ cls := "WrongRoom$Houses", name := "untilOpen", desc := "(II)I" } : Jvm.MethodName) prog_4_method_7_code (6 : Nat) (Option.some Jvm.ClassFile.FieldType.int)) ∈ T0 := T0_a4 22 (by decide +kernel) rfl
theorem wt743 : (Cond.methodLink "WrongRoom$Houses" (41 : Nat) ({ cls := "java/lang/Math", name := "floorMod", desc := "(II)I" } : Jvm.MethodName)) ∈ T0 := T0_a4 23 (by decide +kernel) rfl
theorem wt744 : (Cond.static ({ cls := "java/lang/Math", name := "floorMod", desc := "(II)I" } : Jvm.MethodName)) ∈ T0 := T0_a4 24 (by decide +kernel) rfl
theorem wt745 : (Cond.code ({ cls := "java/lang/Math", name := "floorMod", desc := "(II)I" } : Jvm.MethodName) prog_21_method_50_code (3 : Nat) (Option.some Jvm.ClassFile.FieldType.int)) ∈ T0 := T0_a4 25 (by decide +kernel) rfl
theorem wt749 : (Cond.code ({ cls := "WrongRoom", name := "street", desc := "(II)I" } : Jvm.MethodName) prog_1_method_8_code (4 : Nat) (Option.some Jvm.ClassFile.FieldType.int)) ∈ T0 := T0_a4 29 (by decide +kernel) rfl
theorem wt750 : (Cond.methodLink "WrongRoom" (145 : Nat) ({ cls := "WrongRoom", name := "areUnlikeHouses", desc := "(II)Z" } : Jvm.MethodName)) ∈ T0 := T0_a4 30 (by decide +kernel) rfl
theorem wt752 : (Cond.instanceMethod ({ cls := "WrongRoom", name := "areUnlikeHouses", desc := "(II)Z" } : Jvm.MethodName)) ∈ T0 := T0_a4 32 (by decide +kernel) rfl
theorem wt753 : (Cond.code ({ cls := "WrongRoom", name := "areUnlikeHouses", desc := "(II)Z" } : Jvm.MethodName) prog_1_method_61_code (3 : Nat) (Option.some Jvm.ClassFile.FieldType.boolean)) ∈ T0 := T0_a4 33 (by decide +kernel) rfl
theorem wt754 : (Cond.methodLink "WrongRoom" (152 : Nat) ({ cls := "WrongRoom$Streets", name := "between", desc := "(II)I" } : Jvm.MethodName)) ∈ T0 := T0_a4 34 (by decide +kernel) rfl
theorem wt758 : (Cond.code ({ cls := "WrongRoom", name := "person", desc := "(II)I" } : Jvm.MethodName) prog_1_method_9_code (3 : Nat) (Option.some Jvm.ClassFile.FieldType.int)) ∈ T0 := T0_a4 38 (by decide +kernel) rfl
theorem wt759 : (Cond.methodLink "WrongRoom" (158 : Nat) ({ cls := "WrongRoom", name := "isPerson", desc := "(I)Z" } : Jvm.MethodName)) ∈ T0 := T0_a4 39 (by decide +kernel) rfl
theorem wt761 : (Cond.instanceMethod ({ cls := "WrongRoom", name := "isPerson", desc := "(I)Z" } : Jvm.MethodName)) ∈ T0 := T0_a4 41 (by decide +kernel) rfl
theorem wt762 : (Cond.code ({ cls := "WrongRoom", name := "isPerson", desc := "(I)Z" } : Jvm.MethodName) prog_1_method_62_code (2 : Nat) (Option.some Jvm.ClassFile.FieldType.boolean)) ∈ T0 := T0_a4 42 (by decide +kernel) rfl
theorem wt763 : (Cond.methodLink "WrongRoom" (164 : Nat) ({ cls := "WrongRoom$Now", name := "placeOf", desc := "(I)I" } : Jvm.MethodName)) ∈ T0 := T0_a4 43 (by decide +kernel) rfl
theorem wt764 : (Cond.instanceMethod ({ cls := "WrongRoom$Now", name := "placeOf", desc := "(I)I" } : Jvm.MethodName)) ∈ T0 := T0_a4 44 (by decide +kernel) rfl
theorem wt765 : (Cond.selects "WrongRoom$Now" ({ cls := "WrongRoom$Now", name := "placeOf", desc := "(I)I" } : Jvm.MethodName) ({ cls := "WrongRoom$Now", name := "placeOf", desc := "(I)I" } : Jvm.MethodName)) ∈ T0 := T0_a4 45 (by decide +kernel) rfl
theorem wt766 : (Cond.code ({ cls := "WrongRoom$Now", name := "placeOf", desc := "(I)I" } : Jvm.MethodName) prog_5_method_18_code (2 : Nat) (Option.some Jvm.ClassFile.FieldType.int)) ∈ T0 := T0_a4 46 (by decide +kernel) rfl
theorem wt767 : (Cond.methodLink "WrongRoom" (167 : Nat) ({ cls := "WrongRoom$Now", name := "minutesOf", desc := "(I)I" } : Jvm.MethodName)) ∈ T0 := T0_a4 47 (by decide +kernel) rfl
theorem wt768 : (Cond.instanceMethod ({ cls := "WrongRoom$Now", name := "minutesOf", desc := "(I)I" } : Jvm.MethodName)) ∈ T0 := T0_a4 48 (by decide +kernel) rfl
theorem wt769 : (Cond.selects "WrongRoom$Now" ({ cls := "WrongRoom$Now", name := "minutesOf", desc := "(I)I" } : Jvm.MethodName) ({ cls := "WrongRoom$Now", name := "minutesOf", desc := "(I)I" } : Jvm.MethodName)) ∈ T0 := T0_a4 49 (by decide +kernel) rfl
theorem wt770 : (Cond.code ({ cls := "WrongRoom$Now", name := "minutesOf", desc := "(I)I" } : Jvm.MethodName) prog_5_method_19_code (2 : Nat) (Option.some Jvm.ClassFile.FieldType.int)) ∈ T0 := T0_a4 50 (by decide +kernel) rfl
theorem wt774 : (Cond.code ({ cls := "WrongRoom", name := "candle", desc := "(I)I" } : Jvm.MethodName) prog_1_method_10_code (3 : Nat) (Option.some Jvm.ClassFile.FieldType.int)) ∈ T0 := T0_a4 54 (by decide +kernel) rfl
theorem wt775 : (Cond.methodLink "WrongRoom" (170 : Nat) ({ cls := "WrongRoom$Now", name := "behindDoors", desc := "(II)I" } : Jvm.MethodName)) ∈ T0 := T0_a4 55 (by decide +kernel) rfl
theorem wt776 : (Cond.instanceMethod ({ cls := "WrongRoom$Now", name := "behindDoors", desc := "(II)I" } : Jvm.MethodName)) ∈ T0 := T0_a4 56 (by decide +kernel) rfl
theorem wt777 : (Cond.selects "WrongRoom$Now" ({ cls := "WrongRoom$Now", name := "behindDoors", desc := "(II)I" } : Jvm.MethodName) ({ cls := "WrongRoom$Now", name := "behindDoors", desc := "(II)I" } : Jvm.MethodName)) ∈ T0 := T0_a4 57 (by decide +kernel) rfl
theorem wt778 : (Cond.code ({ cls := "WrongRoom$Now", name := "behindDoors", desc := "(II)I" } : Jvm.MethodName) prog_5_method_9_code (5 : Nat) (Option.some Jvm.ClassFile.FieldType.int)) ∈ T0 := T0_a4 58 (by decide +kernel) rfl
theorem wt782 : (Cond.code ({ cls := "WrongRoom", name := "candleAt", desc := "(II)I" } : Jvm.MethodName) prog_1_method_11_code (3 : Nat) (Option.some Jvm.ClassFile.FieldType.int)) ∈ T0 := T0_a4 62 (by decide +kernel) rfl
theorem wt786 : (Cond.code ({ cls := "WrongRoom", name := "mutual", desc := "()I" } : Jvm.MethodName) prog_1_method_12_code (1 : Nat) (Option.some Jvm.ClassFile.FieldType.int)) ∈ T0 := T0_a4 66 (by decide +kernel) rfl
theorem wt787 : (Cond.methodLink "WrongRoom" (173 : Nat) ({ cls := "WrongRoom", name := "noTown", desc := "()Z" } : Jvm.MethodName)) ∈ T0 := T0_a4 67 (by decide +kernel) rfl
theorem wt789 : (Cond.instanceMethod ({ cls := "WrongRoom", name := "noTown", desc := "()Z" } : Jvm.MethodName)) ∈ T0 := T0_a4 69 (by decide +kernel) rfl
theorem wt790 : (Cond.code ({ cls := "WrongRoom", name := "noTown", desc := "()Z" } : Jvm.MethodName) prog_1_method_59_code (1 : Nat) (Option.some Jvm.ClassFile.FieldType.boolean)) ∈ T0 := T0_a4 70 (by decide +kernel) rfl
theorem wt791 : (Cond.methodLink "WrongRoom" (177 : Nat) ({ cls := "WrongRoom$Now", name := "mutualBits", desc := "()I" } : Jvm.MethodName)) ∈ T0 := T0_a4 71 (by decide +kernel) rfl
theorem wt792 : (Cond.instanceMethod ({ cls := "WrongRoom$Now", name := "mutualBits", desc := "()I" } : Jvm.MethodName)) ∈ T0 := T0_a4 72 (by decide +kernel) rfl
theorem wt793 : (Cond.selects "WrongRoom$Now" ({ cls := "WrongRoom$Now", name := "mutualBits", desc := "()I" } : Jvm.MethodName) ({ cls := "WrongRoom$Now", name := "mutualBits", desc := "()I" } : Jvm.MethodName)) ∈ T0 := T0_a4 73 (by decide +kernel) rfl
theorem wt794 : (Cond.code ({ cls := "WrongRoom$Now", name := "mutualBits", desc := "()I" } : Jvm.MethodName) prog_5_method_11_code (3 : Nat) (Option.some Jvm.ClassFile.FieldType.int)) ∈ T0 := T0_a4 74 (by decide +kernel) rfl
theorem wt795 : (Cond.methodLink "WrongRoom$Now" (43 : Nat) ({ cls := "WrongRoom$Now", name := "isMutual", desc := "(I)Z" } : Jvm.MethodName)) ∈ T0 := T0_a4 75 (by decide +kernel) rfl
theorem wt796 : (Cond.instanceMethod ({ cls := "WrongRoom$Now", name := "isMutual", desc := "(I)Z" } : Jvm.MethodName)) ∈ T0 := T0_a4 76 (by decide +kernel) rfl
theorem wt797 : (Cond.selects "WrongRoom$Now" ({ cls := "WrongRoom$Now", name := "isMutual", desc := "(I)Z" } : Jvm.MethodName) ({ cls := "WrongRoom$Now", name := "isMutual", desc := "(I)Z" } : Jvm.MethodName)) ∈ T0 := T0_a4 77 (by decide +kernel) rfl
theorem wt798 : (Cond.code ({ cls := "WrongRoom$Now", name := "isMutual", desc := "(I)Z" } : Jvm.MethodName) prog_5_method_10_code (2 : Nat) (Option.some Jvm.ClassFile.FieldType.boolean)) ∈ T0 := T0_a4 78 (by decide +kernel) rfl
theorem wt802 : (Cond.code ({ cls := "WrongRoom", name := "judge", desc := "()I" } : Jvm.MethodName) prog_1_method_13_code (4 : Nat) (Option.some Jvm.ClassFile.FieldType.int)) ∈ T0 := T0_a4 82 (by decide +kernel) rfl
theorem wt806 : (Cond.code ({ cls := "WrongRoom", name := "way", desc := "(III)I" } : Jvm.MethodName) prog_1_method_14_code (4 : Nat) (Option.some Jvm.ClassFile.FieldType.int)) ∈ T0 := T0_a4 86 (by decide +kernel) rfl
theorem wt807 : (Cond.methodLink "WrongRoom" (200 : Nat) ({ cls := "WrongRoom$Ways", name := "walk", desc := "(LWrongRoom$Town;LWrongRoom$Now;III)V" } : Jvm.MethodName)) ∈ T0 := T0_a4 87 (by decide +kernel) rfl
theorem wt808 : (Cond.instanceMethod ({ cls := "WrongRoom$Ways", name := "walk", desc := "(LWrongRoom$Town;LWrongRoom$Now;III)V" } : Jvm.MethodName)) ∈ T0 := T0_a4 88 (by decide +kernel) rfl
theorem wt809 : (Cond.selects "WrongRoom$Ways" ({ cls := "WrongRoom$Ways", name := "walk", desc := "(LWrongRoom$Town;LWrongRoom$Now;III)V" } : Jvm.MethodName) ({ cls := "WrongRoom$Ways", name := "walk", desc := "(LWrongRoom$Town;LWrongRoom$Now;III)V" } : Jvm.MethodName)) ∈ T0 := T0_a4 89 (by decide +kernel) rfl
theorem wt810 : (Cond.code ({ cls := "WrongRoom$Ways", name := "walk", desc := "(LWrongRoom$Town;LWrongRoom$Now;III)V" } : Jvm.MethodName) prog_12_method_2_code (7 : Nat) (Option.none : Option Jvm.ClassFile.FieldType)) ∈ T0 := T0_a4 90 (by decide +kernel) rfl
theorem wt811 : (Cond.methodLink "WrongRoom$Ways" (34 : Nat) ({ cls := "WrongRoom$Ways", name := "step", desc := "(LWrongRoom$Town;LWrongRoom$Now;III)V" } : Jvm.MethodName)) ∈ T0 := T0_a4 91 (by decide +kernel) rfl
theorem wt813 : (Cond.instanceMethod ({ cls := "WrongRoom$Ways", name := "step", desc := "(LWrongRoom$Town;LWrongRoom$Now;III)V" } : Jvm.MethodName)) ∈ T0 := T0_a4 93 (by decide +kernel) rfl
theorem wt814 : (Cond.code ({ cls := "WrongRoom$Ways", name := "step", desc := "(LWrongRoom$Town;LWrongRoom$Now;III)V" } : Jvm.MethodName) prog_12_method_6_code (9 : Nat) (Option.none : Option Jvm.ClassFile.FieldType)) ∈ T0 := T0_a4 94 (by decide +kernel) rfl
theorem wt815 : (Cond.methodLink "WrongRoom$Ways" (38 : Nat) ({ cls := "WrongRoom$Ways", name := "isTooLate", desc := "(I)Z" } : Jvm.MethodName)) ∈ T0 := T0_a4 95 (by decide +kernel) rfl
theorem wt817 : (Cond.instanceMethod ({ cls := "WrongRoom$Ways", name := "isTooLate", desc := "(I)Z" } : Jvm.MethodName)) ∈ T0 := T0_a4 97 (by decide +kernel) rfl
theorem wt818 : (Cond.code ({ cls := "WrongRoom$Ways", name := "isTooLate", desc := "(I)Z" } : Jvm.MethodName) prog_12_method_7_code (2 : Nat) (Option.some Jvm.ClassFile.FieldType.boolean)) ∈ T0 := T0_a4 98 (by decide +kernel) rfl
theorem wt819 : (Cond.methodLink "WrongRoom$Ways" (42 : Nat) ({ cls := "WrongRoom$Ways", name := "arrive", desc := "(III)V" } : Jvm.MethodName)) ∈ T0 := T0_a4 99 (by decide +kernel) rfl
theorem wt821 : (Cond.instanceMethod ({ cls := "WrongRoom$Ways", name := "arrive", desc := "(III)V" } : Jvm.MethodName)) ∈ T0 := T0_a4 101 (by decide +kernel) rfl
theorem wt822 : (Cond.code ({ cls := "WrongRoom$Ways", name := "arrive", desc := "(III)V" } : Jvm.MethodName) prog_12_method_8_code (4 : Nat) (Option.none : Option Jvm.ClassFile.FieldType)) ∈ T0 := T0_a4 102 (by decide +kernel) rfl
theorem wt823 : (Cond.methodLink "WrongRoom$Ways" (61 : Nat) ({ cls := "java/lang/System", name := "arraycopy", desc := "(Ljava/lang/Object;ILjava/lang/Object;II)V" } : Jvm.MethodName)) ∈ T0 := T0_a4 103 (by decide +kernel) rfl
theorem wt824 : (Cond.static ({ cls := "java/lang/System", name := "arraycopy", desc := "(Ljava/lang/Object;ILjava/lang/Object;II)V" } : Jvm.MethodName)) ∈ T0 := T0_a4 104 (by decide +kernel) rfl
theorem wt825 : (Cond.native ({ cls := "java/lang/System", name := "arraycopy", desc := "(Ljava/lang/Object;ILjava/lang/Object;II)V" } : Jvm.MethodName)) ∈ T0 := T0_a4 105 (by decide +kernel) rfl
theorem wt826 : (Cond.methodLink "WrongRoom$Ways" (57 : Nat) ({ cls := "WrongRoom$Ways", name := "minuteAt", desc := "(LWrongRoom$Town;LWrongRoom$Now;III)I" } : Jvm.MethodName)) ∈ T0 := T0_a4 106 (by decide +kernel) rfl
theorem wt828 : (Cond.instanceMethod ({ cls := "WrongRoom$Ways", name := "minuteAt", desc := "(LWrongRoom$Town;LWrongRoom$Now;III)I" } : Jvm.MethodName)) ∈ T0 := T0_a4 108 (by decide +kernel) rfl
theorem wt829 : (Cond.code ({ cls := "WrongRoom$Ways", name := "minuteAt", desc := "(LWrongRoom$Town;LWrongRoom$Now;III)I" } : Jvm.MethodName) prog_12_method_9_code (9 : Nat) (Option.some Jvm.ClassFile.FieldType.int)) ∈ T0 := T0_a4 109 (by decide +kernel) rfl
theorem wt830 : (Cond.methodLink "WrongRoom$Ways" (71 : Nat) ({ cls := "WrongRoom$Streets", name := "between", desc := "(II)I" } : Jvm.MethodName)) ∈ T0 := T0_a4 110 (by decide +kernel) rfl
theorem wt831 : (Cond.methodLink "WrongRoom$Ways" (77 : Nat) ({ cls := "WrongRoom$Now", name := "roomOf", desc := "(I)I" } : Jvm.MethodName)) ∈ T0 := T0_a4 111 (by decide +kernel) rfl
theorem wt832 : (Cond.methodLink "WrongRoom$Ways" (83 : Nat) ({ cls := "WrongRoom$Now", name := "hasDoor", desc := "(I)Z" } : Jvm.MethodName)) ∈ T0 := T0_a4 112 (by decide +kernel) rfl
theorem wt833 : (Cond.methodLink "WrongRoom$Ways" (86 : Nat) ({ cls := "WrongRoom$Houses", name := "untilOpen", desc := "(II)I" } : Jvm.MethodName)) ∈ T0 := T0_a4 113 (by decide +kernel) rfl
theorem wt834 : (Cond.methodLink "WrongRoom$Ways" (92 : Nat) ({ cls := "java/lang/Math", name := "min", desc := "(II)I" } : Jvm.MethodName)) ∈ T0 := T0_a4 114 (by decide +kernel) rfl
theorem wt835 : (Cond.methodLink "WrongRoom" (204 : Nat) ({ cls := "WrongRoom$Ways", name := "soonest", desc := "(I)I" } : Jvm.MethodName)) ∈ T0 := T0_a4 115 (by decide +kernel) rfl
theorem wt836 : (Cond.instanceMethod ({ cls := "WrongRoom$Ways", name := "soonest", desc := "(I)I" } : Jvm.MethodName)) ∈ T0 := T0_a4 116 (by decide +kernel) rfl
theorem wt837 : (Cond.selects "WrongRoom$Ways" ({ cls := "WrongRoom$Ways", name := "soonest", desc := "(I)I" } : Jvm.MethodName) ({ cls := "WrongRoom$Ways", name := "soonest", desc := "(I)I" } : Jvm.MethodName)) ∈ T0 := T0_a4 117 (by decide +kernel) rfl
theorem wt838 : (Cond.code ({ cls := "WrongRoom$Ways", name := "soonest", desc := "(I)I" } : Jvm.MethodName) prog_12_method_3_code (2 : Nat) (Option.some Jvm.ClassFile.FieldType.int)) ∈ T0 := T0_a4 118 (by decide +kernel) rfl
theorem wt842 : (Cond.code ({ cls := "WrongRoom", name := "wayAt", desc := "(IIII)I" } : Jvm.MethodName) prog_1_method_15_code (5 : Nat) (Option.some Jvm.ClassFile.FieldType.int)) ∈ T0 := T0_a4 122 (by decide +kernel) rfl
theorem wt843 : (Cond.methodLink "WrongRoom" (207 : Nat) ({ cls := "WrongRoom$Ways", name := "rowLength", desc := "()I" } : Jvm.MethodName)) ∈ T0 := T0_a4 123 (by decide +kernel) rfl
theorem wt844 : (Cond.instanceMethod ({ cls := "WrongRoom$Ways", name := "rowLength", desc := "()I" } : Jvm.MethodName)) ∈ T0 := T0_a4 124 (by decide +kernel) rfl
theorem wt845 : (Cond.selects "WrongRoom$Ways" ({ cls := "WrongRoom$Ways", name := "rowLength", desc := "()I" } : Jvm.MethodName) ({ cls := "WrongRoom$Ways", name := "rowLength", desc := "()I" } : Jvm.MethodName)) ∈ T0 := T0_a4 125 (by decide +kernel) rfl
theorem wt846 : (Cond.code ({ cls := "WrongRoom$Ways", name := "rowLength", desc := "()I" } : Jvm.MethodName) prog_12_method_4_code (1 : Nat) (Option.some Jvm.ClassFile.FieldType.int)) ∈ T0 := T0_a4 126 (by decide +kernel) rfl
theorem wt847 : (Cond.methodLink "WrongRoom" (210 : Nat) ({ cls := "WrongRoom$Ways", name := "rowAt", desc := "(I)I" } : Jvm.MethodName)) ∈ T0 := T0_a4 127 (by decide +kernel) rfl
theorem wt848 : (Cond.instanceMethod ({ cls := "WrongRoom$Ways", name := "rowAt", desc := "(I)I" } : Jvm.MethodName)) ∈ T0 := T0_a4 128 (by decide +kernel) rfl
theorem wt849 : (Cond.selects "WrongRoom$Ways" ({ cls := "WrongRoom$Ways", name := "rowAt", desc := "(I)I" } : Jvm.MethodName) ({ cls := "WrongRoom$Ways", name := "rowAt", desc := "(I)I" } : Jvm.MethodName)) ∈ T0 := T0_a4 129 (by decide +kernel) rfl
theorem wt850 : (Cond.code ({ cls := "WrongRoom$Ways", name := "rowAt", desc := "(I)I" } : Jvm.MethodName) prog_12_method_5_code (2 : Nat) (Option.some Jvm.ClassFile.FieldType.int)) ∈ T0 := T0_a4 130 (by decide +kernel) rfl
theorem wt854 : (Cond.code ({ cls := "WrongRoom", name := "saves", desc := "(III)I" } : Jvm.MethodName) prog_1_method_16_code (5 : Nat) (Option.some Jvm.ClassFile.FieldType.int)) ∈ T0 := T0_a4 134 (by decide +kernel) rfl
theorem wt855 : (Cond.methodLink "WrongRoom" (213 : Nat) ({ cls := "WrongRoom$Streets", name := "apart", desc := "(II)I" } : Jvm.MethodName)) ∈ T0 := T0_a4 135 (by decide +kernel) rfl
theorem wt859 : (Cond.code ({ cls := "WrongRoom", name := "farthest", desc := "(II)I" } : Jvm.MethodName) prog_1_method_17_code (5 : Nat) (Option.some Jvm.ClassFile.FieldType.int)) ∈ T0 := T0_a4 139 (by decide +kernel) rfl
theorem wt863 : (Cond.code ({ cls := "WrongRoom", name := "homeIn", desc := "(I)I" } : Jvm.MethodName) prog_1_method_18_code (3 : Nat) (Option.some Jvm.ClassFile.FieldType.int)) ∈ T0 := T0_a4 143 (by decide +kernel) rfl
theorem wt864 : (Cond.methodLink "WrongRoom" (216 : Nat) ({ cls := "WrongRoom$Now", name := "dayMinuteOf", desc := "(I)I" } : Jvm.MethodName)) ∈ T0 := T0_a4 144 (by decide +kernel) rfl
theorem wt865 : (Cond.instanceMethod ({ cls := "WrongRoom$Now", name := "dayMinuteOf", desc := "(I)I" } : Jvm.MethodName)) ∈ T0 := T0_a4 145 (by decide +kernel) rfl
theorem wt866 : (Cond.selects "WrongRoom$Now" ({ cls := "WrongRoom$Now", name := "dayMinuteOf", desc := "(I)I" } : Jvm.MethodName) ({ cls := "WrongRoom$Now", name := "dayMinuteOf", desc := "(I)I" } : Jvm.MethodName)) ∈ T0 := T0_a4 146 (by decide +kernel) rfl
theorem wt867 : (Cond.code ({ cls := "WrongRoom$Now", name := "dayMinuteOf", desc := "(I)I" } : Jvm.MethodName) prog_5_method_20_code (2 : Nat) (Option.some Jvm.ClassFile.FieldType.int)) ∈ T0 := T0_a4 147 (by decide +kernel) rfl
theorem wt868 : (Cond.methodLink "WrongRoom$Now" (56 : Nat) ({ cls := "WrongRoom$Now", name := "minutesOf", desc := "(I)I" } : Jvm.MethodName)) ∈ T0 := T0_a4 148 (by decide +kernel) rfl
theorem wt869 : (Cond.methodLink "WrongRoom$Now" (59 : Nat) ({ cls := "java/lang/Math", name := "floorMod", desc := "(II)I" } : Jvm.MethodName)) ∈ T0 := T0_a4 149 (by decide +kernel) rfl
theorem wt873 : (Cond.code ({ cls := "WrongRoom", name := "fits", desc := "()I" } : Jvm.MethodName) prog_1_method_19_code (1 : Nat) (Option.some Jvm.ClassFile.FieldType.int)) ∈ T0 := T0_a4 153 (by decide +kernel) rfl
theorem wt874 : (Cond.methodLink "WrongRoom" (219 : Nat) ({ cls := "WrongRoom", name := "fitted", desc := "()LWrongRoom$Fitting;" } : Jvm.MethodName)) ∈ T0 := T0_a4 154 (by decide +kernel) rfl
theorem wt876 : (Cond.instanceMethod ({ cls := "WrongRoom", name := "fitted", desc := "()LWrongRoom$Fitting;" } : Jvm.MethodName)) ∈ T0 := T0_a4 156 (by decide +kernel) rfl
theorem wt877 : (Cond.code ({ cls := "WrongRoom", name := "fitted", desc := "()LWrongRoom$Fitting;" } : Jvm.MethodName) prog_1_method_25_code (1 : Nat) (Option.some (Jvm.ClassFile.FieldType.object "WrongRoom$Fitting"))) ∈ T0 := T0_a4 157 (by decide +kernel) rfl
theorem wt878 : (Cond.methodLink "WrongRoom" (241 : Nat) ({ cls := "WrongRoom$Fitting", name := "countRows", desc := "(LWrongRoom$Town;)V" } : Jvm.MethodName)) ∈ T0 := T0_a4 158 (by decide +kernel) rfl
theorem wt879 : (Cond.instanceMethod ({ cls := "WrongRoom$Fitting", name := "countRows", desc := "(LWrongRoom$Town;)V" } : Jvm.MethodName)) ∈ T0 := T0_a4 159 (by decide +kernel) rfl
theorem wt880 : (Cond.selects "WrongRoom$Fitting" ({ cls := "WrongRoom$Fitting", name := "countRows", desc := "(LWrongRoom$Town;)V" } : Jvm.MethodName) ({ cls := "WrongRoom$Fitting", name := "countRows", desc := "(LWrongRoom$Town;)V" } : Jvm.MethodName)) ∈ T0 := T0_a4 160 (by decide +kernel) rfl
theorem wt881 : (Cond.code ({ cls := "WrongRoom$Fitting", name := "countRows", desc := "(LWrongRoom$Town;)V" } : Jvm.MethodName) prog_3_method_3_code (3 : Nat) (Option.none : Option Jvm.ClassFile.FieldType)) ∈ T0 := T0_a4 161 (by decide +kernel) rfl
theorem wt882 : (Cond.methodLink "WrongRoom$Fitting" (32 : Nat) ({ cls := "WrongRoom$Fitting", name := "allowedBits", desc := "(LWrongRoom$Town;I)I" } : Jvm.MethodName)) ∈ T0 := T0_a4 162 (by decide +kernel) rfl
theorem wt884 : (Cond.instanceMethod ({ cls := "WrongRoom$Fitting", name := "allowedBits", desc := "(LWrongRoom$Town;I)I" } : Jvm.MethodName)) ∈ T0 := T0_a4 164 (by decide +kernel) rfl
theorem wt885 : (Cond.code ({ cls := "WrongRoom$Fitting", name := "allowedBits", desc := "(LWrongRoom$Town;I)I" } : Jvm.MethodName) prog_3_method_10_code (7 : Nat) (Option.some Jvm.ClassFile.FieldType.int)) ∈ T0 := T0_a4 165 (by decide +kernel) rfl
theorem wt886 : (Cond.methodLink "WrongRoom$Fitting" (64 : Nat) ({ cls := "WrongRoom$Houses", name := "isToldOf", desc := "(I)Z" } : Jvm.MethodName)) ∈ T0 := T0_a4 166 (by decide +kernel) rfl
theorem wt887 : (Cond.methodLink "WrongRoom$Fitting" (79 : Nat) ({ cls := "WrongRoom$Clues", name := "allow", desc := "(IJI)Z" } : Jvm.MethodName)) ∈ T0 := T0_a4 167 (by decide +kernel) rfl
theorem wt888 : (Cond.instanceMethod ({ cls := "WrongRoom$Clues", name := "allow", desc := "(IJI)Z" } : Jvm.MethodName)) ∈ T0 := T0_a4 168 (by decide +kernel) rfl
theorem wt889 : (Cond.selects "WrongRoom$Clues" ({ cls := "WrongRoom$Clues", name := "allow", desc := "(IJI)Z" } : Jvm.MethodName) ({ cls := "WrongRoom$Clues", name := "allow", desc := "(IJI)Z" } : Jvm.MethodName)) ∈ T0 := T0_a4 169 (by decide +kernel) rfl
theorem wt890 : (Cond.code ({ cls := "WrongRoom$Clues", name := "allow", desc := "(IJI)Z" } : Jvm.MethodName) prog_2_method_5_code (6 : Nat) (Option.some Jvm.ClassFile.FieldType.boolean)) ∈ T0 := T0_a4 170 (by decide +kernel) rfl
theorem wt891 : (Cond.methodLink "WrongRoom$Fitting" (42 : Nat) ({ cls := "WrongRoom$Fitting", name := "placeFrom", desc := "(LWrongRoom$Houses;II)I" } : Jvm.MethodName)) ∈ T0 := T0_a4 171 (by decide +kernel) rfl
theorem wt893 : (Cond.instanceMethod ({ cls := "WrongRoom$Fitting", name := "placeFrom", desc := "(LWrongRoom$Houses;II)I" } : Jvm.MethodName)) ∈ T0 := T0_a4 173 (by decide +kernel) rfl
theorem wt894 : (Cond.code ({ cls := "WrongRoom$Fitting", name := "placeFrom", desc := "(LWrongRoom$Houses;II)I" } : Jvm.MethodName) prog_3_method_11_code (7 : Nat) (Option.some Jvm.ClassFile.FieldType.int)) ∈ T0 := T0_a4 174 (by decide +kernel) rfl
theorem wt895 : (Cond.methodLink "WrongRoom$Fitting" (85 : Nat) ({ cls := "WrongRoom$Fitting", name := "keepFirst", desc := "()V" } : Jvm.MethodName)) ∈ T0 := T0_a4 175 (by decide +kernel) rfl
theorem wt897 : (Cond.instanceMethod ({ cls := "WrongRoom$Fitting", name := "keepFirst", desc := "()V" } : Jvm.MethodName)) ∈ T0 := T0_a4 177 (by decide +kernel) rfl
theorem wt898 : (Cond.code ({ cls := "WrongRoom$Fitting", name := "keepFirst", desc := "()V" } : Jvm.MethodName) prog_3_method_12_code (1 : Nat) (Option.none : Option Jvm.ClassFile.FieldType)) ∈ T0 := T0_a4 178 (by decide +kernel) rfl
theorem wt899 : (Cond.methodLink "WrongRoom$Fitting" (91 : Nat) ({ cls := "java/lang/System", name := "arraycopy", desc := "(Ljava/lang/Object;ILjava/lang/Object;II)V" } : Jvm.MethodName)) ∈ T0 := T0_a4 179 (by decide +kernel) rfl
theorem wt900 : (Cond.methodLink "WrongRoom" (223 : Nat) ({ cls := "WrongRoom$Fitting", name := "rowCount", desc := "()I" } : Jvm.MethodName)) ∈ T0 := T0_a4 180 (by decide +kernel) rfl
theorem wt901 : (Cond.instanceMethod ({ cls := "WrongRoom$Fitting", name := "rowCount", desc := "()I" } : Jvm.MethodName)) ∈ T0 := T0_a4 181 (by decide +kernel) rfl
theorem wt902 : (Cond.selects "WrongRoom$Fitting" ({ cls := "WrongRoom$Fitting", name := "rowCount", desc := "()I" } : Jvm.MethodName) ({ cls := "WrongRoom$Fitting", name := "rowCount", desc := "()I" } : Jvm.MethodName)) ∈ T0 := T0_a4 182 (by decide +kernel) rfl
theorem wt903 : (Cond.code ({ cls := "WrongRoom$Fitting", name := "rowCount", desc := "()I" } : Jvm.MethodName) prog_3_method_4_code (1 : Nat) (Option.some Jvm.ClassFile.FieldType.int)) ∈ T0 := T0_a4 183 (by decide +kernel) rfl
theorem wt907 : (Cond.code ({ cls := "WrongRoom", name := "could", desc := "(I)I" } : Jvm.MethodName) prog_1_method_20_code (3 : Nat) (Option.some Jvm.ClassFile.FieldType.int)) ∈ T0 := T0_a4 187 (by decide +kernel) rfl
theorem wt908 : (Cond.methodLink "WrongRoom" (226 : Nat) ({ cls := "WrongRoom$Fitting", name := "possibleBits", desc := "(I)I" } : Jvm.MethodName)) ∈ T0 := T0_a4 188 (by decide +kernel) rfl
theorem wt909 : (Cond.instanceMethod ({ cls := "WrongRoom$Fitting", name := "possibleBits", desc := "(I)I" } : Jvm.MethodName)) ∈ T0 := T0_a4 189 (by decide +kernel) rfl
theorem wt910 : (Cond.selects "WrongRoom$Fitting" ({ cls := "WrongRoom$Fitting", name := "possibleBits", desc := "(I)I" } : Jvm.MethodName) ({ cls := "WrongRoom$Fitting", name := "possibleBits", desc := "(I)I" } : Jvm.MethodName)) ∈ T0 := T0_a4 190 (by decide +kernel) rfl
theorem wt911 : (Cond.code ({ cls := "WrongRoom$Fitting", name := "possibleBits", desc := "(I)I" } : Jvm.MethodName) prog_3_method_5_code (4 : Nat) (Option.some Jvm.ClassFile.FieldType.int)) ∈ T0 := T0_a4 191 (by decide +kernel) rfl
theorem wt915 : (Cond.code ({ cls := "WrongRoom", name := "surely", desc := "(I)I" } : Jvm.MethodName) prog_1_method_21_code (3 : Nat) (Option.some Jvm.ClassFile.FieldType.int)) ∈ T0 := T0_a4 195 (by decide +kernel) rfl
theorem wt916 : (Cond.methodLink "WrongRoom" (229 : Nat) ({ cls := "WrongRoom$Fitting", name := "sameInAll", desc := "(I)I" } : Jvm.MethodName)) ∈ T0 := T0_a4 196 (by decide +kernel) rfl
theorem wt917 : (Cond.instanceMethod ({ cls := "WrongRoom$Fitting", name := "sameInAll", desc := "(I)I" } : Jvm.MethodName)) ∈ T0 := T0_a4 197 (by decide +kernel) rfl
theorem wt918 : (Cond.selects "WrongRoom$Fitting" ({ cls := "WrongRoom$Fitting", name := "sameInAll", desc := "(I)I" } : Jvm.MethodName) ({ cls := "WrongRoom$Fitting", name := "sameInAll", desc := "(I)I" } : Jvm.MethodName)) ∈ T0 := T0_a4 198 (by decide +kernel) rfl
theorem wt919 : (Cond.code ({ cls := "WrongRoom$Fitting", name := "sameInAll", desc := "(I)I" } : Jvm.MethodName) prog_3_method_6_code (4 : Nat) (Option.some Jvm.ClassFile.FieldType.int)) ∈ T0 := T0_a4 199 (by decide +kernel) rfl
theorem wt920 : (Cond.methodLink "WrongRoom$Fitting" (46 : Nat) ({ cls := "WrongRoom$Fitting", name := "possibleBits", desc := "(I)I" } : Jvm.MethodName)) ∈ T0 := T0_a4 200 (by decide +kernel) rfl
theorem wt924 : (Cond.code ({ cls := "WrongRoom", name := "firstOf", desc := "(I)I" } : Jvm.MethodName) prog_1_method_22_code (3 : Nat) (Option.some Jvm.ClassFile.FieldType.int)) ∈ T0 := T0_a4 204 (by decide +kernel) rfl
theorem wt925 : (Cond.methodLink "WrongRoom" (232 : Nat) ({ cls := "WrongRoom$Fitting", name := "inFirstRow", desc := "(I)I" } : Jvm.MethodName)) ∈ T0 := T0_a4 205 (by decide +kernel) rfl
theorem wt926 : (Cond.instanceMethod ({ cls := "WrongRoom$Fitting", name := "inFirstRow", desc := "(I)I" } : Jvm.MethodName)) ∈ T0 := T0_a4 206 (by decide +kernel) rfl
theorem wt927 : (Cond.selects "WrongRoom$Fitting" ({ cls := "WrongRoom$Fitting", name := "inFirstRow", desc := "(I)I" } : Jvm.MethodName) ({ cls := "WrongRoom$Fitting", name := "inFirstRow", desc := "(I)I" } : Jvm.MethodName)) ∈ T0 := T0_a4 207 (by decide +kernel) rfl
theorem wt928 : (Cond.code ({ cls := "WrongRoom$Fitting", name := "inFirstRow", desc := "(I)I" } : Jvm.MethodName) prog_3_method_7_code (2 : Nat) (Option.some Jvm.ClassFile.FieldType.int)) ∈ T0 := T0_a4 208 (by decide +kernel) rfl
theorem wt932 : (Cond.code ({ cls := "WrongRoom", name := "ask", desc := "()I" } : Jvm.MethodName) prog_1_method_23_code (1 : Nat) (Option.some Jvm.ClassFile.FieldType.int)) ∈ T0 := T0_a4 212 (by decide +kernel) rfl
theorem wt933 : (Cond.methodLink "WrongRoom" (235 : Nat) ({ cls := "WrongRoom$Fitting", name := "houseToAsk", desc := "()I" } : Jvm.MethodName)) ∈ T0 := T0_a4 213 (by decide +kernel) rfl
theorem wt934 : (Cond.instanceMethod ({ cls := "WrongRoom$Fitting", name := "houseToAsk", desc := "()I" } : Jvm.MethodName)) ∈ T0 := T0_a4 214 (by decide +kernel) rfl
theorem wt935 : (Cond.selects "WrongRoom$Fitting" ({ cls := "WrongRoom$Fitting", name := "houseToAsk", desc := "()I" } : Jvm.MethodName) ({ cls := "WrongRoom$Fitting", name := "houseToAsk", desc := "()I" } : Jvm.MethodName)) ∈ T0 := T0_a4 215 (by decide +kernel) rfl
theorem wt936 : (Cond.code ({ cls := "WrongRoom$Fitting", name := "houseToAsk", desc := "()I" } : Jvm.MethodName) prog_3_method_8_code (4 : Nat) (Option.some Jvm.ClassFile.FieldType.int)) ∈ T0 := T0_a4 216 (by decide +kernel) rfl
theorem wt937 : (Cond.methodLink "WrongRoom$Fitting" (50 : Nat) ({ cls := "WrongRoom$Fitting", name := "mostLeftBy", desc := "(I)I" } : Jvm.MethodName)) ∈ T0 := T0_a4 217 (by decide +kernel) rfl
theorem wt938 : (Cond.instanceMethod ({ cls := "WrongRoom$Fitting", name := "mostLeftBy", desc := "(I)I" } : Jvm.MethodName)) ∈ T0 := T0_a4 218 (by decide +kernel) rfl
theorem wt939 : (Cond.selects "WrongRoom$Fitting" ({ cls := "WrongRoom$Fitting", name := "mostLeftBy", desc := "(I)I" } : Jvm.MethodName) ({ cls := "WrongRoom$Fitting", name := "mostLeftBy", desc := "(I)I" } : Jvm.MethodName)) ∈ T0 := T0_a4 219 (by decide +kernel) rfl
theorem wt940 : (Cond.code ({ cls := "WrongRoom$Fitting", name := "mostLeftBy", desc := "(I)I" } : Jvm.MethodName) prog_3_method_9_code (4 : Nat) (Option.some Jvm.ClassFile.FieldType.int)) ∈ T0 := T0_a4 220 (by decide +kernel) rfl
theorem wt941 : (Cond.methodLink "WrongRoom$Fitting" (53 : Nat) ({ cls := "java/lang/Math", name := "max", desc := "(II)I" } : Jvm.MethodName)) ∈ T0 := T0_a4 221 (by decide +kernel) rfl
theorem wt942 : (Cond.static ({ cls := "java/lang/Math", name := "max", desc := "(II)I" } : Jvm.MethodName)) ∈ T0 := T0_a4 222 (by decide +kernel) rfl
theorem wt943 : (Cond.code ({ cls := "java/lang/Math", name := "max", desc := "(II)I" } : Jvm.MethodName) prog_21_method_65_code (2 : Nat) (Option.some Jvm.ClassFile.FieldType.int)) ∈ T0 := T0_a4 223 (by decide +kernel) rfl
theorem wt947 : (Cond.code ({ cls := "WrongRoom", name := "askLeaves", desc := "()I" } : Jvm.MethodName) prog_1_method_24_code (2 : Nat) (Option.some Jvm.ClassFile.FieldType.int)) ∈ T0 := T0_a4 227 (by decide +kernel) rfl
theorem wt948 : (Cond.methodLink "WrongRoom" (238 : Nat) ({ cls := "WrongRoom$Fitting", name := "mostLeftBy", desc := "(I)I" } : Jvm.MethodName)) ∈ T0 := T0_a4 228 (by decide +kernel) rfl
theorem wt952 : (Cond.code ({ cls := "WrongRoom", name := "owes", desc := "(IZ)J" } : Jvm.MethodName) prog_1_method_26_code (3 : Nat) (Option.some Jvm.ClassFile.FieldType.long)) ∈ T0 := T0_a4 232 (by decide +kernel) rfl
theorem wt953 : (Cond.methodLink "WrongRoom" (244 : Nat) ({ cls := "WrongRoom", name := "owedUpper", desc := "(I)J" } : Jvm.MethodName)) ∈ T0 := T0_a4 233 (by decide +kernel) rfl
theorem wt955 : (Cond.instanceMethod ({ cls := "WrongRoom", name := "owedUpper", desc := "(I)J" } : Jvm.MethodName)) ∈ T0 := T0_a4 235 (by decide +kernel) rfl
theorem wt956 : (Cond.code ({ cls := "WrongRoom", name := "owedUpper", desc := "(I)J" } : Jvm.MethodName) prog_1_method_29_code (3 : Nat) (Option.some Jvm.ClassFile.FieldType.long)) ∈ T0 := T0_a4 236 (by decide +kernel) rfl
theorem wt957 : (Cond.methodLink "WrongRoom" (248 : Nat) ({ cls := "WrongRoom", name := "owedLower", desc := "(I)J" } : Jvm.MethodName)) ∈ T0 := T0_a4 237 (by decide +kernel) rfl
theorem wt959 : (Cond.instanceMethod ({ cls := "WrongRoom", name := "owedLower", desc := "(I)J" } : Jvm.MethodName)) ∈ T0 := T0_a4 239 (by decide +kernel) rfl
theorem wt960 : (Cond.code ({ cls := "WrongRoom", name := "owedLower", desc := "(I)J" } : Jvm.MethodName) prog_1_method_30_code (3 : Nat) (Option.some Jvm.ClassFile.FieldType.long)) ∈ T0 := T0_a5 0 (by decide +kernel) rfl
theorem wt961 : (Cond.methodLink "WrongRoom" (259 : Nat) ({ cls := "WrongRoom$Houses", name := "heated", desc := "(I)I" } : Jvm.MethodName)) ∈ T0 := T0_a5 1 (by decide +kernel) rfl
theorem wt962 : (Cond.instanceMethod ({ cls := "WrongRoom$Houses", name := "heated", desc := "(I)I" } : Jvm.MethodName)) ∈ T0 := T0_a5 2 (by decide +kernel) rfl
theorem wt963 : (Cond.selects "WrongRoom$Houses" ({ cls := "WrongRoom$Houses", name := "heated", desc := "(I)I" } : Jvm.MethodName) ({ cls := "WrongRoom$Houses", name := "heated", desc := "(I)I" } : Jvm.MethodName)) ∈ T0 := T0_a5 3 (by decide +kernel) rfl
theorem wt964 : (Cond.code ({ cls := "WrongRoom$Houses", name := "heated", desc := "(I)I" } : Jvm.MethodName) prog_4_method_5_code (2 : Nat) (Option.some Jvm.ClassFile.FieldType.int)) ∈ T0 := T0_a5 4 (by decide +kernel) rfl
theorem wt965 : (Cond.methodLink "WrongRoom" (251 : Nat) ({ cls := "WrongRoom", name := "partOf", desc := "(JJZ)J" } : Jvm.MethodName)) ∈ T0 := T0_a5 5 (by decide +kernel) rfl
theorem wt966 : (Cond.static ({ cls := "WrongRoom", name := "partOf", desc := "(JJZ)J" } : Jvm.MethodName)) ∈ T0 := T0_a5 6 (by decide +kernel) rfl
theorem wt967 : (Cond.code ({ cls := "WrongRoom", name := "partOf", desc := "(JJZ)J" } : Jvm.MethodName) prog_1_method_31_code (7 : Nat) (Option.some Jvm.ClassFile.FieldType.long)) ∈ T0 := T0_a5 7 (by decide +kernel) rfl
theorem wt968 : (Cond.methodLink "WrongRoom" (262 : Nat) ({ cls := "java/lang/Math", name := "abs", desc := "(J)J" } : Jvm.MethodName)) ∈ T0 := T0_a5 8 (by decide +kernel) rfl
theorem wt969 : (Cond.static ({ cls := "java/lang/Math", name := "abs", desc := "(J)J" } : Jvm.MethodName)) ∈ T0 := T0_a5 9 (by decide +kernel) rfl
theorem wt970 : (Cond.code ({ cls := "java/lang/Math", name := "abs", desc := "(J)J" } : Jvm.MethodName) prog_21_method_61_code (2 : Nat) (Option.some Jvm.ClassFile.FieldType.long)) ∈ T0 := T0_a5 10 (by decide +kernel) rfl
theorem wt971 : (Cond.methodLink "WrongRoom" (268 : Nat) ({ cls := "WrongRoom", name := "commonDivisor", desc := "(JJ)J" } : Jvm.MethodName)) ∈ T0 := T0_a5 11 (by decide +kernel) rfl
theorem wt972 : (Cond.static ({ cls := "WrongRoom", name := "commonDivisor", desc := "(JJ)J" } : Jvm.MethodName)) ∈ T0 := T0_a5 12 (by decide +kernel) rfl
theorem wt973 : (Cond.code ({ cls := "WrongRoom", name := "commonDivisor", desc := "(JJ)J" } : Jvm.MethodName) prog_1_method_32_code (11 : Nat) (Option.some Jvm.ClassFile.FieldType.long)) ∈ T0 := T0_a5 13 (by decide +kernel) rfl
theorem wt977 : (Cond.code ({ cls := "WrongRoom", name := "net", desc := "(IZ)J" } : Jvm.MethodName) prog_1_method_27_code (10 : Nat) (Option.some Jvm.ClassFile.FieldType.long)) ∈ T0 := T0_a5 17 (by decide +kernel) rfl
theorem wt978 : (Cond.constantLong "WrongRoom" (257 : Nat) (-9223372036854775808 : Int64)) ∈ T0 := T0_a5 18 (by decide +kernel) rfl
theorem wt982 : (Cond.code ({ cls := "WrongRoom", name := "debtor", desc := "()I" } : Jvm.MethodName) prog_1_method_28_code (7 : Nat) (Option.some Jvm.ClassFile.FieldType.int)) ∈ T0 := T0_a5 22 (by decide +kernel) rfl
theorem wt986 : (Cond.code ({ cls := "WrongRoom", name := "paired", desc := "()I" } : Jvm.MethodName) prog_1_method_33_code (1 : Nat) (Option.some Jvm.ClassFile.FieldType.int)) ∈ T0 := T0_a5 26 (by decide +kernel) rfl
theorem wt987 : (Cond.methodLink "WrongRoom" (272 : Nat) ({ cls := "WrongRoom$Swaps", name := "findBest", desc := "(LWrongRoom$Now;)V" } : Jvm.MethodName)) ∈ T0 := T0_a5 27 (by decide +kernel) rfl
theorem wt988 : (Cond.instanceMethod ({ cls := "WrongRoom$Swaps", name := "findBest", desc := "(LWrongRoom$Now;)V" } : Jvm.MethodName)) ∈ T0 := T0_a5 28 (by decide +kernel) rfl
theorem wt989 : (Cond.selects "WrongRoom$Swaps" ({ cls := "WrongRoom$Swaps", name := "findBest", desc := "(LWrongRoom$Now;)V" } : Jvm.MethodName) ({ cls := "WrongRoom$Swaps", name := "findBest", desc := "(LWrongRoom$Now;)V" } : Jvm.MethodName)) ∈ T0 := T0_a5 29 (by decide +kernel) rfl
theorem wt990 : (Cond.code ({ cls := "WrongRoom$Swaps", name := "findBest", desc := "(LWrongRoom$Now;)V" } : Jvm.MethodName) prog_10_method_5_code (3 : Nat) (Option.none : Option Jvm.ClassFile.FieldType)) ∈ T0 := T0_a5 30 (by decide +kernel) rfl
theorem wt991 : (Cond.methodLink "WrongRoom$Swaps" (39 : Nat) ({ cls := "WrongRoom$Swaps", name := "isFoundFor", desc := "(LWrongRoom$Now;)Z" } : Jvm.MethodName)) ∈ T0 := T0_a5 31 (by decide +kernel) rfl
theorem wt993 : (Cond.instanceMethod ({ cls := "WrongRoom$Swaps", name := "isFoundFor", desc := "(LWrongRoom$Now;)Z" } : Jvm.MethodName)) ∈ T0 := T0_a5 33 (by decide +kernel) rfl
theorem wt994 : (Cond.code ({ cls := "WrongRoom$Swaps", name := "isFoundFor", desc := "(LWrongRoom$Now;)Z" } : Jvm.MethodName) prog_10_method_6_code (3 : Nat) (Option.some Jvm.ClassFile.FieldType.boolean)) ∈ T0 := T0_a5 34 (by decide +kernel) rfl
theorem wt995 : (Cond.methodLink "WrongRoom$Swaps" (51 : Nat) ({ cls := "WrongRoom$Now", name := "roomOf", desc := "(I)I" } : Jvm.MethodName)) ∈ T0 := T0_a5 35 (by decide +kernel) rfl
theorem wt996 : (Cond.methodLink "WrongRoom$Swaps" (43 : Nat) ({ cls := "WrongRoom$Now", name := "copyFrom", desc := "(LWrongRoom$Now;)V" } : Jvm.MethodName)) ∈ T0 := T0_a5 36 (by decide +kernel) rfl
theorem wt997 : (Cond.instanceMethod ({ cls := "WrongRoom$Now", name := "copyFrom", desc := "(LWrongRoom$Now;)V" } : Jvm.MethodName)) ∈ T0 := T0_a5 37 (by decide +kernel) rfl
theorem wt998 : (Cond.selects "WrongRoom$Now" ({ cls := "WrongRoom$Now", name := "copyFrom", desc := "(LWrongRoom$Now;)V" } : Jvm.MethodName) ({ cls := "WrongRoom$Now", name := "copyFrom", desc := "(LWrongRoom$Now;)V" } : Jvm.MethodName)) ∈ T0 := T0_a5 38 (by decide +kernel) rfl
theorem wt999 : (Cond.code ({ cls := "WrongRoom$Now", name := "copyFrom", desc := "(LWrongRoom$Now;)V" } : Jvm.MethodName) prog_5_method_3_code (2 : Nat) (Option.none : Option Jvm.ClassFile.FieldType)) ∈ T0 := T0_a5 39 (by decide +kernel) rfl
theorem wt1000 : (Cond.methodLink "WrongRoom$Now" (33 : Nat) ({ cls := "WrongRoom$Now", name := "saveTo", desc := "([II)V" } : Jvm.MethodName)) ∈ T0 := T0_a5 40 (by decide +kernel) rfl
theorem wt1001 : (Cond.instanceMethod ({ cls := "WrongRoom$Now", name := "saveTo", desc := "([II)V" } : Jvm.MethodName)) ∈ T0 := T0_a5 41 (by decide +kernel) rfl
theorem wt1002 : (Cond.selects "WrongRoom$Now" ({ cls := "WrongRoom$Now", name := "saveTo", desc := "([II)V" } : Jvm.MethodName) ({ cls := "WrongRoom$Now", name := "saveTo", desc := "([II)V" } : Jvm.MethodName)) ∈ T0 := T0_a5 42 (by decide +kernel) rfl
theorem wt1003 : (Cond.code ({ cls := "WrongRoom$Now", name := "saveTo", desc := "([II)V" } : Jvm.MethodName) prog_5_method_4_code (3 : Nat) (Option.none : Option Jvm.ClassFile.FieldType)) ∈ T0 := T0_a5 43 (by decide +kernel) rfl
theorem wt1004 : (Cond.methodLink "WrongRoom$Now" (37 : Nat) ({ cls := "java/lang/System", name := "arraycopy", desc := "(Ljava/lang/Object;ILjava/lang/Object;II)V" } : Jvm.MethodName)) ∈ T0 := T0_a5 44 (by decide +kernel) rfl
theorem wt1005 : (Cond.methodLink "WrongRoom$Swaps" (47 : Nat) ({ cls := "WrongRoom$Swaps", name := "search", desc := "(II)V" } : Jvm.MethodName)) ∈ T0 := T0_a5 45 (by decide +kernel) rfl
theorem wt1007 : (Cond.instanceMethod ({ cls := "WrongRoom$Swaps", name := "search", desc := "(II)V" } : Jvm.MethodName)) ∈ T0 := T0_a5 47 (by decide +kernel) rfl
theorem wt1008 : (Cond.code ({ cls := "WrongRoom$Swaps", name := "search", desc := "(II)V" } : Jvm.MethodName) prog_10_method_7_code (6 : Nat) (Option.none : Option Jvm.ClassFile.FieldType)) ∈ T0 := T0_a5 48 (by decide +kernel) rfl
theorem wt1009 : (Cond.methodLink "WrongRoom$Swaps" (55 : Nat) ({ cls := "WrongRoom$Now", name := "mutualBits", desc := "()I" } : Jvm.MethodName)) ∈ T0 := T0_a5 49 (by decide +kernel) rfl
theorem wt1010 : (Cond.methodLink "WrongRoom$Swaps" (59 : Nat) ({ cls := "java/lang/Integer", name := "bitCount", desc := "(I)I" } : Jvm.MethodName)) ∈ T0 := T0_a5 50 (by decide +kernel) rfl
theorem wt1011 : (Cond.static ({ cls := "java/lang/Integer", name := "bitCount", desc := "(I)I" } : Jvm.MethodName)) ∈ T0 := T0_a5 51 (by decide +kernel) rfl
theorem wt1012 : (Cond.code ({ cls := "java/lang/Integer", name := "bitCount", desc := "(I)I" } : Jvm.MethodName) prog_20_method_49_code (1 : Nat) (Option.some Jvm.ClassFile.FieldType.int)) ∈ T0 := T0_a5 52 (by decide +kernel) rfl
theorem wt1013 : (Cond.constant "java/lang/Integer" (265 : Nat) (1431655765 : Int32)) ∈ T0 := T0_a5 53 (by decide +kernel) rfl
theorem wt1014 : (Cond.constant "java/lang/Integer" (266 : Nat) (858993459 : Int32)) ∈ T0 := T0_a5 54 (by decide +kernel) rfl
theorem wt1015 : (Cond.constant "java/lang/Integer" (267 : Nat) (252645135 : Int32)) ∈ T0 := T0_a5 55 (by decide +kernel) rfl
theorem wt1016 : (Cond.methodLink "WrongRoom$Swaps" (64 : Nat) ({ cls := "java/lang/System", name := "arraycopy", desc := "(Ljava/lang/Object;ILjava/lang/Object;II)V" } : Jvm.MethodName)) ∈ T0 := T0_a5 56 (by decide +kernel) rfl
theorem wt1017 : (Cond.methodLink "WrongRoom$Swaps" (70 : Nat) ({ cls := "WrongRoom$Now", name := "canSwap", desc := "(II)Z" } : Jvm.MethodName)) ∈ T0 := T0_a5 57 (by decide +kernel) rfl
theorem wt1018 : (Cond.instanceMethod ({ cls := "WrongRoom$Now", name := "canSwap", desc := "(II)Z" } : Jvm.MethodName)) ∈ T0 := T0_a5 58 (by decide +kernel) rfl
theorem wt1019 : (Cond.selects "WrongRoom$Now" ({ cls := "WrongRoom$Now", name := "canSwap", desc := "(II)Z" } : Jvm.MethodName) ({ cls := "WrongRoom$Now", name := "canSwap", desc := "(II)Z" } : Jvm.MethodName)) ∈ T0 := T0_a5 59 (by decide +kernel) rfl
theorem wt1020 : (Cond.code ({ cls := "WrongRoom$Now", name := "canSwap", desc := "(II)Z" } : Jvm.MethodName) prog_5_method_12_code (3 : Nat) (Option.some Jvm.ClassFile.FieldType.boolean)) ∈ T0 := T0_a5 60 (by decide +kernel) rfl
theorem wt1021 : (Cond.methodLink "WrongRoom$Swaps" (74 : Nat) ({ cls := "WrongRoom$Now", name := "swapRooms", desc := "(II)V" } : Jvm.MethodName)) ∈ T0 := T0_a5 61 (by decide +kernel) rfl
theorem wt1022 : (Cond.instanceMethod ({ cls := "WrongRoom$Now", name := "swapRooms", desc := "(II)V" } : Jvm.MethodName)) ∈ T0 := T0_a5 62 (by decide +kernel) rfl
theorem wt1023 : (Cond.selects "WrongRoom$Now" ({ cls := "WrongRoom$Now", name := "swapRooms", desc := "(II)V" } : Jvm.MethodName) ({ cls := "WrongRoom$Now", name := "swapRooms", desc := "(II)V" } : Jvm.MethodName)) ∈ T0 := T0_a5 63 (by decide +kernel) rfl
theorem wt1024 : (Cond.code ({ cls := "WrongRoom$Now", name := "swapRooms", desc := "(II)V" } : Jvm.MethodName) prog_5_method_13_code (4 : Nat) (Option.none : Option Jvm.ClassFile.FieldType)) ∈ T0 := T0_a5 64 (by decide +kernel) rfl
theorem wt1025 : (Cond.methodLink "WrongRoom" (276 : Nat) ({ cls := "WrongRoom$Swaps", name := "bestCount", desc := "()I" } : Jvm.MethodName)) ∈ T0 := T0_a5 65 (by decide +kernel) rfl
theorem wt1026 : (Cond.instanceMethod ({ cls := "WrongRoom$Swaps", name := "bestCount", desc := "()I" } : Jvm.MethodName)) ∈ T0 := T0_a5 66 (by decide +kernel) rfl
theorem wt1027 : (Cond.selects "WrongRoom$Swaps" ({ cls := "WrongRoom$Swaps", name := "bestCount", desc := "()I" } : Jvm.MethodName) ({ cls := "WrongRoom$Swaps", name := "bestCount", desc := "()I" } : Jvm.MethodName)) ∈ T0 := T0_a5 67 (by decide +kernel) rfl
theorem wt1028 : (Cond.code ({ cls := "WrongRoom$Swaps", name := "bestCount", desc := "()I" } : Jvm.MethodName) prog_10_method_2_code (1 : Nat) (Option.some Jvm.ClassFile.FieldType.int)) ∈ T0 := T0_a5 68 (by decide +kernel) rfl
theorem wt1032 : (Cond.code ({ cls := "WrongRoom", name := "fewest", desc := "()I" } : Jvm.MethodName) prog_1_method_34_code (1 : Nat) (Option.some Jvm.ClassFile.FieldType.int)) ∈ T0 := T0_a5 72 (by decide +kernel) rfl
theorem wt1033 : (Cond.methodLink "WrongRoom" (279 : Nat) ({ cls := "WrongRoom$Swaps", name := "bestLength", desc := "()I" } : Jvm.MethodName)) ∈ T0 := T0_a5 73 (by decide +kernel) rfl
theorem wt1034 : (Cond.instanceMethod ({ cls := "WrongRoom$Swaps", name := "bestLength", desc := "()I" } : Jvm.MethodName)) ∈ T0 := T0_a5 74 (by decide +kernel) rfl
theorem wt1035 : (Cond.selects "WrongRoom$Swaps" ({ cls := "WrongRoom$Swaps", name := "bestLength", desc := "()I" } : Jvm.MethodName) ({ cls := "WrongRoom$Swaps", name := "bestLength", desc := "()I" } : Jvm.MethodName)) ∈ T0 := T0_a5 75 (by decide +kernel) rfl
theorem wt1036 : (Cond.code ({ cls := "WrongRoom$Swaps", name := "bestLength", desc := "()I" } : Jvm.MethodName) prog_10_method_3_code (1 : Nat) (Option.some Jvm.ClassFile.FieldType.int)) ∈ T0 := T0_a5 76 (by decide +kernel) rfl
theorem wt1040 : (Cond.code ({ cls := "WrongRoom", name := "exchangeAt", desc := "(I)I" } : Jvm.MethodName) prog_1_method_35_code (2 : Nat) (Option.some Jvm.ClassFile.FieldType.int)) ∈ T0 := T0_a5 80 (by decide +kernel) rfl
theorem wt1041 : (Cond.methodLink "WrongRoom" (282 : Nat) ({ cls := "WrongRoom$Swaps", name := "bestAt", desc := "(I)I" } : Jvm.MethodName)) ∈ T0 := T0_a5 81 (by decide +kernel) rfl
theorem wt1042 : (Cond.instanceMethod ({ cls := "WrongRoom$Swaps", name := "bestAt", desc := "(I)I" } : Jvm.MethodName)) ∈ T0 := T0_a5 82 (by decide +kernel) rfl
theorem wt1043 : (Cond.selects "WrongRoom$Swaps" ({ cls := "WrongRoom$Swaps", name := "bestAt", desc := "(I)I" } : Jvm.MethodName) ({ cls := "WrongRoom$Swaps", name := "bestAt", desc := "(I)I" } : Jvm.MethodName)) ∈ T0 := T0_a5 83 (by decide +kernel) rfl
theorem wt1044 : (Cond.code ({ cls := "WrongRoom$Swaps", name := "bestAt", desc := "(I)I" } : Jvm.MethodName) prog_10_method_4_code (2 : Nat) (Option.some Jvm.ClassFile.FieldType.int)) ∈ T0 := T0_a5 84 (by decide +kernel) rfl
theorem wt1048 : (Cond.code ({ cls := "WrongRoom", name := "stands", desc := "(I)I" } : Jvm.MethodName) prog_1_method_36_code (2 : Nat) (Option.some Jvm.ClassFile.FieldType.int)) ∈ T0 := T0_a5 88 (by decide +kernel) rfl
theorem wt1049 : (Cond.methodLink "WrongRoom" (285 : Nat) ({ cls := "WrongRoom$Streets", name := "fewestStands", desc := "(II)I" } : Jvm.MethodName)) ∈ T0 := T0_a5 89 (by decide +kernel) rfl
theorem wt1050 : (Cond.instanceMethod ({ cls := "WrongRoom$Streets", name := "fewestStands", desc := "(II)I" } : Jvm.MethodName)) ∈ T0 := T0_a5 90 (by decide +kernel) rfl
theorem wt1051 : (Cond.selects "WrongRoom$Streets" ({ cls := "WrongRoom$Streets", name := "fewestStands", desc := "(II)I" } : Jvm.MethodName) ({ cls := "WrongRoom$Streets", name := "fewestStands", desc := "(II)I" } : Jvm.MethodName)) ∈ T0 := T0_a5 91 (by decide +kernel) rfl
theorem wt1052 : (Cond.code ({ cls := "WrongRoom$Streets", name := "fewestStands", desc := "(II)I" } : Jvm.MethodName) prog_9_method_8_code (6 : Nat) (Option.some Jvm.ClassFile.FieldType.int)) ∈ T0 := T0_a5 92 (by decide +kernel) rfl
theorem wt1053 : (Cond.methodLink "WrongRoom$Streets" (33 : Nat) ({ cls := "WrongRoom$Streets", name := "findNear", desc := "(II)V" } : Jvm.MethodName)) ∈ T0 := T0_a5 93 (by decide +kernel) rfl
theorem wt1055 : (Cond.instanceMethod ({ cls := "WrongRoom$Streets", name := "findNear", desc := "(II)V" } : Jvm.MethodName)) ∈ T0 := T0_a5 95 (by decide +kernel) rfl
theorem wt1056 : (Cond.code ({ cls := "WrongRoom$Streets", name := "findNear", desc := "(II)V" } : Jvm.MethodName) prog_9_method_9_code (6 : Nat) (Option.none : Option Jvm.ClassFile.FieldType)) ∈ T0 := T0_a5 96 (by decide +kernel) rfl
theorem wt1057 : (Cond.methodLink "WrongRoom$Streets" (36 : Nat) ({ cls := "java/lang/Integer", name := "bitCount", desc := "(I)I" } : Jvm.MethodName)) ∈ T0 := T0_a5 97 (by decide +kernel) rfl
theorem wt1058 : (Cond.methodLink "WrongRoom$Streets" (42 : Nat) ({ cls := "WrongRoom$Streets", name := "reachedFrom", desc := "(I)I" } : Jvm.MethodName)) ∈ T0 := T0_a5 98 (by decide +kernel) rfl
theorem wt1060 : (Cond.instanceMethod ({ cls := "WrongRoom$Streets", name := "reachedFrom", desc := "(I)I" } : Jvm.MethodName)) ∈ T0 := T0_a5 100 (by decide +kernel) rfl
theorem wt1061 : (Cond.code ({ cls := "WrongRoom$Streets", name := "reachedFrom", desc := "(I)I" } : Jvm.MethodName) prog_9_method_10_code (4 : Nat) (Option.some Jvm.ClassFile.FieldType.int)) ∈ T0 := T0_a5 101 (by decide +kernel) rfl
theorem wt1065 : (Cond.code ({ cls := "WrongRoom", name := "gain", desc := "(IIIIZ)I" } : Jvm.MethodName) prog_1_method_37_code (6 : Nat) (Option.some Jvm.ClassFile.FieldType.int)) ∈ T0 := T0_a5 105 (by decide +kernel) rfl
theorem wt1066 : (Cond.methodLink "WrongRoom" (288 : Nat) ({ cls := "WrongRoom", name := "isTens", desc := "(I)Z" } : Jvm.MethodName)) ∈ T0 := T0_a5 106 (by decide +kernel) rfl
theorem wt1067 : (Cond.static ({ cls := "WrongRoom", name := "isTens", desc := "(I)Z" } : Jvm.MethodName)) ∈ T0 := T0_a5 107 (by decide +kernel) rfl
theorem wt1068 : (Cond.code ({ cls := "WrongRoom", name := "isTens", desc := "(I)Z" } : Jvm.MethodName) prog_1_method_64_code (1 : Nat) (Option.some Jvm.ClassFile.FieldType.boolean)) ∈ T0 := T0_a5 108 (by decide +kernel) rfl
theorem wt1069 : (Cond.methodLink "WrongRoom" (291 : Nat) ({ cls := "WrongRoom$Rents", name := "between", desc := "(LWrongRoom$Town;LWrongRoom$Now;II)V" } : Jvm.MethodName)) ∈ T0 := T0_a5 109 (by decide +kernel) rfl
theorem wt1070 : (Cond.instanceMethod ({ cls := "WrongRoom$Rents", name := "between", desc := "(LWrongRoom$Town;LWrongRoom$Now;II)V" } : Jvm.MethodName)) ∈ T0 := T0_a5 110 (by decide +kernel) rfl
theorem wt1071 : (Cond.selects "WrongRoom$Rents" ({ cls := "WrongRoom$Rents", name := "between", desc := "(LWrongRoom$Town;LWrongRoom$Now;II)V" } : Jvm.MethodName) ({ cls := "WrongRoom$Rents", name := "between", desc := "(LWrongRoom$Town;LWrongRoom$Now;II)V" } : Jvm.MethodName)) ∈ T0 := T0_a5 111 (by decide +kernel) rfl
theorem wt1072 : (Cond.code ({ cls := "WrongRoom$Rents", name := "between", desc := "(LWrongRoom$Town;LWrongRoom$Now;II)V" } : Jvm.MethodName) prog_8_method_2_code (5 : Nat) (Option.none : Option Jvm.ClassFile.FieldType)) ∈ T0 := T0_a5 112 (by decide +kernel) rfl
theorem wt1073 : (Cond.methodLink "WrongRoom$Rents" (49 : Nat) ({ cls := "WrongRoom$Now", name := "isMutual", desc := "(I)Z" } : Jvm.MethodName)) ∈ T0 := T0_a5 113 (by decide +kernel) rfl
theorem wt1074 : (Cond.methodLink "WrongRoom" (294 : Nat) ({ cls := "WrongRoom$Rents", name := "othersGain", desc := "(II)I" } : Jvm.MethodName)) ∈ T0 := T0_a5 114 (by decide +kernel) rfl
theorem wt1075 : (Cond.instanceMethod ({ cls := "WrongRoom$Rents", name := "othersGain", desc := "(II)I" } : Jvm.MethodName)) ∈ T0 := T0_a5 115 (by decide +kernel) rfl
theorem wt1076 : (Cond.selects "WrongRoom$Rents" ({ cls := "WrongRoom$Rents", name := "othersGain", desc := "(II)I" } : Jvm.MethodName) ({ cls := "WrongRoom$Rents", name := "othersGain", desc := "(II)I" } : Jvm.MethodName)) ∈ T0 := T0_a5 116 (by decide +kernel) rfl
theorem wt1077 : (Cond.code ({ cls := "WrongRoom$Rents", name := "othersGain", desc := "(II)I" } : Jvm.MethodName) prog_8_method_4_code (3 : Nat) (Option.some Jvm.ClassFile.FieldType.int)) ∈ T0 := T0_a5 117 (by decide +kernel) rfl
theorem wt1078 : (Cond.methodLink "WrongRoom$Rents" (55 : Nat) ({ cls := "WrongRoom$Rents", name := "tenantsBy", desc := "(I)I" } : Jvm.MethodName)) ∈ T0 := T0_a5 118 (by decide +kernel) rfl
theorem wt1080 : (Cond.instanceMethod ({ cls := "WrongRoom$Rents", name := "tenantsBy", desc := "(I)I" } : Jvm.MethodName)) ∈ T0 := T0_a5 120 (by decide +kernel) rfl
theorem wt1081 : (Cond.code ({ cls := "WrongRoom$Rents", name := "tenantsBy", desc := "(I)I" } : Jvm.MethodName) prog_8_method_5_code (2 : Nat) (Option.some Jvm.ClassFile.FieldType.int)) ∈ T0 := T0_a5 121 (by decide +kernel) rfl
theorem wt1082 : (Cond.methodLink "WrongRoom$Rents" (59 : Nat) ({ cls := "java/lang/Math", name := "abs", desc := "(I)I" } : Jvm.MethodName)) ∈ T0 := T0_a5 122 (by decide +kernel) rfl
theorem wt1083 : (Cond.static ({ cls := "java/lang/Math", name := "abs", desc := "(I)I" } : Jvm.MethodName)) ∈ T0 := T0_a5 123 (by decide +kernel) rfl
theorem wt1084 : (Cond.code ({ cls := "java/lang/Math", name := "abs", desc := "(I)I" } : Jvm.MethodName) prog_21_method_59_code (1 : Nat) (Option.some Jvm.ClassFile.FieldType.int)) ∈ T0 := T0_a5 124 (by decide +kernel) rfl
theorem wt1085 : (Cond.methodLink "WrongRoom" (297 : Nat) ({ cls := "WrongRoom$Rents", name := "onesGain", desc := "(II)I" } : Jvm.MethodName)) ∈ T0 := T0_a5 125 (by decide +kernel) rfl
theorem wt1086 : (Cond.instanceMethod ({ cls := "WrongRoom$Rents", name := "onesGain", desc := "(II)I" } : Jvm.MethodName)) ∈ T0 := T0_a5 126 (by decide +kernel) rfl
theorem wt1087 : (Cond.selects "WrongRoom$Rents" ({ cls := "WrongRoom$Rents", name := "onesGain", desc := "(II)I" } : Jvm.MethodName) ({ cls := "WrongRoom$Rents", name := "onesGain", desc := "(II)I" } : Jvm.MethodName)) ∈ T0 := T0_a5 127 (by decide +kernel) rfl
theorem wt1088 : (Cond.code ({ cls := "WrongRoom$Rents", name := "onesGain", desc := "(II)I" } : Jvm.MethodName) prog_8_method_3_code (3 : Nat) (Option.some Jvm.ClassFile.FieldType.int)) ∈ T0 := T0_a5 128 (by decide +kernel) rfl
theorem wt1092 : (Cond.code ({ cls := "WrongRoom", name := "rests", desc := "(II)I" } : Jvm.MethodName) prog_1_method_38_code (3 : Nat) (Option.some Jvm.ClassFile.FieldType.int)) ∈ T0 := T0_a5 132 (by decide +kernel) rfl
theorem wt1093 : (Cond.methodLink "WrongRoom" (300 : Nat) ({ cls := "WrongRoom$Rents", name := "findRests", desc := "()V" } : Jvm.MethodName)) ∈ T0 := T0_a5 133 (by decide +kernel) rfl
theorem wt1094 : (Cond.instanceMethod ({ cls := "WrongRoom$Rents", name := "findRests", desc := "()V" } : Jvm.MethodName)) ∈ T0 := T0_a5 134 (by decide +kernel) rfl
theorem wt1095 : (Cond.selects "WrongRoom$Rents" ({ cls := "WrongRoom$Rents", name := "findRests", desc := "()V" } : Jvm.MethodName) ({ cls := "WrongRoom$Rents", name := "findRests", desc := "()V" } : Jvm.MethodName)) ∈ T0 := T0_a5 135 (by decide +kernel) rfl
theorem wt1096 : (Cond.code ({ cls := "WrongRoom$Rents", name := "findRests", desc := "()V" } : Jvm.MethodName) prog_8_method_6_code (3 : Nat) (Option.none : Option Jvm.ClassFile.FieldType)) ∈ T0 := T0_a5 136 (by decide +kernel) rfl
theorem wt1097 : (Cond.methodLink "WrongRoom$Rents" (64 : Nat) ({ cls := "WrongRoom$Rents", name := "findBestGains", desc := "()V" } : Jvm.MethodName)) ∈ T0 := T0_a5 137 (by decide +kernel) rfl
theorem wt1099 : (Cond.instanceMethod ({ cls := "WrongRoom$Rents", name := "findBestGains", desc := "()V" } : Jvm.MethodName)) ∈ T0 := T0_a5 139 (by decide +kernel) rfl
theorem wt1100 : (Cond.code ({ cls := "WrongRoom$Rents", name := "findBestGains", desc := "()V" } : Jvm.MethodName) prog_8_method_9_code (3 : Nat) (Option.none : Option Jvm.ClassFile.FieldType)) ∈ T0 := T0_a5 140 (by decide +kernel) rfl
theorem wt1101 : (Cond.methodLink "WrongRoom$Rents" (71 : Nat) ({ cls := "WrongRoom$Rents", name := "onesGain", desc := "(II)I" } : Jvm.MethodName)) ∈ T0 := T0_a5 141 (by decide +kernel) rfl
theorem wt1102 : (Cond.methodLink "WrongRoom$Rents" (75 : Nat) ({ cls := "java/lang/Math", name := "max", desc := "(II)I" } : Jvm.MethodName)) ∈ T0 := T0_a5 142 (by decide +kernel) rfl
theorem wt1103 : (Cond.methodLink "WrongRoom$Rents" (78 : Nat) ({ cls := "WrongRoom$Rents", name := "othersGain", desc := "(II)I" } : Jvm.MethodName)) ∈ T0 := T0_a5 143 (by decide +kernel) rfl
theorem wt1104 : (Cond.methodLink "WrongRoom$Rents" (67 : Nat) ({ cls := "WrongRoom$Rents", name := "noteIfRest", desc := "(II)V" } : Jvm.MethodName)) ∈ T0 := T0_a5 144 (by decide +kernel) rfl
theorem wt1106 : (Cond.instanceMethod ({ cls := "WrongRoom$Rents", name := "noteIfRest", desc := "(II)V" } : Jvm.MethodName)) ∈ T0 := T0_a5 146 (by decide +kernel) rfl
theorem wt1107 : (Cond.code ({ cls := "WrongRoom$Rents", name := "noteIfRest", desc := "(II)V" } : Jvm.MethodName) prog_8_method_10_code (5 : Nat) (Option.none : Option Jvm.ClassFile.FieldType)) ∈ T0 := T0_a5 147 (by decide +kernel) rfl
theorem wt1108 : (Cond.methodLink "WrongRoom" (303 : Nat) ({ cls := "WrongRoom$Rents", name := "restCount", desc := "()I" } : Jvm.MethodName)) ∈ T0 := T0_a5 148 (by decide +kernel) rfl
theorem wt1109 : (Cond.instanceMethod ({ cls := "WrongRoom$Rents", name := "restCount", desc := "()I" } : Jvm.MethodName)) ∈ T0 := T0_a5 149 (by decide +kernel) rfl
theorem wt1110 : (Cond.selects "WrongRoom$Rents" ({ cls := "WrongRoom$Rents", name := "restCount", desc := "()I" } : Jvm.MethodName) ({ cls := "WrongRoom$Rents", name := "restCount", desc := "()I" } : Jvm.MethodName)) ∈ T0 := T0_a5 150 (by decide +kernel) rfl
theorem wt1111 : (Cond.code ({ cls := "WrongRoom$Rents", name := "restCount", desc := "()I" } : Jvm.MethodName) prog_8_method_7_code (1 : Nat) (Option.some Jvm.ClassFile.FieldType.int)) ∈ T0 := T0_a5 151 (by decide +kernel) rfl
theorem wt1115 : (Cond.code ({ cls := "WrongRoom", name := "rest", desc := "(II)I" } : Jvm.MethodName) prog_1_method_39_code (3 : Nat) (Option.some Jvm.ClassFile.FieldType.int)) ∈ T0 := T0_a5 155 (by decide +kernel) rfl
theorem wt1116 : (Cond.methodLink "WrongRoom" (306 : Nat) ({ cls := "WrongRoom$Rents", name := "firstRest", desc := "()I" } : Jvm.MethodName)) ∈ T0 := T0_a5 156 (by decide +kernel) rfl
theorem wt1117 : (Cond.instanceMethod ({ cls := "WrongRoom$Rents", name := "firstRest", desc := "()I" } : Jvm.MethodName)) ∈ T0 := T0_a5 157 (by decide +kernel) rfl
theorem wt1118 : (Cond.selects "WrongRoom$Rents" ({ cls := "WrongRoom$Rents", name := "firstRest", desc := "()I" } : Jvm.MethodName) ({ cls := "WrongRoom$Rents", name := "firstRest", desc := "()I" } : Jvm.MethodName)) ∈ T0 := T0_a5 158 (by decide +kernel) rfl
theorem wt1119 : (Cond.code ({ cls := "WrongRoom$Rents", name := "firstRest", desc := "()I" } : Jvm.MethodName) prog_8_method_8_code (1 : Nat) (Option.some Jvm.ClassFile.FieldType.int)) ∈ T0 := T0_a5 159 (by decide +kernel) rfl
theorem wt1123 : (Cond.code ({ cls := "WrongRoom", name := "builders", desc := "(II)I" } : Jvm.MethodName) prog_1_method_40_code (3 : Nat) (Option.some Jvm.ClassFile.FieldType.int)) ∈ T0 := T0_a5 163 (by decide +kernel) rfl
theorem wt1124 : (Cond.methodLink "WrongRoom" (309 : Nat) ({ cls := "WrongRoom", name := "areDraws", desc := "(II)Z" } : Jvm.MethodName)) ∈ T0 := T0_a5 164 (by decide +kernel) rfl
theorem wt1125 : (Cond.static ({ cls := "WrongRoom", name := "areDraws", desc := "(II)Z" } : Jvm.MethodName)) ∈ T0 := T0_a5 165 (by decide +kernel) rfl
theorem wt1126 : (Cond.code ({ cls := "WrongRoom", name := "areDraws", desc := "(II)Z" } : Jvm.MethodName) prog_1_method_65_code (2 : Nat) (Option.some Jvm.ClassFile.FieldType.boolean)) ∈ T0 := T0_a5 166 (by decide +kernel) rfl
theorem wt1127 : (Cond.constant "WrongRoom" (333 : Nat) (65537 : Int32)) ∈ T0 := T0_a5 167 (by decide +kernel) rfl
theorem wt1128 : (Cond.methodLink "WrongRoom" (312 : Nat) ({ cls := "WrongRoom", name := "build", desc := "(II)V" } : Jvm.MethodName)) ∈ T0 := T0_a5 168 (by decide +kernel) rfl
theorem wt1130 : (Cond.instanceMethod ({ cls := "WrongRoom", name := "build", desc := "(II)V" } : Jvm.MethodName)) ∈ T0 := T0_a5 170 (by decide +kernel) rfl
theorem wt1131 : (Cond.code ({ cls := "WrongRoom", name := "build", desc := "(II)V" } : Jvm.MethodName) prog_1_method_42_code (8 : Nat) (Option.none : Option Jvm.ClassFile.FieldType)) ∈ T0 := T0_a5 171 (by decide +kernel) rfl
theorem wt1132 : (Cond.methodLink "WrongRoom" (321 : Nat) ({ cls := "WrongRoom$Now", name := "copyFrom", desc := "(LWrongRoom$Now;)V" } : Jvm.MethodName)) ∈ T0 := T0_a5 172 (by decide +kernel) rfl
theorem wt1133 : (Cond.methodLink "WrongRoom" (324 : Nat) ({ cls := "WrongRoom", name := "nextSeed", desc := "(I)I" } : Jvm.MethodName)) ∈ T0 := T0_a5 173 (by decide +kernel) rfl
theorem wt1134 : (Cond.static ({ cls := "WrongRoom", name := "nextSeed", desc := "(I)I" } : Jvm.MethodName)) ∈ T0 := T0_a5 174 (by decide +kernel) rfl
theorem wt1135 : (Cond.code ({ cls := "WrongRoom", name := "nextSeed", desc := "(I)I" } : Jvm.MethodName) prog_1_method_43_code (1 : Nat) (Option.some Jvm.ClassFile.FieldType.int)) ∈ T0 := T0_a5 175 (by decide +kernel) rfl
theorem wt1136 : (Cond.methodLink "WrongRoom" (327 : Nat) ({ cls := "WrongRoom$Now", name := "canSwap", desc := "(II)Z" } : Jvm.MethodName)) ∈ T0 := T0_a5 176 (by decide +kernel) rfl
theorem wt1137 : (Cond.methodLink "WrongRoom" (330 : Nat) ({ cls := "WrongRoom$Now", name := "swapRooms", desc := "(II)V" } : Jvm.MethodName)) ∈ T0 := T0_a5 177 (by decide +kernel) rfl
theorem wt1138 : (Cond.methodLink "WrongRoom" (316 : Nat) ({ cls := "java/lang/Integer", name := "bitCount", desc := "(I)I" } : Jvm.MethodName)) ∈ T0 := T0_a5 178 (by decide +kernel) rfl
theorem wt1142 : (Cond.code ({ cls := "WrongRoom", name := "builtOf", desc := "(III)I" } : Jvm.MethodName) prog_1_method_41_code (4 : Nat) (Option.some Jvm.ClassFile.FieldType.int)) ∈ T0 := T0_a5 182 (by decide +kernel) rfl
theorem wt1146 : (Cond.code ({ cls := "WrongRoom", name := "exchange", desc := "(II)Z" } : Jvm.MethodName) prog_1_method_44_code (3 : Nat) (Option.some Jvm.ClassFile.FieldType.boolean)) ∈ T0 := T0_a5 186 (by decide +kernel) rfl
theorem wt1147 : (Cond.methodLink "WrongRoom" (334 : Nat) ({ cls := "WrongRoom", name := "deny", desc := "(I)Z" } : Jvm.MethodName)) ∈ T0 := T0_a5 187 (by decide +kernel) rfl
theorem wt1149 : (Cond.instanceMethod ({ cls := "WrongRoom", name := "deny", desc := "(I)Z" } : Jvm.MethodName)) ∈ T0 := T0_a5 189 (by decide +kernel) rfl
theorem wt1150 : (Cond.code ({ cls := "WrongRoom", name := "deny", desc := "(I)Z" } : Jvm.MethodName) prog_1_method_58_code (2 : Nat) (Option.some Jvm.ClassFile.FieldType.boolean)) ∈ T0 := T0_a5 190 (by decide +kernel) rfl
theorem wt1151 : (Cond.methodLink "WrongRoom" (337 : Nat) ({ cls := "WrongRoom$Past", name := "keepAct", desc := "(LWrongRoom$Now;)V" } : Jvm.MethodName)) ∈ T0 := T0_a5 191 (by decide +kernel) rfl
theorem wt1152 : (Cond.instanceMethod ({ cls := "WrongRoom$Past", name := "keepAct", desc := "(LWrongRoom$Now;)V" } : Jvm.MethodName)) ∈ T0 := T0_a5 192 (by decide +kernel) rfl
theorem wt1153 : (Cond.selects "WrongRoom$Past" ({ cls := "WrongRoom$Past", name := "keepAct", desc := "(LWrongRoom$Now;)V" } : Jvm.MethodName) ({ cls := "WrongRoom$Past", name := "keepAct", desc := "(LWrongRoom$Now;)V" } : Jvm.MethodName)) ∈ T0 := T0_a5 193 (by decide +kernel) rfl
theorem wt1154 : (Cond.code ({ cls := "WrongRoom$Past", name := "keepAct", desc := "(LWrongRoom$Now;)V" } : Jvm.MethodName) prog_6_method_5_code (2 : Nat) (Option.none : Option Jvm.ClassFile.FieldType)) ∈ T0 := T0_a5 194 (by decide +kernel) rfl
theorem wt1155 : (Cond.methodLink "WrongRoom$Past" (28 : Nat) ({ cls := "WrongRoom$Now", name := "saveTo", desc := "([II)V" } : Jvm.MethodName)) ∈ T0 := T0_a5 195 (by decide +kernel) rfl
theorem wt1156 : (Cond.methodLink "WrongRoom" (340 : Nat) ({ cls := "WrongRoom", name := "grant", desc := "()Z" } : Jvm.MethodName)) ∈ T0 := T0_a5 196 (by decide +kernel) rfl
theorem wt1158 : (Cond.instanceMethod ({ cls := "WrongRoom", name := "grant", desc := "()Z" } : Jvm.MethodName)) ∈ T0 := T0_a5 198 (by decide +kernel) rfl
theorem wt1159 : (Cond.code ({ cls := "WrongRoom", name := "grant", desc := "()Z" } : Jvm.MethodName) prog_1_method_57_code (1 : Nat) (Option.some Jvm.ClassFile.FieldType.boolean)) ∈ T0 := T0_a5 199 (by decide +kernel) rfl
theorem wt1163 : (Cond.code ({ cls := "WrongRoom", name := "shut", desc := "(IZ)Z" } : Jvm.MethodName) prog_1_method_45_code (3 : Nat) (Option.some Jvm.ClassFile.FieldType.boolean)) ∈ T0 := T0_a5 203 (by decide +kernel) rfl
theorem wt1164 : (Cond.methodLink "WrongRoom" (343 : Nat) ({ cls := "WrongRoom$Now", name := "turnDoor", desc := "(I)V" } : Jvm.MethodName)) ∈ T0 := T0_a5 204 (by decide +kernel) rfl
theorem wt1165 : (Cond.instanceMethod ({ cls := "WrongRoom$Now", name := "turnDoor", desc := "(I)V" } : Jvm.MethodName)) ∈ T0 := T0_a5 205 (by decide +kernel) rfl
theorem wt1166 : (Cond.selects "WrongRoom$Now" ({ cls := "WrongRoom$Now", name := "turnDoor", desc := "(I)V" } : Jvm.MethodName) ({ cls := "WrongRoom$Now", name := "turnDoor", desc := "(I)V" } : Jvm.MethodName)) ∈ T0 := T0_a5 206 (by decide +kernel) rfl
theorem wt1167 : (Cond.code ({ cls := "WrongRoom$Now", name := "turnDoor", desc := "(I)V" } : Jvm.MethodName) prog_5_method_15_code (2 : Nat) (Option.none : Option Jvm.ClassFile.FieldType)) ∈ T0 := T0_a5 207 (by decide +kernel) rfl
theorem wt1171 : (Cond.code ({ cls := "WrongRoom", name := "go", desc := "(II)I" } : Jvm.MethodName) prog_1_method_46_code (5 : Nat) (Option.some Jvm.ClassFile.FieldType.int)) ∈ T0 := T0_a5 211 (by decide +kernel) rfl
theorem wt1172 : (Cond.methodLink "WrongRoom" (346 : Nat) ({ cls := "WrongRoom", name := "minutesToGo", desc := "(III)I" } : Jvm.MethodName)) ∈ T0 := T0_a5 212 (by decide +kernel) rfl
theorem wt1174 : (Cond.instanceMethod ({ cls := "WrongRoom", name := "minutesToGo", desc := "(III)I" } : Jvm.MethodName)) ∈ T0 := T0_a5 214 (by decide +kernel) rfl
theorem wt1175 : (Cond.code ({ cls := "WrongRoom", name := "minutesToGo", desc := "(III)I" } : Jvm.MethodName) prog_1_method_47_code (6 : Nat) (Option.some Jvm.ClassFile.FieldType.int)) ∈ T0 := T0_a5 215 (by decide +kernel) rfl
theorem wt1176 : (Cond.methodLink "WrongRoom" (350 : Nat) ({ cls := "WrongRoom$Now", name := "movePerson", desc := "(III)V" } : Jvm.MethodName)) ∈ T0 := T0_a5 216 (by decide +kernel) rfl
theorem wt1177 : (Cond.instanceMethod ({ cls := "WrongRoom$Now", name := "movePerson", desc := "(III)V" } : Jvm.MethodName)) ∈ T0 := T0_a5 217 (by decide +kernel) rfl
theorem wt1178 : (Cond.selects "WrongRoom$Now" ({ cls := "WrongRoom$Now", name := "movePerson", desc := "(III)V" } : Jvm.MethodName) ({ cls := "WrongRoom$Now", name := "movePerson", desc := "(III)V" } : Jvm.MethodName)) ∈ T0 := T0_a5 218 (by decide +kernel) rfl
theorem wt1179 : (Cond.code ({ cls := "WrongRoom$Now", name := "movePerson", desc := "(III)V" } : Jvm.MethodName) prog_5_method_21_code (4 : Nat) (Option.none : Option Jvm.ClassFile.FieldType)) ∈ T0 := T0_a5 219 (by decide +kernel) rfl
theorem wt1183 : (Cond.code ({ cls := "WrongRoom", name := "waits", desc := "(II)I" } : Jvm.MethodName) prog_1_method_48_code (3 : Nat) (Option.some Jvm.ClassFile.FieldType.int)) ∈ T0 := T0_a5 223 (by decide +kernel) rfl
theorem wt1187 : (Cond.code ({ cls := "WrongRoom", name := "undo", desc := "()Z" } : Jvm.MethodName) prog_1_method_49_code (1 : Nat) (Option.some Jvm.ClassFile.FieldType.boolean)) ∈ T0 := T0_a5 227 (by decide +kernel) rfl
theorem wt1188 : (Cond.methodLink "WrongRoom" (357 : Nat) ({ cls := "WrongRoom$Past", name := "actCount", desc := "()I" } : Jvm.MethodName)) ∈ T0 := T0_a5 228 (by decide +kernel) rfl
theorem wt1189 : (Cond.instanceMethod ({ cls := "WrongRoom$Past", name := "actCount", desc := "()I" } : Jvm.MethodName)) ∈ T0 := T0_a5 229 (by decide +kernel) rfl
theorem wt1190 : (Cond.selects "WrongRoom$Past" ({ cls := "WrongRoom$Past", name := "actCount", desc := "()I" } : Jvm.MethodName) ({ cls := "WrongRoom$Past", name := "actCount", desc := "()I" } : Jvm.MethodName)) ∈ T0 := T0_a5 230 (by decide +kernel) rfl
theorem wt1191 : (Cond.code ({ cls := "WrongRoom$Past", name := "actCount", desc := "()I" } : Jvm.MethodName) prog_6_method_3_code (1 : Nat) (Option.some Jvm.ClassFile.FieldType.int)) ∈ T0 := T0_a5 231 (by decide +kernel) rfl
theorem wt1192 : (Cond.methodLink "WrongRoom" (360 : Nat) ({ cls := "WrongRoom$Past", name := "takeBack", desc := "(LWrongRoom$Now;)V" } : Jvm.MethodName)) ∈ T0 := T0_a5 232 (by decide +kernel) rfl
theorem wt1193 : (Cond.instanceMethod ({ cls := "WrongRoom$Past", name := "takeBack", desc := "(LWrongRoom$Now;)V" } : Jvm.MethodName)) ∈ T0 := T0_a5 233 (by decide +kernel) rfl
theorem wt1194 : (Cond.selects "WrongRoom$Past" ({ cls := "WrongRoom$Past", name := "takeBack", desc := "(LWrongRoom$Now;)V" } : Jvm.MethodName) ({ cls := "WrongRoom$Past", name := "takeBack", desc := "(LWrongRoom$Now;)V" } : Jvm.MethodName)) ∈ T0 := T0_a5 234 (by decide +kernel) rfl
theorem wt1195 : (Cond.code ({ cls := "WrongRoom$Past", name := "takeBack", desc := "(LWrongRoom$Now;)V" } : Jvm.MethodName) prog_6_method_6_code (2 : Nat) (Option.none : Option Jvm.ClassFile.FieldType)) ∈ T0 := T0_a5 235 (by decide +kernel) rfl
theorem wt1196 : (Cond.methodLink "WrongRoom$Past" (32 : Nat) ({ cls := "WrongRoom$Now", name := "loadFrom", desc := "([II)V" } : Jvm.MethodName)) ∈ T0 := T0_a5 236 (by decide +kernel) rfl
theorem wt1197 : (Cond.instanceMethod ({ cls := "WrongRoom$Now", name := "loadFrom", desc := "([II)V" } : Jvm.MethodName)) ∈ T0 := T0_a5 237 (by decide +kernel) rfl
theorem wt1198 : (Cond.selects "WrongRoom$Now" ({ cls := "WrongRoom$Now", name := "loadFrom", desc := "([II)V" } : Jvm.MethodName) ({ cls := "WrongRoom$Now", name := "loadFrom", desc := "([II)V" } : Jvm.MethodName)) ∈ T0 := T0_a5 238 (by decide +kernel) rfl
theorem wt1199 : (Cond.code ({ cls := "WrongRoom$Now", name := "loadFrom", desc := "([II)V" } : Jvm.MethodName) prog_5_method_5_code (3 : Nat) (Option.none : Option Jvm.ClassFile.FieldType)) ∈ T0 := T0_a5 239 (by decide +kernel) rfl
theorem wt1203 : (Cond.code ({ cls := "WrongRoom", name := "mark", desc := "()I" } : Jvm.MethodName) prog_1_method_50_code (1 : Nat) (Option.some Jvm.ClassFile.FieldType.int)) ∈ T0 := T0_a6 3 (by decide +kernel) rfl
theorem wt1204 : (Cond.methodLink "WrongRoom" (363 : Nat) ({ cls := "WrongRoom$Past", name := "markCount", desc := "()I" } : Jvm.MethodName)) ∈ T0 := T0_a6 4 (by decide +kernel) rfl
theorem wt1205 : (Cond.instanceMethod ({ cls := "WrongRoom$Past", name := "markCount", desc := "()I" } : Jvm.MethodName)) ∈ T0 := T0_a6 5 (by decide +kernel) rfl
theorem wt1206 : (Cond.selects "WrongRoom$Past" ({ cls := "WrongRoom$Past", name := "markCount", desc := "()I" } : Jvm.MethodName) ({ cls := "WrongRoom$Past", name := "markCount", desc := "()I" } : Jvm.MethodName)) ∈ T0 := T0_a6 6 (by decide +kernel) rfl
theorem wt1207 : (Cond.code ({ cls := "WrongRoom$Past", name := "markCount", desc := "()I" } : Jvm.MethodName) prog_6_method_4_code (1 : Nat) (Option.some Jvm.ClassFile.FieldType.int)) ∈ T0 := T0_a6 7 (by decide +kernel) rfl
theorem wt1208 : (Cond.methodLink "WrongRoom" (366 : Nat) ({ cls := "WrongRoom$Past", name := "keepMark", desc := "(LWrongRoom$Now;)I" } : Jvm.MethodName)) ∈ T0 := T0_a6 8 (by decide +kernel) rfl
theorem wt1209 : (Cond.instanceMethod ({ cls := "WrongRoom$Past", name := "keepMark", desc := "(LWrongRoom$Now;)I" } : Jvm.MethodName)) ∈ T0 := T0_a6 9 (by decide +kernel) rfl
theorem wt1210 : (Cond.selects "WrongRoom$Past" ({ cls := "WrongRoom$Past", name := "keepMark", desc := "(LWrongRoom$Now;)I" } : Jvm.MethodName) ({ cls := "WrongRoom$Past", name := "keepMark", desc := "(LWrongRoom$Now;)I" } : Jvm.MethodName)) ∈ T0 := T0_a6 10 (by decide +kernel) rfl
theorem wt1211 : (Cond.code ({ cls := "WrongRoom$Past", name := "keepMark", desc := "(LWrongRoom$Now;)I" } : Jvm.MethodName) prog_6_method_7_code (2 : Nat) (Option.some Jvm.ClassFile.FieldType.int)) ∈ T0 := T0_a6 11 (by decide +kernel) rfl
theorem wt1215 : (Cond.code ({ cls := "WrongRoom", name := "back", desc := "(I)Z" } : Jvm.MethodName) prog_1_method_51_code (2 : Nat) (Option.some Jvm.ClassFile.FieldType.boolean)) ∈ T0 := T0_a6 15 (by decide +kernel) rfl
theorem wt1216 : (Cond.methodLink "WrongRoom" (370 : Nat) ({ cls := "WrongRoom$Past", name := "goBack", desc := "(ILWrongRoom$Now;)V" } : Jvm.MethodName)) ∈ T0 := T0_a6 16 (by decide +kernel) rfl
theorem wt1217 : (Cond.instanceMethod ({ cls := "WrongRoom$Past", name := "goBack", desc := "(ILWrongRoom$Now;)V" } : Jvm.MethodName)) ∈ T0 := T0_a6 17 (by decide +kernel) rfl
theorem wt1218 : (Cond.selects "WrongRoom$Past" ({ cls := "WrongRoom$Past", name := "goBack", desc := "(ILWrongRoom$Now;)V" } : Jvm.MethodName) ({ cls := "WrongRoom$Past", name := "goBack", desc := "(ILWrongRoom$Now;)V" } : Jvm.MethodName)) ∈ T0 := T0_a6 18 (by decide +kernel) rfl
theorem wt1219 : (Cond.code ({ cls := "WrongRoom$Past", name := "goBack", desc := "(ILWrongRoom$Now;)V" } : Jvm.MethodName) prog_6_method_8_code (3 : Nat) (Option.none : Option Jvm.ClassFile.FieldType)) ∈ T0 := T0_a6 19 (by decide +kernel) rfl
theorem wt1223 : (Cond.code ({ cls := "WrongRoom", name := "size", desc := "(I)I" } : Jvm.MethodName) prog_1_method_53_code (2 : Nat) (Option.some Jvm.ClassFile.FieldType.int)) ∈ T0 := T0_a6 23 (by decide +kernel) rfl
theorem wt1224 : (Cond.methodLink "WrongRoom" (383 : Nat) ({ cls := "WrongRoom$Now", name := "knownCount", desc := "()I" } : Jvm.MethodName)) ∈ T0 := T0_a6 24 (by decide +kernel) rfl
theorem wt1225 : (Cond.instanceMethod ({ cls := "WrongRoom$Now", name := "knownCount", desc := "()I" } : Jvm.MethodName)) ∈ T0 := T0_a6 25 (by decide +kernel) rfl
theorem wt1226 : (Cond.selects "WrongRoom$Now" ({ cls := "WrongRoom$Now", name := "knownCount", desc := "()I" } : Jvm.MethodName) ({ cls := "WrongRoom$Now", name := "knownCount", desc := "()I" } : Jvm.MethodName)) ∈ T0 := T0_a6 26 (by decide +kernel) rfl
theorem wt1227 : (Cond.code ({ cls := "WrongRoom$Now", name := "knownCount", desc := "()I" } : Jvm.MethodName) prog_5_method_8_code (3 : Nat) (Option.some Jvm.ClassFile.FieldType.int)) ∈ T0 := T0_a6 27 (by decide +kernel) rfl
theorem wt1228 : (Cond.methodLink "WrongRoom" (386 : Nat) ({ cls := "WrongRoom$Houses", name := "hoursTold", desc := "()I" } : Jvm.MethodName)) ∈ T0 := T0_a6 28 (by decide +kernel) rfl
theorem wt1229 : (Cond.instanceMethod ({ cls := "WrongRoom$Houses", name := "hoursTold", desc := "()I" } : Jvm.MethodName)) ∈ T0 := T0_a6 29 (by decide +kernel) rfl
theorem wt1230 : (Cond.selects "WrongRoom$Houses" ({ cls := "WrongRoom$Houses", name := "hoursTold", desc := "()I" } : Jvm.MethodName) ({ cls := "WrongRoom$Houses", name := "hoursTold", desc := "()I" } : Jvm.MethodName)) ∈ T0 := T0_a6 30 (by decide +kernel) rfl
theorem wt1231 : (Cond.code ({ cls := "WrongRoom$Houses", name := "hoursTold", desc := "()I" } : Jvm.MethodName) prog_4_method_6_code (3 : Nat) (Option.some Jvm.ClassFile.FieldType.int)) ∈ T0 := T0_a6 31 (by decide +kernel) rfl
theorem wt1232 : (Cond.methodLink "WrongRoom" (393 : Nat) ({ cls := "WrongRoom$Now", name := "shutCount", desc := "()I" } : Jvm.MethodName)) ∈ T0 := T0_a6 32 (by decide +kernel) rfl
theorem wt1233 : (Cond.instanceMethod ({ cls := "WrongRoom$Now", name := "shutCount", desc := "()I" } : Jvm.MethodName)) ∈ T0 := T0_a6 33 (by decide +kernel) rfl
theorem wt1234 : (Cond.selects "WrongRoom$Now" ({ cls := "WrongRoom$Now", name := "shutCount", desc := "()I" } : Jvm.MethodName) ({ cls := "WrongRoom$Now", name := "shutCount", desc := "()I" } : Jvm.MethodName)) ∈ T0 := T0_a6 34 (by decide +kernel) rfl
theorem wt1235 : (Cond.code ({ cls := "WrongRoom$Now", name := "shutCount", desc := "()I" } : Jvm.MethodName) prog_5_method_16_code (1 : Nat) (Option.some Jvm.ClassFile.FieldType.int)) ∈ T0 := T0_a6 35 (by decide +kernel) rfl
theorem wt1236 : (Cond.methodLink "WrongRoom$Now" (47 : Nat) ({ cls := "java/lang/Integer", name := "bitCount", desc := "(I)I" } : Jvm.MethodName)) ∈ T0 := T0_a6 36 (by decide +kernel) rfl
theorem wt1240 : (Cond.code ({ cls := "WrongRoom", name := "trouble", desc := "()I" } : Jvm.MethodName) prog_1_method_54_code (1 : Nat) (Option.some Jvm.ClassFile.FieldType.int)) ∈ T0 := T0_a6 40 (by decide +kernel) rfl
theorem wt1248 : (Cond.code ({ cls := "WrongRoom", name := "led", desc := "(I)I" } : Jvm.MethodName) prog_1_method_52_code (4 : Nat) (Option.some Jvm.ClassFile.FieldType.int)) ∈ T0 := T0_a6 48 (by decide +kernel) rfl
theorem wt1314 : (Cond.code ({ cls := "WrongRoomModel", name := "<init>", desc := "()V" } : Jvm.MethodName) prog_14_method_1_code (1 : Nat) (Option.none : Option Jvm.ClassFile.FieldType)) ∈ T0 := T0_a6 114 (by decide +kernel) rfl
theorem wt1315 : (Cond.methodLink "WrongRoomModel" (3 : Nat) ({ cls := "java/lang/Object", name := "<init>", desc := "()V" } : Jvm.MethodName)) ∈ T0 := T0_a6 115 (by decide +kernel) rfl
theorem wt1316 : (Cond.fieldLink "WrongRoomModel" (60 : Nat) "WrongRoomModel" "thrown" "I") ∈ T0 := T0_a6 116 (by decide +kernel) rfl
theorem wt1317 : (Cond.fieldLink "WrongRoomModel" (63 : Nat) "WrongRoomModel" "trouble" "I") ∈ T0 := T0_a6 117 (by decide +kernel) rfl
theorem wt1318 : (Cond.fieldLink "WrongRoomModel" (9 : Nat) "WrongRoomModel" "where" "I") ∈ T0 := T0_a6 118 (by decide +kernel) rfl
theorem wt1319 : (Cond.fieldLink "WrongRoomModel" (346 : Nat) "WrongRoomModel" "town" "LWrongRoomModel$Town;") ∈ T0 := T0_a6 119 (by decide +kernel) rfl
theorem wt1320 : (Cond.fieldLink "WrongRoomModel" (167 : Nat) "WrongRoomModel" "read" "LWrongRoomModel$Town;") ∈ T0 := T0_a6 120 (by decide +kernel) rfl
theorem wt1321 : (Cond.fieldLink "WrongRoomModel" (13 : Nat) "WrongRoomModel" "tape" "[B") ∈ T0 := T0_a6 121 (by decide +kernel) rfl
theorem wt1322 : (Cond.fieldLink "WrongRoomModel" (339 : Nat) "WrongRoomModel" "taped" "I") ∈ T0 := T0_a6 122 (by decide +kernel) rfl
theorem wt1323 : (Cond.fieldLink "WrongRoomModel" (77 : Nat) "WrongRoomModel" "size" "I") ∈ T0 := T0_a6 123 (by decide +kernel) rfl
theorem wt1324 : (Cond.fieldLink "WrongRoomModel" (95 : Nat) "WrongRoomModel" "spot" "I") ∈ T0 := T0_a6 124 (by decide +kernel) rfl
theorem wt1325 : (Cond.fieldLink "WrongRoomModel" (92 : Nat) "WrongRoomModel" "sort" "I") ∈ T0 := T0_a6 125 (by decide +kernel) rfl
theorem wt1326 : (Cond.fieldLink "WrongRoomModel" (101 : Nat) "WrongRoomModel" "place" "I") ∈ T0 := T0_a6 126 (by decide +kernel) rfl
theorem wt1327 : (Cond.fieldLink "WrongRoomModel" (115 : Nat) "WrongRoomModel" "number" "I") ∈ T0 := T0_a6 127 (by decide +kernel) rfl
theorem wt1328 : (Cond.fieldLink "WrongRoomModel" (118 : Nat) "WrongRoomModel" "fault" "I") ∈ T0 := T0_a6 128 (by decide +kernel) rfl
theorem wt1329 : (Cond.fieldLink "WrongRoomModel" (121 : Nat) "WrongRoomModel" "wrongAt" "I") ∈ T0 := T0_a6 129 (by decide +kernel) rfl
theorem wt1330 : (Cond.fieldLink "WrongRoomModel" (108 : Nat) "WrongRoomModel" "word" "J") ∈ T0 := T0_a6 130 (by decide +kernel) rfl
theorem wt1331 : (Cond.fieldLink "WrongRoomModel" (17 : Nat) "WrongRoomModel" "v" "[I") ∈ T0 := T0_a6 131 (by decide +kernel) rfl
theorem wt1332 : (Cond.fieldLink "WrongRoomModel" (21 : Nat) "WrongRoomModel" "past" "[I") ∈ T0 := T0_a6 132 (by decide +kernel) rfl
theorem wt1333 : (Cond.fieldLink "WrongRoomModel" (24 : Nat) "WrongRoomModel" "kept" "[I") ∈ T0 := T0_a6 133 (by decide +kernel) rfl
theorem wt1334 : (Cond.fieldLink "WrongRoomModel" (351 : Nat) "WrongRoomModel" "acts" "I") ∈ T0 := T0_a6 134 (by decide +kernel) rfl
theorem wt1335 : (Cond.fieldLink "WrongRoomModel" (354 : Nat) "WrongRoomModel" "marks" "I") ∈ T0 := T0_a6 135 (by decide +kernel) rfl
theorem wt1336 : (Cond.fieldLink "WrongRoomModel" (27 : Nat) "WrongRoomModel" "x" "[I") ∈ T0 := T0_a6 136 (by decide +kernel) rfl
theorem wt1337 : (Cond.fieldLink "WrongRoomModel" (30 : Nat) "WrongRoomModel" "row" "[I") ∈ T0 := T0_a6 137 (by decide +kernel) rfl
theorem wt1338 : (Cond.fieldLink "WrongRoomModel" (33 : Nat) "WrongRoomModel" "best" "[I") ∈ T0 := T0_a6 138 (by decide +kernel) rfl
theorem wt1339 : (Cond.fieldLink "WrongRoomModel" (384 : Nat) "WrongRoomModel" "bestSize" "I") ∈ T0 := T0_a6 139 (by decide +kernel) rfl
theorem wt1340 : (Cond.fieldLink "WrongRoomModel" (387 : Nat) "WrongRoomModel" "bestTime" "I") ∈ T0 := T0_a6 140 (by decide +kernel) rfl
theorem wt1341 : (Cond.fieldLink "WrongRoomModel" (36 : Nat) "WrongRoomModel" "timeAt" "[I") ∈ T0 := T0_a6 141 (by decide +kernel) rfl
theorem wt1342 : (Cond.fieldLink "WrongRoomModel" (39 : Nat) "WrongRoomModel" "asked" "[I") ∈ T0 := T0_a6 142 (by decide +kernel) rfl
theorem wt1343 : (Cond.fieldLink "WrongRoomModel" (42 : Nat) "WrongRoomModel" "of" "[I") ∈ T0 := T0_a6 143 (by decide +kernel) rfl
theorem wt1344 : (Cond.fieldLink "WrongRoomModel" (45 : Nat) "WrongRoomModel" "firstRow" "[I") ∈ T0 := T0_a6 144 (by decide +kernel) rfl
theorem wt1345 : (Cond.fieldLink "WrongRoomModel" (48 : Nat) "WrongRoomModel" "counts" "[I") ∈ T0 := T0_a6 145 (by decide +kernel) rfl
theorem wt1346 : (Cond.fieldLink "WrongRoomModel" (412 : Nat) "WrongRoomModel" "unknown" "I") ∈ T0 := T0_a6 146 (by decide +kernel) rfl
theorem wt1347 : (Cond.fieldLink "WrongRoomModel" (415 : Nat) "WrongRoomModel" "rows" "I") ∈ T0 := T0_a6 147 (by decide +kernel) rfl
theorem wt1348 : (Cond.fieldLink "WrongRoomModel" (430 : Nat) "WrongRoomModel" "askLeft" "I") ∈ T0 := T0_a6 148 (by decide +kernel) rfl
theorem wt1349 : (Cond.fieldLink "WrongRoomModel" (51 : Nat) "WrongRoomModel" "pair" "[I") ∈ T0 := T0_a6 149 (by decide +kernel) rfl
theorem wt1350 : (Cond.fieldLink "WrongRoomModel" (54 : Nat) "WrongRoomModel" "bestPair" "[I") ∈ T0 := T0_a6 150 (by decide +kernel) rfl
theorem wt1351 : (Cond.fieldLink "WrongRoomModel" (448 : Nat) "WrongRoomModel" "bestPaired" "I") ∈ T0 := T0_a6 151 (by decide +kernel) rfl
theorem wt1352 : (Cond.fieldLink "WrongRoomModel" (460 : Nat) "WrongRoomModel" "bestMany" "I") ∈ T0 := T0_a6 152 (by decide +kernel) rfl
theorem wt1353 : (Cond.fieldLink "WrongRoomModel" (57 : Nat) "WrongRoomModel" "far" "[I") ∈ T0 := T0_a6 153 (by decide +kernel) rfl
theorem wt1354 : (Cond.fieldLink "WrongRoomModel" (493 : Nat) "WrongRoomModel" "seedNow" "I") ∈ T0 := T0_a6 154 (by decide +kernel) rfl
theorem wt1437 : (Cond.code ({ cls := "WrongRoomModel", name := "thrown", desc := "()I" } : Jvm.MethodName) prog_14_method_2_code (1 : Nat) (Option.some Jvm.ClassFile.FieldType.int)) ∈ T0 := T0_a6 237 (by decide +kernel) rfl
theorem wt1441 : (Cond.code ({ cls := "WrongRoomModel", name := "feed", desc := "(IIIII)I" } : Jvm.MethodName) prog_14_method_41_code (8 : Nat) (Option.some Jvm.ClassFile.FieldType.int)) ∈ T0 := T0_a7 1 (by decide +kernel) rfl
theorem wt1445 : (Cond.code ({ cls := "WrongRoomModel", name := "town", desc := "(I)I" } : Jvm.MethodName) prog_14_method_42_code (3 : Nat) (Option.some Jvm.ClassFile.FieldType.int)) ∈ T0 := T0_a7 5 (by decide +kernel) rfl
theorem wt1446 : (Cond.methodLink "WrongRoomModel" (66 : Nat) ({ cls := "WrongRoomModel", name := "refused", desc := "(I)I" } : Jvm.MethodName)) ∈ T0 := T0_a7 6 (by decide +kernel) rfl
theorem wt1448 : (Cond.instanceMethod ({ cls := "WrongRoomModel", name := "refused", desc := "(I)I" } : Jvm.MethodName)) ∈ T0 := T0_a7 8 (by decide +kernel) rfl
theorem wt1449 : (Cond.code ({ cls := "WrongRoomModel", name := "refused", desc := "(I)I" } : Jvm.MethodName) prog_14_method_3_code (2 : Nat) (Option.some Jvm.ClassFile.FieldType.int)) ∈ T0 := T0_a7 9 (by decide +kernel) rfl
theorem wt1450 : (Cond.classLink "WrongRoomModel" (172 : Nat) "WrongRoomModel$Town") ∈ T0 := T0_a7 10 (by decide +kernel) rfl
theorem wt1451 : (Cond.instantiable "WrongRoomModel$Town" (27 : Nat)) ∈ T0 := T0_a7 11 (by decide +kernel) rfl
theorem wt1453 : (Cond.instanceMethod ({ cls := "WrongRoomModel$Town", name := "<init>", desc := "()V" } : Jvm.MethodName)) ∈ T0 := T0_a7 13 (by decide +kernel) rfl
theorem wt1454 : (Cond.code ({ cls := "WrongRoomModel$Town", name := "<init>", desc := "()V" } : Jvm.MethodName) prog_15_method_1_code (1 : Nat) (Option.none : Option Jvm.ClassFile.FieldType)) ∈ T0 := T0_a7 14 (by decide +kernel) rfl
theorem wt1455 : (Cond.methodLink "WrongRoomModel$Town" (3 : Nat) ({ cls := "java/lang/Object", name := "<init>", desc := "()V" } : Jvm.MethodName)) ∈ T0 := T0_a7 15 (by decide +kernel) rfl
theorem wt1458 : (Cond.fieldLink "WrongRoomModel$Town" (68 : Nat) "WrongRoomModel$Town" "houses" "I") ∈ T0 := T0_a7 18 (by decide +kernel) rfl
theorem wt1464 : (Cond.fieldLink "WrongRoomModel$Town" (79 : Nat) "WrongRoomModel$Town" "signs" "I") ∈ T0 := T0_a7 24 (by decide +kernel) rfl
theorem wt1466 : (Cond.fieldLink "WrongRoomModel$Town" (82 : Nat) "WrongRoomModel$Town" "noises" "I") ∈ T0 := T0_a7 26 (by decide +kernel) rfl
theorem wt1468 : (Cond.fieldLink "WrongRoomModel$Town" (64 : Nat) "WrongRoomModel$Town" "names" "I") ∈ T0 := T0_a7 28 (by decide +kernel) rfl
theorem wt1470 : (Cond.fieldLink "WrongRoomModel$Town" (9 : Nat) "WrongRoomModel$Town" "rooms" "[I") ∈ T0 := T0_a7 30 (by decide +kernel) rfl
theorem wt1472 : (Cond.fieldLink "WrongRoomModel$Town" (15 : Nat) "WrongRoomModel$Town" "rent" "[I") ∈ T0 := T0_a7 32 (by decide +kernel) rfl
theorem wt1474 : (Cond.fieldLink "WrongRoomModel$Town" (18 : Nat) "WrongRoomModel$Town" "bill" "[I") ∈ T0 := T0_a7 34 (by decide +kernel) rfl
theorem wt1476 : (Cond.fieldLink "WrongRoomModel$Town" (21 : Nat) "WrongRoomModel$Town" "wrong" "[I") ∈ T0 := T0_a7 36 (by decide +kernel) rfl
theorem wt1478 : (Cond.fieldLink "WrongRoomModel$Town" (24 : Nat) "WrongRoomModel$Town" "opens" "[I") ∈ T0 := T0_a7 38 (by decide +kernel) rfl
theorem wt1480 : (Cond.fieldLink "WrongRoomModel$Town" (27 : Nat) "WrongRoomModel$Town" "shuts" "[I") ∈ T0 := T0_a7 40 (by decide +kernel) rfl
theorem wt1482 : (Cond.fieldLink "WrongRoomModel$Town" (30 : Nat) "WrongRoomModel$Town" "smell" "[J") ∈ T0 := T0_a7 42 (by decide +kernel) rfl
theorem wt1484 : (Cond.fieldLink "WrongRoomModel$Town" (34 : Nat) "WrongRoomModel$Town" "minutes" "[I") ∈ T0 := T0_a7 44 (by decide +kernel) rfl
theorem wt1486 : (Cond.fieldLink "WrongRoomModel$Town" (37 : Nat) "WrongRoomModel$Town" "home" "[I") ∈ T0 := T0_a7 46 (by decide +kernel) rfl
theorem wt1488 : (Cond.fieldLink "WrongRoomModel$Town" (40 : Nat) "WrongRoomModel$Town" "at" "[I") ∈ T0 := T0_a7 48 (by decide +kernel) rfl
theorem wt1490 : (Cond.fieldLink "WrongRoomModel$Town" (43 : Nat) "WrongRoomModel$Town" "signOf" "[I") ∈ T0 := T0_a7 50 (by decide +kernel) rfl
theorem wt1492 : (Cond.fieldLink "WrongRoomModel$Town" (46 : Nat) "WrongRoomModel$Town" "noiseOf" "[I") ∈ T0 := T0_a7 52 (by decide +kernel) rfl
theorem wt1494 : (Cond.fieldLink "WrongRoomModel$Town" (49 : Nat) "WrongRoomModel$Town" "noise" "[I") ∈ T0 := T0_a7 54 (by decide +kernel) rfl
theorem wt1496 : (Cond.fieldLink "WrongRoomModel$Town" (52 : Nat) "WrongRoomModel$Town" "sign" "[J") ∈ T0 := T0_a7 56 (by decide +kernel) rfl
theorem wt1498 : (Cond.fieldLink "WrongRoomModel$Town" (55 : Nat) "WrongRoomModel$Town" "name" "[J") ∈ T0 := T0_a7 58 (by decide +kernel) rfl
theorem wt1500 : (Cond.fieldLink "WrongRoomModel$Town" (58 : Nat) "WrongRoomModel$Town" "nameSort" "[I") ∈ T0 := T0_a7 60 (by decide +kernel) rfl
theorem wt1502 : (Cond.fieldLink "WrongRoomModel$Town" (61 : Nat) "WrongRoomModel$Town" "numberOf" "[I") ∈ T0 := T0_a7 62 (by decide +kernel) rfl
theorem wt1559 : (Cond.methodLink "WrongRoomModel" (128 : Nat) ({ cls := "WrongRoomModel", name := "goesOn", desc := "()V" } : Jvm.MethodName)) ∈ T0 := T0_a7 119 (by decide +kernel) rfl
theorem wt1561 : (Cond.instanceMethod ({ cls := "WrongRoomModel", name := "goesOn", desc := "()V" } : Jvm.MethodName)) ∈ T0 := T0_a7 121 (by decide +kernel) rfl
theorem wt1562 : (Cond.code ({ cls := "WrongRoomModel", name := "goesOn", desc := "()V" } : Jvm.MethodName) prog_14_method_16_code (3 : Nat) (Option.none : Option Jvm.ClassFile.FieldType)) ∈ T0 := T0_a7 122 (by decide +kernel) rfl
theorem wt1563 : (Cond.methodLink "WrongRoomModel" (98 : Nat) ({ cls := "WrongRoomModel", name := "byteAt", desc := "(I)I" } : Jvm.MethodName)) ∈ T0 := T0_a7 123 (by decide +kernel) rfl
theorem wt1565 : (Cond.instanceMethod ({ cls := "WrongRoomModel", name := "byteAt", desc := "(I)I" } : Jvm.MethodName)) ∈ T0 := T0_a7 125 (by decide +kernel) rfl
theorem wt1566 : (Cond.code ({ cls := "WrongRoomModel", name := "byteAt", desc := "(I)I" } : Jvm.MethodName) prog_14_method_12_code (2 : Nat) (Option.some Jvm.ClassFile.FieldType.int)) ∈ T0 := T0_a7 126 (by decide +kernel) rfl
theorem wt1567 : (Cond.methodLink "WrongRoomModel" (104 : Nat) ({ cls := "WrongRoomModel", name := "isLetter", desc := "(I)Z" } : Jvm.MethodName)) ∈ T0 := T0_a7 127 (by decide +kernel) rfl
theorem wt1568 : (Cond.static ({ cls := "WrongRoomModel", name := "isLetter", desc := "(I)Z" } : Jvm.MethodName)) ∈ T0 := T0_a7 128 (by decide +kernel) rfl
theorem wt1569 : (Cond.code ({ cls := "WrongRoomModel", name := "isLetter", desc := "(I)Z" } : Jvm.MethodName) prog_14_method_13_code (1 : Nat) (Option.some Jvm.ClassFile.FieldType.boolean)) ∈ T0 := T0_a7 129 (by decide +kernel) rfl
theorem wt1570 : (Cond.constantLong "WrongRoomModel" (86 : Nat) (32 : Int64)) ∈ T0 := T0_a7 130 (by decide +kernel) rfl
theorem wt1571 : (Cond.methodLink "WrongRoomModel" (112 : Nat) ({ cls := "WrongRoomModel", name := "isDigit", desc := "(I)Z" } : Jvm.MethodName)) ∈ T0 := T0_a7 131 (by decide +kernel) rfl
theorem wt1572 : (Cond.static ({ cls := "WrongRoomModel", name := "isDigit", desc := "(I)Z" } : Jvm.MethodName)) ∈ T0 := T0_a7 132 (by decide +kernel) rfl
theorem wt1573 : (Cond.code ({ cls := "WrongRoomModel", name := "isDigit", desc := "(I)Z" } : Jvm.MethodName) prog_14_method_14_code (1 : Nat) (Option.some Jvm.ClassFile.FieldType.boolean)) ∈ T0 := T0_a7 133 (by decide +kernel) rfl
theorem wt1574 : (Cond.methodLink "WrongRoomModel" (343 : Nat) ({ cls := "WrongRoomModel", name := "readAll", desc := "()V" } : Jvm.MethodName)) ∈ T0 := T0_a7 134 (by decide +kernel) rfl
theorem wt1576 : (Cond.instanceMethod ({ cls := "WrongRoomModel", name := "readAll", desc := "()V" } : Jvm.MethodName)) ∈ T0 := T0_a7 136 (by decide +kernel) rfl
theorem wt1577 : (Cond.code ({ cls := "WrongRoomModel", name := "readAll", desc := "()V" } : Jvm.MethodName) prog_14_method_31_code (2 : Nat) (Option.none : Option Jvm.ClassFile.FieldType)) ∈ T0 := T0_a7 137 (by decide +kernel) rfl
theorem wt1578 : (Cond.methodLink "WrongRoomModel" (203 : Nat) ({ cls := "WrongRoomModel", name := "readLine", desc := "()V" } : Jvm.MethodName)) ∈ T0 := T0_a7 138 (by decide +kernel) rfl
theorem wt1580 : (Cond.instanceMethod ({ cls := "WrongRoomModel", name := "readLine", desc := "()V" } : Jvm.MethodName)) ∈ T0 := T0_a7 140 (by decide +kernel) rfl
theorem wt1581 : (Cond.code ({ cls := "WrongRoomModel", name := "readLine", desc := "()V" } : Jvm.MethodName) prog_14_method_32_code (1 : Nat) (Option.none : Option Jvm.ClassFile.FieldType)) ∈ T0 := T0_a7 141 (by decide +kernel) rfl
theorem wt1583 : (Cond.methodLink "WrongRoomModel" (131 : Nat) ({ cls := "WrongRoomModel", name := "isWord", desc := "(Ljava/lang/String;)Z" } : Jvm.MethodName)) ∈ T0 := T0_a7 143 (by decide +kernel) rfl
theorem wt1585 : (Cond.instanceMethod ({ cls := "WrongRoomModel", name := "isWord", desc := "(Ljava/lang/String;)Z" } : Jvm.MethodName)) ∈ T0 := T0_a7 145 (by decide +kernel) rfl
theorem wt1586 : (Cond.code ({ cls := "WrongRoomModel", name := "isWord", desc := "(Ljava/lang/String;)Z" } : Jvm.MethodName) prog_14_method_18_code (2 : Nat) (Option.some Jvm.ClassFile.FieldType.boolean)) ∈ T0 := T0_a7 146 (by decide +kernel) rfl
theorem wt1587 : (Cond.methodLink "WrongRoomModel" (124 : Nat) ({ cls := "WrongRoomModel", name := "packed", desc := "(Ljava/lang/String;)J" } : Jvm.MethodName)) ∈ T0 := T0_a7 147 (by decide +kernel) rfl
theorem wt1588 : (Cond.static ({ cls := "WrongRoomModel", name := "packed", desc := "(Ljava/lang/String;)J" } : Jvm.MethodName)) ∈ T0 := T0_a7 148 (by decide +kernel) rfl
theorem wt1589 : (Cond.code ({ cls := "WrongRoomModel", name := "packed", desc := "(Ljava/lang/String;)J" } : Jvm.MethodName) prog_14_method_15_code (4 : Nat) (Option.some Jvm.ClassFile.FieldType.long)) ∈ T0 := T0_a7 149 (by decide +kernel) rfl
theorem wt1590 : (Cond.methodLink "WrongRoomModel" (80 : Nat) ({ cls := "java/lang/String", name := "length", desc := "()I" } : Jvm.MethodName)) ∈ T0 := T0_a7 150 (by decide +kernel) rfl
theorem wt1591 : (Cond.methodLink "WrongRoomModel" (88 : Nat) ({ cls := "java/lang/String", name := "charAt", desc := "(I)C" } : Jvm.MethodName)) ∈ T0 := T0_a7 151 (by decide +kernel) rfl
theorem wt1592 : (Cond.methodLink "WrongRoomModel" (212 : Nat) ({ cls := "WrongRoomModel", name := "readTown", desc := "()V" } : Jvm.MethodName)) ∈ T0 := T0_a7 152 (by decide +kernel) rfl
theorem wt1594 : (Cond.instanceMethod ({ cls := "WrongRoomModel", name := "readTown", desc := "()V" } : Jvm.MethodName)) ∈ T0 := T0_a7 154 (by decide +kernel) rfl
theorem wt1595 : (Cond.code ({ cls := "WrongRoomModel", name := "readTown", desc := "()V" } : Jvm.MethodName) prog_14_method_33_code (3 : Nat) (Option.none : Option Jvm.ClassFile.FieldType)) ∈ T0 := T0_a7 155 (by decide +kernel) rfl
theorem wt1596 : (Cond.methodLink "WrongRoomModel" (135 : Nat) ({ cls := "WrongRoomModel", name := "flaw", desc := "(I)V" } : Jvm.MethodName)) ∈ T0 := T0_a7 156 (by decide +kernel) rfl
theorem wt1598 : (Cond.instanceMethod ({ cls := "WrongRoomModel", name := "flaw", desc := "(I)V" } : Jvm.MethodName)) ∈ T0 := T0_a7 158 (by decide +kernel) rfl
theorem wt1599 : (Cond.code ({ cls := "WrongRoomModel", name := "flaw", desc := "(I)V" } : Jvm.MethodName) prog_14_method_17_code (2 : Nat) (Option.none : Option Jvm.ClassFile.FieldType)) ∈ T0 := T0_a7 159 (by decide +kernel) rfl
theorem wt1601 : (Cond.methodLink "WrongRoomModel" (237 : Nat) ({ cls := "WrongRoomModel", name := "readPart", desc := "(Ljava/lang/String;II)I" } : Jvm.MethodName)) ∈ T0 := T0_a7 161 (by decide +kernel) rfl
theorem wt1603 : (Cond.instanceMethod ({ cls := "WrongRoomModel", name := "readPart", desc := "(Ljava/lang/String;II)I" } : Jvm.MethodName)) ∈ T0 := T0_a7 163 (by decide +kernel) rfl
theorem wt1604 : (Cond.code ({ cls := "WrongRoomModel", name := "readPart", desc := "(Ljava/lang/String;II)I" } : Jvm.MethodName) prog_14_method_22_code (4 : Nat) (Option.some Jvm.ClassFile.FieldType.int)) ∈ T0 := T0_a7 164 (by decide +kernel) rfl
theorem wt1605 : (Cond.methodLink "WrongRoomModel" (143 : Nat) ({ cls := "WrongRoomModel", name := "needs", desc := "(Ljava/lang/String;)V" } : Jvm.MethodName)) ∈ T0 := T0_a7 165 (by decide +kernel) rfl
theorem wt1607 : (Cond.instanceMethod ({ cls := "WrongRoomModel", name := "needs", desc := "(Ljava/lang/String;)V" } : Jvm.MethodName)) ∈ T0 := T0_a7 167 (by decide +kernel) rfl
theorem wt1608 : (Cond.code ({ cls := "WrongRoomModel", name := "needs", desc := "(Ljava/lang/String;)V" } : Jvm.MethodName) prog_14_method_20_code (2 : Nat) (Option.none : Option Jvm.ClassFile.FieldType)) ∈ T0 := T0_a7 168 (by decide +kernel) rfl
theorem wt1609 : (Cond.methodLink "WrongRoomModel" (147 : Nat) ({ cls := "WrongRoomModel", name := "readWhole", desc := "(II)I" } : Jvm.MethodName)) ∈ T0 := T0_a7 169 (by decide +kernel) rfl
theorem wt1611 : (Cond.instanceMethod ({ cls := "WrongRoomModel", name := "readWhole", desc := "(II)I" } : Jvm.MethodName)) ∈ T0 := T0_a7 171 (by decide +kernel) rfl
theorem wt1612 : (Cond.code ({ cls := "WrongRoomModel", name := "readWhole", desc := "(II)I" } : Jvm.MethodName) prog_14_method_21_code (4 : Nat) (Option.some Jvm.ClassFile.FieldType.int)) ∈ T0 := T0_a7 172 (by decide +kernel) rfl
theorem wt1613 : (Cond.methodLink "WrongRoomModel" (139 : Nat) ({ cls := "WrongRoomModel", name := "in", desc := "(III)Z" } : Jvm.MethodName)) ∈ T0 := T0_a7 173 (by decide +kernel) rfl
theorem wt1614 : (Cond.static ({ cls := "WrongRoomModel", name := "in", desc := "(III)Z" } : Jvm.MethodName)) ∈ T0 := T0_a7 174 (by decide +kernel) rfl
theorem wt1615 : (Cond.code ({ cls := "WrongRoomModel", name := "in", desc := "(III)Z" } : Jvm.MethodName) prog_14_method_7_code (3 : Nat) (Option.some Jvm.ClassFile.FieldType.boolean)) ∈ T0 := T0_a7 175 (by decide +kernel) rfl
theorem wt1618 : (Cond.methodLink "WrongRoomModel" (215 : Nat) ({ cls := "WrongRoomModel", name := "readHouseLine", desc := "()V" } : Jvm.MethodName)) ∈ T0 := T0_a7 178 (by decide +kernel) rfl
theorem wt1620 : (Cond.instanceMethod ({ cls := "WrongRoomModel", name := "readHouseLine", desc := "()V" } : Jvm.MethodName)) ∈ T0 := T0_a7 180 (by decide +kernel) rfl
theorem wt1621 : (Cond.code ({ cls := "WrongRoomModel", name := "readHouseLine", desc := "()V" } : Jvm.MethodName) prog_14_method_34_code (9 : Nat) (Option.none : Option Jvm.ClassFile.FieldType)) ∈ T0 := T0_a7 181 (by decide +kernel) rfl
theorem wt1622 : (Cond.methodLink "WrongRoomModel" (245 : Nat) ({ cls := "WrongRoomModel", name := "lineBegins", desc := "(II)V" } : Jvm.MethodName)) ∈ T0 := T0_a7 182 (by decide +kernel) rfl
theorem wt1624 : (Cond.instanceMethod ({ cls := "WrongRoomModel", name := "lineBegins", desc := "(II)V" } : Jvm.MethodName)) ∈ T0 := T0_a7 184 (by decide +kernel) rfl
theorem wt1625 : (Cond.code ({ cls := "WrongRoomModel", name := "lineBegins", desc := "(II)V" } : Jvm.MethodName) prog_14_method_25_code (3 : Nat) (Option.none : Option Jvm.ClassFile.FieldType)) ∈ T0 := T0_a7 185 (by decide +kernel) rfl
theorem wt1626 : (Cond.methodLink "WrongRoomModel" (249 : Nat) ({ cls := "WrongRoomModel", name := "readFresh", desc := "()J" } : Jvm.MethodName)) ∈ T0 := T0_a7 186 (by decide +kernel) rfl
theorem wt1628 : (Cond.instanceMethod ({ cls := "WrongRoomModel", name := "readFresh", desc := "()J" } : Jvm.MethodName)) ∈ T0 := T0_a7 188 (by decide +kernel) rfl
theorem wt1629 : (Cond.code ({ cls := "WrongRoomModel", name := "readFresh", desc := "()J" } : Jvm.MethodName) prog_14_method_26_code (3 : Nat) (Option.some Jvm.ClassFile.FieldType.long)) ∈ T0 := T0_a7 189 (by decide +kernel) rfl
theorem wt1630 : (Cond.methodLink "WrongRoomModel" (176 : Nat) ({ cls := "WrongRoomModel", name := "isName", desc := "()Z" } : Jvm.MethodName)) ∈ T0 := T0_a7 190 (by decide +kernel) rfl
theorem wt1632 : (Cond.instanceMethod ({ cls := "WrongRoomModel", name := "isName", desc := "()Z" } : Jvm.MethodName)) ∈ T0 := T0_a7 192 (by decide +kernel) rfl
theorem wt1633 : (Cond.code ({ cls := "WrongRoomModel", name := "isName", desc := "()Z" } : Jvm.MethodName) prog_14_method_24_code (1 : Nat) (Option.some Jvm.ClassFile.FieldType.boolean)) ∈ T0 := T0_a7 193 (by decide +kernel) rfl
theorem wt1640 : (Cond.methodLink "WrongRoomModel" (180 : Nat) ({ cls := "WrongRoomModel$Town", name := "find", desc := "(J)I" } : Jvm.MethodName)) ∈ T0 := T0_a7 200 (by decide +kernel) rfl
theorem wt1641 : (Cond.instanceMethod ({ cls := "WrongRoomModel$Town", name := "find", desc := "(J)I" } : Jvm.MethodName)) ∈ T0 := T0_a7 201 (by decide +kernel) rfl
theorem wt1642 : (Cond.selects "WrongRoomModel$Town" ({ cls := "WrongRoomModel$Town", name := "find", desc := "(J)I" } : Jvm.MethodName) ({ cls := "WrongRoomModel$Town", name := "find", desc := "(J)I" } : Jvm.MethodName)) ∈ T0 := T0_a7 202 (by decide +kernel) rfl
theorem wt1643 : (Cond.code ({ cls := "WrongRoomModel$Town", name := "find", desc := "(J)I" } : Jvm.MethodName) prog_15_method_2_code (4 : Nat) (Option.some Jvm.ClassFile.FieldType.int)) ∈ T0 := T0_a7 203 (by decide +kernel) rfl
theorem wt1648 : (Cond.methodLink "WrongRoomModel" (261 : Nat) ({ cls := "WrongRoomModel", name := "readWord", desc := "()J" } : Jvm.MethodName)) ∈ T0 := T0_a7 208 (by decide +kernel) rfl
theorem wt1650 : (Cond.instanceMethod ({ cls := "WrongRoomModel", name := "readWord", desc := "()J" } : Jvm.MethodName)) ∈ T0 := T0_a7 210 (by decide +kernel) rfl
theorem wt1651 : (Cond.code ({ cls := "WrongRoomModel", name := "readWord", desc := "()J" } : Jvm.MethodName) prog_14_method_23_code (3 : Nat) (Option.some Jvm.ClassFile.FieldType.long)) ∈ T0 := T0_a7 211 (by decide +kernel) rfl
theorem wt1652 : (Cond.methodLink "WrongRoomModel" (264 : Nat) ({ cls := "WrongRoomModel", name := "names", desc := "(JII)V" } : Jvm.MethodName)) ∈ T0 := T0_a7 212 (by decide +kernel) rfl
theorem wt1654 : (Cond.instanceMethod ({ cls := "WrongRoomModel", name := "names", desc := "(JII)V" } : Jvm.MethodName)) ∈ T0 := T0_a7 214 (by decide +kernel) rfl
theorem wt1655 : (Cond.code ({ cls := "WrongRoomModel", name := "names", desc := "(JII)V" } : Jvm.MethodName) prog_14_method_27_code (5 : Nat) (Option.none : Option Jvm.ClassFile.FieldType)) ∈ T0 := T0_a7 215 (by decide +kernel) rfl
theorem wt1656 : (Cond.methodLink "WrongRoomModel" (218 : Nat) ({ cls := "WrongRoomModel", name := "readWrong", desc := "()V" } : Jvm.MethodName)) ∈ T0 := T0_a7 216 (by decide +kernel) rfl
theorem wt1658 : (Cond.instanceMethod ({ cls := "WrongRoomModel", name := "readWrong", desc := "()V" } : Jvm.MethodName)) ∈ T0 := T0_a7 218 (by decide +kernel) rfl
theorem wt1659 : (Cond.code ({ cls := "WrongRoomModel", name := "readWrong", desc := "()V" } : Jvm.MethodName) prog_14_method_35_code (3 : Nat) (Option.none : Option Jvm.ClassFile.FieldType)) ∈ T0 := T0_a7 219 (by decide +kernel) rfl
theorem wt1660 : (Cond.methodLink "WrongRoomModel" (197 : Nat) ({ cls := "WrongRoomModel", name := "knownHouse", desc := "()I" } : Jvm.MethodName)) ∈ T0 := T0_a7 220 (by decide +kernel) rfl
theorem wt1662 : (Cond.instanceMethod ({ cls := "WrongRoomModel", name := "knownHouse", desc := "()I" } : Jvm.MethodName)) ∈ T0 := T0_a7 222 (by decide +kernel) rfl
theorem wt1663 : (Cond.code ({ cls := "WrongRoomModel", name := "knownHouse", desc := "()I" } : Jvm.MethodName) prog_14_method_28_code (2 : Nat) (Option.some Jvm.ClassFile.FieldType.int)) ∈ T0 := T0_a7 223 (by decide +kernel) rfl
theorem wt1665 : (Cond.methodLink "WrongRoomModel" (282 : Nat) ({ cls := "WrongRoomModel$Town", name := "isOf", desc := "(I)Z" } : Jvm.MethodName)) ∈ T0 := T0_a7 225 (by decide +kernel) rfl
theorem wt1666 : (Cond.instanceMethod ({ cls := "WrongRoomModel$Town", name := "isOf", desc := "(I)Z" } : Jvm.MethodName)) ∈ T0 := T0_a7 226 (by decide +kernel) rfl
theorem wt1667 : (Cond.selects "WrongRoomModel$Town" ({ cls := "WrongRoomModel$Town", name := "isOf", desc := "(I)Z" } : Jvm.MethodName) ({ cls := "WrongRoomModel$Town", name := "isOf", desc := "(I)Z" } : Jvm.MethodName)) ∈ T0 := T0_a7 227 (by decide +kernel) rfl
theorem wt1668 : (Cond.code ({ cls := "WrongRoomModel$Town", name := "isOf", desc := "(I)Z" } : Jvm.MethodName) prog_15_method_3_code (3 : Nat) (Option.some Jvm.ClassFile.FieldType.boolean)) ∈ T0 := T0_a7 228 (by decide +kernel) rfl
theorem wt1669 : (Cond.methodLink "WrongRoomModel" (221 : Nat) ({ cls := "WrongRoomModel", name := "readOpen", desc := "()V" } : Jvm.MethodName)) ∈ T0 := T0_a7 229 (by decide +kernel) rfl
theorem wt1671 : (Cond.instanceMethod ({ cls := "WrongRoomModel", name := "readOpen", desc := "()V" } : Jvm.MethodName)) ∈ T0 := T0_a7 231 (by decide +kernel) rfl
theorem wt1672 : (Cond.code ({ cls := "WrongRoomModel", name := "readOpen", desc := "()V" } : Jvm.MethodName) prog_14_method_36_code (4 : Nat) (Option.none : Option Jvm.ClassFile.FieldType)) ∈ T0 := T0_a7 232 (by decide +kernel) rfl
theorem wt1673 : (Cond.methodLink "WrongRoomModel" (288 : Nat) ({ cls := "WrongRoomModel$Town", name := "isTimed", desc := "(I)Z" } : Jvm.MethodName)) ∈ T0 := T0_a7 233 (by decide +kernel) rfl
theorem wt1674 : (Cond.instanceMethod ({ cls := "WrongRoomModel$Town", name := "isTimed", desc := "(I)Z" } : Jvm.MethodName)) ∈ T0 := T0_a7 234 (by decide +kernel) rfl
theorem wt1675 : (Cond.selects "WrongRoomModel$Town" ({ cls := "WrongRoomModel$Town", name := "isTimed", desc := "(I)Z" } : Jvm.MethodName) ({ cls := "WrongRoomModel$Town", name := "isTimed", desc := "(I)Z" } : Jvm.MethodName)) ∈ T0 := T0_a7 235 (by decide +kernel) rfl
theorem wt1676 : (Cond.code ({ cls := "WrongRoomModel$Town", name := "isTimed", desc := "(I)Z" } : Jvm.MethodName) prog_15_method_4_code (2 : Nat) (Option.some Jvm.ClassFile.FieldType.boolean)) ∈ T0 := T0_a7 236 (by decide +kernel) rfl
theorem wt1679 : (Cond.methodLink "WrongRoomModel" (224 : Nat) ({ cls := "WrongRoomModel", name := "readStreet", desc := "()V" } : Jvm.MethodName)) ∈ T0 := T0_a7 239 (by decide +kernel) rfl
theorem wt1681 : (Cond.instanceMethod ({ cls := "WrongRoomModel", name := "readStreet", desc := "()V" } : Jvm.MethodName)) ∈ T0 := T0_a8 1 (by decide +kernel) rfl
theorem wt1682 : (Cond.code ({ cls := "WrongRoomModel", name := "readStreet", desc := "()V" } : Jvm.MethodName) prog_14_method_37_code (4 : Nat) (Option.none : Option Jvm.ClassFile.FieldType)) ∈ T0 := T0_a8 2 (by decide +kernel) rfl
theorem wt1683 : (Cond.methodLink "WrongRoomModel" (200 : Nat) ({ cls := "WrongRoomModel", name := "readHouse", desc := "()I" } : Jvm.MethodName)) ∈ T0 := T0_a8 3 (by decide +kernel) rfl
theorem wt1685 : (Cond.instanceMethod ({ cls := "WrongRoomModel", name := "readHouse", desc := "()I" } : Jvm.MethodName)) ∈ T0 := T0_a8 5 (by decide +kernel) rfl
theorem wt1686 : (Cond.code ({ cls := "WrongRoomModel", name := "readHouse", desc := "()I" } : Jvm.MethodName) prog_14_method_29_code (2 : Nat) (Option.some Jvm.ClassFile.FieldType.int)) ∈ T0 := T0_a8 6 (by decide +kernel) rfl
theorem wt1688 : (Cond.methodLink "WrongRoomModel" (227 : Nat) ({ cls := "WrongRoomModel", name := "readPerson", desc := "()V" } : Jvm.MethodName)) ∈ T0 := T0_a8 8 (by decide +kernel) rfl
theorem wt1690 : (Cond.instanceMethod ({ cls := "WrongRoomModel", name := "readPerson", desc := "()V" } : Jvm.MethodName)) ∈ T0 := T0_a8 10 (by decide +kernel) rfl
theorem wt1691 : (Cond.code ({ cls := "WrongRoomModel", name := "readPerson", desc := "()V" } : Jvm.MethodName) prog_14_method_38_code (5 : Nat) (Option.none : Option Jvm.ClassFile.FieldType)) ∈ T0 := T0_a8 11 (by decide +kernel) rfl
theorem wt1693 : (Cond.methodLink "WrongRoomModel" (313 : Nat) ({ cls := "WrongRoomModel", name := "readPartHouse", desc := "(Ljava/lang/String;)I" } : Jvm.MethodName)) ∈ T0 := T0_a8 13 (by decide +kernel) rfl
theorem wt1695 : (Cond.instanceMethod ({ cls := "WrongRoomModel", name := "readPartHouse", desc := "(Ljava/lang/String;)I" } : Jvm.MethodName)) ∈ T0 := T0_a8 15 (by decide +kernel) rfl
theorem wt1696 : (Cond.code ({ cls := "WrongRoomModel", name := "readPartHouse", desc := "(Ljava/lang/String;)I" } : Jvm.MethodName) prog_14_method_30_code (2 : Nat) (Option.some Jvm.ClassFile.FieldType.int)) ∈ T0 := T0_a8 16 (by decide +kernel) rfl
theorem wt1698 : (Cond.methodLink "WrongRoomModel" (230 : Nat) ({ cls := "WrongRoomModel", name := "readSign", desc := "()V" } : Jvm.MethodName)) ∈ T0 := T0_a8 18 (by decide +kernel) rfl
theorem wt1700 : (Cond.instanceMethod ({ cls := "WrongRoomModel", name := "readSign", desc := "()V" } : Jvm.MethodName)) ∈ T0 := T0_a8 20 (by decide +kernel) rfl
theorem wt1701 : (Cond.code ({ cls := "WrongRoomModel", name := "readSign", desc := "()V" } : Jvm.MethodName) prog_14_method_39_code (4 : Nat) (Option.none : Option Jvm.ClassFile.FieldType)) ∈ T0 := T0_a8 21 (by decide +kernel) rfl
theorem wt1702 : (Cond.methodLink "WrongRoomModel" (233 : Nat) ({ cls := "WrongRoomModel", name := "readNoise", desc := "()V" } : Jvm.MethodName)) ∈ T0 := T0_a8 22 (by decide +kernel) rfl
theorem wt1704 : (Cond.instanceMethod ({ cls := "WrongRoomModel", name := "readNoise", desc := "()V" } : Jvm.MethodName)) ∈ T0 := T0_a8 24 (by decide +kernel) rfl
theorem wt1705 : (Cond.code ({ cls := "WrongRoomModel", name := "readNoise", desc := "()V" } : Jvm.MethodName) prog_14_method_40_code (3 : Nat) (Option.none : Option Jvm.ClassFile.FieldType)) ∈ T0 := T0_a8 25 (by decide +kernel) rfl
theorem wt1706 : (Cond.methodLink "WrongRoomModel" (206 : Nat) ({ cls := "WrongRoomModel", name := "eatsSemicolon", desc := "()Z" } : Jvm.MethodName)) ∈ T0 := T0_a8 26 (by decide +kernel) rfl
theorem wt1708 : (Cond.instanceMethod ({ cls := "WrongRoomModel", name := "eatsSemicolon", desc := "()Z" } : Jvm.MethodName)) ∈ T0 := T0_a8 28 (by decide +kernel) rfl
theorem wt1709 : (Cond.code ({ cls := "WrongRoomModel", name := "eatsSemicolon", desc := "()Z" } : Jvm.MethodName) prog_14_method_19_code (2 : Nat) (Option.some Jvm.ClassFile.FieldType.boolean)) ∈ T0 := T0_a8 29 (by decide +kernel) rfl
theorem wt1710 : (Cond.methodLink "WrongRoomModel" (348 : Nat) ({ cls := "WrongRoomModel", name := "laysStreets", desc := "()V" } : Jvm.MethodName)) ∈ T0 := T0_a8 30 (by decide +kernel) rfl
theorem wt1712 : (Cond.instanceMethod ({ cls := "WrongRoomModel", name := "laysStreets", desc := "()V" } : Jvm.MethodName)) ∈ T0 := T0_a8 32 (by decide +kernel) rfl
theorem wt1713 : (Cond.code ({ cls := "WrongRoomModel", name := "laysStreets", desc := "()V" } : Jvm.MethodName) prog_14_method_94_code (6 : Nat) (Option.none : Option Jvm.ClassFile.FieldType)) ∈ T0 := T0_a8 33 (by decide +kernel) rfl
theorem wt1714 : (Cond.constant "WrongRoomModel" (383 : Nat) (99999 : Int32)) ∈ T0 := T0_a8 34 (by decide +kernel) rfl
theorem wt1715 : (Cond.methodLink "WrongRoomModel" (70 : Nat) ({ cls := "WrongRoomModel", name := "good", desc := "(I)I" } : Jvm.MethodName)) ∈ T0 := T0_a8 35 (by decide +kernel) rfl
theorem wt1717 : (Cond.instanceMethod ({ cls := "WrongRoomModel", name := "good", desc := "(I)I" } : Jvm.MethodName)) ∈ T0 := T0_a8 37 (by decide +kernel) rfl
theorem wt1718 : (Cond.code ({ cls := "WrongRoomModel", name := "good", desc := "(I)I" } : Jvm.MethodName) prog_14_method_5_code (2 : Nat) (Option.some Jvm.ClassFile.FieldType.int)) ∈ T0 := T0_a8 38 (by decide +kernel) rfl
theorem wt1722 : (Cond.code ({ cls := "WrongRoomModel", name := "fault", desc := "()I" } : Jvm.MethodName) prog_14_method_43_code (1 : Nat) (Option.some Jvm.ClassFile.FieldType.int)) ∈ T0 := T0_a8 42 (by decide +kernel) rfl
theorem wt1726 : (Cond.code ({ cls := "WrongRoomModel", name := "where", desc := "()I" } : Jvm.MethodName) prog_14_method_44_code (1 : Nat) (Option.some Jvm.ClassFile.FieldType.int)) ∈ T0 := T0_a8 46 (by decide +kernel) rfl
theorem wt1730 : (Cond.code ({ cls := "WrongRoomModel", name := "house", desc := "(II)I" } : Jvm.MethodName) prog_14_method_52_code (3 : Nat) (Option.some Jvm.ClassFile.FieldType.int)) ∈ T0 := T0_a8 50 (by decide +kernel) rfl
theorem wt1731 : (Cond.methodLink "WrongRoomModel" (364 : Nat) ({ cls := "WrongRoomModel", name := "isHouse", desc := "(I)Z" } : Jvm.MethodName)) ∈ T0 := T0_a8 51 (by decide +kernel) rfl
theorem wt1733 : (Cond.instanceMethod ({ cls := "WrongRoomModel", name := "isHouse", desc := "(I)Z" } : Jvm.MethodName)) ∈ T0 := T0_a8 53 (by decide +kernel) rfl
theorem wt1734 : (Cond.code ({ cls := "WrongRoomModel", name := "isHouse", desc := "(I)Z" } : Jvm.MethodName) prog_14_method_45_code (2 : Nat) (Option.some Jvm.ClassFile.FieldType.boolean)) ∈ T0 := T0_a8 54 (by decide +kernel) rfl
theorem wt1735 : (Cond.methodLink "WrongRoomModel" (367 : Nat) ({ cls := "WrongRoomModel", name := "whose", desc := "(I)I" } : Jvm.MethodName)) ∈ T0 := T0_a8 55 (by decide +kernel) rfl
theorem wt1737 : (Cond.instanceMethod ({ cls := "WrongRoomModel", name := "whose", desc := "(I)I" } : Jvm.MethodName)) ∈ T0 := T0_a8 57 (by decide +kernel) rfl
theorem wt1738 : (Cond.code ({ cls := "WrongRoomModel", name := "whose", desc := "(I)I" } : Jvm.MethodName) prog_14_method_53_code (3 : Nat) (Option.some Jvm.ClassFile.FieldType.int)) ∈ T0 := T0_a8 58 (by decide +kernel) rfl
theorem wt1739 : (Cond.methodLink "WrongRoomModel" (357 : Nat) ({ cls := "WrongRoomModel", name := "bit", desc := "(II)Z" } : Jvm.MethodName)) ∈ T0 := T0_a8 59 (by decide +kernel) rfl
theorem wt1740 : (Cond.static ({ cls := "WrongRoomModel", name := "bit", desc := "(II)Z" } : Jvm.MethodName)) ∈ T0 := T0_a8 60 (by decide +kernel) rfl
theorem wt1741 : (Cond.code ({ cls := "WrongRoomModel", name := "bit", desc := "(II)Z" } : Jvm.MethodName) prog_14_method_8_code (2 : Nat) (Option.some Jvm.ClassFile.FieldType.boolean)) ∈ T0 := T0_a8 61 (by decide +kernel) rfl
theorem wt1745 : (Cond.code ({ cls := "WrongRoomModel", name := "open", desc := "(II)I" } : Jvm.MethodName) prog_14_method_54_code (3 : Nat) (Option.some Jvm.ClassFile.FieldType.int)) ∈ T0 := T0_a8 65 (by decide +kernel) rfl
theorem wt1746 : (Cond.methodLink "WrongRoomModel" (370 : Nat) ({ cls := "WrongRoomModel", name := "isOpenAt", desc := "(II)Z" } : Jvm.MethodName)) ∈ T0 := T0_a8 66 (by decide +kernel) rfl
theorem wt1748 : (Cond.instanceMethod ({ cls := "WrongRoomModel", name := "isOpenAt", desc := "(II)Z" } : Jvm.MethodName)) ∈ T0 := T0_a8 68 (by decide +kernel) rfl
theorem wt1749 : (Cond.code ({ cls := "WrongRoomModel", name := "isOpenAt", desc := "(II)Z" } : Jvm.MethodName) prog_14_method_51_code (3 : Nat) (Option.some Jvm.ClassFile.FieldType.boolean)) ∈ T0 := T0_a8 69 (by decide +kernel) rfl
theorem wt1750 : (Cond.methodLink "WrongRoomModel" (361 : Nat) ({ cls := "WrongRoomModel$Town", name := "isHour", desc := "(II)Z" } : Jvm.MethodName)) ∈ T0 := T0_a8 70 (by decide +kernel) rfl
theorem wt1751 : (Cond.instanceMethod ({ cls := "WrongRoomModel$Town", name := "isHour", desc := "(II)Z" } : Jvm.MethodName)) ∈ T0 := T0_a8 71 (by decide +kernel) rfl
theorem wt1752 : (Cond.selects "WrongRoomModel$Town" ({ cls := "WrongRoomModel$Town", name := "isHour", desc := "(II)Z" } : Jvm.MethodName) ({ cls := "WrongRoomModel$Town", name := "isHour", desc := "(II)Z" } : Jvm.MethodName)) ∈ T0 := T0_a8 72 (by decide +kernel) rfl
theorem wt1753 : (Cond.code ({ cls := "WrongRoomModel$Town", name := "isHour", desc := "(II)Z" } : Jvm.MethodName) prog_15_method_5_code (3 : Nat) (Option.some Jvm.ClassFile.FieldType.boolean)) ∈ T0 := T0_a8 73 (by decide +kernel) rfl
theorem wt1754 : (Cond.methodLink "WrongRoomModel$Town" (71 : Nat) ({ cls := "WrongRoomModel$Town", name := "isTimed", desc := "(I)Z" } : Jvm.MethodName)) ∈ T0 := T0_a8 74 (by decide +kernel) rfl
theorem wt1759 : (Cond.code ({ cls := "WrongRoomModel", name := "street", desc := "(II)I" } : Jvm.MethodName) prog_14_method_55_code (3 : Nat) (Option.some Jvm.ClassFile.FieldType.int)) ∈ T0 := T0_a8 79 (by decide +kernel) rfl
theorem wt1763 : (Cond.code ({ cls := "WrongRoomModel", name := "person", desc := "(II)I" } : Jvm.MethodName) prog_14_method_56_code (3 : Nat) (Option.some Jvm.ClassFile.FieldType.int)) ∈ T0 := T0_a8 83 (by decide +kernel) rfl
theorem wt1764 : (Cond.methodLink "WrongRoomModel" (373 : Nat) ({ cls := "WrongRoomModel", name := "isPerson", desc := "(I)Z" } : Jvm.MethodName)) ∈ T0 := T0_a8 84 (by decide +kernel) rfl
theorem wt1766 : (Cond.instanceMethod ({ cls := "WrongRoomModel", name := "isPerson", desc := "(I)Z" } : Jvm.MethodName)) ∈ T0 := T0_a8 86 (by decide +kernel) rfl
theorem wt1767 : (Cond.code ({ cls := "WrongRoomModel", name := "isPerson", desc := "(I)Z" } : Jvm.MethodName) prog_14_method_46_code (2 : Nat) (Option.some Jvm.ClassFile.FieldType.boolean)) ∈ T0 := T0_a8 87 (by decide +kernel) rfl
theorem wt1771 : (Cond.code ({ cls := "WrongRoomModel", name := "candle", desc := "(I)I" } : Jvm.MethodName) prog_14_method_57_code (4 : Nat) (Option.some Jvm.ClassFile.FieldType.int)) ∈ T0 := T0_a8 91 (by decide +kernel) rfl
theorem wt1775 : (Cond.code ({ cls := "WrongRoomModel", name := "candleAt", desc := "(II)I" } : Jvm.MethodName) prog_14_method_58_code (5 : Nat) (Option.some Jvm.ClassFile.FieldType.int)) ∈ T0 := T0_a8 95 (by decide +kernel) rfl
theorem wt1779 : (Cond.code ({ cls := "WrongRoomModel", name := "mutual", desc := "()I" } : Jvm.MethodName) prog_14_method_59_code (1 : Nat) (Option.some Jvm.ClassFile.FieldType.int)) ∈ T0 := T0_a8 99 (by decide +kernel) rfl
theorem wt1780 : (Cond.methodLink "WrongRoomModel" (376 : Nat) ({ cls := "WrongRoomModel", name := "tries", desc := "()V" } : Jvm.MethodName)) ∈ T0 := T0_a8 100 (by decide +kernel) rfl
theorem wt1782 : (Cond.instanceMethod ({ cls := "WrongRoomModel", name := "tries", desc := "()V" } : Jvm.MethodName)) ∈ T0 := T0_a8 102 (by decide +kernel) rfl
theorem wt1783 : (Cond.code ({ cls := "WrongRoomModel", name := "tries", desc := "()V" } : Jvm.MethodName) prog_14_method_47_code (2 : Nat) (Option.none : Option Jvm.ClassFile.FieldType)) ∈ T0 := T0_a8 103 (by decide +kernel) rfl
theorem wt1784 : (Cond.methodLink "WrongRoomModel" (379 : Nat) ({ cls := "WrongRoomModel", name := "pairedIn", desc := "([I)I" } : Jvm.MethodName)) ∈ T0 := T0_a8 104 (by decide +kernel) rfl
theorem wt1785 : (Cond.static ({ cls := "WrongRoomModel", name := "pairedIn", desc := "([I)I" } : Jvm.MethodName)) ∈ T0 := T0_a8 105 (by decide +kernel) rfl
theorem wt1786 : (Cond.code ({ cls := "WrongRoomModel", name := "pairedIn", desc := "([I)I" } : Jvm.MethodName) prog_14_method_48_code (3 : Nat) (Option.some Jvm.ClassFile.FieldType.int)) ∈ T0 := T0_a8 106 (by decide +kernel) rfl
theorem wt1790 : (Cond.code ({ cls := "WrongRoomModel", name := "judge", desc := "()I" } : Jvm.MethodName) prog_14_method_60_code (3 : Nat) (Option.some Jvm.ClassFile.FieldType.int)) ∈ T0 := T0_a8 110 (by decide +kernel) rfl
theorem wt1794 : (Cond.code ({ cls := "WrongRoomModel", name := "way", desc := "(III)I" } : Jvm.MethodName) prog_14_method_67_code (5 : Nat) (Option.some Jvm.ClassFile.FieldType.int)) ∈ T0 := T0_a8 114 (by decide +kernel) rfl
theorem wt1795 : (Cond.methodLink "WrongRoomModel" (405 : Nat) ({ cls := "WrongRoomModel", name := "refusesWay", desc := "(ZI)I" } : Jvm.MethodName)) ∈ T0 := T0_a8 115 (by decide +kernel) rfl
theorem wt1797 : (Cond.instanceMethod ({ cls := "WrongRoomModel", name := "refusesWay", desc := "(ZI)I" } : Jvm.MethodName)) ∈ T0 := T0_a8 117 (by decide +kernel) rfl
theorem wt1798 : (Cond.code ({ cls := "WrongRoomModel", name := "refusesWay", desc := "(ZI)I" } : Jvm.MethodName) prog_14_method_66_code (3 : Nat) (Option.some Jvm.ClassFile.FieldType.int)) ∈ T0 := T0_a8 118 (by decide +kernel) rfl
theorem wt1799 : (Cond.methodLink "WrongRoomModel" (409 : Nat) ({ cls := "WrongRoomModel", name := "soonest", desc := "(IIIZ)I" } : Jvm.MethodName)) ∈ T0 := T0_a8 119 (by decide +kernel) rfl
theorem wt1801 : (Cond.instanceMethod ({ cls := "WrongRoomModel", name := "soonest", desc := "(IIIZ)I" } : Jvm.MethodName)) ∈ T0 := T0_a8 121 (by decide +kernel) rfl
theorem wt1802 : (Cond.code ({ cls := "WrongRoomModel", name := "soonest", desc := "(IIIZ)I" } : Jvm.MethodName) prog_14_method_65_code (5 : Nat) (Option.some Jvm.ClassFile.FieldType.int)) ∈ T0 := T0_a8 122 (by decide +kernel) rfl
theorem wt1803 : (Cond.methodLink "WrongRoomModel" (401 : Nat) ({ cls := "WrongRoomModel", name := "ways", desc := "(IIIZ)V" } : Jvm.MethodName)) ∈ T0 := T0_a8 123 (by decide +kernel) rfl
theorem wt1805 : (Cond.instanceMethod ({ cls := "WrongRoomModel", name := "ways", desc := "(IIIZ)V" } : Jvm.MethodName)) ∈ T0 := T0_a8 125 (by decide +kernel) rfl
theorem wt1806 : (Cond.code ({ cls := "WrongRoomModel", name := "ways", desc := "(IIIZ)V" } : Jvm.MethodName) prog_14_method_62_code (7 : Nat) (Option.none : Option Jvm.ClassFile.FieldType)) ∈ T0 := T0_a8 126 (by decide +kernel) rfl
theorem wt1807 : (Cond.methodLink "WrongRoomModel" (390 : Nat) ({ cls := "WrongRoomModel", name := "ends", desc := "(I)V" } : Jvm.MethodName)) ∈ T0 := T0_a8 127 (by decide +kernel) rfl
theorem wt1809 : (Cond.instanceMethod ({ cls := "WrongRoomModel", name := "ends", desc := "(I)V" } : Jvm.MethodName)) ∈ T0 := T0_a8 129 (by decide +kernel) rfl
theorem wt1810 : (Cond.code ({ cls := "WrongRoomModel", name := "ends", desc := "(I)V" } : Jvm.MethodName) prog_14_method_64_code (3 : Nat) (Option.none : Option Jvm.ClassFile.FieldType)) ∈ T0 := T0_a8 130 (by decide +kernel) rfl
theorem wt1811 : (Cond.methodLink "WrongRoomModel" (393 : Nat) ({ cls := "WrongRoomModel", name := "canStep", desc := "(IZ)Z" } : Jvm.MethodName)) ∈ T0 := T0_a8 131 (by decide +kernel) rfl
theorem wt1813 : (Cond.instanceMethod ({ cls := "WrongRoomModel", name := "canStep", desc := "(IZ)Z" } : Jvm.MethodName)) ∈ T0 := T0_a8 133 (by decide +kernel) rfl
theorem wt1814 : (Cond.code ({ cls := "WrongRoomModel", name := "canStep", desc := "(IZ)Z" } : Jvm.MethodName) prog_14_method_63_code (3 : Nat) (Option.some Jvm.ClassFile.FieldType.boolean)) ∈ T0 := T0_a8 134 (by decide +kernel) rfl
theorem wt1815 : (Cond.methodLink "WrongRoomModel" (397 : Nat) ({ cls := "WrongRoomModel", name := "steps", desc := "(IIIZ)I" } : Jvm.MethodName)) ∈ T0 := T0_a8 135 (by decide +kernel) rfl
theorem wt1817 : (Cond.instanceMethod ({ cls := "WrongRoomModel", name := "steps", desc := "(IIIZ)I" } : Jvm.MethodName)) ∈ T0 := T0_a8 137 (by decide +kernel) rfl
theorem wt1818 : (Cond.code ({ cls := "WrongRoomModel", name := "steps", desc := "(IIIZ)I" } : Jvm.MethodName) prog_14_method_61_code (7 : Nat) (Option.some Jvm.ClassFile.FieldType.int)) ∈ T0 := T0_a8 138 (by decide +kernel) rfl
theorem wt1822 : (Cond.code ({ cls := "WrongRoomModel", name := "wayAt", desc := "(IIII)I" } : Jvm.MethodName) prog_14_method_68_code (6 : Nat) (Option.some Jvm.ClassFile.FieldType.int)) ∈ T0 := T0_a8 142 (by decide +kernel) rfl
theorem wt1826 : (Cond.code ({ cls := "WrongRoomModel", name := "saves", desc := "(III)I" } : Jvm.MethodName) prog_14_method_69_code (6 : Nat) (Option.some Jvm.ClassFile.FieldType.int)) ∈ T0 := T0_a8 146 (by decide +kernel) rfl
theorem wt1830 : (Cond.code ({ cls := "WrongRoomModel", name := "farthest", desc := "(II)I" } : Jvm.MethodName) prog_14_method_70_code (8 : Nat) (Option.some Jvm.ClassFile.FieldType.int)) ∈ T0 := T0_a8 150 (by decide +kernel) rfl
theorem wt1834 : (Cond.code ({ cls := "WrongRoomModel", name := "homeIn", desc := "(I)I" } : Jvm.MethodName) prog_14_method_71_code (2 : Nat) (Option.some Jvm.ClassFile.FieldType.int)) ∈ T0 := T0_a8 154 (by decide +kernel) rfl
theorem wt1838 : (Cond.code ({ cls := "WrongRoomModel", name := "fits", desc := "()I" } : Jvm.MethodName) prog_14_method_75_code (1 : Nat) (Option.some Jvm.ClassFile.FieldType.int)) ∈ T0 := T0_a8 158 (by decide +kernel) rfl
theorem wt1839 : (Cond.methodLink "WrongRoomModel" (427 : Nat) ({ cls := "WrongRoomModel", name := "fitting", desc := "()V" } : Jvm.MethodName)) ∈ T0 := T0_a8 159 (by decide +kernel) rfl
theorem wt1841 : (Cond.instanceMethod ({ cls := "WrongRoomModel", name := "fitting", desc := "()V" } : Jvm.MethodName)) ∈ T0 := T0_a8 161 (by decide +kernel) rfl
theorem wt1842 : (Cond.code ({ cls := "WrongRoomModel", name := "fitting", desc := "()V" } : Jvm.MethodName) prog_14_method_72_code (3 : Nat) (Option.none : Option Jvm.ClassFile.FieldType)) ∈ T0 := T0_a8 162 (by decide +kernel) rfl
theorem wt1843 : (Cond.methodLink "WrongRoomModel" (418 : Nat) ({ cls := "WrongRoomModel", name := "countsRow", desc := "()V" } : Jvm.MethodName)) ∈ T0 := T0_a8 163 (by decide +kernel) rfl
theorem wt1845 : (Cond.instanceMethod ({ cls := "WrongRoomModel", name := "countsRow", desc := "()V" } : Jvm.MethodName)) ∈ T0 := T0_a8 165 (by decide +kernel) rfl
theorem wt1846 : (Cond.code ({ cls := "WrongRoomModel", name := "countsRow", desc := "()V" } : Jvm.MethodName) prog_14_method_74_code (2 : Nat) (Option.none : Option Jvm.ClassFile.FieldType)) ∈ T0 := T0_a8 166 (by decide +kernel) rfl
theorem wt1847 : (Cond.methodLink "WrongRoomModel" (421 : Nat) ({ cls := "WrongRoomModel", name := "isFitting", desc := "(I)Z" } : Jvm.MethodName)) ∈ T0 := T0_a8 167 (by decide +kernel) rfl
theorem wt1849 : (Cond.instanceMethod ({ cls := "WrongRoomModel", name := "isFitting", desc := "(I)Z" } : Jvm.MethodName)) ∈ T0 := T0_a8 169 (by decide +kernel) rfl
theorem wt1850 : (Cond.code ({ cls := "WrongRoomModel", name := "isFitting", desc := "(I)Z" } : Jvm.MethodName) prog_14_method_73_code (3 : Nat) (Option.some Jvm.ClassFile.FieldType.boolean)) ∈ T0 := T0_a8 170 (by decide +kernel) rfl
theorem wt1851 : (Cond.methodLink "WrongRoomModel" (424 : Nat) ({ cls := "WrongRoomModel$Town", name := "mayBe", desc := "(II)Z" } : Jvm.MethodName)) ∈ T0 := T0_a8 171 (by decide +kernel) rfl
theorem wt1852 : (Cond.instanceMethod ({ cls := "WrongRoomModel$Town", name := "mayBe", desc := "(II)Z" } : Jvm.MethodName)) ∈ T0 := T0_a8 172 (by decide +kernel) rfl
theorem wt1853 : (Cond.selects "WrongRoomModel$Town" ({ cls := "WrongRoomModel$Town", name := "mayBe", desc := "(II)Z" } : Jvm.MethodName) ({ cls := "WrongRoomModel$Town", name := "mayBe", desc := "(II)Z" } : Jvm.MethodName)) ∈ T0 := T0_a8 173 (by decide +kernel) rfl
theorem wt1854 : (Cond.code ({ cls := "WrongRoomModel$Town", name := "mayBe", desc := "(II)Z" } : Jvm.MethodName) prog_15_method_6_code (4 : Nat) (Option.some Jvm.ClassFile.FieldType.boolean)) ∈ T0 := T0_a8 174 (by decide +kernel) rfl
theorem wt1858 : (Cond.code ({ cls := "WrongRoomModel", name := "could", desc := "(I)I" } : Jvm.MethodName) prog_14_method_76_code (4 : Nat) (Option.some Jvm.ClassFile.FieldType.int)) ∈ T0 := T0_a8 178 (by decide +kernel) rfl
theorem wt1862 : (Cond.code ({ cls := "WrongRoomModel", name := "surely", desc := "(I)I" } : Jvm.MethodName) prog_14_method_77_code (3 : Nat) (Option.some Jvm.ClassFile.FieldType.int)) ∈ T0 := T0_a8 182 (by decide +kernel) rfl
theorem wt1866 : (Cond.code ({ cls := "WrongRoomModel", name := "firstOf", desc := "(I)I" } : Jvm.MethodName) prog_14_method_78_code (2 : Nat) (Option.some Jvm.ClassFile.FieldType.int)) ∈ T0 := T0_a8 186 (by decide +kernel) rfl
theorem wt1870 : (Cond.code ({ cls := "WrongRoomModel", name := "ask", desc := "()I" } : Jvm.MethodName) prog_14_method_80_code (1 : Nat) (Option.some Jvm.ClassFile.FieldType.int)) ∈ T0 := T0_a8 190 (by decide +kernel) rfl
theorem wt1871 : (Cond.methodLink "WrongRoomModel" (433 : Nat) ({ cls := "WrongRoomModel", name := "asks", desc := "()I" } : Jvm.MethodName)) ∈ T0 := T0_a8 191 (by decide +kernel) rfl
theorem wt1873 : (Cond.instanceMethod ({ cls := "WrongRoomModel", name := "asks", desc := "()I" } : Jvm.MethodName)) ∈ T0 := T0_a8 193 (by decide +kernel) rfl
theorem wt1874 : (Cond.code ({ cls := "WrongRoomModel", name := "asks", desc := "()I" } : Jvm.MethodName) prog_14_method_79_code (5 : Nat) (Option.some Jvm.ClassFile.FieldType.int)) ∈ T0 := T0_a8 194 (by decide +kernel) rfl
theorem wt1878 : (Cond.code ({ cls := "WrongRoomModel", name := "askLeaves", desc := "()I" } : Jvm.MethodName) prog_14_method_81_code (1 : Nat) (Option.some Jvm.ClassFile.FieldType.int)) ∈ T0 := T0_a8 198 (by decide +kernel) rfl
theorem wt1882 : (Cond.code ({ cls := "WrongRoomModel", name := "owes", desc := "(IZ)J" } : Jvm.MethodName) prog_14_method_84_code (3 : Nat) (Option.some Jvm.ClassFile.FieldType.long)) ∈ T0 := T0_a8 202 (by decide +kernel) rfl
theorem wt1883 : (Cond.methodLink "WrongRoomModel" (436 : Nat) ({ cls := "WrongRoomModel", name := "owedBy", desc := "(I)I" } : Jvm.MethodName)) ∈ T0 := T0_a8 203 (by decide +kernel) rfl
theorem wt1885 : (Cond.instanceMethod ({ cls := "WrongRoomModel", name := "owedBy", desc := "(I)I" } : Jvm.MethodName)) ∈ T0 := T0_a8 205 (by decide +kernel) rfl
theorem wt1886 : (Cond.code ({ cls := "WrongRoomModel", name := "owedBy", desc := "(I)I" } : Jvm.MethodName) prog_14_method_82_code (3 : Nat) (Option.some Jvm.ClassFile.FieldType.int)) ∈ T0 := T0_a8 206 (by decide +kernel) rfl
theorem wt1887 : (Cond.methodLink "WrongRoomModel" (439 : Nat) ({ cls := "WrongRoomModel", name := "partsBy", desc := "(I)I" } : Jvm.MethodName)) ∈ T0 := T0_a8 207 (by decide +kernel) rfl
theorem wt1889 : (Cond.instanceMethod ({ cls := "WrongRoomModel", name := "partsBy", desc := "(I)I" } : Jvm.MethodName)) ∈ T0 := T0_a8 209 (by decide +kernel) rfl
theorem wt1890 : (Cond.code ({ cls := "WrongRoomModel", name := "partsBy", desc := "(I)I" } : Jvm.MethodName) prog_14_method_83_code (3 : Nat) (Option.some Jvm.ClassFile.FieldType.int)) ∈ T0 := T0_a8 210 (by decide +kernel) rfl
theorem wt1891 : (Cond.methodLink "WrongRoomModel" (442 : Nat) ({ cls := "WrongRoomModel", name := "fraction", desc := "(JJZ)J" } : Jvm.MethodName)) ∈ T0 := T0_a8 211 (by decide +kernel) rfl
theorem wt1893 : (Cond.instanceMethod ({ cls := "WrongRoomModel", name := "fraction", desc := "(JJZ)J" } : Jvm.MethodName)) ∈ T0 := T0_a8 213 (by decide +kernel) rfl
theorem wt1894 : (Cond.code ({ cls := "WrongRoomModel", name := "fraction", desc := "(JJZ)J" } : Jvm.MethodName) prog_14_method_11_code (6 : Nat) (Option.some Jvm.ClassFile.FieldType.long)) ∈ T0 := T0_a8 214 (by decide +kernel) rfl
theorem wt1895 : (Cond.methodLink "WrongRoomModel" (73 : Nat) ({ cls := "WrongRoomModel", name := "common", desc := "(JJ)J" } : Jvm.MethodName)) ∈ T0 := T0_a8 215 (by decide +kernel) rfl
theorem wt1896 : (Cond.static ({ cls := "WrongRoomModel", name := "common", desc := "(JJ)J" } : Jvm.MethodName)) ∈ T0 := T0_a8 216 (by decide +kernel) rfl
theorem wt1897 : (Cond.code ({ cls := "WrongRoomModel", name := "common", desc := "(JJ)J" } : Jvm.MethodName) prog_14_method_10_code (10 : Nat) (Option.some Jvm.ClassFile.FieldType.long)) ∈ T0 := T0_a8 217 (by decide +kernel) rfl
theorem wt1901 : (Cond.code ({ cls := "WrongRoomModel", name := "net", desc := "(IZ)J" } : Jvm.MethodName) prog_14_method_85_code (7 : Nat) (Option.some Jvm.ClassFile.FieldType.long)) ∈ T0 := T0_a8 221 (by decide +kernel) rfl
theorem wt1902 : (Cond.constantLong "WrongRoomModel" (446 : Nat) (-9223372036854775808 : Int64)) ∈ T0 := T0_a8 222 (by decide +kernel) rfl
theorem wt1906 : (Cond.code ({ cls := "WrongRoomModel", name := "debtor", desc := "()I" } : Jvm.MethodName) prog_14_method_86_code (3 : Nat) (Option.some Jvm.ClassFile.FieldType.int)) ∈ T0 := T0_a8 226 (by decide +kernel) rfl
theorem wt1910 : (Cond.code ({ cls := "WrongRoomModel", name := "paired", desc := "()I" } : Jvm.MethodName) prog_14_method_91_code (1 : Nat) (Option.some Jvm.ClassFile.FieldType.int)) ∈ T0 := T0_a8 230 (by decide +kernel) rfl
theorem wt1911 : (Cond.methodLink "WrongRoomModel" (474 : Nat) ({ cls := "WrongRoomModel", name := "seeks", desc := "()V" } : Jvm.MethodName)) ∈ T0 := T0_a8 231 (by decide +kernel) rfl
theorem wt1913 : (Cond.instanceMethod ({ cls := "WrongRoomModel", name := "seeks", desc := "()V" } : Jvm.MethodName)) ∈ T0 := T0_a8 233 (by decide +kernel) rfl
theorem wt1914 : (Cond.code ({ cls := "WrongRoomModel", name := "seeks", desc := "()V" } : Jvm.MethodName) prog_14_method_87_code (2 : Nat) (Option.none : Option Jvm.ClassFile.FieldType)) ∈ T0 := T0_a8 234 (by decide +kernel) rfl
theorem wt1915 : (Cond.methodLink "WrongRoomModel" (451 : Nat) ({ cls := "WrongRoomModel", name := "seeksOf", desc := "(I)V" } : Jvm.MethodName)) ∈ T0 := T0_a8 235 (by decide +kernel) rfl
theorem wt1917 : (Cond.instanceMethod ({ cls := "WrongRoomModel", name := "seeksOf", desc := "(I)V" } : Jvm.MethodName)) ∈ T0 := T0_a8 237 (by decide +kernel) rfl
theorem wt1918 : (Cond.code ({ cls := "WrongRoomModel", name := "seeksOf", desc := "(I)V" } : Jvm.MethodName) prog_14_method_88_code (4 : Nat) (Option.none : Option Jvm.ClassFile.FieldType)) ∈ T0 := T0_a8 238 (by decide +kernel) rfl
theorem wt1919 : (Cond.methodLink "WrongRoomModel" (454 : Nat) ({ cls := "WrongRoomModel", name := "areDone", desc := "(I)Z" } : Jvm.MethodName)) ∈ T0 := T0_a8 239 (by decide +kernel) rfl
theorem wt1921 : (Cond.instanceMethod ({ cls := "WrongRoomModel", name := "areDone", desc := "(I)Z" } : Jvm.MethodName)) ∈ T0 := T0_a9 1 (by decide +kernel) rfl
theorem wt1922 : (Cond.code ({ cls := "WrongRoomModel", name := "areDone", desc := "(I)Z" } : Jvm.MethodName) prog_14_method_89_code (5 : Nat) (Option.some Jvm.ClassFile.FieldType.boolean)) ∈ T0 := T0_a9 2 (by decide +kernel) rfl
theorem wt1923 : (Cond.methodLink "WrongRoomModel" (466 : Nat) ({ cls := "WrongRoomModel", name := "canExchange", desc := "([III)Z" } : Jvm.MethodName)) ∈ T0 := T0_a9 3 (by decide +kernel) rfl
theorem wt1924 : (Cond.static ({ cls := "WrongRoomModel", name := "canExchange", desc := "([III)Z" } : Jvm.MethodName)) ∈ T0 := T0_a9 4 (by decide +kernel) rfl
theorem wt1925 : (Cond.code ({ cls := "WrongRoomModel", name := "canExchange", desc := "([III)Z" } : Jvm.MethodName) prog_14_method_49_code (3 : Nat) (Option.some Jvm.ClassFile.FieldType.boolean)) ∈ T0 := T0_a9 5 (by decide +kernel) rfl
theorem wt1926 : (Cond.methodLink "WrongRoomModel" (470 : Nat) ({ cls := "WrongRoomModel", name := "exchanges", desc := "([III)V" } : Jvm.MethodName)) ∈ T0 := T0_a9 6 (by decide +kernel) rfl
theorem wt1927 : (Cond.static ({ cls := "WrongRoomModel", name := "exchanges", desc := "([III)V" } : Jvm.MethodName)) ∈ T0 := T0_a9 7 (by decide +kernel) rfl
theorem wt1928 : (Cond.code ({ cls := "WrongRoomModel", name := "exchanges", desc := "([III)V" } : Jvm.MethodName) prog_14_method_50_code (4 : Nat) (Option.none : Option Jvm.ClassFile.FieldType)) ∈ T0 := T0_a9 8 (by decide +kernel) rfl
theorem wt1929 : (Cond.methodLink "WrongRoomModel" (457 : Nat) ({ cls := "WrongRoomModel", name := "bits", desc := "(I)I" } : Jvm.MethodName)) ∈ T0 := T0_a9 9 (by decide +kernel) rfl
theorem wt1930 : (Cond.static ({ cls := "WrongRoomModel", name := "bits", desc := "(I)I" } : Jvm.MethodName)) ∈ T0 := T0_a9 10 (by decide +kernel) rfl
theorem wt1931 : (Cond.code ({ cls := "WrongRoomModel", name := "bits", desc := "(I)I" } : Jvm.MethodName) prog_14_method_9_code (3 : Nat) (Option.some Jvm.ClassFile.FieldType.int)) ∈ T0 := T0_a9 11 (by decide +kernel) rfl
theorem wt1932 : (Cond.methodLink "WrongRoomModel" (463 : Nat) ({ cls := "WrongRoomModel", name := "nextPairs", desc := "(I)Z" } : Jvm.MethodName)) ∈ T0 := T0_a9 12 (by decide +kernel) rfl
theorem wt1934 : (Cond.instanceMethod ({ cls := "WrongRoomModel", name := "nextPairs", desc := "(I)Z" } : Jvm.MethodName)) ∈ T0 := T0_a9 14 (by decide +kernel) rfl
theorem wt1935 : (Cond.code ({ cls := "WrongRoomModel", name := "nextPairs", desc := "(I)Z" } : Jvm.MethodName) prog_14_method_90_code (3 : Nat) (Option.some Jvm.ClassFile.FieldType.boolean)) ∈ T0 := T0_a9 15 (by decide +kernel) rfl
theorem wt1939 : (Cond.code ({ cls := "WrongRoomModel", name := "fewest", desc := "()I" } : Jvm.MethodName) prog_14_method_92_code (1 : Nat) (Option.some Jvm.ClassFile.FieldType.int)) ∈ T0 := T0_a9 19 (by decide +kernel) rfl
theorem wt1943 : (Cond.code ({ cls := "WrongRoomModel", name := "exchangeAt", desc := "(I)I" } : Jvm.MethodName) prog_14_method_93_code (2 : Nat) (Option.some Jvm.ClassFile.FieldType.int)) ∈ T0 := T0_a9 23 (by decide +kernel) rfl
theorem wt1947 : (Cond.code ({ cls := "WrongRoomModel", name := "stands", desc := "(I)I" } : Jvm.MethodName) prog_14_method_96_code (4 : Nat) (Option.some Jvm.ClassFile.FieldType.int)) ∈ T0 := T0_a9 27 (by decide +kernel) rfl
theorem wt1948 : (Cond.methodLink "WrongRoomModel" (477 : Nat) ({ cls := "WrongRoomModel", name := "isStand", desc := "(II)Z" } : Jvm.MethodName)) ∈ T0 := T0_a9 28 (by decide +kernel) rfl
theorem wt1950 : (Cond.instanceMethod ({ cls := "WrongRoomModel", name := "isStand", desc := "(II)Z" } : Jvm.MethodName)) ∈ T0 := T0_a9 30 (by decide +kernel) rfl
theorem wt1951 : (Cond.code ({ cls := "WrongRoomModel", name := "isStand", desc := "(II)Z" } : Jvm.MethodName) prog_14_method_95_code (6 : Nat) (Option.some Jvm.ClassFile.FieldType.boolean)) ∈ T0 := T0_a9 31 (by decide +kernel) rfl
theorem wt1955 : (Cond.code ({ cls := "WrongRoomModel", name := "gain", desc := "(IIIIZ)I" } : Jvm.MethodName) prog_14_method_99_code (6 : Nat) (Option.some Jvm.ClassFile.FieldType.int)) ∈ T0 := T0_a9 35 (by decide +kernel) rfl
theorem wt1956 : (Cond.methodLink "WrongRoomModel" (483 : Nat) ({ cls := "WrongRoomModel", name := "tenants", desc := "(IIII)I" } : Jvm.MethodName)) ∈ T0 := T0_a9 36 (by decide +kernel) rfl
theorem wt1958 : (Cond.instanceMethod ({ cls := "WrongRoomModel", name := "tenants", desc := "(IIII)I" } : Jvm.MethodName)) ∈ T0 := T0_a9 38 (by decide +kernel) rfl
theorem wt1959 : (Cond.code ({ cls := "WrongRoomModel", name := "tenants", desc := "(IIII)I" } : Jvm.MethodName) prog_14_method_98_code (7 : Nat) (Option.some Jvm.ClassFile.FieldType.int)) ∈ T0 := T0_a9 39 (by decide +kernel) rfl
theorem wt1960 : (Cond.methodLink "WrongRoomModel" (480 : Nat) ({ cls := "WrongRoomModel", name := "worthOf", desc := "(II)I" } : Jvm.MethodName)) ∈ T0 := T0_a9 40 (by decide +kernel) rfl
theorem wt1962 : (Cond.instanceMethod ({ cls := "WrongRoomModel", name := "worthOf", desc := "(II)I" } : Jvm.MethodName)) ∈ T0 := T0_a9 42 (by decide +kernel) rfl
theorem wt1963 : (Cond.code ({ cls := "WrongRoomModel", name := "worthOf", desc := "(II)I" } : Jvm.MethodName) prog_14_method_97_code (3 : Nat) (Option.some Jvm.ClassFile.FieldType.int)) ∈ T0 := T0_a9 43 (by decide +kernel) rfl
theorem wt1967 : (Cond.code ({ cls := "WrongRoomModel", name := "rests", desc := "(II)I" } : Jvm.MethodName) prog_14_method_101_code (5 : Nat) (Option.some Jvm.ClassFile.FieldType.int)) ∈ T0 := T0_a9 47 (by decide +kernel) rfl
theorem wt1968 : (Cond.methodLink "WrongRoomModel" (487 : Nat) ({ cls := "WrongRoomModel", name := "isRest", desc := "(IIII)Z" } : Jvm.MethodName)) ∈ T0 := T0_a9 48 (by decide +kernel) rfl
theorem wt1970 : (Cond.instanceMethod ({ cls := "WrongRoomModel", name := "isRest", desc := "(IIII)Z" } : Jvm.MethodName)) ∈ T0 := T0_a9 50 (by decide +kernel) rfl
theorem wt1971 : (Cond.code ({ cls := "WrongRoomModel", name := "isRest", desc := "(IIII)Z" } : Jvm.MethodName) prog_14_method_100_code (8 : Nat) (Option.some Jvm.ClassFile.FieldType.boolean)) ∈ T0 := T0_a9 51 (by decide +kernel) rfl
theorem wt1975 : (Cond.code ({ cls := "WrongRoomModel", name := "rest", desc := "(II)I" } : Jvm.MethodName) prog_14_method_102_code (4 : Nat) (Option.some Jvm.ClassFile.FieldType.int)) ∈ T0 := T0_a9 55 (by decide +kernel) rfl
theorem wt1979 : (Cond.code ({ cls := "WrongRoomModel", name := "builders", desc := "(II)I" } : Jvm.MethodName) prog_14_method_105_code (4 : Nat) (Option.some Jvm.ClassFile.FieldType.int)) ∈ T0 := T0_a9 59 (by decide +kernel) rfl
theorem wt1980 : (Cond.methodLink "WrongRoomModel" (504 : Nat) ({ cls := "WrongRoomModel", name := "builds", desc := "(ZII)I" } : Jvm.MethodName)) ∈ T0 := T0_a9 60 (by decide +kernel) rfl
theorem wt1982 : (Cond.instanceMethod ({ cls := "WrongRoomModel", name := "builds", desc := "(ZII)I" } : Jvm.MethodName)) ∈ T0 := T0_a9 62 (by decide +kernel) rfl
theorem wt1983 : (Cond.code ({ cls := "WrongRoomModel", name := "builds", desc := "(ZII)I" } : Jvm.MethodName) prog_14_method_104_code (7 : Nat) (Option.some Jvm.ClassFile.FieldType.int)) ∈ T0 := T0_a9 63 (by decide +kernel) rfl
theorem wt1984 : (Cond.constant "WrongRoomModel" (500 : Nat) (65536 : Int32)) ∈ T0 := T0_a9 64 (by decide +kernel) rfl
theorem wt1985 : (Cond.methodLink "WrongRoomModel" (501 : Nat) ({ cls := "WrongRoomModel", name := "drawn", desc := "()I" } : Jvm.MethodName)) ∈ T0 := T0_a9 65 (by decide +kernel) rfl
theorem wt1987 : (Cond.instanceMethod ({ cls := "WrongRoomModel", name := "drawn", desc := "()I" } : Jvm.MethodName)) ∈ T0 := T0_a9 67 (by decide +kernel) rfl
theorem wt1988 : (Cond.code ({ cls := "WrongRoomModel", name := "drawn", desc := "()I" } : Jvm.MethodName) prog_14_method_103_code (1 : Nat) (Option.some Jvm.ClassFile.FieldType.int)) ∈ T0 := T0_a9 68 (by decide +kernel) rfl
theorem wt1989 : (Cond.constantLong "WrongRoomModel" (491 : Nat) (75 : Int64)) ∈ T0 := T0_a9 69 (by decide +kernel) rfl
theorem wt1990 : (Cond.constantLong "WrongRoomModel" (496 : Nat) (74 : Int64)) ∈ T0 := T0_a9 70 (by decide +kernel) rfl
theorem wt1991 : (Cond.constantLong "WrongRoomModel" (498 : Nat) (65537 : Int64)) ∈ T0 := T0_a9 71 (by decide +kernel) rfl
theorem wt1995 : (Cond.code ({ cls := "WrongRoomModel", name := "builtOf", desc := "(III)I" } : Jvm.MethodName) prog_14_method_106_code (5 : Nat) (Option.some Jvm.ClassFile.FieldType.int)) ∈ T0 := T0_a9 75 (by decide +kernel) rfl
theorem wt1999 : (Cond.code ({ cls := "WrongRoomModel", name := "exchange", desc := "(II)Z" } : Jvm.MethodName) prog_14_method_108_code (3 : Nat) (Option.some Jvm.ClassFile.FieldType.boolean)) ∈ T0 := T0_a9 79 (by decide +kernel) rfl
theorem wt2000 : (Cond.methodLink "WrongRoomModel" (508 : Nat) ({ cls := "WrongRoomModel", name := "denied", desc := "(I)Z" } : Jvm.MethodName)) ∈ T0 := T0_a9 80 (by decide +kernel) rfl
theorem wt2002 : (Cond.instanceMethod ({ cls := "WrongRoomModel", name := "denied", desc := "(I)Z" } : Jvm.MethodName)) ∈ T0 := T0_a9 82 (by decide +kernel) rfl
theorem wt2003 : (Cond.code ({ cls := "WrongRoomModel", name := "denied", desc := "(I)Z" } : Jvm.MethodName) prog_14_method_4_code (2 : Nat) (Option.some Jvm.ClassFile.FieldType.boolean)) ∈ T0 := T0_a9 83 (by decide +kernel) rfl
theorem wt2004 : (Cond.methodLink "WrongRoomModel" (511 : Nat) ({ cls := "WrongRoomModel", name := "remembers", desc := "()V" } : Jvm.MethodName)) ∈ T0 := T0_a9 84 (by decide +kernel) rfl
theorem wt2006 : (Cond.instanceMethod ({ cls := "WrongRoomModel", name := "remembers", desc := "()V" } : Jvm.MethodName)) ∈ T0 := T0_a9 86 (by decide +kernel) rfl
theorem wt2007 : (Cond.code ({ cls := "WrongRoomModel", name := "remembers", desc := "()V" } : Jvm.MethodName) prog_14_method_107_code (2 : Nat) (Option.none : Option Jvm.ClassFile.FieldType)) ∈ T0 := T0_a9 87 (by decide +kernel) rfl
theorem wt2008 : (Cond.methodLink "WrongRoomModel" (514 : Nat) ({ cls := "WrongRoomModel", name := "granted", desc := "()Z" } : Jvm.MethodName)) ∈ T0 := T0_a9 88 (by decide +kernel) rfl
theorem wt2010 : (Cond.instanceMethod ({ cls := "WrongRoomModel", name := "granted", desc := "()Z" } : Jvm.MethodName)) ∈ T0 := T0_a9 90 (by decide +kernel) rfl
theorem wt2011 : (Cond.code ({ cls := "WrongRoomModel", name := "granted", desc := "()Z" } : Jvm.MethodName) prog_14_method_6_code (1 : Nat) (Option.some Jvm.ClassFile.FieldType.boolean)) ∈ T0 := T0_a9 91 (by decide +kernel) rfl
theorem wt2015 : (Cond.code ({ cls := "WrongRoomModel", name := "shut", desc := "(IZ)Z" } : Jvm.MethodName) prog_14_method_109_code (3 : Nat) (Option.some Jvm.ClassFile.FieldType.boolean)) ∈ T0 := T0_a9 95 (by decide +kernel) rfl
theorem wt2019 : (Cond.code ({ cls := "WrongRoomModel", name := "go", desc := "(II)I" } : Jvm.MethodName) prog_14_method_110_code (5 : Nat) (Option.some Jvm.ClassFile.FieldType.int)) ∈ T0 := T0_a9 99 (by decide +kernel) rfl
theorem wt2023 : (Cond.code ({ cls := "WrongRoomModel", name := "waits", desc := "(II)I" } : Jvm.MethodName) prog_14_method_111_code (3 : Nat) (Option.some Jvm.ClassFile.FieldType.int)) ∈ T0 := T0_a9 103 (by decide +kernel) rfl
theorem wt2027 : (Cond.code ({ cls := "WrongRoomModel", name := "undo", desc := "()Z" } : Jvm.MethodName) prog_14_method_112_code (2 : Nat) (Option.some Jvm.ClassFile.FieldType.boolean)) ∈ T0 := T0_a9 107 (by decide +kernel) rfl
theorem wt2031 : (Cond.code ({ cls := "WrongRoomModel", name := "mark", desc := "()I" } : Jvm.MethodName) prog_14_method_113_code (2 : Nat) (Option.some Jvm.ClassFile.FieldType.int)) ∈ T0 := T0_a9 111 (by decide +kernel) rfl
theorem wt2035 : (Cond.code ({ cls := "WrongRoomModel", name := "back", desc := "(I)Z" } : Jvm.MethodName) prog_14_method_114_code (3 : Nat) (Option.some Jvm.ClassFile.FieldType.boolean)) ∈ T0 := T0_a9 115 (by decide +kernel) rfl
theorem wt2039 : (Cond.code ({ cls := "WrongRoomModel", name := "led", desc := "(I)I" } : Jvm.MethodName) prog_14_method_115_code (4 : Nat) (Option.some Jvm.ClassFile.FieldType.int)) ∈ T0 := T0_a9 119 (by decide +kernel) rfl
theorem wt2043 : (Cond.code ({ cls := "WrongRoomModel", name := "size", desc := "(I)I" } : Jvm.MethodName) prog_14_method_117_code (2 : Nat) (Option.some Jvm.ClassFile.FieldType.int)) ∈ T0 := T0_a9 123 (by decide +kernel) rfl
theorem wt2044 : (Cond.methodLink "WrongRoomModel" (517 : Nat) ({ cls := "WrongRoomModel", name := "known", desc := "()I" } : Jvm.MethodName)) ∈ T0 := T0_a9 124 (by decide +kernel) rfl
theorem wt2046 : (Cond.instanceMethod ({ cls := "WrongRoomModel", name := "known", desc := "()I" } : Jvm.MethodName)) ∈ T0 := T0_a9 126 (by decide +kernel) rfl
theorem wt2047 : (Cond.code ({ cls := "WrongRoomModel", name := "known", desc := "()I" } : Jvm.MethodName) prog_14_method_116_code (3 : Nat) (Option.some Jvm.ClassFile.FieldType.int)) ∈ T0 := T0_a9 127 (by decide +kernel) rfl
theorem wt2051 : (Cond.code ({ cls := "WrongRoomModel", name := "trouble", desc := "()I" } : Jvm.MethodName) prog_14_method_118_code (1 : Nat) (Option.some Jvm.ClassFile.FieldType.int)) ∈ T0 := T0_a9 131 (by decide +kernel) rfl
theorem wsel0 : Cond.selects "WrongRoom" ⟨"WrongRoom", "refuse", "(I)I"⟩ ⟨"WrongRoom", "refuse", "(I)I"⟩ ∈ T0 := T0_sel 0 (by decide +kernel) (by decide +kernel)
theorem wsel1 : Cond.selects "WrongRoom$Reader" ⟨"WrongRoom$Reader", "fail", "(I)Z"⟩ ⟨"WrongRoom$Reader", "fail", "(I)Z"⟩ ∈ T0 := T0_sel 1 (by decide +kernel) (by decide +kernel)
theorem wsel2 : Cond.selects "WrongRoom$Reader" ⟨"WrongRoom$Reader", "readLine", "()Z"⟩ ⟨"WrongRoom$Reader", "readLine", "()Z"⟩ ∈ T0 := T0_sel 2 (by decide +kernel) (by decide +kernel)
theorem wsel3 : Cond.selects "WrongRoom$Reader" ⟨"WrongRoom$Reader", "anyWord", "()Z"⟩ ⟨"WrongRoom$Reader", "anyWord", "()Z"⟩ ∈ T0 := T0_sel 3 (by decide +kernel) (by decide +kernel)
theorem wsel4 : Cond.selects "WrongRoom$Reader" ⟨"WrongRoom$Reader", "advance", "()V"⟩ ⟨"WrongRoom$Reader", "advance", "()V"⟩ ∈ T0 := T0_sel 4 (by decide +kernel) (by decide +kernel)
theorem wsel5 : Cond.selects "WrongRoom$Reader" ⟨"WrongRoom$Reader", "advanceWord", "()V"⟩ ⟨"WrongRoom$Reader", "advanceWord", "()V"⟩ ∈ T0 := T0_sel 5 (by decide +kernel) (by decide +kernel)
theorem wsel6 : Cond.selects "WrongRoom$Reader" ⟨"WrongRoom$Reader", "advanceWhole", "()V"⟩ ⟨"WrongRoom$Reader", "advanceWhole", "()V"⟩ ∈ T0 := T0_sel 6 (by decide +kernel) (by decide +kernel)
theorem wsel7 : Cond.selects "WrongRoom$Reader" ⟨"WrongRoom$Reader", "sortOfWord", "()I"⟩ ⟨"WrongRoom$Reader", "sortOfWord", "()I"⟩ ∈ T0 := T0_sel 7 (by decide +kernel) (by decide +kernel)
theorem wsel8 : Cond.selects "WrongRoom$Reader" ⟨"WrongRoom$Reader", "isFull", "(I)Z"⟩ ⟨"WrongRoom$Reader", "isFull", "(I)Z"⟩ ∈ T0 := T0_sel 8 (by decide +kernel) (by decide +kernel)
theorem wsel9 : Cond.selects "WrongRoom$Reader" ⟨"WrongRoom$Reader", "readTownLine", "()Z"⟩ ⟨"WrongRoom$Reader", "readTownLine", "()Z"⟩ ∈ T0 := T0_sel 9 (by decide +kernel) (by decide +kernel)
theorem wsel10 : Cond.selects "WrongRoom$Reader" ⟨"WrongRoom$Reader", "thisWord", "(Ljava/lang/String;)Z"⟩ ⟨"WrongRoom$Reader", "thisWord", "(Ljava/lang/String;)Z"⟩ ∈ T0 := T0_sel 10 (by decide +kernel) (by decide +kernel)
theorem wsel11 : Cond.selects "WrongRoom$Reader" ⟨"WrongRoom$Reader", "wholeWithin", "(II)Z"⟩ ⟨"WrongRoom$Reader", "wholeWithin", "(II)Z"⟩ ∈ T0 := T0_sel 11 (by decide +kernel) (by decide +kernel)
theorem wsel12 : Cond.selects "WrongRoom$Reader" ⟨"WrongRoom$Reader", "readHouseLine", "()Z"⟩ ⟨"WrongRoom$Reader", "readHouseLine", "()Z"⟩ ∈ T0 := T0_sel 12 (by decide +kernel) (by decide +kernel)
theorem wsel13 : Cond.selects "WrongRoom$Reader" ⟨"WrongRoom$Reader", "newName", "()Z"⟩ ⟨"WrongRoom$Reader", "newName", "()Z"⟩ ∈ T0 := T0_sel 13 (by decide +kernel) (by decide +kernel)
theorem wsel14 : Cond.selects "WrongRoom$Reader" ⟨"WrongRoom$Reader", "readWrongLine", "()Z"⟩ ⟨"WrongRoom$Reader", "readWrongLine", "()Z"⟩ ∈ T0 := T0_sel 14 (by decide +kernel) (by decide +kernel)
theorem wsel15 : Cond.selects "WrongRoom$Reader" ⟨"WrongRoom$Reader", "toldHouse", "()Z"⟩ ⟨"WrongRoom$Reader", "toldHouse", "()Z"⟩ ∈ T0 := T0_sel 15 (by decide +kernel) (by decide +kernel)
theorem wsel16 : Cond.selects "WrongRoom$Reader" ⟨"WrongRoom$Reader", "readOpenLine", "()Z"⟩ ⟨"WrongRoom$Reader", "readOpenLine", "()Z"⟩ ∈ T0 := T0_sel 16 (by decide +kernel) (by decide +kernel)
theorem wsel17 : Cond.selects "WrongRoom$Reader" ⟨"WrongRoom$Reader", "readStreetLine", "()Z"⟩ ⟨"WrongRoom$Reader", "readStreetLine", "()Z"⟩ ∈ T0 := T0_sel 17 (by decide +kernel) (by decide +kernel)
theorem wsel18 : Cond.selects "WrongRoom$Reader" ⟨"WrongRoom$Reader", "readPersonLine", "()Z"⟩ ⟨"WrongRoom$Reader", "readPersonLine", "()Z"⟩ ∈ T0 := T0_sel 18 (by decide +kernel) (by decide +kernel)
theorem wsel19 : Cond.selects "WrongRoom$Reader" ⟨"WrongRoom$Reader", "readSignLine", "()Z"⟩ ⟨"WrongRoom$Reader", "readSignLine", "()Z"⟩ ∈ T0 := T0_sel 19 (by decide +kernel) (by decide +kernel)
theorem wsel20 : Cond.selects "WrongRoom$Reader" ⟨"WrongRoom$Reader", "readNoiseLine", "()Z"⟩ ⟨"WrongRoom$Reader", "readNoiseLine", "()Z"⟩ ∈ T0 := T0_sel 20 (by decide +kernel) (by decide +kernel)
theorem wsel21 : Cond.selects "WrongRoom$Streets" ⟨"WrongRoom$Streets", "shortenThrough", "(II)V"⟩ ⟨"WrongRoom$Streets", "shortenThrough", "(II)V"⟩ ∈ T0 := T0_sel 21 (by decide +kernel) (by decide +kernel)
theorem wsel22 : Cond.selects "WrongRoom" ⟨"WrongRoom", "answer", "(I)I"⟩ ⟨"WrongRoom", "answer", "(I)I"⟩ ∈ T0 := T0_sel 22 (by decide +kernel) (by decide +kernel)
theorem wsel23 : Cond.selects "WrongRoom" ⟨"WrongRoom", "isHouse", "(I)Z"⟩ ⟨"WrongRoom", "isHouse", "(I)Z"⟩ ∈ T0 := T0_sel 23 (by decide +kernel) (by decide +kernel)
theorem wsel24 : Cond.selects "WrongRoom" ⟨"WrongRoom", "isDoorOpen", "(II)Z"⟩ ⟨"WrongRoom", "isDoorOpen", "(II)Z"⟩ ∈ T0 := T0_sel 24 (by decide +kernel) (by decide +kernel)
theorem wsel25 : Cond.selects "WrongRoom" ⟨"WrongRoom", "areUnlikeHouses", "(II)Z"⟩ ⟨"WrongRoom", "areUnlikeHouses", "(II)Z"⟩ ∈ T0 := T0_sel 25 (by decide +kernel) (by decide +kernel)
theorem wsel26 : Cond.selects "WrongRoom" ⟨"WrongRoom", "isPerson", "(I)Z"⟩ ⟨"WrongRoom", "isPerson", "(I)Z"⟩ ∈ T0 := T0_sel 26 (by decide +kernel) (by decide +kernel)
theorem wsel27 : Cond.selects "WrongRoom" ⟨"WrongRoom", "noTown", "()Z"⟩ ⟨"WrongRoom", "noTown", "()Z"⟩ ∈ T0 := T0_sel 27 (by decide +kernel) (by decide +kernel)
theorem wsel28 : Cond.selects "WrongRoom$Ways" ⟨"WrongRoom$Ways", "step", "(LWrongRoom$Town;LWrongRoom$Now;III)V"⟩ ⟨"WrongRoom$Ways", "step", "(LWrongRoom$Town;LWrongRoom$Now;III)V"⟩ ∈ T0 := T0_sel 28 (by decide +kernel) (by decide +kernel)
theorem wsel29 : Cond.selects "WrongRoom$Ways" ⟨"WrongRoom$Ways", "isTooLate", "(I)Z"⟩ ⟨"WrongRoom$Ways", "isTooLate", "(I)Z"⟩ ∈ T0 := T0_sel 29 (by decide +kernel) (by decide +kernel)
theorem wsel30 : Cond.selects "WrongRoom$Ways" ⟨"WrongRoom$Ways", "arrive", "(III)V"⟩ ⟨"WrongRoom$Ways", "arrive", "(III)V"⟩ ∈ T0 := T0_sel 30 (by decide +kernel) (by decide +kernel)
theorem wsel31 : Cond.selects "WrongRoom$Ways" ⟨"WrongRoom$Ways", "minuteAt", "(LWrongRoom$Town;LWrongRoom$Now;III)I"⟩ ⟨"WrongRoom$Ways", "minuteAt", "(LWrongRoom$Town;LWrongRoom$Now;III)I"⟩ ∈ T0 := T0_sel 31 (by decide +kernel) (by decide +kernel)
theorem wsel32 : Cond.selects "WrongRoom" ⟨"WrongRoom", "fitted", "()LWrongRoom$Fitting;"⟩ ⟨"WrongRoom", "fitted", "()LWrongRoom$Fitting;"⟩ ∈ T0 := T0_sel 32 (by decide +kernel) (by decide +kernel)
theorem wsel33 : Cond.selects "WrongRoom$Fitting" ⟨"WrongRoom$Fitting", "allowedBits", "(LWrongRoom$Town;I)I"⟩ ⟨"WrongRoom$Fitting", "allowedBits", "(LWrongRoom$Town;I)I"⟩ ∈ T0 := T0_sel 33 (by decide +kernel) (by decide +kernel)
theorem wsel34 : Cond.selects "WrongRoom$Fitting" ⟨"WrongRoom$Fitting", "placeFrom", "(LWrongRoom$Houses;II)I"⟩ ⟨"WrongRoom$Fitting", "placeFrom", "(LWrongRoom$Houses;II)I"⟩ ∈ T0 := T0_sel 34 (by decide +kernel) (by decide +kernel)
theorem wsel35 : Cond.selects "WrongRoom$Fitting" ⟨"WrongRoom$Fitting", "keepFirst", "()V"⟩ ⟨"WrongRoom$Fitting", "keepFirst", "()V"⟩ ∈ T0 := T0_sel 35 (by decide +kernel) (by decide +kernel)
theorem wsel36 : Cond.selects "WrongRoom" ⟨"WrongRoom", "owedUpper", "(I)J"⟩ ⟨"WrongRoom", "owedUpper", "(I)J"⟩ ∈ T0 := T0_sel 36 (by decide +kernel) (by decide +kernel)
theorem wsel37 : Cond.selects "WrongRoom" ⟨"WrongRoom", "owedLower", "(I)J"⟩ ⟨"WrongRoom", "owedLower", "(I)J"⟩ ∈ T0 := T0_sel 37 (by decide +kernel) (by decide +kernel)
theorem wsel38 : Cond.selects "WrongRoom$Swaps" ⟨"WrongRoom$Swaps", "isFoundFor", "(LWrongRoom$Now;)Z"⟩ ⟨"WrongRoom$Swaps", "isFoundFor", "(LWrongRoom$Now;)Z"⟩ ∈ T0 := T0_sel 38 (by decide +kernel) (by decide +kernel)
theorem wsel39 : Cond.selects "WrongRoom$Swaps" ⟨"WrongRoom$Swaps", "search", "(II)V"⟩ ⟨"WrongRoom$Swaps", "search", "(II)V"⟩ ∈ T0 := T0_sel 39 (by decide +kernel) (by decide +kernel)
theorem wsel40 : Cond.selects "WrongRoom$Streets" ⟨"WrongRoom$Streets", "findNear", "(II)V"⟩ ⟨"WrongRoom$Streets", "findNear", "(II)V"⟩ ∈ T0 := T0_sel 40 (by decide +kernel) (by decide +kernel)
theorem wsel41 : Cond.selects "WrongRoom$Streets" ⟨"WrongRoom$Streets", "reachedFrom", "(I)I"⟩ ⟨"WrongRoom$Streets", "reachedFrom", "(I)I"⟩ ∈ T0 := T0_sel 41 (by decide +kernel) (by decide +kernel)
theorem wsel42 : Cond.selects "WrongRoom$Rents" ⟨"WrongRoom$Rents", "tenantsBy", "(I)I"⟩ ⟨"WrongRoom$Rents", "tenantsBy", "(I)I"⟩ ∈ T0 := T0_sel 42 (by decide +kernel) (by decide +kernel)
theorem wsel43 : Cond.selects "WrongRoom$Rents" ⟨"WrongRoom$Rents", "findBestGains", "()V"⟩ ⟨"WrongRoom$Rents", "findBestGains", "()V"⟩ ∈ T0 := T0_sel 43 (by decide +kernel) (by decide +kernel)
theorem wsel44 : Cond.selects "WrongRoom$Rents" ⟨"WrongRoom$Rents", "noteIfRest", "(II)V"⟩ ⟨"WrongRoom$Rents", "noteIfRest", "(II)V"⟩ ∈ T0 := T0_sel 44 (by decide +kernel) (by decide +kernel)
theorem wsel45 : Cond.selects "WrongRoom" ⟨"WrongRoom", "build", "(II)V"⟩ ⟨"WrongRoom", "build", "(II)V"⟩ ∈ T0 := T0_sel 45 (by decide +kernel) (by decide +kernel)
theorem wsel46 : Cond.selects "WrongRoom" ⟨"WrongRoom", "deny", "(I)Z"⟩ ⟨"WrongRoom", "deny", "(I)Z"⟩ ∈ T0 := T0_sel 46 (by decide +kernel) (by decide +kernel)
theorem wsel47 : Cond.selects "WrongRoom" ⟨"WrongRoom", "grant", "()Z"⟩ ⟨"WrongRoom", "grant", "()Z"⟩ ∈ T0 := T0_sel 47 (by decide +kernel) (by decide +kernel)
theorem wsel48 : Cond.selects "WrongRoom" ⟨"WrongRoom", "minutesToGo", "(III)I"⟩ ⟨"WrongRoom", "minutesToGo", "(III)I"⟩ ∈ T0 := T0_sel 48 (by decide +kernel) (by decide +kernel)
theorem wsel50 : Cond.selects "WrongRoomModel" ⟨"WrongRoomModel", "refused", "(I)I"⟩ ⟨"WrongRoomModel", "refused", "(I)I"⟩ ∈ T0 := T0_sel 50 (by decide +kernel) (by decide +kernel)
theorem wsel51 : Cond.selects "WrongRoomModel" ⟨"WrongRoomModel", "goesOn", "()V"⟩ ⟨"WrongRoomModel", "goesOn", "()V"⟩ ∈ T0 := T0_sel 51 (by decide +kernel) (by decide +kernel)
theorem wsel52 : Cond.selects "WrongRoomModel" ⟨"WrongRoomModel", "byteAt", "(I)I"⟩ ⟨"WrongRoomModel", "byteAt", "(I)I"⟩ ∈ T0 := T0_sel 52 (by decide +kernel) (by decide +kernel)
theorem wsel53 : Cond.selects "WrongRoomModel" ⟨"WrongRoomModel", "readAll", "()V"⟩ ⟨"WrongRoomModel", "readAll", "()V"⟩ ∈ T0 := T0_sel 53 (by decide +kernel) (by decide +kernel)
theorem wsel54 : Cond.selects "WrongRoomModel" ⟨"WrongRoomModel", "readLine", "()V"⟩ ⟨"WrongRoomModel", "readLine", "()V"⟩ ∈ T0 := T0_sel 54 (by decide +kernel) (by decide +kernel)
theorem wsel55 : Cond.selects "WrongRoomModel" ⟨"WrongRoomModel", "isWord", "(Ljava/lang/String;)Z"⟩ ⟨"WrongRoomModel", "isWord", "(Ljava/lang/String;)Z"⟩ ∈ T0 := T0_sel 55 (by decide +kernel) (by decide +kernel)
theorem wsel56 : Cond.selects "WrongRoomModel" ⟨"WrongRoomModel", "readTown", "()V"⟩ ⟨"WrongRoomModel", "readTown", "()V"⟩ ∈ T0 := T0_sel 56 (by decide +kernel) (by decide +kernel)
theorem wsel57 : Cond.selects "WrongRoomModel" ⟨"WrongRoomModel", "flaw", "(I)V"⟩ ⟨"WrongRoomModel", "flaw", "(I)V"⟩ ∈ T0 := T0_sel 57 (by decide +kernel) (by decide +kernel)
theorem wsel58 : Cond.selects "WrongRoomModel" ⟨"WrongRoomModel", "readPart", "(Ljava/lang/String;II)I"⟩ ⟨"WrongRoomModel", "readPart", "(Ljava/lang/String;II)I"⟩ ∈ T0 := T0_sel 58 (by decide +kernel) (by decide +kernel)
theorem wsel59 : Cond.selects "WrongRoomModel" ⟨"WrongRoomModel", "needs", "(Ljava/lang/String;)V"⟩ ⟨"WrongRoomModel", "needs", "(Ljava/lang/String;)V"⟩ ∈ T0 := T0_sel 59 (by decide +kernel) (by decide +kernel)
theorem wsel60 : Cond.selects "WrongRoomModel" ⟨"WrongRoomModel", "readWhole", "(II)I"⟩ ⟨"WrongRoomModel", "readWhole", "(II)I"⟩ ∈ T0 := T0_sel 60 (by decide +kernel) (by decide +kernel)
theorem wsel61 : Cond.selects "WrongRoomModel" ⟨"WrongRoomModel", "readHouseLine", "()V"⟩ ⟨"WrongRoomModel", "readHouseLine", "()V"⟩ ∈ T0 := T0_sel 61 (by decide +kernel) (by decide +kernel)
theorem wsel62 : Cond.selects "WrongRoomModel" ⟨"WrongRoomModel", "lineBegins", "(II)V"⟩ ⟨"WrongRoomModel", "lineBegins", "(II)V"⟩ ∈ T0 := T0_sel 62 (by decide +kernel) (by decide +kernel)
theorem wsel63 : Cond.selects "WrongRoomModel" ⟨"WrongRoomModel", "readFresh", "()J"⟩ ⟨"WrongRoomModel", "readFresh", "()J"⟩ ∈ T0 := T0_sel 63 (by decide +kernel) (by decide +kernel)
theorem wsel64 : Cond.selects "WrongRoomModel" ⟨"WrongRoomModel", "isName", "()Z"⟩ ⟨"WrongRoomModel", "isName", "()Z"⟩ ∈ T0 := T0_sel 64 (by decide +kernel) (by decide +kernel)
theorem wsel65 : Cond.selects "WrongRoomModel" ⟨"WrongRoomModel", "readWord", "()J"⟩ ⟨"WrongRoomModel", "readWord", "()J"⟩ ∈ T0 := T0_sel 65 (by decide +kernel) (by decide +kernel)
theorem wsel66 : Cond.selects "WrongRoomModel" ⟨"WrongRoomModel", "names", "(JII)V"⟩ ⟨"WrongRoomModel", "names", "(JII)V"⟩ ∈ T0 := T0_sel 66 (by decide +kernel) (by decide +kernel)
theorem wsel67 : Cond.selects "WrongRoomModel" ⟨"WrongRoomModel", "readWrong", "()V"⟩ ⟨"WrongRoomModel", "readWrong", "()V"⟩ ∈ T0 := T0_sel 67 (by decide +kernel) (by decide +kernel)
theorem wsel68 : Cond.selects "WrongRoomModel" ⟨"WrongRoomModel", "knownHouse", "()I"⟩ ⟨"WrongRoomModel", "knownHouse", "()I"⟩ ∈ T0 := T0_sel 68 (by decide +kernel) (by decide +kernel)
theorem wsel69 : Cond.selects "WrongRoomModel" ⟨"WrongRoomModel", "readOpen", "()V"⟩ ⟨"WrongRoomModel", "readOpen", "()V"⟩ ∈ T0 := T0_sel 69 (by decide +kernel) (by decide +kernel)
theorem wsel70 : Cond.selects "WrongRoomModel" ⟨"WrongRoomModel", "readStreet", "()V"⟩ ⟨"WrongRoomModel", "readStreet", "()V"⟩ ∈ T0 := T0_sel 70 (by decide +kernel) (by decide +kernel)
theorem wsel71 : Cond.selects "WrongRoomModel" ⟨"WrongRoomModel", "readHouse", "()I"⟩ ⟨"WrongRoomModel", "readHouse", "()I"⟩ ∈ T0 := T0_sel 71 (by decide +kernel) (by decide +kernel)
theorem wsel72 : Cond.selects "WrongRoomModel" ⟨"WrongRoomModel", "readPerson", "()V"⟩ ⟨"WrongRoomModel", "readPerson", "()V"⟩ ∈ T0 := T0_sel 72 (by decide +kernel) (by decide +kernel)
theorem wsel73 : Cond.selects "WrongRoomModel" ⟨"WrongRoomModel", "readPartHouse", "(Ljava/lang/String;)I"⟩ ⟨"WrongRoomModel", "readPartHouse", "(Ljava/lang/String;)I"⟩ ∈ T0 := T0_sel 73 (by decide +kernel) (by decide +kernel)
theorem wsel74 : Cond.selects "WrongRoomModel" ⟨"WrongRoomModel", "readSign", "()V"⟩ ⟨"WrongRoomModel", "readSign", "()V"⟩ ∈ T0 := T0_sel 74 (by decide +kernel) (by decide +kernel)
theorem wsel75 : Cond.selects "WrongRoomModel" ⟨"WrongRoomModel", "readNoise", "()V"⟩ ⟨"WrongRoomModel", "readNoise", "()V"⟩ ∈ T0 := T0_sel 75 (by decide +kernel) (by decide +kernel)
theorem wsel76 : Cond.selects "WrongRoomModel" ⟨"WrongRoomModel", "eatsSemicolon", "()Z"⟩ ⟨"WrongRoomModel", "eatsSemicolon", "()Z"⟩ ∈ T0 := T0_sel 76 (by decide +kernel) (by decide +kernel)
theorem wsel77 : Cond.selects "WrongRoomModel" ⟨"WrongRoomModel", "laysStreets", "()V"⟩ ⟨"WrongRoomModel", "laysStreets", "()V"⟩ ∈ T0 := T0_sel 77 (by decide +kernel) (by decide +kernel)
theorem wsel78 : Cond.selects "WrongRoomModel" ⟨"WrongRoomModel", "good", "(I)I"⟩ ⟨"WrongRoomModel", "good", "(I)I"⟩ ∈ T0 := T0_sel 78 (by decide +kernel) (by decide +kernel)
theorem wsel79 : Cond.selects "WrongRoomModel" ⟨"WrongRoomModel", "isHouse", "(I)Z"⟩ ⟨"WrongRoomModel", "isHouse", "(I)Z"⟩ ∈ T0 := T0_sel 79 (by decide +kernel) (by decide +kernel)
theorem wsel80 : Cond.selects "WrongRoomModel" ⟨"WrongRoomModel", "whose", "(I)I"⟩ ⟨"WrongRoomModel", "whose", "(I)I"⟩ ∈ T0 := T0_sel 80 (by decide +kernel) (by decide +kernel)
theorem wsel81 : Cond.selects "WrongRoomModel" ⟨"WrongRoomModel", "isOpenAt", "(II)Z"⟩ ⟨"WrongRoomModel", "isOpenAt", "(II)Z"⟩ ∈ T0 := T0_sel 81 (by decide +kernel) (by decide +kernel)
theorem wsel82 : Cond.selects "WrongRoomModel" ⟨"WrongRoomModel", "isPerson", "(I)Z"⟩ ⟨"WrongRoomModel", "isPerson", "(I)Z"⟩ ∈ T0 := T0_sel 82 (by decide +kernel) (by decide +kernel)
theorem wsel83 : Cond.selects "WrongRoomModel" ⟨"WrongRoomModel", "tries", "()V"⟩ ⟨"WrongRoomModel", "tries", "()V"⟩ ∈ T0 := T0_sel 83 (by decide +kernel) (by decide +kernel)
theorem wsel84 : Cond.selects "WrongRoomModel" ⟨"WrongRoomModel", "refusesWay", "(ZI)I"⟩ ⟨"WrongRoomModel", "refusesWay", "(ZI)I"⟩ ∈ T0 := T0_sel 84 (by decide +kernel) (by decide +kernel)
theorem wsel85 : Cond.selects "WrongRoomModel" ⟨"WrongRoomModel", "soonest", "(IIIZ)I"⟩ ⟨"WrongRoomModel", "soonest", "(IIIZ)I"⟩ ∈ T0 := T0_sel 85 (by decide +kernel) (by decide +kernel)
theorem wsel86 : Cond.selects "WrongRoomModel" ⟨"WrongRoomModel", "ways", "(IIIZ)V"⟩ ⟨"WrongRoomModel", "ways", "(IIIZ)V"⟩ ∈ T0 := T0_sel 86 (by decide +kernel) (by decide +kernel)
theorem wsel87 : Cond.selects "WrongRoomModel" ⟨"WrongRoomModel", "ends", "(I)V"⟩ ⟨"WrongRoomModel", "ends", "(I)V"⟩ ∈ T0 := T0_sel 87 (by decide +kernel) (by decide +kernel)
theorem wsel88 : Cond.selects "WrongRoomModel" ⟨"WrongRoomModel", "canStep", "(IZ)Z"⟩ ⟨"WrongRoomModel", "canStep", "(IZ)Z"⟩ ∈ T0 := T0_sel 88 (by decide +kernel) (by decide +kernel)
theorem wsel89 : Cond.selects "WrongRoomModel" ⟨"WrongRoomModel", "steps", "(IIIZ)I"⟩ ⟨"WrongRoomModel", "steps", "(IIIZ)I"⟩ ∈ T0 := T0_sel 89 (by decide +kernel) (by decide +kernel)
theorem wsel90 : Cond.selects "WrongRoomModel" ⟨"WrongRoomModel", "fitting", "()V"⟩ ⟨"WrongRoomModel", "fitting", "()V"⟩ ∈ T0 := T0_sel 90 (by decide +kernel) (by decide +kernel)
theorem wsel91 : Cond.selects "WrongRoomModel" ⟨"WrongRoomModel", "countsRow", "()V"⟩ ⟨"WrongRoomModel", "countsRow", "()V"⟩ ∈ T0 := T0_sel 91 (by decide +kernel) (by decide +kernel)
theorem wsel92 : Cond.selects "WrongRoomModel" ⟨"WrongRoomModel", "isFitting", "(I)Z"⟩ ⟨"WrongRoomModel", "isFitting", "(I)Z"⟩ ∈ T0 := T0_sel 92 (by decide +kernel) (by decide +kernel)
theorem wsel93 : Cond.selects "WrongRoomModel" ⟨"WrongRoomModel", "asks", "()I"⟩ ⟨"WrongRoomModel", "asks", "()I"⟩ ∈ T0 := T0_sel 93 (by decide +kernel) (by decide +kernel)
theorem wsel94 : Cond.selects "WrongRoomModel" ⟨"WrongRoomModel", "owedBy", "(I)I"⟩ ⟨"WrongRoomModel", "owedBy", "(I)I"⟩ ∈ T0 := T0_sel 94 (by decide +kernel) (by decide +kernel)
theorem wsel95 : Cond.selects "WrongRoomModel" ⟨"WrongRoomModel", "partsBy", "(I)I"⟩ ⟨"WrongRoomModel", "partsBy", "(I)I"⟩ ∈ T0 := T0_sel 95 (by decide +kernel) (by decide +kernel)
theorem wsel96 : Cond.selects "WrongRoomModel" ⟨"WrongRoomModel", "fraction", "(JJZ)J"⟩ ⟨"WrongRoomModel", "fraction", "(JJZ)J"⟩ ∈ T0 := T0_sel 96 (by decide +kernel) (by decide +kernel)
theorem wsel97 : Cond.selects "WrongRoomModel" ⟨"WrongRoomModel", "seeks", "()V"⟩ ⟨"WrongRoomModel", "seeks", "()V"⟩ ∈ T0 := T0_sel 97 (by decide +kernel) (by decide +kernel)
theorem wsel98 : Cond.selects "WrongRoomModel" ⟨"WrongRoomModel", "seeksOf", "(I)V"⟩ ⟨"WrongRoomModel", "seeksOf", "(I)V"⟩ ∈ T0 := T0_sel 98 (by decide +kernel) (by decide +kernel)
theorem wsel99 : Cond.selects "WrongRoomModel" ⟨"WrongRoomModel", "areDone", "(I)Z"⟩ ⟨"WrongRoomModel", "areDone", "(I)Z"⟩ ∈ T0 := T0_sel 99 (by decide +kernel) (by decide +kernel)
theorem wsel100 : Cond.selects "WrongRoomModel" ⟨"WrongRoomModel", "nextPairs", "(I)Z"⟩ ⟨"WrongRoomModel", "nextPairs", "(I)Z"⟩ ∈ T0 := T0_sel 100 (by decide +kernel) (by decide +kernel)
theorem wsel101 : Cond.selects "WrongRoomModel" ⟨"WrongRoomModel", "isStand", "(II)Z"⟩ ⟨"WrongRoomModel", "isStand", "(II)Z"⟩ ∈ T0 := T0_sel 101 (by decide +kernel) (by decide +kernel)
theorem wsel102 : Cond.selects "WrongRoomModel" ⟨"WrongRoomModel", "tenants", "(IIII)I"⟩ ⟨"WrongRoomModel", "tenants", "(IIII)I"⟩ ∈ T0 := T0_sel 102 (by decide +kernel) (by decide +kernel)
theorem wsel103 : Cond.selects "WrongRoomModel" ⟨"WrongRoomModel", "worthOf", "(II)I"⟩ ⟨"WrongRoomModel", "worthOf", "(II)I"⟩ ∈ T0 := T0_sel 103 (by decide +kernel) (by decide +kernel)
theorem wsel104 : Cond.selects "WrongRoomModel" ⟨"WrongRoomModel", "isRest", "(IIII)Z"⟩ ⟨"WrongRoomModel", "isRest", "(IIII)Z"⟩ ∈ T0 := T0_sel 104 (by decide +kernel) (by decide +kernel)
theorem wsel105 : Cond.selects "WrongRoomModel" ⟨"WrongRoomModel", "builds", "(ZII)I"⟩ ⟨"WrongRoomModel", "builds", "(ZII)I"⟩ ∈ T0 := T0_sel 105 (by decide +kernel) (by decide +kernel)
theorem wsel106 : Cond.selects "WrongRoomModel" ⟨"WrongRoomModel", "drawn", "()I"⟩ ⟨"WrongRoomModel", "drawn", "()I"⟩ ∈ T0 := T0_sel 106 (by decide +kernel) (by decide +kernel)
theorem wsel107 : Cond.selects "WrongRoomModel" ⟨"WrongRoomModel", "denied", "(I)Z"⟩ ⟨"WrongRoomModel", "denied", "(I)Z"⟩ ∈ T0 := T0_sel 107 (by decide +kernel) (by decide +kernel)
theorem wsel108 : Cond.selects "WrongRoomModel" ⟨"WrongRoomModel", "remembers", "()V"⟩ ⟨"WrongRoomModel", "remembers", "()V"⟩ ∈ T0 := T0_sel 108 (by decide +kernel) (by decide +kernel)
theorem wsel109 : Cond.selects "WrongRoomModel" ⟨"WrongRoomModel", "granted", "()Z"⟩ ⟨"WrongRoomModel", "granted", "()Z"⟩ ∈ T0 := T0_sel 109 (by decide +kernel) (by decide +kernel)
theorem wsel110 : Cond.selects "WrongRoomModel" ⟨"WrongRoomModel", "known", "()I"⟩ ⟨"WrongRoomModel", "known", "()I"⟩ ∈ T0 := T0_sel 110 (by decide +kernel) (by decide +kernel)
theorem clX0 : clOk 0 RX0 TX0 6 tyX0 := ⟨rfl, sub_tb _ [143, 145, 147, 149, 151, 153] (by decide +kernel) (by decide +kernel), tyX0_ok, nmX0⟩
theorem clX1 : clOk 1 RX1 TX1 6 tyX1 := ⟨rfl, sub_tb _ [388, 390, 392, 394, 396, 398] (by decide +kernel) (by decide +kernel), tyX1_ok, nmX1⟩
theorem clX2 : clOk 2 RX2 TX2 9 tyX2 := ⟨rfl, sub_tb _ [82, 84, 86, 88, 90, 92, 94, 96, 98] (by decide +kernel) (by decide +kernel), tyX2_ok, nmX2⟩
theorem clX3 : clOk 3 RX3 TX3 1 tyX3 := ⟨rfl, sub_tb _ [323] (by decide +kernel) (by decide +kernel), tyX3_ok, nmX3⟩
theorem clX4 : clOk 4 RX4 TX4 5 tyX4 := ⟨rfl, sub_tb _ [337, 339, 341, 343, 345] (by decide +kernel) (by decide +kernel), tyX4_ok, nmX4⟩
theorem clX5 : clOk 5 RX5 TX5 13 tyX5 := ⟨rfl, sub_tb _ [286, 288, 290, 292, 294, 296, 298, 300, 302, 304, 306, 308, 310] (by decide +kernel) (by decide +kernel), tyX5_ok, nmX5⟩
theorem clX6 : clOk 6 RX6 TX6 8 tyX6 := ⟨rfl, sub_tb _ [445, 447, 449, 451, 453, 455, 457, 459] (by decide +kernel) (by decide +kernel), tyX6_ok, nmX6⟩
theorem clX7 : clOk 7 RX7 TX7 4 tyX7 := ⟨rfl, sub_tb _ [116, 118, 120, 122] (by decide +kernel) (by decide +kernel), tyX7_ok, nmX7⟩
theorem clX8 : clOk 8 RX8 TX8 7 tyX8 := ⟨rfl, sub_tb _ [416, 418, 420, 422, 424, 426, 428] (by decide +kernel) (by decide +kernel), tyX8_ok, nmX8⟩
theorem clX9 : clOk 9 RX9 TX9 9 tyX9 := ⟨rfl, sub_tb _ [188, 190, 192, 194, 196, 198, 200, 202, 204] (by decide +kernel) (by decide +kernel), tyX9_ok, nmX9⟩
theorem clX10 : clOk 10 RX10 TX10 7 tyX10 := ⟨rfl, sub_tb _ [361, 363, 365, 367, 369, 371, 373] (by decide +kernel) (by decide +kernel), tyX10_ok, nmX10⟩
theorem clX11 : clOk 11 RX11 TX11 10 tyX11 := ⟨rfl, sub_tb _ [472, 474, 476, 478, 480, 482, 484, 486, 488, 490] (by decide +kernel) (by decide +kernel), tyX11_ok, nmX11⟩
theorem clX12 : clOk 12 RX12 TX12 27 tyX12 := ⟨rfl, sub_tb _ [1504, 1506, 1508, 1510, 1512, 1514, 1516, 1518, 1520, 1522, 1524, 1526, 1528, 1530, 1532, 1534, 1536, 1538, 1540, 1542, 1544, 1546, 1548, 1550, 1552, 1554, 1556] (by decide +kernel) (by decide +kernel), tyX12_ok, nmX12⟩
theorem clX13 : clOk 13 RX13 TX13 39 tyX13 := ⟨rfl, sub_tb _ [1355, 1357, 1359, 1361, 1363, 1365, 1367, 1369, 1371, 1373, 1375, 1377, 1379, 1381, 1383, 1385, 1387, 1389, 1391, 1393, 1395, 1397, 1399, 1401, 1403, 1405, 1407, 1409, 1411, 1413, 1415, 1417, 1419, 1421, 1423, 1425, 1427, 1429, 1431] (by decide +kernel) (by decide +kernel), tyX13_ok, nmX13⟩
