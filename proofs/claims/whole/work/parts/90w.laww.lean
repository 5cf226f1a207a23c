/-! Words of the law -/
theorem wt493 : (Cond.methodLink "WrongRoomLaw" (19 : Nat) ({ cls := "WrongRoom", name := "feed", desc := "(IIIII)I" } : Jvm.MethodName)) ∈ T0 := T0_a3 13 (by decide +kernel) rfl
theorem wt494 : (Cond.instanceMethod ({ cls := "WrongRoom", name := "feed", desc := "(IIIII)I" } : Jvm.MethodName)) ∈ T0 := T0_a3 14 (by decide +kernel) rfl
theorem wt495 : (Cond.selects "WrongRoom" ({ cls := "WrongRoom", name := "feed", desc := "(IIIII)I" } : Jvm.MethodName) ({ cls := "WrongRoom", name := "feed", desc := "(IIIII)I" } : Jvm.MethodName)) ∈ T0 := T0_a3 15 (by decide +kernel) rfl
theorem wt501 : (Cond.methodLink "WrongRoomLaw" (24 : Nat) ({ cls := "WrongRoom", name := "town", desc := "(I)I" } : Jvm.MethodName)) ∈ T0 := T0_a3 21 (by decide +kernel) rfl
theorem wt502 : (Cond.instanceMethod ({ cls := "WrongRoom", name := "town", desc := "(I)I" } : Jvm.MethodName)) ∈ T0 := T0_a3 22 (by decide +kernel) rfl
theorem wt503 : (Cond.selects "WrongRoom" ({ cls := "WrongRoom", name := "town", desc := "(I)I" } : Jvm.MethodName) ({ cls := "WrongRoom", name := "town", desc := "(I)I" } : Jvm.MethodName)) ∈ T0 := T0_a3 23 (by decide +kernel) rfl
theorem wt695 : (Cond.methodLink "WrongRoomLaw" (28 : Nat) ({ cls := "WrongRoom", name := "fault", desc := "()I" } : Jvm.MethodName)) ∈ T0 := T0_a3 215 (by decide +kernel) rfl
theorem wt696 : (Cond.instanceMethod ({ cls := "WrongRoom", name := "fault", desc := "()I" } : Jvm.MethodName)) ∈ T0 := T0_a3 216 (by decide +kernel) rfl
theorem wt697 : (Cond.selects "WrongRoom" ({ cls := "WrongRoom", name := "fault", desc := "()I" } : Jvm.MethodName) ({ cls := "WrongRoom", name := "fault", desc := "()I" } : Jvm.MethodName)) ∈ T0 := T0_a3 217 (by decide +kernel) rfl
theorem wt699 : (Cond.methodLink "WrongRoomLaw" (33 : Nat) ({ cls := "WrongRoom", name := "where", desc := "()I" } : Jvm.MethodName)) ∈ T0 := T0_a3 219 (by decide +kernel) rfl
theorem wt700 : (Cond.instanceMethod ({ cls := "WrongRoom", name := "where", desc := "()I" } : Jvm.MethodName)) ∈ T0 := T0_a3 220 (by decide +kernel) rfl
theorem wt701 : (Cond.selects "WrongRoom" ({ cls := "WrongRoom", name := "where", desc := "()I" } : Jvm.MethodName) ({ cls := "WrongRoom", name := "where", desc := "()I" } : Jvm.MethodName)) ∈ T0 := T0_a3 221 (by decide +kernel) rfl
theorem wt703 : (Cond.methodLink "WrongRoomLaw" (37 : Nat) ({ cls := "WrongRoom", name := "house", desc := "(II)I" } : Jvm.MethodName)) ∈ T0 := T0_a3 223 (by decide +kernel) rfl
theorem wt704 : (Cond.instanceMethod ({ cls := "WrongRoom", name := "house", desc := "(II)I" } : Jvm.MethodName)) ∈ T0 := T0_a3 224 (by decide +kernel) rfl
theorem wt705 : (Cond.selects "WrongRoom" ({ cls := "WrongRoom", name := "house", desc := "(II)I" } : Jvm.MethodName) ({ cls := "WrongRoom", name := "house", desc := "(II)I" } : Jvm.MethodName)) ∈ T0 := T0_a3 225 (by decide +kernel) rfl
theorem wt723 : (Cond.methodLink "WrongRoomLaw" (42 : Nat) ({ cls := "WrongRoom", name := "open", desc := "(II)I" } : Jvm.MethodName)) ∈ T0 := T0_a4 3 (by decide +kernel) rfl
theorem wt724 : (Cond.instanceMethod ({ cls := "WrongRoom", name := "open", desc := "(II)I" } : Jvm.MethodName)) ∈ T0 := T0_a4 4 (by decide +kernel) rfl
theorem wt725 : (Cond.selects "WrongRoom" ({ cls := "WrongRoom", name := "open", desc := "(II)I" } : Jvm.MethodName) ({ cls := "WrongRoom", name := "open", desc := "(II)I" } : Jvm.MethodName)) ∈ T0 := T0_a4 5 (by decide +kernel) rfl
theorem wt746 : (Cond.methodLink "WrongRoomLaw" (46 : Nat) ({ cls := "WrongRoom", name := "street", desc := "(II)I" } : Jvm.MethodName)) ∈ T0 := T0_a4 26 (by decide +kernel) rfl
theorem wt747 : (Cond.instanceMethod ({ cls := "WrongRoom", name := "street", desc := "(II)I" } : Jvm.MethodName)) ∈ T0 := T0_a4 27 (by decide +kernel) rfl
theorem wt748 : (Cond.selects "WrongRoom" ({ cls := "WrongRoom", name := "street", desc := "(II)I" } : Jvm.MethodName) ({ cls := "WrongRoom", name := "street", desc := "(II)I" } : Jvm.MethodName)) ∈ T0 := T0_a4 28 (by decide +kernel) rfl
theorem wt755 : (Cond.methodLink "WrongRoomLaw" (50 : Nat) ({ cls := "WrongRoom", name := "person", desc := "(II)I" } : Jvm.MethodName)) ∈ T0 := T0_a4 35 (by decide +kernel) rfl
theorem wt756 : (Cond.instanceMethod ({ cls := "WrongRoom", name := "person", desc := "(II)I" } : Jvm.MethodName)) ∈ T0 := T0_a4 36 (by decide +kernel) rfl
theorem wt757 : (Cond.selects "WrongRoom" ({ cls := "WrongRoom", name := "person", desc := "(II)I" } : Jvm.MethodName) ({ cls := "WrongRoom", name := "person", desc := "(II)I" } : Jvm.MethodName)) ∈ T0 := T0_a4 37 (by decide +kernel) rfl
theorem wt771 : (Cond.methodLink "WrongRoomLaw" (54 : Nat) ({ cls := "WrongRoom", name := "candle", desc := "(I)I" } : Jvm.MethodName)) ∈ T0 := T0_a4 51 (by decide +kernel) rfl
theorem wt772 : (Cond.instanceMethod ({ cls := "WrongRoom", name := "candle", desc := "(I)I" } : Jvm.MethodName)) ∈ T0 := T0_a4 52 (by decide +kernel) rfl
theorem wt773 : (Cond.selects "WrongRoom" ({ cls := "WrongRoom", name := "candle", desc := "(I)I" } : Jvm.MethodName) ({ cls := "WrongRoom", name := "candle", desc := "(I)I" } : Jvm.MethodName)) ∈ T0 := T0_a4 53 (by decide +kernel) rfl
theorem wt779 : (Cond.methodLink "WrongRoomLaw" (58 : Nat) ({ cls := "WrongRoom", name := "candleAt", desc := "(II)I" } : Jvm.MethodName)) ∈ T0 := T0_a4 59 (by decide +kernel) rfl
theorem wt780 : (Cond.instanceMethod ({ cls := "WrongRoom", name := "candleAt", desc := "(II)I" } : Jvm.MethodName)) ∈ T0 := T0_a4 60 (by decide +kernel) rfl
theorem wt781 : (Cond.selects "WrongRoom" ({ cls := "WrongRoom", name := "candleAt", desc := "(II)I" } : Jvm.MethodName) ({ cls := "WrongRoom", name := "candleAt", desc := "(II)I" } : Jvm.MethodName)) ∈ T0 := T0_a4 61 (by decide +kernel) rfl
theorem wt783 : (Cond.methodLink "WrongRoomLaw" (62 : Nat) ({ cls := "WrongRoom", name := "mutual", desc := "()I" } : Jvm.MethodName)) ∈ T0 := T0_a4 63 (by decide +kernel) rfl
theorem wt784 : (Cond.instanceMethod ({ cls := "WrongRoom", name := "mutual", desc := "()I" } : Jvm.MethodName)) ∈ T0 := T0_a4 64 (by decide +kernel) rfl
theorem wt785 : (Cond.selects "WrongRoom" ({ cls := "WrongRoom", name := "mutual", desc := "()I" } : Jvm.MethodName) ({ cls := "WrongRoom", name := "mutual", desc := "()I" } : Jvm.MethodName)) ∈ T0 := T0_a4 65 (by decide +kernel) rfl
theorem wt799 : (Cond.methodLink "WrongRoomLaw" (66 : Nat) ({ cls := "WrongRoom", name := "judge", desc := "()I" } : Jvm.MethodName)) ∈ T0 := T0_a4 79 (by decide +kernel) rfl
theorem wt800 : (Cond.instanceMethod ({ cls := "WrongRoom", name := "judge", desc := "()I" } : Jvm.MethodName)) ∈ T0 := T0_a4 80 (by decide +kernel) rfl
theorem wt801 : (Cond.selects "WrongRoom" ({ cls := "WrongRoom", name := "judge", desc := "()I" } : Jvm.MethodName) ({ cls := "WrongRoom", name := "judge", desc := "()I" } : Jvm.MethodName)) ∈ T0 := T0_a4 81 (by decide +kernel) rfl
theorem wt803 : (Cond.methodLink "WrongRoomLaw" (70 : Nat) ({ cls := "WrongRoom", name := "way", desc := "(III)I" } : Jvm.MethodName)) ∈ T0 := T0_a4 83 (by decide +kernel) rfl
theorem wt804 : (Cond.instanceMethod ({ cls := "WrongRoom", name := "way", desc := "(III)I" } : Jvm.MethodName)) ∈ T0 := T0_a4 84 (by decide +kernel) rfl
theorem wt805 : (Cond.selects "WrongRoom" ({ cls := "WrongRoom", name := "way", desc := "(III)I" } : Jvm.MethodName) ({ cls := "WrongRoom", name := "way", desc := "(III)I" } : Jvm.MethodName)) ∈ T0 := T0_a4 85 (by decide +kernel) rfl
theorem wt839 : (Cond.methodLink "WrongRoomLaw" (75 : Nat) ({ cls := "WrongRoom", name := "wayAt", desc := "(IIII)I" } : Jvm.MethodName)) ∈ T0 := T0_a4 119 (by decide +kernel) rfl
theorem wt840 : (Cond.instanceMethod ({ cls := "WrongRoom", name := "wayAt", desc := "(IIII)I" } : Jvm.MethodName)) ∈ T0 := T0_a4 120 (by decide +kernel) rfl
theorem wt841 : (Cond.selects "WrongRoom" ({ cls := "WrongRoom", name := "wayAt", desc := "(IIII)I" } : Jvm.MethodName) ({ cls := "WrongRoom", name := "wayAt", desc := "(IIII)I" } : Jvm.MethodName)) ∈ T0 := T0_a4 121 (by decide +kernel) rfl
theorem wt851 : (Cond.methodLink "WrongRoomLaw" (80 : Nat) ({ cls := "WrongRoom", name := "saves", desc := "(III)I" } : Jvm.MethodName)) ∈ T0 := T0_a4 131 (by decide +kernel) rfl
theorem wt852 : (Cond.instanceMethod ({ cls := "WrongRoom", name := "saves", desc := "(III)I" } : Jvm.MethodName)) ∈ T0 := T0_a4 132 (by decide +kernel) rfl
theorem wt853 : (Cond.selects "WrongRoom" ({ cls := "WrongRoom", name := "saves", desc := "(III)I" } : Jvm.MethodName) ({ cls := "WrongRoom", name := "saves", desc := "(III)I" } : Jvm.MethodName)) ∈ T0 := T0_a4 133 (by decide +kernel) rfl
theorem wt856 : (Cond.methodLink "WrongRoomLaw" (84 : Nat) ({ cls := "WrongRoom", name := "farthest", desc := "(II)I" } : Jvm.MethodName)) ∈ T0 := T0_a4 136 (by decide +kernel) rfl
theorem wt857 : (Cond.instanceMethod ({ cls := "WrongRoom", name := "farthest", desc := "(II)I" } : Jvm.MethodName)) ∈ T0 := T0_a4 137 (by decide +kernel) rfl
theorem wt858 : (Cond.selects "WrongRoom" ({ cls := "WrongRoom", name := "farthest", desc := "(II)I" } : Jvm.MethodName) ({ cls := "WrongRoom", name := "farthest", desc := "(II)I" } : Jvm.MethodName)) ∈ T0 := T0_a4 138 (by decide +kernel) rfl
theorem wt860 : (Cond.methodLink "WrongRoomLaw" (88 : Nat) ({ cls := "WrongRoom", name := "homeIn", desc := "(I)I" } : Jvm.MethodName)) ∈ T0 := T0_a4 140 (by decide +kernel) rfl
theorem wt861 : (Cond.instanceMethod ({ cls := "WrongRoom", name := "homeIn", desc := "(I)I" } : Jvm.MethodName)) ∈ T0 := T0_a4 141 (by decide +kernel) rfl
theorem wt862 : (Cond.selects "WrongRoom" ({ cls := "WrongRoom", name := "homeIn", desc := "(I)I" } : Jvm.MethodName) ({ cls := "WrongRoom", name := "homeIn", desc := "(I)I" } : Jvm.MethodName)) ∈ T0 := T0_a4 142 (by decide +kernel) rfl
theorem wt870 : (Cond.methodLink "WrongRoomLaw" (92 : Nat) ({ cls := "WrongRoom", name := "fits", desc := "()I" } : Jvm.MethodName)) ∈ T0 := T0_a4 150 (by decide +kernel) rfl
theorem wt871 : (Cond.instanceMethod ({ cls := "WrongRoom", name := "fits", desc := "()I" } : Jvm.MethodName)) ∈ T0 := T0_a4 151 (by decide +kernel) rfl
theorem wt872 : (Cond.selects "WrongRoom" ({ cls := "WrongRoom", name := "fits", desc := "()I" } : Jvm.MethodName) ({ cls := "WrongRoom", name := "fits", desc := "()I" } : Jvm.MethodName)) ∈ T0 := T0_a4 152 (by decide +kernel) rfl
theorem wt904 : (Cond.methodLink "WrongRoomLaw" (96 : Nat) ({ cls := "WrongRoom", name := "could", desc := "(I)I" } : Jvm.MethodName)) ∈ T0 := T0_a4 184 (by decide +kernel) rfl
theorem wt905 : (Cond.instanceMethod ({ cls := "WrongRoom", name := "could", desc := "(I)I" } : Jvm.MethodName)) ∈ T0 := T0_a4 185 (by decide +kernel) rfl
theorem wt906 : (Cond.selects "WrongRoom" ({ cls := "WrongRoom", name := "could", desc := "(I)I" } : Jvm.MethodName) ({ cls := "WrongRoom", name := "could", desc := "(I)I" } : Jvm.MethodName)) ∈ T0 := T0_a4 186 (by decide +kernel) rfl
theorem wt912 : (Cond.methodLink "WrongRoomLaw" (100 : Nat) ({ cls := "WrongRoom", name := "surely", desc := "(I)I" } : Jvm.MethodName)) ∈ T0 := T0_a4 192 (by decide +kernel) rfl
theorem wt913 : (Cond.instanceMethod ({ cls := "WrongRoom", name := "surely", desc := "(I)I" } : Jvm.MethodName)) ∈ T0 := T0_a4 193 (by decide +kernel) rfl
theorem wt914 : (Cond.selects "WrongRoom" ({ cls := "WrongRoom", name := "surely", desc := "(I)I" } : Jvm.MethodName) ({ cls := "WrongRoom", name := "surely", desc := "(I)I" } : Jvm.MethodName)) ∈ T0 := T0_a4 194 (by decide +kernel) rfl
theorem wt921 : (Cond.methodLink "WrongRoomLaw" (104 : Nat) ({ cls := "WrongRoom", name := "firstOf", desc := "(I)I" } : Jvm.MethodName)) ∈ T0 := T0_a4 201 (by decide +kernel) rfl
theorem wt922 : (Cond.instanceMethod ({ cls := "WrongRoom", name := "firstOf", desc := "(I)I" } : Jvm.MethodName)) ∈ T0 := T0_a4 202 (by decide +kernel) rfl
theorem wt923 : (Cond.selects "WrongRoom" ({ cls := "WrongRoom", name := "firstOf", desc := "(I)I" } : Jvm.MethodName) ({ cls := "WrongRoom", name := "firstOf", desc := "(I)I" } : Jvm.MethodName)) ∈ T0 := T0_a4 203 (by decide +kernel) rfl
theorem wt929 : (Cond.methodLink "WrongRoomLaw" (108 : Nat) ({ cls := "WrongRoom", name := "ask", desc := "()I" } : Jvm.MethodName)) ∈ T0 := T0_a4 209 (by decide +kernel) rfl
theorem wt930 : (Cond.instanceMethod ({ cls := "WrongRoom", name := "ask", desc := "()I" } : Jvm.MethodName)) ∈ T0 := T0_a4 210 (by decide +kernel) rfl
theorem wt931 : (Cond.selects "WrongRoom" ({ cls := "WrongRoom", name := "ask", desc := "()I" } : Jvm.MethodName) ({ cls := "WrongRoom", name := "ask", desc := "()I" } : Jvm.MethodName)) ∈ T0 := T0_a4 211 (by decide +kernel) rfl
theorem wt944 : (Cond.methodLink "WrongRoomLaw" (112 : Nat) ({ cls := "WrongRoom", name := "askLeaves", desc := "()I" } : Jvm.MethodName)) ∈ T0 := T0_a4 224 (by decide +kernel) rfl
theorem wt945 : (Cond.instanceMethod ({ cls := "WrongRoom", name := "askLeaves", desc := "()I" } : Jvm.MethodName)) ∈ T0 := T0_a4 225 (by decide +kernel) rfl
theorem wt946 : (Cond.selects "WrongRoom" ({ cls := "WrongRoom", name := "askLeaves", desc := "()I" } : Jvm.MethodName) ({ cls := "WrongRoom", name := "askLeaves", desc := "()I" } : Jvm.MethodName)) ∈ T0 := T0_a4 226 (by decide +kernel) rfl
theorem wt949 : (Cond.methodLink "WrongRoomLaw" (116 : Nat) ({ cls := "WrongRoom", name := "owes", desc := "(IZ)J" } : Jvm.MethodName)) ∈ T0 := T0_a4 229 (by decide +kernel) rfl
theorem wt950 : (Cond.instanceMethod ({ cls := "WrongRoom", name := "owes", desc := "(IZ)J" } : Jvm.MethodName)) ∈ T0 := T0_a4 230 (by decide +kernel) rfl
theorem wt951 : (Cond.selects "WrongRoom" ({ cls := "WrongRoom", name := "owes", desc := "(IZ)J" } : Jvm.MethodName) ({ cls := "WrongRoom", name := "owes", desc := "(IZ)J" } : Jvm.MethodName)) ∈ T0 := T0_a4 231 (by decide +kernel) rfl
theorem wt974 : (Cond.methodLink "WrongRoomLaw" (121 : Nat) ({ cls := "WrongRoom", name := "net", desc := "(IZ)J" } : Jvm.MethodName)) ∈ T0 := T0_a5 14 (by decide +kernel) rfl
theorem wt975 : (Cond.instanceMethod ({ cls := "WrongRoom", name := "net", desc := "(IZ)J" } : Jvm.MethodName)) ∈ T0 := T0_a5 15 (by decide +kernel) rfl
theorem wt976 : (Cond.selects "WrongRoom" ({ cls := "WrongRoom", name := "net", desc := "(IZ)J" } : Jvm.MethodName) ({ cls := "WrongRoom", name := "net", desc := "(IZ)J" } : Jvm.MethodName)) ∈ T0 := T0_a5 16 (by decide +kernel) rfl
theorem wt979 : (Cond.methodLink "WrongRoomLaw" (125 : Nat) ({ cls := "WrongRoom", name := "debtor", desc := "()I" } : Jvm.MethodName)) ∈ T0 := T0_a5 19 (by decide +kernel) rfl
theorem wt980 : (Cond.instanceMethod ({ cls := "WrongRoom", name := "debtor", desc := "()I" } : Jvm.MethodName)) ∈ T0 := T0_a5 20 (by decide +kernel) rfl
theorem wt981 : (Cond.selects "WrongRoom" ({ cls := "WrongRoom", name := "debtor", desc := "()I" } : Jvm.MethodName) ({ cls := "WrongRoom", name := "debtor", desc := "()I" } : Jvm.MethodName)) ∈ T0 := T0_a5 21 (by decide +kernel) rfl
theorem wt983 : (Cond.methodLink "WrongRoomLaw" (129 : Nat) ({ cls := "WrongRoom", name := "paired", desc := "()I" } : Jvm.MethodName)) ∈ T0 := T0_a5 23 (by decide +kernel) rfl
theorem wt984 : (Cond.instanceMethod ({ cls := "WrongRoom", name := "paired", desc := "()I" } : Jvm.MethodName)) ∈ T0 := T0_a5 24 (by decide +kernel) rfl
theorem wt985 : (Cond.selects "WrongRoom" ({ cls := "WrongRoom", name := "paired", desc := "()I" } : Jvm.MethodName) ({ cls := "WrongRoom", name := "paired", desc := "()I" } : Jvm.MethodName)) ∈ T0 := T0_a5 25 (by decide +kernel) rfl
theorem wt1029 : (Cond.methodLink "WrongRoomLaw" (133 : Nat) ({ cls := "WrongRoom", name := "fewest", desc := "()I" } : Jvm.MethodName)) ∈ T0 := T0_a5 69 (by decide +kernel) rfl
theorem wt1030 : (Cond.instanceMethod ({ cls := "WrongRoom", name := "fewest", desc := "()I" } : Jvm.MethodName)) ∈ T0 := T0_a5 70 (by decide +kernel) rfl
theorem wt1031 : (Cond.selects "WrongRoom" ({ cls := "WrongRoom", name := "fewest", desc := "()I" } : Jvm.MethodName) ({ cls := "WrongRoom", name := "fewest", desc := "()I" } : Jvm.MethodName)) ∈ T0 := T0_a5 71 (by decide +kernel) rfl
theorem wt1037 : (Cond.methodLink "WrongRoomLaw" (137 : Nat) ({ cls := "WrongRoom", name := "exchangeAt", desc := "(I)I" } : Jvm.MethodName)) ∈ T0 := T0_a5 77 (by decide +kernel) rfl
theorem wt1038 : (Cond.instanceMethod ({ cls := "WrongRoom", name := "exchangeAt", desc := "(I)I" } : Jvm.MethodName)) ∈ T0 := T0_a5 78 (by decide +kernel) rfl
theorem wt1039 : (Cond.selects "WrongRoom" ({ cls := "WrongRoom", name := "exchangeAt", desc := "(I)I" } : Jvm.MethodName) ({ cls := "WrongRoom", name := "exchangeAt", desc := "(I)I" } : Jvm.MethodName)) ∈ T0 := T0_a5 79 (by decide +kernel) rfl
theorem wt1045 : (Cond.methodLink "WrongRoomLaw" (141 : Nat) ({ cls := "WrongRoom", name := "stands", desc := "(I)I" } : Jvm.MethodName)) ∈ T0 := T0_a5 85 (by decide +kernel) rfl
theorem wt1046 : (Cond.instanceMethod ({ cls := "WrongRoom", name := "stands", desc := "(I)I" } : Jvm.MethodName)) ∈ T0 := T0_a5 86 (by decide +kernel) rfl
theorem wt1047 : (Cond.selects "WrongRoom" ({ cls := "WrongRoom", name := "stands", desc := "(I)I" } : Jvm.MethodName) ({ cls := "WrongRoom", name := "stands", desc := "(I)I" } : Jvm.MethodName)) ∈ T0 := T0_a5 87 (by decide +kernel) rfl
theorem wt1062 : (Cond.methodLink "WrongRoomLaw" (145 : Nat) ({ cls := "WrongRoom", name := "gain", desc := "(IIIIZ)I" } : Jvm.MethodName)) ∈ T0 := T0_a5 102 (by decide +kernel) rfl
theorem wt1063 : (Cond.instanceMethod ({ cls := "WrongRoom", name := "gain", desc := "(IIIIZ)I" } : Jvm.MethodName)) ∈ T0 := T0_a5 103 (by decide +kernel) rfl
theorem wt1064 : (Cond.selects "WrongRoom" ({ cls := "WrongRoom", name := "gain", desc := "(IIIIZ)I" } : Jvm.MethodName) ({ cls := "WrongRoom", name := "gain", desc := "(IIIIZ)I" } : Jvm.MethodName)) ∈ T0 := T0_a5 104 (by decide +kernel) rfl
theorem wt1089 : (Cond.methodLink "WrongRoomLaw" (150 : Nat) ({ cls := "WrongRoom", name := "rests", desc := "(II)I" } : Jvm.MethodName)) ∈ T0 := T0_a5 129 (by decide +kernel) rfl
theorem wt1090 : (Cond.instanceMethod ({ cls := "WrongRoom", name := "rests", desc := "(II)I" } : Jvm.MethodName)) ∈ T0 := T0_a5 130 (by decide +kernel) rfl
theorem wt1091 : (Cond.selects "WrongRoom" ({ cls := "WrongRoom", name := "rests", desc := "(II)I" } : Jvm.MethodName) ({ cls := "WrongRoom", name := "rests", desc := "(II)I" } : Jvm.MethodName)) ∈ T0 := T0_a5 131 (by decide +kernel) rfl
theorem wt1112 : (Cond.methodLink "WrongRoomLaw" (154 : Nat) ({ cls := "WrongRoom", name := "rest", desc := "(II)I" } : Jvm.MethodName)) ∈ T0 := T0_a5 152 (by decide +kernel) rfl
theorem wt1113 : (Cond.instanceMethod ({ cls := "WrongRoom", name := "rest", desc := "(II)I" } : Jvm.MethodName)) ∈ T0 := T0_a5 153 (by decide +kernel) rfl
theorem wt1114 : (Cond.selects "WrongRoom" ({ cls := "WrongRoom", name := "rest", desc := "(II)I" } : Jvm.MethodName) ({ cls := "WrongRoom", name := "rest", desc := "(II)I" } : Jvm.MethodName)) ∈ T0 := T0_a5 154 (by decide +kernel) rfl
theorem wt1120 : (Cond.methodLink "WrongRoomLaw" (158 : Nat) ({ cls := "WrongRoom", name := "builders", desc := "(II)I" } : Jvm.MethodName)) ∈ T0 := T0_a5 160 (by decide +kernel) rfl
theorem wt1121 : (Cond.instanceMethod ({ cls := "WrongRoom", name := "builders", desc := "(II)I" } : Jvm.MethodName)) ∈ T0 := T0_a5 161 (by decide +kernel) rfl
theorem wt1122 : (Cond.selects "WrongRoom" ({ cls := "WrongRoom", name := "builders", desc := "(II)I" } : Jvm.MethodName) ({ cls := "WrongRoom", name := "builders", desc := "(II)I" } : Jvm.MethodName)) ∈ T0 := T0_a5 162 (by decide +kernel) rfl
theorem wt1139 : (Cond.methodLink "WrongRoomLaw" (162 : Nat) ({ cls := "WrongRoom", name := "builtOf", desc := "(III)I" } : Jvm.MethodName)) ∈ T0 := T0_a5 179 (by decide +kernel) rfl
theorem wt1140 : (Cond.instanceMethod ({ cls := "WrongRoom", name := "builtOf", desc := "(III)I" } : Jvm.MethodName)) ∈ T0 := T0_a5 180 (by decide +kernel) rfl
theorem wt1141 : (Cond.selects "WrongRoom" ({ cls := "WrongRoom", name := "builtOf", desc := "(III)I" } : Jvm.MethodName) ({ cls := "WrongRoom", name := "builtOf", desc := "(III)I" } : Jvm.MethodName)) ∈ T0 := T0_a5 181 (by decide +kernel) rfl
theorem wt1143 : (Cond.methodLink "WrongRoomLaw" (166 : Nat) ({ cls := "WrongRoom", name := "exchange", desc := "(II)Z" } : Jvm.MethodName)) ∈ T0 := T0_a5 183 (by decide +kernel) rfl
theorem wt1144 : (Cond.instanceMethod ({ cls := "WrongRoom", name := "exchange", desc := "(II)Z" } : Jvm.MethodName)) ∈ T0 := T0_a5 184 (by decide +kernel) rfl
theorem wt1145 : (Cond.selects "WrongRoom" ({ cls := "WrongRoom", name := "exchange", desc := "(II)Z" } : Jvm.MethodName) ({ cls := "WrongRoom", name := "exchange", desc := "(II)Z" } : Jvm.MethodName)) ∈ T0 := T0_a5 185 (by decide +kernel) rfl
theorem wt1160 : (Cond.methodLink "WrongRoomLaw" (171 : Nat) ({ cls := "WrongRoom", name := "shut", desc := "(IZ)Z" } : Jvm.MethodName)) ∈ T0 := T0_a5 200 (by decide +kernel) rfl
theorem wt1161 : (Cond.instanceMethod ({ cls := "WrongRoom", name := "shut", desc := "(IZ)Z" } : Jvm.MethodName)) ∈ T0 := T0_a5 201 (by decide +kernel) rfl
theorem wt1162 : (Cond.selects "WrongRoom" ({ cls := "WrongRoom", name := "shut", desc := "(IZ)Z" } : Jvm.MethodName) ({ cls := "WrongRoom", name := "shut", desc := "(IZ)Z" } : Jvm.MethodName)) ∈ T0 := T0_a5 202 (by decide +kernel) rfl
theorem wt1168 : (Cond.methodLink "WrongRoomLaw" (176 : Nat) ({ cls := "WrongRoom", name := "go", desc := "(II)I" } : Jvm.MethodName)) ∈ T0 := T0_a5 208 (by decide +kernel) rfl
theorem wt1169 : (Cond.instanceMethod ({ cls := "WrongRoom", name := "go", desc := "(II)I" } : Jvm.MethodName)) ∈ T0 := T0_a5 209 (by decide +kernel) rfl
theorem wt1170 : (Cond.selects "WrongRoom" ({ cls := "WrongRoom", name := "go", desc := "(II)I" } : Jvm.MethodName) ({ cls := "WrongRoom", name := "go", desc := "(II)I" } : Jvm.MethodName)) ∈ T0 := T0_a5 210 (by decide +kernel) rfl
theorem wt1180 : (Cond.methodLink "WrongRoomLaw" (180 : Nat) ({ cls := "WrongRoom", name := "waits", desc := "(II)I" } : Jvm.MethodName)) ∈ T0 := T0_a5 220 (by decide +kernel) rfl
theorem wt1181 : (Cond.instanceMethod ({ cls := "WrongRoom", name := "waits", desc := "(II)I" } : Jvm.MethodName)) ∈ T0 := T0_a5 221 (by decide +kernel) rfl
theorem wt1182 : (Cond.selects "WrongRoom" ({ cls := "WrongRoom", name := "waits", desc := "(II)I" } : Jvm.MethodName) ({ cls := "WrongRoom", name := "waits", desc := "(II)I" } : Jvm.MethodName)) ∈ T0 := T0_a5 222 (by decide +kernel) rfl
theorem wt1184 : (Cond.methodLink "WrongRoomLaw" (184 : Nat) ({ cls := "WrongRoom", name := "undo", desc := "()Z" } : Jvm.MethodName)) ∈ T0 := T0_a5 224 (by decide +kernel) rfl
theorem wt1185 : (Cond.instanceMethod ({ cls := "WrongRoom", name := "undo", desc := "()Z" } : Jvm.MethodName)) ∈ T0 := T0_a5 225 (by decide +kernel) rfl
theorem wt1186 : (Cond.selects "WrongRoom" ({ cls := "WrongRoom", name := "undo", desc := "()Z" } : Jvm.MethodName) ({ cls := "WrongRoom", name := "undo", desc := "()Z" } : Jvm.MethodName)) ∈ T0 := T0_a5 226 (by decide +kernel) rfl
theorem wt1200 : (Cond.methodLink "WrongRoomLaw" (189 : Nat) ({ cls := "WrongRoom", name := "mark", desc := "()I" } : Jvm.MethodName)) ∈ T0 := T0_a6 0 (by decide +kernel) rfl
theorem wt1201 : (Cond.instanceMethod ({ cls := "WrongRoom", name := "mark", desc := "()I" } : Jvm.MethodName)) ∈ T0 := T0_a6 1 (by decide +kernel) rfl
theorem wt1202 : (Cond.selects "WrongRoom" ({ cls := "WrongRoom", name := "mark", desc := "()I" } : Jvm.MethodName) ({ cls := "WrongRoom", name := "mark", desc := "()I" } : Jvm.MethodName)) ∈ T0 := T0_a6 2 (by decide +kernel) rfl
theorem wt1212 : (Cond.methodLink "WrongRoomLaw" (193 : Nat) ({ cls := "WrongRoom", name := "back", desc := "(I)Z" } : Jvm.MethodName)) ∈ T0 := T0_a6 12 (by decide +kernel) rfl
theorem wt1213 : (Cond.instanceMethod ({ cls := "WrongRoom", name := "back", desc := "(I)Z" } : Jvm.MethodName)) ∈ T0 := T0_a6 13 (by decide +kernel) rfl
theorem wt1214 : (Cond.selects "WrongRoom" ({ cls := "WrongRoom", name := "back", desc := "(I)Z" } : Jvm.MethodName) ({ cls := "WrongRoom", name := "back", desc := "(I)Z" } : Jvm.MethodName)) ∈ T0 := T0_a6 14 (by decide +kernel) rfl
theorem wt1220 : (Cond.methodLink "WrongRoomLaw" (207 : Nat) ({ cls := "WrongRoom", name := "size", desc := "(I)I" } : Jvm.MethodName)) ∈ T0 := T0_a6 20 (by decide +kernel) rfl
theorem wt1221 : (Cond.instanceMethod ({ cls := "WrongRoom", name := "size", desc := "(I)I" } : Jvm.MethodName)) ∈ T0 := T0_a6 21 (by decide +kernel) rfl
theorem wt1222 : (Cond.selects "WrongRoom" ({ cls := "WrongRoom", name := "size", desc := "(I)I" } : Jvm.MethodName) ({ cls := "WrongRoom", name := "size", desc := "(I)I" } : Jvm.MethodName)) ∈ T0 := T0_a6 22 (by decide +kernel) rfl
theorem wt1237 : (Cond.methodLink "WrongRoomLaw" (211 : Nat) ({ cls := "WrongRoom", name := "trouble", desc := "()I" } : Jvm.MethodName)) ∈ T0 := T0_a6 37 (by decide +kernel) rfl
theorem wt1238 : (Cond.instanceMethod ({ cls := "WrongRoom", name := "trouble", desc := "()I" } : Jvm.MethodName)) ∈ T0 := T0_a6 38 (by decide +kernel) rfl
theorem wt1239 : (Cond.selects "WrongRoom" ({ cls := "WrongRoom", name := "trouble", desc := "()I" } : Jvm.MethodName) ({ cls := "WrongRoom", name := "trouble", desc := "()I" } : Jvm.MethodName)) ∈ T0 := T0_a6 39 (by decide +kernel) rfl
theorem wt1434 : (Cond.methodLink "WrongRoomLaw" (204 : Nat) ({ cls := "WrongRoomModel", name := "thrown", desc := "()I" } : Jvm.MethodName)) ∈ T0 := T0_a6 234 (by decide +kernel) rfl
theorem wt1435 : (Cond.instanceMethod ({ cls := "WrongRoomModel", name := "thrown", desc := "()I" } : Jvm.MethodName)) ∈ T0 := T0_a6 235 (by decide +kernel) rfl
theorem wt1436 : (Cond.selects "WrongRoomModel" ({ cls := "WrongRoomModel", name := "thrown", desc := "()I" } : Jvm.MethodName) ({ cls := "WrongRoomModel", name := "thrown", desc := "()I" } : Jvm.MethodName)) ∈ T0 := T0_a6 236 (by decide +kernel) rfl
theorem wt1438 : (Cond.methodLink "WrongRoomLaw" (23 : Nat) ({ cls := "WrongRoomModel", name := "feed", desc := "(IIIII)I" } : Jvm.MethodName)) ∈ T0 := T0_a6 238 (by decide +kernel) rfl
theorem wt1439 : (Cond.instanceMethod ({ cls := "WrongRoomModel", name := "feed", desc := "(IIIII)I" } : Jvm.MethodName)) ∈ T0 := T0_a6 239 (by decide +kernel) rfl
theorem wt1440 : (Cond.selects "WrongRoomModel" ({ cls := "WrongRoomModel", name := "feed", desc := "(IIIII)I" } : Jvm.MethodName) ({ cls := "WrongRoomModel", name := "feed", desc := "(IIIII)I" } : Jvm.MethodName)) ∈ T0 := T0_a7 0 (by decide +kernel) rfl
theorem wt1442 : (Cond.methodLink "WrongRoomLaw" (27 : Nat) ({ cls := "WrongRoomModel", name := "town", desc := "(I)I" } : Jvm.MethodName)) ∈ T0 := T0_a7 2 (by decide +kernel) rfl
theorem wt1443 : (Cond.instanceMethod ({ cls := "WrongRoomModel", name := "town", desc := "(I)I" } : Jvm.MethodName)) ∈ T0 := T0_a7 3 (by decide +kernel) rfl
theorem wt1444 : (Cond.selects "WrongRoomModel" ({ cls := "WrongRoomModel", name := "town", desc := "(I)I" } : Jvm.MethodName) ({ cls := "WrongRoomModel", name := "town", desc := "(I)I" } : Jvm.MethodName)) ∈ T0 := T0_a7 4 (by decide +kernel) rfl
theorem wt1719 : (Cond.methodLink "WrongRoomLaw" (32 : Nat) ({ cls := "WrongRoomModel", name := "fault", desc := "()I" } : Jvm.MethodName)) ∈ T0 := T0_a8 39 (by decide +kernel) rfl
theorem wt1720 : (Cond.instanceMethod ({ cls := "WrongRoomModel", name := "fault", desc := "()I" } : Jvm.MethodName)) ∈ T0 := T0_a8 40 (by decide +kernel) rfl
theorem wt1721 : (Cond.selects "WrongRoomModel" ({ cls := "WrongRoomModel", name := "fault", desc := "()I" } : Jvm.MethodName) ({ cls := "WrongRoomModel", name := "fault", desc := "()I" } : Jvm.MethodName)) ∈ T0 := T0_a8 41 (by decide +kernel) rfl
theorem wt1723 : (Cond.methodLink "WrongRoomLaw" (36 : Nat) ({ cls := "WrongRoomModel", name := "where", desc := "()I" } : Jvm.MethodName)) ∈ T0 := T0_a8 43 (by decide +kernel) rfl
theorem wt1724 : (Cond.instanceMethod ({ cls := "WrongRoomModel", name := "where", desc := "()I" } : Jvm.MethodName)) ∈ T0 := T0_a8 44 (by decide +kernel) rfl
theorem wt1725 : (Cond.selects "WrongRoomModel" ({ cls := "WrongRoomModel", name := "where", desc := "()I" } : Jvm.MethodName) ({ cls := "WrongRoomModel", name := "where", desc := "()I" } : Jvm.MethodName)) ∈ T0 := T0_a8 45 (by decide +kernel) rfl
theorem wt1727 : (Cond.methodLink "WrongRoomLaw" (41 : Nat) ({ cls := "WrongRoomModel", name := "house", desc := "(II)I" } : Jvm.MethodName)) ∈ T0 := T0_a8 47 (by decide +kernel) rfl
theorem wt1728 : (Cond.instanceMethod ({ cls := "WrongRoomModel", name := "house", desc := "(II)I" } : Jvm.MethodName)) ∈ T0 := T0_a8 48 (by decide +kernel) rfl
theorem wt1729 : (Cond.selects "WrongRoomModel" ({ cls := "WrongRoomModel", name := "house", desc := "(II)I" } : Jvm.MethodName) ({ cls := "WrongRoomModel", name := "house", desc := "(II)I" } : Jvm.MethodName)) ∈ T0 := T0_a8 49 (by decide +kernel) rfl
theorem wt1742 : (Cond.methodLink "WrongRoomLaw" (45 : Nat) ({ cls := "WrongRoomModel", name := "open", desc := "(II)I" } : Jvm.MethodName)) ∈ T0 := T0_a8 62 (by decide +kernel) rfl
theorem wt1743 : (Cond.instanceMethod ({ cls := "WrongRoomModel", name := "open", desc := "(II)I" } : Jvm.MethodName)) ∈ T0 := T0_a8 63 (by decide +kernel) rfl
theorem wt1744 : (Cond.selects "WrongRoomModel" ({ cls := "WrongRoomModel", name := "open", desc := "(II)I" } : Jvm.MethodName) ({ cls := "WrongRoomModel", name := "open", desc := "(II)I" } : Jvm.MethodName)) ∈ T0 := T0_a8 64 (by decide +kernel) rfl
theorem wt1756 : (Cond.methodLink "WrongRoomLaw" (49 : Nat) ({ cls := "WrongRoomModel", name := "street", desc := "(II)I" } : Jvm.MethodName)) ∈ T0 := T0_a8 76 (by decide +kernel) rfl
theorem wt1757 : (Cond.instanceMethod ({ cls := "WrongRoomModel", name := "street", desc := "(II)I" } : Jvm.MethodName)) ∈ T0 := T0_a8 77 (by decide +kernel) rfl
theorem wt1758 : (Cond.selects "WrongRoomModel" ({ cls := "WrongRoomModel", name := "street", desc := "(II)I" } : Jvm.MethodName) ({ cls := "WrongRoomModel", name := "street", desc := "(II)I" } : Jvm.MethodName)) ∈ T0 := T0_a8 78 (by decide +kernel) rfl
theorem wt1760 : (Cond.methodLink "WrongRoomLaw" (53 : Nat) ({ cls := "WrongRoomModel", name := "person", desc := "(II)I" } : Jvm.MethodName)) ∈ T0 := T0_a8 80 (by decide +kernel) rfl
theorem wt1761 : (Cond.instanceMethod ({ cls := "WrongRoomModel", name := "person", desc := "(II)I" } : Jvm.MethodName)) ∈ T0 := T0_a8 81 (by decide +kernel) rfl
theorem wt1762 : (Cond.selects "WrongRoomModel" ({ cls := "WrongRoomModel", name := "person", desc := "(II)I" } : Jvm.MethodName) ({ cls := "WrongRoomModel", name := "person", desc := "(II)I" } : Jvm.MethodName)) ∈ T0 := T0_a8 82 (by decide +kernel) rfl
theorem wt1768 : (Cond.methodLink "WrongRoomLaw" (57 : Nat) ({ cls := "WrongRoomModel", name := "candle", desc := "(I)I" } : Jvm.MethodName)) ∈ T0 := T0_a8 88 (by decide +kernel) rfl
theorem wt1769 : (Cond.instanceMethod ({ cls := "WrongRoomModel", name := "candle", desc := "(I)I" } : Jvm.MethodName)) ∈ T0 := T0_a8 89 (by decide +kernel) rfl
theorem wt1770 : (Cond.selects "WrongRoomModel" ({ cls := "WrongRoomModel", name := "candle", desc := "(I)I" } : Jvm.MethodName) ({ cls := "WrongRoomModel", name := "candle", desc := "(I)I" } : Jvm.MethodName)) ∈ T0 := T0_a8 90 (by decide +kernel) rfl
theorem wt1772 : (Cond.methodLink "WrongRoomLaw" (61 : Nat) ({ cls := "WrongRoomModel", name := "candleAt", desc := "(II)I" } : Jvm.MethodName)) ∈ T0 := T0_a8 92 (by decide +kernel) rfl
theorem wt1773 : (Cond.instanceMethod ({ cls := "WrongRoomModel", name := "candleAt", desc := "(II)I" } : Jvm.MethodName)) ∈ T0 := T0_a8 93 (by decide +kernel) rfl
theorem wt1774 : (Cond.selects "WrongRoomModel" ({ cls := "WrongRoomModel", name := "candleAt", desc := "(II)I" } : Jvm.MethodName) ({ cls := "WrongRoomModel", name := "candleAt", desc := "(II)I" } : Jvm.MethodName)) ∈ T0 := T0_a8 94 (by decide +kernel) rfl
theorem wt1776 : (Cond.methodLink "WrongRoomLaw" (65 : Nat) ({ cls := "WrongRoomModel", name := "mutual", desc := "()I" } : Jvm.MethodName)) ∈ T0 := T0_a8 96 (by decide +kernel) rfl
theorem wt1777 : (Cond.instanceMethod ({ cls := "WrongRoomModel", name := "mutual", desc := "()I" } : Jvm.MethodName)) ∈ T0 := T0_a8 97 (by decide +kernel) rfl
theorem wt1778 : (Cond.selects "WrongRoomModel" ({ cls := "WrongRoomModel", name := "mutual", desc := "()I" } : Jvm.MethodName) ({ cls := "WrongRoomModel", name := "mutual", desc := "()I" } : Jvm.MethodName)) ∈ T0 := T0_a8 98 (by decide +kernel) rfl
theorem wt1787 : (Cond.methodLink "WrongRoomLaw" (69 : Nat) ({ cls := "WrongRoomModel", name := "judge", desc := "()I" } : Jvm.MethodName)) ∈ T0 := T0_a8 107 (by decide +kernel) rfl
theorem wt1788 : (Cond.instanceMethod ({ cls := "WrongRoomModel", name := "judge", desc := "()I" } : Jvm.MethodName)) ∈ T0 := T0_a8 108 (by decide +kernel) rfl
theorem wt1789 : (Cond.selects "WrongRoomModel" ({ cls := "WrongRoomModel", name := "judge", desc := "()I" } : Jvm.MethodName) ({ cls := "WrongRoomModel", name := "judge", desc := "()I" } : Jvm.MethodName)) ∈ T0 := T0_a8 109 (by decide +kernel) rfl
theorem wt1791 : (Cond.methodLink "WrongRoomLaw" (74 : Nat) ({ cls := "WrongRoomModel", name := "way", desc := "(III)I" } : Jvm.MethodName)) ∈ T0 := T0_a8 111 (by decide +kernel) rfl
theorem wt1792 : (Cond.instanceMethod ({ cls := "WrongRoomModel", name := "way", desc := "(III)I" } : Jvm.MethodName)) ∈ T0 := T0_a8 112 (by decide +kernel) rfl
theorem wt1793 : (Cond.selects "WrongRoomModel" ({ cls := "WrongRoomModel", name := "way", desc := "(III)I" } : Jvm.MethodName) ({ cls := "WrongRoomModel", name := "way", desc := "(III)I" } : Jvm.MethodName)) ∈ T0 := T0_a8 113 (by decide +kernel) rfl
theorem wt1819 : (Cond.methodLink "WrongRoomLaw" (79 : Nat) ({ cls := "WrongRoomModel", name := "wayAt", desc := "(IIII)I" } : Jvm.MethodName)) ∈ T0 := T0_a8 139 (by decide +kernel) rfl
theorem wt1820 : (Cond.instanceMethod ({ cls := "WrongRoomModel", name := "wayAt", desc := "(IIII)I" } : Jvm.MethodName)) ∈ T0 := T0_a8 140 (by decide +kernel) rfl
theorem wt1821 : (Cond.selects "WrongRoomModel" ({ cls := "WrongRoomModel", name := "wayAt", desc := "(IIII)I" } : Jvm.MethodName) ({ cls := "WrongRoomModel", name := "wayAt", desc := "(IIII)I" } : Jvm.MethodName)) ∈ T0 := T0_a8 141 (by decide +kernel) rfl
theorem wt1823 : (Cond.methodLink "WrongRoomLaw" (83 : Nat) ({ cls := "WrongRoomModel", name := "saves", desc := "(III)I" } : Jvm.MethodName)) ∈ T0 := T0_a8 143 (by decide +kernel) rfl
theorem wt1824 : (Cond.instanceMethod ({ cls := "WrongRoomModel", name := "saves", desc := "(III)I" } : Jvm.MethodName)) ∈ T0 := T0_a8 144 (by decide +kernel) rfl
theorem wt1825 : (Cond.selects "WrongRoomModel" ({ cls := "WrongRoomModel", name := "saves", desc := "(III)I" } : Jvm.MethodName) ({ cls := "WrongRoomModel", name := "saves", desc := "(III)I" } : Jvm.MethodName)) ∈ T0 := T0_a8 145 (by decide +kernel) rfl
theorem wt1827 : (Cond.methodLink "WrongRoomLaw" (87 : Nat) ({ cls := "WrongRoomModel", name := "farthest", desc := "(II)I" } : Jvm.MethodName)) ∈ T0 := T0_a8 147 (by decide +kernel) rfl
theorem wt1828 : (Cond.instanceMethod ({ cls := "WrongRoomModel", name := "farthest", desc := "(II)I" } : Jvm.MethodName)) ∈ T0 := T0_a8 148 (by decide +kernel) rfl
theorem wt1829 : (Cond.selects "WrongRoomModel" ({ cls := "WrongRoomModel", name := "farthest", desc := "(II)I" } : Jvm.MethodName) ({ cls := "WrongRoomModel", name := "farthest", desc := "(II)I" } : Jvm.MethodName)) ∈ T0 := T0_a8 149 (by decide +kernel) rfl
theorem wt1831 : (Cond.methodLink "WrongRoomLaw" (91 : Nat) ({ cls := "WrongRoomModel", name := "homeIn", desc := "(I)I" } : Jvm.MethodName)) ∈ T0 := T0_a8 151 (by decide +kernel) rfl
theorem wt1832 : (Cond.instanceMethod ({ cls := "WrongRoomModel", name := "homeIn", desc := "(I)I" } : Jvm.MethodName)) ∈ T0 := T0_a8 152 (by decide +kernel) rfl
theorem wt1833 : (Cond.selects "WrongRoomModel" ({ cls := "WrongRoomModel", name := "homeIn", desc := "(I)I" } : Jvm.MethodName) ({ cls := "WrongRoomModel", name := "homeIn", desc := "(I)I" } : Jvm.MethodName)) ∈ T0 := T0_a8 153 (by decide +kernel) rfl
theorem wt1835 : (Cond.methodLink "WrongRoomLaw" (95 : Nat) ({ cls := "WrongRoomModel", name := "fits", desc := "()I" } : Jvm.MethodName)) ∈ T0 := T0_a8 155 (by decide +kernel) rfl
theorem wt1836 : (Cond.instanceMethod ({ cls := "WrongRoomModel", name := "fits", desc := "()I" } : Jvm.MethodName)) ∈ T0 := T0_a8 156 (by decide +kernel) rfl
theorem wt1837 : (Cond.selects "WrongRoomModel" ({ cls := "WrongRoomModel", name := "fits", desc := "()I" } : Jvm.MethodName) ({ cls := "WrongRoomModel", name := "fits", desc := "()I" } : Jvm.MethodName)) ∈ T0 := T0_a8 157 (by decide +kernel) rfl
theorem wt1855 : (Cond.methodLink "WrongRoomLaw" (99 : Nat) ({ cls := "WrongRoomModel", name := "could", desc := "(I)I" } : Jvm.MethodName)) ∈ T0 := T0_a8 175 (by decide +kernel) rfl
theorem wt1856 : (Cond.instanceMethod ({ cls := "WrongRoomModel", name := "could", desc := "(I)I" } : Jvm.MethodName)) ∈ T0 := T0_a8 176 (by decide +kernel) rfl
theorem wt1857 : (Cond.selects "WrongRoomModel" ({ cls := "WrongRoomModel", name := "could", desc := "(I)I" } : Jvm.MethodName) ({ cls := "WrongRoomModel", name := "could", desc := "(I)I" } : Jvm.MethodName)) ∈ T0 := T0_a8 177 (by decide +kernel) rfl
theorem wt1859 : (Cond.methodLink "WrongRoomLaw" (103 : Nat) ({ cls := "WrongRoomModel", name := "surely", desc := "(I)I" } : Jvm.MethodName)) ∈ T0 := T0_a8 179 (by decide +kernel) rfl
theorem wt1860 : (Cond.instanceMethod ({ cls := "WrongRoomModel", name := "surely", desc := "(I)I" } : Jvm.MethodName)) ∈ T0 := T0_a8 180 (by decide +kernel) rfl
theorem wt1861 : (Cond.selects "WrongRoomModel" ({ cls := "WrongRoomModel", name := "surely", desc := "(I)I" } : Jvm.MethodName) ({ cls := "WrongRoomModel", name := "surely", desc := "(I)I" } : Jvm.MethodName)) ∈ T0 := T0_a8 181 (by decide +kernel) rfl
theorem wt1863 : (Cond.methodLink "WrongRoomLaw" (107 : Nat) ({ cls := "WrongRoomModel", name := "firstOf", desc := "(I)I" } : Jvm.MethodName)) ∈ T0 := T0_a8 183 (by decide +kernel) rfl
theorem wt1864 : (Cond.instanceMethod ({ cls := "WrongRoomModel", name := "firstOf", desc := "(I)I" } : Jvm.MethodName)) ∈ T0 := T0_a8 184 (by decide +kernel) rfl
theorem wt1865 : (Cond.selects "WrongRoomModel" ({ cls := "WrongRoomModel", name := "firstOf", desc := "(I)I" } : Jvm.MethodName) ({ cls := "WrongRoomModel", name := "firstOf", desc := "(I)I" } : Jvm.MethodName)) ∈ T0 := T0_a8 185 (by decide +kernel) rfl
theorem wt1867 : (Cond.methodLink "WrongRoomLaw" (111 : Nat) ({ cls := "WrongRoomModel", name := "ask", desc := "()I" } : Jvm.MethodName)) ∈ T0 := T0_a8 187 (by decide +kernel) rfl
theorem wt1868 : (Cond.instanceMethod ({ cls := "WrongRoomModel", name := "ask", desc := "()I" } : Jvm.MethodName)) ∈ T0 := T0_a8 188 (by decide +kernel) rfl
theorem wt1869 : (Cond.selects "WrongRoomModel" ({ cls := "WrongRoomModel", name := "ask", desc := "()I" } : Jvm.MethodName) ({ cls := "WrongRoomModel", name := "ask", desc := "()I" } : Jvm.MethodName)) ∈ T0 := T0_a8 189 (by decide +kernel) rfl
theorem wt1875 : (Cond.methodLink "WrongRoomLaw" (115 : Nat) ({ cls := "WrongRoomModel", name := "askLeaves", desc := "()I" } : Jvm.MethodName)) ∈ T0 := T0_a8 195 (by decide +kernel) rfl
theorem wt1876 : (Cond.instanceMethod ({ cls := "WrongRoomModel", name := "askLeaves", desc := "()I" } : Jvm.MethodName)) ∈ T0 := T0_a8 196 (by decide +kernel) rfl
theorem wt1877 : (Cond.selects "WrongRoomModel" ({ cls := "WrongRoomModel", name := "askLeaves", desc := "()I" } : Jvm.MethodName) ({ cls := "WrongRoomModel", name := "askLeaves", desc := "()I" } : Jvm.MethodName)) ∈ T0 := T0_a8 197 (by decide +kernel) rfl
theorem wt1879 : (Cond.methodLink "WrongRoomLaw" (120 : Nat) ({ cls := "WrongRoomModel", name := "owes", desc := "(IZ)J" } : Jvm.MethodName)) ∈ T0 := T0_a8 199 (by decide +kernel) rfl
theorem wt1880 : (Cond.instanceMethod ({ cls := "WrongRoomModel", name := "owes", desc := "(IZ)J" } : Jvm.MethodName)) ∈ T0 := T0_a8 200 (by decide +kernel) rfl
theorem wt1881 : (Cond.selects "WrongRoomModel" ({ cls := "WrongRoomModel", name := "owes", desc := "(IZ)J" } : Jvm.MethodName) ({ cls := "WrongRoomModel", name := "owes", desc := "(IZ)J" } : Jvm.MethodName)) ∈ T0 := T0_a8 201 (by decide +kernel) rfl
theorem wt1898 : (Cond.methodLink "WrongRoomLaw" (124 : Nat) ({ cls := "WrongRoomModel", name := "net", desc := "(IZ)J" } : Jvm.MethodName)) ∈ T0 := T0_a8 218 (by decide +kernel) rfl
theorem wt1899 : (Cond.instanceMethod ({ cls := "WrongRoomModel", name := "net", desc := "(IZ)J" } : Jvm.MethodName)) ∈ T0 := T0_a8 219 (by decide +kernel) rfl
theorem wt1900 : (Cond.selects "WrongRoomModel" ({ cls := "WrongRoomModel", name := "net", desc := "(IZ)J" } : Jvm.MethodName) ({ cls := "WrongRoomModel", name := "net", desc := "(IZ)J" } : Jvm.MethodName)) ∈ T0 := T0_a8 220 (by decide +kernel) rfl
theorem wt1903 : (Cond.methodLink "WrongRoomLaw" (128 : Nat) ({ cls := "WrongRoomModel", name := "debtor", desc := "()I" } : Jvm.MethodName)) ∈ T0 := T0_a8 223 (by decide +kernel) rfl
theorem wt1904 : (Cond.instanceMethod ({ cls := "WrongRoomModel", name := "debtor", desc := "()I" } : Jvm.MethodName)) ∈ T0 := T0_a8 224 (by decide +kernel) rfl
theorem wt1905 : (Cond.selects "WrongRoomModel" ({ cls := "WrongRoomModel", name := "debtor", desc := "()I" } : Jvm.MethodName) ({ cls := "WrongRoomModel", name := "debtor", desc := "()I" } : Jvm.MethodName)) ∈ T0 := T0_a8 225 (by decide +kernel) rfl
theorem wt1907 : (Cond.methodLink "WrongRoomLaw" (132 : Nat) ({ cls := "WrongRoomModel", name := "paired", desc := "()I" } : Jvm.MethodName)) ∈ T0 := T0_a8 227 (by decide +kernel) rfl
theorem wt1908 : (Cond.instanceMethod ({ cls := "WrongRoomModel", name := "paired", desc := "()I" } : Jvm.MethodName)) ∈ T0 := T0_a8 228 (by decide +kernel) rfl
theorem wt1909 : (Cond.selects "WrongRoomModel" ({ cls := "WrongRoomModel", name := "paired", desc := "()I" } : Jvm.MethodName) ({ cls := "WrongRoomModel", name := "paired", desc := "()I" } : Jvm.MethodName)) ∈ T0 := T0_a8 229 (by decide +kernel) rfl
theorem wt1936 : (Cond.methodLink "WrongRoomLaw" (136 : Nat) ({ cls := "WrongRoomModel", name := "fewest", desc := "()I" } : Jvm.MethodName)) ∈ T0 := T0_a9 16 (by decide +kernel) rfl
theorem wt1937 : (Cond.instanceMethod ({ cls := "WrongRoomModel", name := "fewest", desc := "()I" } : Jvm.MethodName)) ∈ T0 := T0_a9 17 (by decide +kernel) rfl
theorem wt1938 : (Cond.selects "WrongRoomModel" ({ cls := "WrongRoomModel", name := "fewest", desc := "()I" } : Jvm.MethodName) ({ cls := "WrongRoomModel", name := "fewest", desc := "()I" } : Jvm.MethodName)) ∈ T0 := T0_a9 18 (by decide +kernel) rfl
theorem wt1940 : (Cond.methodLink "WrongRoomLaw" (140 : Nat) ({ cls := "WrongRoomModel", name := "exchangeAt", desc := "(I)I" } : Jvm.MethodName)) ∈ T0 := T0_a9 20 (by decide +kernel) rfl
theorem wt1941 : (Cond.instanceMethod ({ cls := "WrongRoomModel", name := "exchangeAt", desc := "(I)I" } : Jvm.MethodName)) ∈ T0 := T0_a9 21 (by decide +kernel) rfl
theorem wt1942 : (Cond.selects "WrongRoomModel" ({ cls := "WrongRoomModel", name := "exchangeAt", desc := "(I)I" } : Jvm.MethodName) ({ cls := "WrongRoomModel", name := "exchangeAt", desc := "(I)I" } : Jvm.MethodName)) ∈ T0 := T0_a9 22 (by decide +kernel) rfl
theorem wt1944 : (Cond.methodLink "WrongRoomLaw" (144 : Nat) ({ cls := "WrongRoomModel", name := "stands", desc := "(I)I" } : Jvm.MethodName)) ∈ T0 := T0_a9 24 (by decide +kernel) rfl
theorem wt1945 : (Cond.instanceMethod ({ cls := "WrongRoomModel", name := "stands", desc := "(I)I" } : Jvm.MethodName)) ∈ T0 := T0_a9 25 (by decide +kernel) rfl
theorem wt1946 : (Cond.selects "WrongRoomModel" ({ cls := "WrongRoomModel", name := "stands", desc := "(I)I" } : Jvm.MethodName) ({ cls := "WrongRoomModel", name := "stands", desc := "(I)I" } : Jvm.MethodName)) ∈ T0 := T0_a9 26 (by decide +kernel) rfl
theorem wt1952 : (Cond.methodLink "WrongRoomLaw" (149 : Nat) ({ cls := "WrongRoomModel", name := "gain", desc := "(IIIIZ)I" } : Jvm.MethodName)) ∈ T0 := T0_a9 32 (by decide +kernel) rfl
theorem wt1953 : (Cond.instanceMethod ({ cls := "WrongRoomModel", name := "gain", desc := "(IIIIZ)I" } : Jvm.MethodName)) ∈ T0 := T0_a9 33 (by decide +kernel) rfl
theorem wt1954 : (Cond.selects "WrongRoomModel" ({ cls := "WrongRoomModel", name := "gain", desc := "(IIIIZ)I" } : Jvm.MethodName) ({ cls := "WrongRoomModel", name := "gain", desc := "(IIIIZ)I" } : Jvm.MethodName)) ∈ T0 := T0_a9 34 (by decide +kernel) rfl
theorem wt1964 : (Cond.methodLink "WrongRoomLaw" (153 : Nat) ({ cls := "WrongRoomModel", name := "rests", desc := "(II)I" } : Jvm.MethodName)) ∈ T0 := T0_a9 44 (by decide +kernel) rfl
theorem wt1965 : (Cond.instanceMethod ({ cls := "WrongRoomModel", name := "rests", desc := "(II)I" } : Jvm.MethodName)) ∈ T0 := T0_a9 45 (by decide +kernel) rfl
theorem wt1966 : (Cond.selects "WrongRoomModel" ({ cls := "WrongRoomModel", name := "rests", desc := "(II)I" } : Jvm.MethodName) ({ cls := "WrongRoomModel", name := "rests", desc := "(II)I" } : Jvm.MethodName)) ∈ T0 := T0_a9 46 (by decide +kernel) rfl
theorem wt1972 : (Cond.methodLink "WrongRoomLaw" (157 : Nat) ({ cls := "WrongRoomModel", name := "rest", desc := "(II)I" } : Jvm.MethodName)) ∈ T0 := T0_a9 52 (by decide +kernel) rfl
theorem wt1973 : (Cond.instanceMethod ({ cls := "WrongRoomModel", name := "rest", desc := "(II)I" } : Jvm.MethodName)) ∈ T0 := T0_a9 53 (by decide +kernel) rfl
theorem wt1974 : (Cond.selects "WrongRoomModel" ({ cls := "WrongRoomModel", name := "rest", desc := "(II)I" } : Jvm.MethodName) ({ cls := "WrongRoomModel", name := "rest", desc := "(II)I" } : Jvm.MethodName)) ∈ T0 := T0_a9 54 (by decide +kernel) rfl
theorem wt1976 : (Cond.methodLink "WrongRoomLaw" (161 : Nat) ({ cls := "WrongRoomModel", name := "builders", desc := "(II)I" } : Jvm.MethodName)) ∈ T0 := T0_a9 56 (by decide +kernel) rfl
theorem wt1977 : (Cond.instanceMethod ({ cls := "WrongRoomModel", name := "builders", desc := "(II)I" } : Jvm.MethodName)) ∈ T0 := T0_a9 57 (by decide +kernel) rfl
theorem wt1978 : (Cond.selects "WrongRoomModel" ({ cls := "WrongRoomModel", name := "builders", desc := "(II)I" } : Jvm.MethodName) ({ cls := "WrongRoomModel", name := "builders", desc := "(II)I" } : Jvm.MethodName)) ∈ T0 := T0_a9 58 (by decide +kernel) rfl
theorem wt1992 : (Cond.methodLink "WrongRoomLaw" (165 : Nat) ({ cls := "WrongRoomModel", name := "builtOf", desc := "(III)I" } : Jvm.MethodName)) ∈ T0 := T0_a9 72 (by decide +kernel) rfl
theorem wt1993 : (Cond.instanceMethod ({ cls := "WrongRoomModel", name := "builtOf", desc := "(III)I" } : Jvm.MethodName)) ∈ T0 := T0_a9 73 (by decide +kernel) rfl
theorem wt1994 : (Cond.selects "WrongRoomModel" ({ cls := "WrongRoomModel", name := "builtOf", desc := "(III)I" } : Jvm.MethodName) ({ cls := "WrongRoomModel", name := "builtOf", desc := "(III)I" } : Jvm.MethodName)) ∈ T0 := T0_a9 74 (by decide +kernel) rfl
theorem wt1996 : (Cond.methodLink "WrongRoomLaw" (170 : Nat) ({ cls := "WrongRoomModel", name := "exchange", desc := "(II)Z" } : Jvm.MethodName)) ∈ T0 := T0_a9 76 (by decide +kernel) rfl
theorem wt1997 : (Cond.instanceMethod ({ cls := "WrongRoomModel", name := "exchange", desc := "(II)Z" } : Jvm.MethodName)) ∈ T0 := T0_a9 77 (by decide +kernel) rfl
theorem wt1998 : (Cond.selects "WrongRoomModel" ({ cls := "WrongRoomModel", name := "exchange", desc := "(II)Z" } : Jvm.MethodName) ({ cls := "WrongRoomModel", name := "exchange", desc := "(II)Z" } : Jvm.MethodName)) ∈ T0 := T0_a9 78 (by decide +kernel) rfl
theorem wt2012 : (Cond.methodLink "WrongRoomLaw" (175 : Nat) ({ cls := "WrongRoomModel", name := "shut", desc := "(IZ)Z" } : Jvm.MethodName)) ∈ T0 := T0_a9 92 (by decide +kernel) rfl
theorem wt2013 : (Cond.instanceMethod ({ cls := "WrongRoomModel", name := "shut", desc := "(IZ)Z" } : Jvm.MethodName)) ∈ T0 := T0_a9 93 (by decide +kernel) rfl
theorem wt2014 : (Cond.selects "WrongRoomModel" ({ cls := "WrongRoomModel", name := "shut", desc := "(IZ)Z" } : Jvm.MethodName) ({ cls := "WrongRoomModel", name := "shut", desc := "(IZ)Z" } : Jvm.MethodName)) ∈ T0 := T0_a9 94 (by decide +kernel) rfl
theorem wt2016 : (Cond.methodLink "WrongRoomLaw" (179 : Nat) ({ cls := "WrongRoomModel", name := "go", desc := "(II)I" } : Jvm.MethodName)) ∈ T0 := T0_a9 96 (by decide +kernel) rfl
theorem wt2017 : (Cond.instanceMethod ({ cls := "WrongRoomModel", name := "go", desc := "(II)I" } : Jvm.MethodName)) ∈ T0 := T0_a9 97 (by decide +kernel) rfl
theorem wt2018 : (Cond.selects "WrongRoomModel" ({ cls := "WrongRoomModel", name := "go", desc := "(II)I" } : Jvm.MethodName) ({ cls := "WrongRoomModel", name := "go", desc := "(II)I" } : Jvm.MethodName)) ∈ T0 := T0_a9 98 (by decide +kernel) rfl
theorem wt2020 : (Cond.methodLink "WrongRoomLaw" (183 : Nat) ({ cls := "WrongRoomModel", name := "waits", desc := "(II)I" } : Jvm.MethodName)) ∈ T0 := T0_a9 100 (by decide +kernel) rfl
theorem wt2021 : (Cond.instanceMethod ({ cls := "WrongRoomModel", name := "waits", desc := "(II)I" } : Jvm.MethodName)) ∈ T0 := T0_a9 101 (by decide +kernel) rfl
theorem wt2022 : (Cond.selects "WrongRoomModel" ({ cls := "WrongRoomModel", name := "waits", desc := "(II)I" } : Jvm.MethodName) ({ cls := "WrongRoomModel", name := "waits", desc := "(II)I" } : Jvm.MethodName)) ∈ T0 := T0_a9 102 (by decide +kernel) rfl
theorem wt2024 : (Cond.methodLink "WrongRoomLaw" (188 : Nat) ({ cls := "WrongRoomModel", name := "undo", desc := "()Z" } : Jvm.MethodName)) ∈ T0 := T0_a9 104 (by decide +kernel) rfl
theorem wt2025 : (Cond.instanceMethod ({ cls := "WrongRoomModel", name := "undo", desc := "()Z" } : Jvm.MethodName)) ∈ T0 := T0_a9 105 (by decide +kernel) rfl
theorem wt2026 : (Cond.selects "WrongRoomModel" ({ cls := "WrongRoomModel", name := "undo", desc := "()Z" } : Jvm.MethodName) ({ cls := "WrongRoomModel", name := "undo", desc := "()Z" } : Jvm.MethodName)) ∈ T0 := T0_a9 106 (by decide +kernel) rfl
theorem wt2028 : (Cond.methodLink "WrongRoomLaw" (192 : Nat) ({ cls := "WrongRoomModel", name := "mark", desc := "()I" } : Jvm.MethodName)) ∈ T0 := T0_a9 108 (by decide +kernel) rfl
theorem wt2029 : (Cond.instanceMethod ({ cls := "WrongRoomModel", name := "mark", desc := "()I" } : Jvm.MethodName)) ∈ T0 := T0_a9 109 (by decide +kernel) rfl
theorem wt2030 : (Cond.selects "WrongRoomModel" ({ cls := "WrongRoomModel", name := "mark", desc := "()I" } : Jvm.MethodName) ({ cls := "WrongRoomModel", name := "mark", desc := "()I" } : Jvm.MethodName)) ∈ T0 := T0_a9 110 (by decide +kernel) rfl
theorem wt2032 : (Cond.methodLink "WrongRoomLaw" (197 : Nat) ({ cls := "WrongRoomModel", name := "back", desc := "(I)Z" } : Jvm.MethodName)) ∈ T0 := T0_a9 112 (by decide +kernel) rfl
theorem wt2033 : (Cond.instanceMethod ({ cls := "WrongRoomModel", name := "back", desc := "(I)Z" } : Jvm.MethodName)) ∈ T0 := T0_a9 113 (by decide +kernel) rfl
theorem wt2034 : (Cond.selects "WrongRoomModel" ({ cls := "WrongRoomModel", name := "back", desc := "(I)Z" } : Jvm.MethodName) ({ cls := "WrongRoomModel", name := "back", desc := "(I)Z" } : Jvm.MethodName)) ∈ T0 := T0_a9 114 (by decide +kernel) rfl
theorem wt2036 : (Cond.methodLink "WrongRoomLaw" (203 : Nat) ({ cls := "WrongRoomModel", name := "led", desc := "(I)I" } : Jvm.MethodName)) ∈ T0 := T0_a9 116 (by decide +kernel) rfl
theorem wt2037 : (Cond.instanceMethod ({ cls := "WrongRoomModel", name := "led", desc := "(I)I" } : Jvm.MethodName)) ∈ T0 := T0_a9 117 (by decide +kernel) rfl
theorem wt2038 : (Cond.selects "WrongRoomModel" ({ cls := "WrongRoomModel", name := "led", desc := "(I)I" } : Jvm.MethodName) ({ cls := "WrongRoomModel", name := "led", desc := "(I)I" } : Jvm.MethodName)) ∈ T0 := T0_a9 118 (by decide +kernel) rfl
theorem wt2040 : (Cond.methodLink "WrongRoomLaw" (210 : Nat) ({ cls := "WrongRoomModel", name := "size", desc := "(I)I" } : Jvm.MethodName)) ∈ T0 := T0_a9 120 (by decide +kernel) rfl
theorem wt2041 : (Cond.instanceMethod ({ cls := "WrongRoomModel", name := "size", desc := "(I)I" } : Jvm.MethodName)) ∈ T0 := T0_a9 121 (by decide +kernel) rfl
theorem wt2042 : (Cond.selects "WrongRoomModel" ({ cls := "WrongRoomModel", name := "size", desc := "(I)I" } : Jvm.MethodName) ({ cls := "WrongRoomModel", name := "size", desc := "(I)I" } : Jvm.MethodName)) ∈ T0 := T0_a9 122 (by decide +kernel) rfl
theorem wt2048 : (Cond.methodLink "WrongRoomLaw" (214 : Nat) ({ cls := "WrongRoomModel", name := "trouble", desc := "()I" } : Jvm.MethodName)) ∈ T0 := T0_a9 128 (by decide +kernel) rfl
theorem wt2049 : (Cond.instanceMethod ({ cls := "WrongRoomModel", name := "trouble", desc := "()I" } : Jvm.MethodName)) ∈ T0 := T0_a9 129 (by decide +kernel) rfl
theorem wt2050 : (Cond.selects "WrongRoomModel" ({ cls := "WrongRoomModel", name := "trouble", desc := "()I" } : Jvm.MethodName) ({ cls := "WrongRoomModel", name := "trouble", desc := "()I" } : Jvm.MethodName)) ∈ T0 := T0_a9 130 (by decide +kernel) rfl
