theorem qBS {R : Room} {s : State} {args : Array Value} {own : String} {index : Nat} {y : MethodName} {b : ByteArray} {n mc ms k : Nat} {r : Option FieldType} {hh : List (Nat × Nat × Nat × Nat)} {rm : Room} (ht : ∀ w ∈ G9, w.before args s = true)
    (hc : Cond.codeWith y b n r hh ∈ G9) (hi : Cond.initialized y.cls ∈ G9) (hl : Cond.methodLink own index y ∈ G9) (hst : Cond.static y ∈ G9) (ho : okN y k) (hrc : rm.cells = mc) (hrs : rm.slots = ms) (hR : rm.frames + 1 ≤ R.frames ∧ 8 + (n + 11) + rm.locals ≤ R.locals) :
    vx_CSW R s args own index y b n r hh (wH y b n r hh) rm mc ms k :=
  ⟨⟨hrc, hrs, hR.1, hR.2, fun w hw a' U hW => (List.mem_cons.mp hw).elim (fun e => by rw [e]; exact word_at hW (good_of_word (g9_good hc)) (ht _ hc)) (fun h => word_at hW (good_of_word (g9_good h)) (ht w h)), List.mem_cons_self⟩, ht _ hc, ht _ hi, ⟨ho.1, ho.2.1⟩, qsig ho, ht _ hl, ht _ hst⟩
theorem k823 : (Jvm.Cond.code ({ cls := "HeroTable", name := "addHero", desc := "(IIIII)I" } : Jvm.MethodName) prog_1_method_2_code (7 : Nat) (Option.some Jvm.ClassFile.FieldType.int)) ∈ G9 := g9 823 (by decide +kernel) rfl
theorem k820 : (Jvm.Cond.methodLink "HeroTableLaw" (7 : Nat) ({ cls := "HeroTable", name := "addHero", desc := "(IIIII)I" } : Jvm.MethodName)) ∈ G9 := g9 820 (by decide +kernel) rfl
theorem ok_X7_addHero : okN yX7_addHero 5 := by decide +kernel
theorem k821 : (Jvm.Cond.instanceMethod ({ cls := "HeroTable", name := "addHero", desc := "(IIIII)I" } : Jvm.MethodName)) ∈ G9 := g9 821 (by decide +kernel) rfl
theorem k822 : (Jvm.Cond.selects "HeroTable" ({ cls := "HeroTable", name := "addHero", desc := "(IIIII)I" } : Jvm.MethodName) ({ cls := "HeroTable", name := "addHero", desc := "(IIIII)I" } : Jvm.MethodName)) ∈ G9 := g9 822 (by decide +kernel) rfl
theorem k817 : (Jvm.Cond.classLink "HeroTableLaw" (13 : Nat) "java/lang/IllegalArgumentException") ∈ G9 := g9 817 (by decide +kernel) rfl
theorem k979 : (Jvm.Cond.code ({ cls := "HeroTable", name := "setGround", desc := "(IIC)C" } : Jvm.MethodName) prog_1_method_3_code (5 : Nat) (Option.some Jvm.ClassFile.FieldType.char)) ∈ G9 := g9 979 (by decide +kernel) rfl
theorem k976 : (Jvm.Cond.methodLink "HeroTableLaw" (19 : Nat) ({ cls := "HeroTable", name := "setGround", desc := "(IIC)C" } : Jvm.MethodName)) ∈ G9 := g9 976 (by decide +kernel) rfl
theorem ok_X7_setGround : okN yX7_setGround 3 := by decide +kernel
theorem k977 : (Jvm.Cond.instanceMethod ({ cls := "HeroTable", name := "setGround", desc := "(IIC)C" } : Jvm.MethodName)) ∈ G9 := g9 977 (by decide +kernel) rfl
theorem k978 : (Jvm.Cond.selects "HeroTable" ({ cls := "HeroTable", name := "setGround", desc := "(IIC)C" } : Jvm.MethodName) ({ cls := "HeroTable", name := "setGround", desc := "(IIC)C" } : Jvm.MethodName)) ∈ G9 := g9 978 (by decide +kernel) rfl
theorem k1008 : (Jvm.Cond.code ({ cls := "HeroTable", name := "setBase", desc := "(ICI)I" } : Jvm.MethodName) prog_1_method_4_code (5 : Nat) (Option.some Jvm.ClassFile.FieldType.int)) ∈ G9 := g9 1008 (by decide +kernel) rfl
theorem k1005 : (Jvm.Cond.methodLink "HeroTableLaw" (23 : Nat) ({ cls := "HeroTable", name := "setBase", desc := "(ICI)I" } : Jvm.MethodName)) ∈ G9 := g9 1005 (by decide +kernel) rfl
theorem ok_X7_setBase : okN yX7_setBase 3 := by decide +kernel
theorem k1006 : (Jvm.Cond.instanceMethod ({ cls := "HeroTable", name := "setBase", desc := "(ICI)I" } : Jvm.MethodName)) ∈ G9 := g9 1006 (by decide +kernel) rfl
theorem k1007 : (Jvm.Cond.selects "HeroTable" ({ cls := "HeroTable", name := "setBase", desc := "(ICI)I" } : Jvm.MethodName) ({ cls := "HeroTable", name := "setBase", desc := "(ICI)I" } : Jvm.MethodName)) ∈ G9 := g9 1007 (by decide +kernel) rfl
theorem k984 : (Jvm.Cond.classLink "HeroTableLaw" (27 : Nat) "java/lang/IndexOutOfBoundsException") ∈ G9 := g9 984 (by decide +kernel) rfl
theorem k1016 : (Jvm.Cond.code ({ cls := "HeroTable", name := "setSpare", desc := "(II)I" } : Jvm.MethodName) prog_1_method_5_code (4 : Nat) (Option.some Jvm.ClassFile.FieldType.int)) ∈ G9 := g9 1016 (by decide +kernel) rfl
theorem k1013 : (Jvm.Cond.methodLink "HeroTableLaw" (29 : Nat) ({ cls := "HeroTable", name := "setSpare", desc := "(II)I" } : Jvm.MethodName)) ∈ G9 := g9 1013 (by decide +kernel) rfl
theorem ok_X7_setSpare : okN yX7_setSpare 2 := by decide +kernel
theorem k1014 : (Jvm.Cond.instanceMethod ({ cls := "HeroTable", name := "setSpare", desc := "(II)I" } : Jvm.MethodName)) ∈ G9 := g9 1014 (by decide +kernel) rfl
theorem k1015 : (Jvm.Cond.selects "HeroTable" ({ cls := "HeroTable", name := "setSpare", desc := "(II)I" } : Jvm.MethodName) ({ cls := "HeroTable", name := "setSpare", desc := "(II)I" } : Jvm.MethodName)) ∈ G9 := g9 1015 (by decide +kernel) rfl
theorem k1024 : (Jvm.Cond.code ({ cls := "HeroTable", name := "heal", desc := "(II)I" } : Jvm.MethodName) prog_1_method_6_code (4 : Nat) (Option.some Jvm.ClassFile.FieldType.int)) ∈ G9 := g9 1024 (by decide +kernel) rfl
theorem k1021 : (Jvm.Cond.methodLink "HeroTableLaw" (33 : Nat) ({ cls := "HeroTable", name := "heal", desc := "(II)I" } : Jvm.MethodName)) ∈ G9 := g9 1021 (by decide +kernel) rfl
theorem ok_X7_heal : okN yX7_heal 2 := by decide +kernel
theorem k1022 : (Jvm.Cond.instanceMethod ({ cls := "HeroTable", name := "heal", desc := "(II)I" } : Jvm.MethodName)) ∈ G9 := g9 1022 (by decide +kernel) rfl
theorem k1023 : (Jvm.Cond.selects "HeroTable" ({ cls := "HeroTable", name := "heal", desc := "(II)I" } : Jvm.MethodName) ({ cls := "HeroTable", name := "heal", desc := "(II)I" } : Jvm.MethodName)) ∈ G9 := g9 1023 (by decide +kernel) rfl
theorem k1032 : (Jvm.Cond.code ({ cls := "HeroTable", name := "lifeOf", desc := "(I)I" } : Jvm.MethodName) prog_1_method_7_code (2 : Nat) (Option.some Jvm.ClassFile.FieldType.int)) ∈ G9 := g9 1032 (by decide +kernel) rfl
theorem k1029 : (Jvm.Cond.methodLink "HeroTableLaw" (36 : Nat) ({ cls := "HeroTable", name := "lifeOf", desc := "(I)I" } : Jvm.MethodName)) ∈ G9 := g9 1029 (by decide +kernel) rfl
theorem ok_X7_lifeOf : okN yX7_lifeOf 1 := by decide +kernel
theorem k1030 : (Jvm.Cond.instanceMethod ({ cls := "HeroTable", name := "lifeOf", desc := "(I)I" } : Jvm.MethodName)) ∈ G9 := g9 1030 (by decide +kernel) rfl
theorem k1031 : (Jvm.Cond.selects "HeroTable" ({ cls := "HeroTable", name := "lifeOf", desc := "(I)I" } : Jvm.MethodName) ({ cls := "HeroTable", name := "lifeOf", desc := "(I)I" } : Jvm.MethodName)) ∈ G9 := g9 1031 (by decide +kernel) rfl
theorem k1045 : (Jvm.Cond.code ({ cls := "HeroTable", name := "spareOf", desc := "(I)I" } : Jvm.MethodName) prog_1_method_8_code (2 : Nat) (Option.some Jvm.ClassFile.FieldType.int)) ∈ G9 := g9 1045 (by decide +kernel) rfl
theorem k1042 : (Jvm.Cond.methodLink "HeroTableLaw" (40 : Nat) ({ cls := "HeroTable", name := "spareOf", desc := "(I)I" } : Jvm.MethodName)) ∈ G9 := g9 1042 (by decide +kernel) rfl
theorem ok_X7_spareOf : okN yX7_spareOf 1 := by decide +kernel
theorem k1043 : (Jvm.Cond.instanceMethod ({ cls := "HeroTable", name := "spareOf", desc := "(I)I" } : Jvm.MethodName)) ∈ G9 := g9 1043 (by decide +kernel) rfl
theorem k1044 : (Jvm.Cond.selects "HeroTable" ({ cls := "HeroTable", name := "spareOf", desc := "(I)I" } : Jvm.MethodName) ({ cls := "HeroTable", name := "spareOf", desc := "(I)I" } : Jvm.MethodName)) ∈ G9 := g9 1044 (by decide +kernel) rfl
theorem k1052 : (Jvm.Cond.code ({ cls := "HeroTable", name := "cellOf", desc := "(I)I" } : Jvm.MethodName) prog_1_method_9_code (3 : Nat) (Option.some Jvm.ClassFile.FieldType.int)) ∈ G9 := g9 1052 (by decide +kernel) rfl
theorem k1049 : (Jvm.Cond.methodLink "HeroTableLaw" (43 : Nat) ({ cls := "HeroTable", name := "cellOf", desc := "(I)I" } : Jvm.MethodName)) ∈ G9 := g9 1049 (by decide +kernel) rfl
theorem ok_X7_cellOf : okN yX7_cellOf 1 := by decide +kernel
theorem k1050 : (Jvm.Cond.instanceMethod ({ cls := "HeroTable", name := "cellOf", desc := "(I)I" } : Jvm.MethodName)) ∈ G9 := g9 1050 (by decide +kernel) rfl
theorem k1051 : (Jvm.Cond.selects "HeroTable" ({ cls := "HeroTable", name := "cellOf", desc := "(I)I" } : Jvm.MethodName) ({ cls := "HeroTable", name := "cellOf", desc := "(I)I" } : Jvm.MethodName)) ∈ G9 := g9 1051 (by decide +kernel) rfl
theorem k1059 : (Jvm.Cond.code ({ cls := "HeroTable", name := "sees", desc := "(III)Z" } : Jvm.MethodName) prog_1_method_10_code (5 : Nat) (Option.some Jvm.ClassFile.FieldType.boolean)) ∈ G9 := g9 1059 (by decide +kernel) rfl
theorem k1056 : (Jvm.Cond.methodLink "HeroTableLaw" (46 : Nat) ({ cls := "HeroTable", name := "sees", desc := "(III)Z" } : Jvm.MethodName)) ∈ G9 := g9 1056 (by decide +kernel) rfl
theorem ok_X7_sees : okN yX7_sees 3 := by decide +kernel
theorem k1057 : (Jvm.Cond.instanceMethod ({ cls := "HeroTable", name := "sees", desc := "(III)Z" } : Jvm.MethodName)) ∈ G9 := g9 1057 (by decide +kernel) rfl
theorem k1058 : (Jvm.Cond.selects "HeroTable" ({ cls := "HeroTable", name := "sees", desc := "(III)Z" } : Jvm.MethodName) ({ cls := "HeroTable", name := "sees", desc := "(III)Z" } : Jvm.MethodName)) ∈ G9 := g9 1058 (by decide +kernel) rfl
theorem k1069 : (Jvm.Cond.code ({ cls := "HeroTable", name := "addSource", desc := "(ICCIII)I" } : Jvm.MethodName) prog_1_method_11_code (8 : Nat) (Option.some Jvm.ClassFile.FieldType.int)) ∈ G9 := g9 1069 (by decide +kernel) rfl
theorem k1066 : (Jvm.Cond.methodLink "HeroTableLaw" (50 : Nat) ({ cls := "HeroTable", name := "addSource", desc := "(ICCIII)I" } : Jvm.MethodName)) ∈ G9 := g9 1066 (by decide +kernel) rfl
theorem ok_X7_addSource : okN yX7_addSource 6 := by decide +kernel
theorem k1067 : (Jvm.Cond.instanceMethod ({ cls := "HeroTable", name := "addSource", desc := "(ICCIII)I" } : Jvm.MethodName)) ∈ G9 := g9 1067 (by decide +kernel) rfl
theorem k1068 : (Jvm.Cond.selects "HeroTable" ({ cls := "HeroTable", name := "addSource", desc := "(ICCIII)I" } : Jvm.MethodName) ({ cls := "HeroTable", name := "addSource", desc := "(ICCIII)I" } : Jvm.MethodName)) ∈ G9 := g9 1068 (by decide +kernel) rfl
theorem k1077 : (Jvm.Cond.code ({ cls := "HeroTable", name := "afflict", desc := "(ICIII)I" } : Jvm.MethodName) prog_1_method_12_code (7 : Nat) (Option.some Jvm.ClassFile.FieldType.int)) ∈ G9 := g9 1077 (by decide +kernel) rfl
theorem k1074 : (Jvm.Cond.methodLink "HeroTableLaw" (54 : Nat) ({ cls := "HeroTable", name := "afflict", desc := "(ICIII)I" } : Jvm.MethodName)) ∈ G9 := g9 1074 (by decide +kernel) rfl
theorem ok_X7_afflict : okN yX7_afflict 5 := by decide +kernel
theorem k1075 : (Jvm.Cond.instanceMethod ({ cls := "HeroTable", name := "afflict", desc := "(ICIII)I" } : Jvm.MethodName)) ∈ G9 := g9 1075 (by decide +kernel) rfl
theorem k1076 : (Jvm.Cond.selects "HeroTable" ({ cls := "HeroTable", name := "afflict", desc := "(ICIII)I" } : Jvm.MethodName) ({ cls := "HeroTable", name := "afflict", desc := "(ICIII)I" } : Jvm.MethodName)) ∈ G9 := g9 1076 (by decide +kernel) rfl
theorem k1085 : (Jvm.Cond.code ({ cls := "HeroTable", name := "endSource", desc := "(I)Z" } : Jvm.MethodName) prog_1_method_13_code (3 : Nat) (Option.some Jvm.ClassFile.FieldType.boolean)) ∈ G9 := g9 1085 (by decide +kernel) rfl
theorem k1082 : (Jvm.Cond.methodLink "HeroTableLaw" (58 : Nat) ({ cls := "HeroTable", name := "endSource", desc := "(I)Z" } : Jvm.MethodName)) ∈ G9 := g9 1082 (by decide +kernel) rfl
theorem ok_X7_endSource : okN yX7_endSource 1 := by decide +kernel
theorem k1083 : (Jvm.Cond.instanceMethod ({ cls := "HeroTable", name := "endSource", desc := "(I)Z" } : Jvm.MethodName)) ∈ G9 := g9 1083 (by decide +kernel) rfl
theorem k1084 : (Jvm.Cond.selects "HeroTable" ({ cls := "HeroTable", name := "endSource", desc := "(I)Z" } : Jvm.MethodName) ({ cls := "HeroTable", name := "endSource", desc := "(I)Z" } : Jvm.MethodName)) ∈ G9 := g9 1084 (by decide +kernel) rfl
theorem k1093 : (Jvm.Cond.code ({ cls := "HeroTable", name := "setImmune", desc := "(ICZ)Z" } : Jvm.MethodName) prog_1_method_14_code (6 : Nat) (Option.some Jvm.ClassFile.FieldType.boolean)) ∈ G9 := g9 1093 (by decide +kernel) rfl
theorem k1090 : (Jvm.Cond.methodLink "HeroTableLaw" (62 : Nat) ({ cls := "HeroTable", name := "setImmune", desc := "(ICZ)Z" } : Jvm.MethodName)) ∈ G9 := g9 1090 (by decide +kernel) rfl
theorem ok_X7_setImmune : okN yX7_setImmune 3 := by decide +kernel
theorem k1091 : (Jvm.Cond.instanceMethod ({ cls := "HeroTable", name := "setImmune", desc := "(ICZ)Z" } : Jvm.MethodName)) ∈ G9 := g9 1091 (by decide +kernel) rfl
theorem k1092 : (Jvm.Cond.selects "HeroTable" ({ cls := "HeroTable", name := "setImmune", desc := "(ICZ)Z" } : Jvm.MethodName) ({ cls := "HeroTable", name := "setImmune", desc := "(ICZ)Z" } : Jvm.MethodName)) ∈ G9 := g9 1092 (by decide +kernel) rfl
theorem k1101 : (Jvm.Cond.code ({ cls := "HeroTable", name := "isLive", desc := "(I)Z" } : Jvm.MethodName) prog_1_method_15_code (2 : Nat) (Option.some Jvm.ClassFile.FieldType.boolean)) ∈ G9 := g9 1101 (by decide +kernel) rfl
theorem k1098 : (Jvm.Cond.methodLink "HeroTableLaw" (66 : Nat) ({ cls := "HeroTable", name := "isLive", desc := "(I)Z" } : Jvm.MethodName)) ∈ G9 := g9 1098 (by decide +kernel) rfl
theorem ok_X7_isLive : okN yX7_isLive 1 := by decide +kernel
theorem k1099 : (Jvm.Cond.instanceMethod ({ cls := "HeroTable", name := "isLive", desc := "(I)Z" } : Jvm.MethodName)) ∈ G9 := g9 1099 (by decide +kernel) rfl
theorem k1100 : (Jvm.Cond.selects "HeroTable" ({ cls := "HeroTable", name := "isLive", desc := "(I)Z" } : Jvm.MethodName) ({ cls := "HeroTable", name := "isLive", desc := "(I)Z" } : Jvm.MethodName)) ∈ G9 := g9 1100 (by decide +kernel) rfl
theorem k1111 : (Jvm.Cond.code ({ cls := "HeroTable", name := "numberOf", desc := "(IC)I" } : Jvm.MethodName) prog_1_method_16_code (3 : Nat) (Option.some Jvm.ClassFile.FieldType.int)) ∈ G9 := g9 1111 (by decide +kernel) rfl
theorem k1108 : (Jvm.Cond.methodLink "HeroTableLaw" (69 : Nat) ({ cls := "HeroTable", name := "numberOf", desc := "(IC)I" } : Jvm.MethodName)) ∈ G9 := g9 1108 (by decide +kernel) rfl
theorem ok_X7_numberOf : okN yX7_numberOf 2 := by decide +kernel
theorem k1109 : (Jvm.Cond.instanceMethod ({ cls := "HeroTable", name := "numberOf", desc := "(IC)I" } : Jvm.MethodName)) ∈ G9 := g9 1109 (by decide +kernel) rfl
theorem k1110 : (Jvm.Cond.selects "HeroTable" ({ cls := "HeroTable", name := "numberOf", desc := "(IC)I" } : Jvm.MethodName) ({ cls := "HeroTable", name := "numberOf", desc := "(IC)I" } : Jvm.MethodName)) ∈ G9 := g9 1110 (by decide +kernel) rfl
theorem k1125 : (Jvm.Cond.code ({ cls := "HeroTable", name := "numberAnew", desc := "(IC)I" } : Jvm.MethodName) prog_1_method_17_code (3 : Nat) (Option.some Jvm.ClassFile.FieldType.int)) ∈ G9 := g9 1125 (by decide +kernel) rfl
theorem k1122 : (Jvm.Cond.methodLink "HeroTableLaw" (73 : Nat) ({ cls := "HeroTable", name := "numberAnew", desc := "(IC)I" } : Jvm.MethodName)) ∈ G9 := g9 1122 (by decide +kernel) rfl
theorem ok_X7_numberAnew : okN yX7_numberAnew 2 := by decide +kernel
theorem k1123 : (Jvm.Cond.instanceMethod ({ cls := "HeroTable", name := "numberAnew", desc := "(IC)I" } : Jvm.MethodName)) ∈ G9 := g9 1123 (by decide +kernel) rfl
theorem k1124 : (Jvm.Cond.selects "HeroTable" ({ cls := "HeroTable", name := "numberAnew", desc := "(IC)I" } : Jvm.MethodName) ({ cls := "HeroTable", name := "numberAnew", desc := "(IC)I" } : Jvm.MethodName)) ∈ G9 := g9 1124 (by decide +kernel) rfl
theorem k1133 : (Jvm.Cond.code ({ cls := "HeroTable", name := "has", desc := "(IC)Z" } : Jvm.MethodName) prog_1_method_18_code (4 : Nat) (Option.some Jvm.ClassFile.FieldType.boolean)) ∈ G9 := g9 1133 (by decide +kernel) rfl
theorem k1130 : (Jvm.Cond.methodLink "HeroTableLaw" (76 : Nat) ({ cls := "HeroTable", name := "has", desc := "(IC)Z" } : Jvm.MethodName)) ∈ G9 := g9 1130 (by decide +kernel) rfl
theorem ok_X7_has : okN yX7_has 2 := by decide +kernel
theorem k1131 : (Jvm.Cond.instanceMethod ({ cls := "HeroTable", name := "has", desc := "(IC)Z" } : Jvm.MethodName)) ∈ G9 := g9 1131 (by decide +kernel) rfl
theorem k1132 : (Jvm.Cond.selects "HeroTable" ({ cls := "HeroTable", name := "has", desc := "(IC)Z" } : Jvm.MethodName) ({ cls := "HeroTable", name := "has", desc := "(IC)Z" } : Jvm.MethodName)) ∈ G9 := g9 1132 (by decide +kernel) rfl
theorem k1142 : (Jvm.Cond.code ({ cls := "HeroTable", name := "tellDie", desc := "(I)I" } : Jvm.MethodName) prog_1_method_20_code (3 : Nat) (Option.some Jvm.ClassFile.FieldType.int)) ∈ G9 := g9 1142 (by decide +kernel) rfl
theorem k1139 : (Jvm.Cond.methodLink "HeroTableLaw" (80 : Nat) ({ cls := "HeroTable", name := "tellDie", desc := "(I)I" } : Jvm.MethodName)) ∈ G9 := g9 1139 (by decide +kernel) rfl
theorem ok_X7_tellDie : okN yX7_tellDie 1 := by decide +kernel
theorem k1140 : (Jvm.Cond.instanceMethod ({ cls := "HeroTable", name := "tellDie", desc := "(I)I" } : Jvm.MethodName)) ∈ G9 := g9 1140 (by decide +kernel) rfl
theorem k1141 : (Jvm.Cond.selects "HeroTable" ({ cls := "HeroTable", name := "tellDie", desc := "(I)I" } : Jvm.MethodName) ({ cls := "HeroTable", name := "tellDie", desc := "(I)I" } : Jvm.MethodName)) ∈ G9 := g9 1141 (by decide +kernel) rfl
theorem k1151 : (Jvm.Cond.code ({ cls := "HeroTable", name := "begin", desc := "()I" } : Jvm.MethodName) prog_1_method_22_code (2 : Nat) (Option.some Jvm.ClassFile.FieldType.int)) ∈ G9 := g9 1151 (by decide +kernel) rfl
theorem k1148 : (Jvm.Cond.methodLink "HeroTableLaw" (83 : Nat) ({ cls := "HeroTable", name := "begin", desc := "()I" } : Jvm.MethodName)) ∈ G9 := g9 1148 (by decide +kernel) rfl
theorem ok_X7_begin : okN yX7_begin 0 := by decide +kernel
theorem k1149 : (Jvm.Cond.instanceMethod ({ cls := "HeroTable", name := "begin", desc := "()I" } : Jvm.MethodName)) ∈ G9 := g9 1149 (by decide +kernel) rfl
theorem k1150 : (Jvm.Cond.selects "HeroTable" ({ cls := "HeroTable", name := "begin", desc := "()I" } : Jvm.MethodName) ({ cls := "HeroTable", name := "begin", desc := "()I" } : Jvm.MethodName)) ∈ G9 := g9 1150 (by decide +kernel) rfl
theorem k1147 : (Jvm.Cond.classLink "HeroTableLaw" (87 : Nat) "java/util/NoSuchElementException") ∈ G9 := g9 1147 (by decide +kernel) rfl
theorem k1159 : (Jvm.Cond.code ({ cls := "HeroTable", name := "endTurn", desc := "()I" } : Jvm.MethodName) prog_1_method_23_code (2 : Nat) (Option.some Jvm.ClassFile.FieldType.int)) ∈ G9 := g9 1159 (by decide +kernel) rfl
theorem k1156 : (Jvm.Cond.methodLink "HeroTableLaw" (89 : Nat) ({ cls := "HeroTable", name := "endTurn", desc := "()I" } : Jvm.MethodName)) ∈ G9 := g9 1156 (by decide +kernel) rfl
theorem ok_X7_endTurn : okN yX7_endTurn 0 := by decide +kernel
theorem k1157 : (Jvm.Cond.instanceMethod ({ cls := "HeroTable", name := "endTurn", desc := "()I" } : Jvm.MethodName)) ∈ G9 := g9 1157 (by decide +kernel) rfl
theorem k1158 : (Jvm.Cond.selects "HeroTable" ({ cls := "HeroTable", name := "endTurn", desc := "()I" } : Jvm.MethodName) ({ cls := "HeroTable", name := "endTurn", desc := "()I" } : Jvm.MethodName)) ∈ G9 := g9 1158 (by decide +kernel) rfl
theorem k818 : (Jvm.Cond.classLink "HeroTableLaw" (15 : Nat) "java/lang/IllegalStateException") ∈ G9 := g9 818 (by decide +kernel) rfl
theorem k1167 : (Jvm.Cond.code ({ cls := "HeroTable", name := "rest", desc := "()I" } : Jvm.MethodName) prog_1_method_24_code (2 : Nat) (Option.some Jvm.ClassFile.FieldType.int)) ∈ G9 := g9 1167 (by decide +kernel) rfl
theorem k1164 : (Jvm.Cond.methodLink "HeroTableLaw" (92 : Nat) ({ cls := "HeroTable", name := "rest", desc := "()I" } : Jvm.MethodName)) ∈ G9 := g9 1164 (by decide +kernel) rfl
theorem ok_X7_rest : okN yX7_rest 0 := by decide +kernel
theorem k1165 : (Jvm.Cond.instanceMethod ({ cls := "HeroTable", name := "rest", desc := "()I" } : Jvm.MethodName)) ∈ G9 := g9 1165 (by decide +kernel) rfl
theorem k1166 : (Jvm.Cond.selects "HeroTable" ({ cls := "HeroTable", name := "rest", desc := "()I" } : Jvm.MethodName) ({ cls := "HeroTable", name := "rest", desc := "()I" } : Jvm.MethodName)) ∈ G9 := g9 1166 (by decide +kernel) rfl
theorem k1175 : (Jvm.Cond.code ({ cls := "HeroTable", name := "turn", desc := "()I" } : Jvm.MethodName) prog_1_method_25_code (1 : Nat) (Option.some Jvm.ClassFile.FieldType.int)) ∈ G9 := g9 1175 (by decide +kernel) rfl
theorem k1172 : (Jvm.Cond.methodLink "HeroTableLaw" (95 : Nat) ({ cls := "HeroTable", name := "turn", desc := "()I" } : Jvm.MethodName)) ∈ G9 := g9 1172 (by decide +kernel) rfl
theorem ok_X7_turn : okN yX7_turn 0 := by decide +kernel
theorem k1173 : (Jvm.Cond.instanceMethod ({ cls := "HeroTable", name := "turn", desc := "()I" } : Jvm.MethodName)) ∈ G9 := g9 1173 (by decide +kernel) rfl
theorem k1174 : (Jvm.Cond.selects "HeroTable" ({ cls := "HeroTable", name := "turn", desc := "()I" } : Jvm.MethodName) ({ cls := "HeroTable", name := "turn", desc := "()I" } : Jvm.MethodName)) ∈ G9 := g9 1174 (by decide +kernel) rfl
theorem k1185 : (Jvm.Cond.code ({ cls := "HeroTable", name := "steps", desc := "()I" } : Jvm.MethodName) prog_1_method_27_code (1 : Nat) (Option.some Jvm.ClassFile.FieldType.int)) ∈ G9 := g9 1185 (by decide +kernel) rfl
theorem k1182 : (Jvm.Cond.methodLink "HeroTableLaw" (98 : Nat) ({ cls := "HeroTable", name := "steps", desc := "()I" } : Jvm.MethodName)) ∈ G9 := g9 1182 (by decide +kernel) rfl
theorem ok_X7_steps : okN yX7_steps 0 := by decide +kernel
theorem k1183 : (Jvm.Cond.instanceMethod ({ cls := "HeroTable", name := "steps", desc := "()I" } : Jvm.MethodName)) ∈ G9 := g9 1183 (by decide +kernel) rfl
theorem k1184 : (Jvm.Cond.selects "HeroTable" ({ cls := "HeroTable", name := "steps", desc := "()I" } : Jvm.MethodName) ({ cls := "HeroTable", name := "steps", desc := "()I" } : Jvm.MethodName)) ∈ G9 := g9 1184 (by decide +kernel) rfl
theorem k1192 : (Jvm.Cond.code ({ cls := "HeroTable", name := "canReact", desc := "(I)Z" } : Jvm.MethodName) prog_1_method_28_code (3 : Nat) (Option.some Jvm.ClassFile.FieldType.boolean)) ∈ G9 := g9 1192 (by decide +kernel) rfl
theorem k1189 : (Jvm.Cond.methodLink "HeroTableLaw" (101 : Nat) ({ cls := "HeroTable", name := "canReact", desc := "(I)Z" } : Jvm.MethodName)) ∈ G9 := g9 1189 (by decide +kernel) rfl
theorem ok_X7_canReact : okN yX7_canReact 1 := by decide +kernel
theorem k1190 : (Jvm.Cond.instanceMethod ({ cls := "HeroTable", name := "canReact", desc := "(I)Z" } : Jvm.MethodName)) ∈ G9 := g9 1190 (by decide +kernel) rfl
theorem k1191 : (Jvm.Cond.selects "HeroTable" ({ cls := "HeroTable", name := "canReact", desc := "(I)Z" } : Jvm.MethodName) ({ cls := "HeroTable", name := "canReact", desc := "(I)Z" } : Jvm.MethodName)) ∈ G9 := g9 1191 (by decide +kernel) rfl
theorem k1199 : (Jvm.Cond.code ({ cls := "HeroTable", name := "attack", desc := "(I)I" } : Jvm.MethodName) prog_1_method_29_code (3 : Nat) (Option.some Jvm.ClassFile.FieldType.int)) ∈ G9 := g9 1199 (by decide +kernel) rfl
theorem k1196 : (Jvm.Cond.methodLink "HeroTableLaw" (104 : Nat) ({ cls := "HeroTable", name := "attack", desc := "(I)I" } : Jvm.MethodName)) ∈ G9 := g9 1196 (by decide +kernel) rfl
theorem ok_X7_attack : okN yX7_attack 1 := by decide +kernel
theorem k1197 : (Jvm.Cond.instanceMethod ({ cls := "HeroTable", name := "attack", desc := "(I)I" } : Jvm.MethodName)) ∈ G9 := g9 1197 (by decide +kernel) rfl
theorem k1198 : (Jvm.Cond.selects "HeroTable" ({ cls := "HeroTable", name := "attack", desc := "(I)I" } : Jvm.MethodName) ({ cls := "HeroTable", name := "attack", desc := "(I)I" } : Jvm.MethodName)) ∈ G9 := g9 1198 (by decide +kernel) rfl
theorem k1207 : (Jvm.Cond.code ({ cls := "HeroTable", name := "step", desc := "(II)Z" } : Jvm.MethodName) prog_1_method_30_code (4 : Nat) (Option.some Jvm.ClassFile.FieldType.boolean)) ∈ G9 := g9 1207 (by decide +kernel) rfl
theorem k1204 : (Jvm.Cond.methodLink "HeroTableLaw" (107 : Nat) ({ cls := "HeroTable", name := "step", desc := "(II)Z" } : Jvm.MethodName)) ∈ G9 := g9 1204 (by decide +kernel) rfl
theorem ok_X7_step : okN yX7_step 2 := by decide +kernel
theorem k1205 : (Jvm.Cond.instanceMethod ({ cls := "HeroTable", name := "step", desc := "(II)Z" } : Jvm.MethodName)) ∈ G9 := g9 1205 (by decide +kernel) rfl
theorem k1206 : (Jvm.Cond.selects "HeroTable" ({ cls := "HeroTable", name := "step", desc := "(II)Z" } : Jvm.MethodName) ({ cls := "HeroTable", name := "step", desc := "(II)Z" } : Jvm.MethodName)) ∈ G9 := g9 1206 (by decide +kernel) rfl
theorem k1215 : (Jvm.Cond.code ({ cls := "HeroTable", name := "stand", desc := "()Z" } : Jvm.MethodName) prog_1_method_31_code (2 : Nat) (Option.some Jvm.ClassFile.FieldType.boolean)) ∈ G9 := g9 1215 (by decide +kernel) rfl
theorem k1212 : (Jvm.Cond.methodLink "HeroTableLaw" (111 : Nat) ({ cls := "HeroTable", name := "stand", desc := "()Z" } : Jvm.MethodName)) ∈ G9 := g9 1212 (by decide +kernel) rfl
theorem ok_X7_stand : okN yX7_stand 0 := by decide +kernel
theorem k1213 : (Jvm.Cond.instanceMethod ({ cls := "HeroTable", name := "stand", desc := "()Z" } : Jvm.MethodName)) ∈ G9 := g9 1213 (by decide +kernel) rfl
theorem k1214 : (Jvm.Cond.selects "HeroTable" ({ cls := "HeroTable", name := "stand", desc := "()Z" } : Jvm.MethodName) ({ cls := "HeroTable", name := "stand", desc := "()Z" } : Jvm.MethodName)) ∈ G9 := g9 1214 (by decide +kernel) rfl
theorem k1223 : (Jvm.Cond.code ({ cls := "HeroTable", name := "ready", desc := "(CC)Z" } : Jvm.MethodName) prog_1_method_32_code (4 : Nat) (Option.some Jvm.ClassFile.FieldType.boolean)) ∈ G9 := g9 1223 (by decide +kernel) rfl
theorem k1220 : (Jvm.Cond.methodLink "HeroTableLaw" (115 : Nat) ({ cls := "HeroTable", name := "ready", desc := "(CC)Z" } : Jvm.MethodName)) ∈ G9 := g9 1220 (by decide +kernel) rfl
theorem ok_X7_ready : okN yX7_ready 2 := by decide +kernel
theorem k1221 : (Jvm.Cond.instanceMethod ({ cls := "HeroTable", name := "ready", desc := "(CC)Z" } : Jvm.MethodName)) ∈ G9 := g9 1221 (by decide +kernel) rfl
theorem k1222 : (Jvm.Cond.selects "HeroTable" ({ cls := "HeroTable", name := "ready", desc := "(CC)Z" } : Jvm.MethodName) ({ cls := "HeroTable", name := "ready", desc := "(CC)Z" } : Jvm.MethodName)) ∈ G9 := g9 1222 (by decide +kernel) rfl
theorem k1231 : (Jvm.Cond.code ({ cls := "HeroTable", name := "cast", desc := "(CII)C" } : Jvm.MethodName) prog_1_method_33_code (5 : Nat) (Option.some Jvm.ClassFile.FieldType.char)) ∈ G9 := g9 1231 (by decide +kernel) rfl
theorem k1228 : (Jvm.Cond.methodLink "HeroTableLaw" (119 : Nat) ({ cls := "HeroTable", name := "cast", desc := "(CII)C" } : Jvm.MethodName)) ∈ G9 := g9 1228 (by decide +kernel) rfl
theorem ok_X7_cast : okN yX7_cast 3 := by decide +kernel
theorem k1229 : (Jvm.Cond.instanceMethod ({ cls := "HeroTable", name := "cast", desc := "(CII)C" } : Jvm.MethodName)) ∈ G9 := g9 1229 (by decide +kernel) rfl
theorem k1230 : (Jvm.Cond.selects "HeroTable" ({ cls := "HeroTable", name := "cast", desc := "(CII)C" } : Jvm.MethodName) ({ cls := "HeroTable", name := "cast", desc := "(CII)C" } : Jvm.MethodName)) ∈ G9 := g9 1230 (by decide +kernel) rfl
theorem k1239 : (Jvm.Cond.code ({ cls := "HeroTable", name := "slots", desc := "(I)I" } : Jvm.MethodName) prog_1_method_34_code (2 : Nat) (Option.some Jvm.ClassFile.FieldType.int)) ∈ G9 := g9 1239 (by decide +kernel) rfl
theorem k1236 : (Jvm.Cond.methodLink "HeroTableLaw" (123 : Nat) ({ cls := "HeroTable", name := "slots", desc := "(I)I" } : Jvm.MethodName)) ∈ G9 := g9 1236 (by decide +kernel) rfl
theorem ok_X7_slots : okN yX7_slots 1 := by decide +kernel
theorem k1237 : (Jvm.Cond.instanceMethod ({ cls := "HeroTable", name := "slots", desc := "(I)I" } : Jvm.MethodName)) ∈ G9 := g9 1237 (by decide +kernel) rfl
theorem k1238 : (Jvm.Cond.selects "HeroTable" ({ cls := "HeroTable", name := "slots", desc := "(I)I" } : Jvm.MethodName) ({ cls := "HeroTable", name := "slots", desc := "(I)I" } : Jvm.MethodName)) ∈ G9 := g9 1238 (by decide +kernel) rfl
theorem k1246 : (Jvm.Cond.code ({ cls := "HeroTable", name := "minds", desc := "(I)Z" } : Jvm.MethodName) prog_1_method_35_code (2 : Nat) (Option.some Jvm.ClassFile.FieldType.boolean)) ∈ G9 := g9 1246 (by decide +kernel) rfl
theorem k1243 : (Jvm.Cond.methodLink "HeroTableLaw" (126 : Nat) ({ cls := "HeroTable", name := "minds", desc := "(I)Z" } : Jvm.MethodName)) ∈ G9 := g9 1243 (by decide +kernel) rfl
theorem ok_X7_minds : okN yX7_minds 1 := by decide +kernel
theorem k1244 : (Jvm.Cond.instanceMethod ({ cls := "HeroTable", name := "minds", desc := "(I)Z" } : Jvm.MethodName)) ∈ G9 := g9 1244 (by decide +kernel) rfl
theorem k1245 : (Jvm.Cond.selects "HeroTable" ({ cls := "HeroTable", name := "minds", desc := "(I)Z" } : Jvm.MethodName) ({ cls := "HeroTable", name := "minds", desc := "(I)Z" } : Jvm.MethodName)) ∈ G9 := g9 1245 (by decide +kernel) rfl
theorem k1253 : (Jvm.Cond.code ({ cls := "HeroTable", name := "again", desc := "(III)I" } : Jvm.MethodName) prog_1_method_37_code (4 : Nat) (Option.some Jvm.ClassFile.FieldType.int)) ∈ G9 := g9 1253 (by decide +kernel) rfl
theorem k1250 : (Jvm.Cond.methodLink "HeroTableLaw" (129 : Nat) ({ cls := "HeroTable", name := "again", desc := "(III)I" } : Jvm.MethodName)) ∈ G9 := g9 1250 (by decide +kernel) rfl
theorem ok_X7_again : okN yX7_again 3 := by decide +kernel
theorem k1251 : (Jvm.Cond.instanceMethod ({ cls := "HeroTable", name := "again", desc := "(III)I" } : Jvm.MethodName)) ∈ G9 := g9 1251 (by decide +kernel) rfl
theorem k1252 : (Jvm.Cond.selects "HeroTable" ({ cls := "HeroTable", name := "again", desc := "(III)I" } : Jvm.MethodName) ({ cls := "HeroTable", name := "again", desc := "(III)I" } : Jvm.MethodName)) ∈ G9 := g9 1252 (by decide +kernel) rfl
theorem k1276 : (Jvm.Cond.code ({ cls := "HeroTable", name := "hitShare", desc := "()F" } : Jvm.MethodName) prog_1_method_39_code (1 : Nat) (Option.some Jvm.ClassFile.FieldType.float)) ∈ G9 := g9 1276 (by decide +kernel) rfl
theorem k1273 : (Jvm.Cond.methodLink "HeroTableLaw" (133 : Nat) ({ cls := "HeroTable", name := "hitShare", desc := "()F" } : Jvm.MethodName)) ∈ G9 := g9 1273 (by decide +kernel) rfl
theorem ok_X7_hitShare : okN yX7_hitShare 0 := by decide +kernel
theorem k1274 : (Jvm.Cond.instanceMethod ({ cls := "HeroTable", name := "hitShare", desc := "()F" } : Jvm.MethodName)) ∈ G9 := g9 1274 (by decide +kernel) rfl
theorem k1275 : (Jvm.Cond.selects "HeroTable" ({ cls := "HeroTable", name := "hitShare", desc := "()F" } : Jvm.MethodName) ({ cls := "HeroTable", name := "hitShare", desc := "()F" } : Jvm.MethodName)) ∈ G9 := g9 1275 (by decide +kernel) rfl
theorem k1259 : (Jvm.Cond.classLink "HeroTableLaw" (137 : Nat) "java/lang/ArithmeticException") ∈ G9 := g9 1259 (by decide +kernel) rfl
theorem k1286 : (Jvm.Cond.code ({ cls := "HeroTable", name := "meanLife", desc := "()D" } : Jvm.MethodName) prog_1_method_40_code (3 : Nat) (Option.some Jvm.ClassFile.FieldType.double)) ∈ G9 := g9 1286 (by decide +kernel) rfl
theorem k1283 : (Jvm.Cond.methodLink "HeroTableLaw" (139 : Nat) ({ cls := "HeroTable", name := "meanLife", desc := "()D" } : Jvm.MethodName)) ∈ G9 := g9 1283 (by decide +kernel) rfl
theorem ok_X7_meanLife : okN yX7_meanLife 0 := by decide +kernel
theorem k1284 : (Jvm.Cond.instanceMethod ({ cls := "HeroTable", name := "meanLife", desc := "()D" } : Jvm.MethodName)) ∈ G9 := g9 1284 (by decide +kernel) rfl
theorem k1285 : (Jvm.Cond.selects "HeroTable" ({ cls := "HeroTable", name := "meanLife", desc := "()D" } : Jvm.MethodName) ({ cls := "HeroTable", name := "meanLife", desc := "()D" } : Jvm.MethodName)) ∈ G9 := g9 1285 (by decide +kernel) rfl
theorem dL_addHero_0 : decode cL_addHero 0 = .ok (.aload 6, 2) := by decide +kernel
theorem dL_addHero_2 : decode cL_addHero 2 = .ok (.iconst 0, 1) := by decide +kernel
theorem dL_addHero_3 : decode cL_addHero 3 = .ok (.aload_n 0, 1) := by decide +kernel
theorem dL_addHero_4 : decode cL_addHero 4 = .ok (.iload_n 1, 1) := by decide +kernel
theorem dL_addHero_5 : decode cL_addHero 5 = .ok (.iload_n 2, 1) := by decide +kernel
theorem dL_addHero_6 : decode cL_addHero 6 = .ok (.iload_n 3, 1) := by decide +kernel
theorem dL_addHero_7 : decode cL_addHero 7 = .ok (.iload 4, 2) := by decide +kernel
theorem dL_addHero_9 : decode cL_addHero 9 = .ok (.iload 5, 2) := by decide +kernel
theorem dL_addHero_11 : decode cL_addHero 11 = .ok (.invokevirtual 7, 3) := by decide +kernel
theorem dL_addHero_14 : decode cL_addHero 14 = .ok (.i2l, 1) := by decide +kernel
theorem dL_addHero_15 : decode cL_addHero 15 = .ok (.lastore, 1) := by decide +kernel
theorem dL_addHero_16 : decode cL_addHero 16 = .ok (.goto 15, 3) := by decide +kernel
theorem dL_addHero_19 : decode cL_addHero 19 = .ok (.astore 7, 2) := by decide +kernel
theorem dL_addHero_21 : decode cL_addHero 21 = .ok (.iconst 1, 1) := by decide +kernel
theorem dL_addHero_22 : decode cL_addHero 22 = .ok (.ireturn, 1) := by decide +kernel
theorem dL_addHero_31 : decode cL_addHero 31 = .ok (.iconst 0, 1) := by decide +kernel
theorem dL_addHero_32 : decode cL_addHero 32 = .ok (.ireturn, 1) := by decide +kernel
theorem dL_setGround_0 : decode cL_setGround 0 = .ok (.aload 4, 2) := by decide +kernel
theorem dL_setGround_2 : decode cL_setGround 2 = .ok (.iconst 0, 1) := by decide +kernel
theorem dL_setGround_3 : decode cL_setGround 3 = .ok (.aload_n 0, 1) := by decide +kernel
theorem dL_setGround_4 : decode cL_setGround 4 = .ok (.iload_n 1, 1) := by decide +kernel
theorem dL_setGround_5 : decode cL_setGround 5 = .ok (.iload_n 2, 1) := by decide +kernel
theorem dL_setGround_6 : decode cL_setGround 6 = .ok (.iload_n 3, 1) := by decide +kernel
theorem dL_setGround_7 : decode cL_setGround 7 = .ok (.invokevirtual 19, 3) := by decide +kernel
theorem dL_setGround_10 : decode cL_setGround 10 = .ok (.i2l, 1) := by decide +kernel
theorem dL_setGround_11 : decode cL_setGround 11 = .ok (.lastore, 1) := by decide +kernel
theorem dL_setGround_12 : decode cL_setGround 12 = .ok (.goto 11, 3) := by decide +kernel
theorem dL_setGround_15 : decode cL_setGround 15 = .ok (.astore 5, 2) := by decide +kernel
theorem dL_setGround_17 : decode cL_setGround 17 = .ok (.iconst 1, 1) := by decide +kernel
theorem dL_setGround_18 : decode cL_setGround 18 = .ok (.ireturn, 1) := by decide +kernel
theorem dL_setGround_23 : decode cL_setGround 23 = .ok (.iconst 0, 1) := by decide +kernel
theorem dL_setGround_24 : decode cL_setGround 24 = .ok (.ireturn, 1) := by decide +kernel
theorem dL_setBase_0 : decode cL_setBase 0 = .ok (.aload 4, 2) := by decide +kernel
theorem dL_setBase_2 : decode cL_setBase 2 = .ok (.iconst 0, 1) := by decide +kernel
theorem dL_setBase_3 : decode cL_setBase 3 = .ok (.aload_n 0, 1) := by decide +kernel
theorem dL_setBase_4 : decode cL_setBase 4 = .ok (.iload_n 1, 1) := by decide +kernel
theorem dL_setBase_5 : decode cL_setBase 5 = .ok (.iload_n 2, 1) := by decide +kernel
theorem dL_setBase_6 : decode cL_setBase 6 = .ok (.iload_n 3, 1) := by decide +kernel
theorem dL_setBase_7 : decode cL_setBase 7 = .ok (.invokevirtual 23, 3) := by decide +kernel
theorem dL_setBase_15 : decode cL_setBase 15 = .ok (.astore 5, 2) := by decide +kernel
theorem dL_setBase_17 : decode cL_setBase 17 = .ok (.iconst 1, 1) := by decide +kernel
theorem dL_setBase_18 : decode cL_setBase 18 = .ok (.ireturn, 1) := by decide +kernel
theorem dL_setSpare_0 : decode cL_setSpare 0 = .ok (.aload_n 3, 1) := by decide +kernel
theorem dL_setSpare_1 : decode cL_setSpare 1 = .ok (.iconst 0, 1) := by decide +kernel
theorem dL_setSpare_2 : decode cL_setSpare 2 = .ok (.aload_n 0, 1) := by decide +kernel
theorem dL_setSpare_3 : decode cL_setSpare 3 = .ok (.iload_n 1, 1) := by decide +kernel
theorem dL_setSpare_4 : decode cL_setSpare 4 = .ok (.iload_n 2, 1) := by decide +kernel
theorem dL_setSpare_5 : decode cL_setSpare 5 = .ok (.invokevirtual 29, 3) := by decide +kernel
theorem dL_setSpare_13 : decode cL_setSpare 13 = .ok (.astore 4, 2) := by decide +kernel
theorem dL_setSpare_15 : decode cL_setSpare 15 = .ok (.iconst 1, 1) := by decide +kernel
theorem dL_setSpare_16 : decode cL_setSpare 16 = .ok (.ireturn, 1) := by decide +kernel
theorem dL_heal_0 : decode cL_heal 0 = .ok (.aload_n 3, 1) := by decide +kernel
theorem dL_heal_1 : decode cL_heal 1 = .ok (.iconst 0, 1) := by decide +kernel
theorem dL_heal_2 : decode cL_heal 2 = .ok (.aload_n 0, 1) := by decide +kernel
theorem dL_heal_3 : decode cL_heal 3 = .ok (.iload_n 1, 1) := by decide +kernel
theorem dL_heal_4 : decode cL_heal 4 = .ok (.iload_n 2, 1) := by decide +kernel
theorem dL_heal_5 : decode cL_heal 5 = .ok (.invokevirtual 33, 3) := by decide +kernel
theorem dL_heal_13 : decode cL_heal 13 = .ok (.astore 4, 2) := by decide +kernel
theorem dL_heal_15 : decode cL_heal 15 = .ok (.iconst 1, 1) := by decide +kernel
theorem dL_heal_16 : decode cL_heal 16 = .ok (.ireturn, 1) := by decide +kernel
theorem dL_lifeOf_0 : decode cL_lifeOf 0 = .ok (.aload_n 2, 1) := by decide +kernel
theorem dL_lifeOf_1 : decode cL_lifeOf 1 = .ok (.iconst 0, 1) := by decide +kernel
theorem dL_lifeOf_2 : decode cL_lifeOf 2 = .ok (.aload_n 0, 1) := by decide +kernel
theorem dL_lifeOf_3 : decode cL_lifeOf 3 = .ok (.iload_n 1, 1) := by decide +kernel
theorem dL_lifeOf_4 : decode cL_lifeOf 4 = .ok (.invokevirtual 36, 3) := by decide +kernel
theorem dL_lifeOf_12 : decode cL_lifeOf 12 = .ok (.astore_n 3, 1) := by decide +kernel
theorem dL_lifeOf_13 : decode cL_lifeOf 13 = .ok (.iconst 1, 1) := by decide +kernel
theorem dL_lifeOf_14 : decode cL_lifeOf 14 = .ok (.ireturn, 1) := by decide +kernel
theorem dL_spareOf_0 : decode cL_spareOf 0 = .ok (.aload_n 2, 1) := by decide +kernel
theorem dL_spareOf_1 : decode cL_spareOf 1 = .ok (.iconst 0, 1) := by decide +kernel
theorem dL_spareOf_2 : decode cL_spareOf 2 = .ok (.aload_n 0, 1) := by decide +kernel
theorem dL_spareOf_3 : decode cL_spareOf 3 = .ok (.iload_n 1, 1) := by decide +kernel
theorem dL_spareOf_4 : decode cL_spareOf 4 = .ok (.invokevirtual 40, 3) := by decide +kernel
theorem dL_spareOf_12 : decode cL_spareOf 12 = .ok (.astore_n 3, 1) := by decide +kernel
theorem dL_spareOf_13 : decode cL_spareOf 13 = .ok (.iconst 1, 1) := by decide +kernel
theorem dL_spareOf_14 : decode cL_spareOf 14 = .ok (.ireturn, 1) := by decide +kernel
theorem dL_cellOf_0 : decode cL_cellOf 0 = .ok (.aload_n 2, 1) := by decide +kernel
theorem dL_cellOf_1 : decode cL_cellOf 1 = .ok (.iconst 0, 1) := by decide +kernel
theorem dL_cellOf_2 : decode cL_cellOf 2 = .ok (.aload_n 0, 1) := by decide +kernel
theorem dL_cellOf_3 : decode cL_cellOf 3 = .ok (.iload_n 1, 1) := by decide +kernel
theorem dL_cellOf_4 : decode cL_cellOf 4 = .ok (.invokevirtual 43, 3) := by decide +kernel
theorem dL_cellOf_12 : decode cL_cellOf 12 = .ok (.astore_n 3, 1) := by decide +kernel
theorem dL_cellOf_13 : decode cL_cellOf 13 = .ok (.iconst 1, 1) := by decide +kernel
theorem dL_cellOf_14 : decode cL_cellOf 14 = .ok (.ireturn, 1) := by decide +kernel
theorem dL_sees_0 : decode cL_sees 0 = .ok (.aload 4, 2) := by decide +kernel
theorem dL_sees_2 : decode cL_sees 2 = .ok (.iconst 0, 1) := by decide +kernel
theorem dL_sees_3 : decode cL_sees 3 = .ok (.aload_n 0, 1) := by decide +kernel
theorem dL_sees_4 : decode cL_sees 4 = .ok (.iload_n 1, 1) := by decide +kernel
theorem dL_sees_5 : decode cL_sees 5 = .ok (.iload_n 2, 1) := by decide +kernel
theorem dL_sees_6 : decode cL_sees 6 = .ok (.iload_n 3, 1) := by decide +kernel
theorem dL_sees_7 : decode cL_sees 7 = .ok (.invokevirtual 46, 3) := by decide +kernel
theorem dL_sees_22 : decode cL_sees 22 = .ok (.astore 5, 2) := by decide +kernel
theorem dL_sees_24 : decode cL_sees 24 = .ok (.iconst 1, 1) := by decide +kernel
theorem dL_sees_25 : decode cL_sees 25 = .ok (.ireturn, 1) := by decide +kernel
theorem dL_addSource_0 : decode cL_addSource 0 = .ok (.aload 7, 2) := by decide +kernel
theorem dL_addSource_2 : decode cL_addSource 2 = .ok (.iconst 0, 1) := by decide +kernel
theorem dL_addSource_3 : decode cL_addSource 3 = .ok (.aload_n 0, 1) := by decide +kernel
theorem dL_addSource_4 : decode cL_addSource 4 = .ok (.iload_n 1, 1) := by decide +kernel
theorem dL_addSource_5 : decode cL_addSource 5 = .ok (.iload_n 2, 1) := by decide +kernel
theorem dL_addSource_6 : decode cL_addSource 6 = .ok (.iload_n 3, 1) := by decide +kernel
theorem dL_addSource_7 : decode cL_addSource 7 = .ok (.iload 4, 2) := by decide +kernel
theorem dL_addSource_9 : decode cL_addSource 9 = .ok (.iload 5, 2) := by decide +kernel
theorem dL_addSource_11 : decode cL_addSource 11 = .ok (.iload 6, 2) := by decide +kernel
theorem dL_addSource_13 : decode cL_addSource 13 = .ok (.invokevirtual 50, 3) := by decide +kernel
theorem dL_addSource_21 : decode cL_addSource 21 = .ok (.astore 8, 2) := by decide +kernel
theorem dL_addSource_23 : decode cL_addSource 23 = .ok (.iconst 1, 1) := by decide +kernel
theorem dL_addSource_24 : decode cL_addSource 24 = .ok (.ireturn, 1) := by decide +kernel
theorem dL_afflict_0 : decode cL_afflict 0 = .ok (.aload 6, 2) := by decide +kernel
theorem dL_afflict_2 : decode cL_afflict 2 = .ok (.iconst 0, 1) := by decide +kernel
theorem dL_afflict_3 : decode cL_afflict 3 = .ok (.aload_n 0, 1) := by decide +kernel
theorem dL_afflict_4 : decode cL_afflict 4 = .ok (.iload_n 1, 1) := by decide +kernel
theorem dL_afflict_5 : decode cL_afflict 5 = .ok (.iload_n 2, 1) := by decide +kernel
theorem dL_afflict_6 : decode cL_afflict 6 = .ok (.iload_n 3, 1) := by decide +kernel
theorem dL_afflict_7 : decode cL_afflict 7 = .ok (.iload 4, 2) := by decide +kernel
theorem dL_afflict_9 : decode cL_afflict 9 = .ok (.iload 5, 2) := by decide +kernel
theorem dL_afflict_11 : decode cL_afflict 11 = .ok (.invokevirtual 54, 3) := by decide +kernel
theorem dL_afflict_19 : decode cL_afflict 19 = .ok (.astore 7, 2) := by decide +kernel
theorem dL_afflict_21 : decode cL_afflict 21 = .ok (.iconst 1, 1) := by decide +kernel
theorem dL_afflict_22 : decode cL_afflict 22 = .ok (.ireturn, 1) := by decide +kernel
theorem dL_endSource_0 : decode cL_endSource 0 = .ok (.aload_n 2, 1) := by decide +kernel
theorem dL_endSource_1 : decode cL_endSource 1 = .ok (.iconst 0, 1) := by decide +kernel
theorem dL_endSource_2 : decode cL_endSource 2 = .ok (.aload_n 0, 1) := by decide +kernel
theorem dL_endSource_3 : decode cL_endSource 3 = .ok (.iload_n 1, 1) := by decide +kernel
theorem dL_endSource_4 : decode cL_endSource 4 = .ok (.invokevirtual 58, 3) := by decide +kernel
theorem dL_endSource_19 : decode cL_endSource 19 = .ok (.astore_n 3, 1) := by decide +kernel
theorem dL_endSource_20 : decode cL_endSource 20 = .ok (.iconst 1, 1) := by decide +kernel
theorem dL_endSource_21 : decode cL_endSource 21 = .ok (.ireturn, 1) := by decide +kernel
theorem dL_setImmune_0 : decode cL_setImmune 0 = .ok (.aload 4, 2) := by decide +kernel
theorem dL_setImmune_2 : decode cL_setImmune 2 = .ok (.iconst 0, 1) := by decide +kernel
theorem dL_setImmune_3 : decode cL_setImmune 3 = .ok (.aload_n 0, 1) := by decide +kernel
theorem dL_setImmune_4 : decode cL_setImmune 4 = .ok (.iload_n 1, 1) := by decide +kernel
theorem dL_setImmune_5 : decode cL_setImmune 5 = .ok (.iload_n 2, 1) := by decide +kernel
theorem dL_setImmune_6 : decode cL_setImmune 6 = .ok (.iload_n 3, 1) := by decide +kernel
theorem dL_setImmune_7 : decode cL_setImmune 7 = .ok (.invokevirtual 62, 3) := by decide +kernel
theorem dL_setImmune_22 : decode cL_setImmune 22 = .ok (.astore 5, 2) := by decide +kernel
theorem dL_setImmune_24 : decode cL_setImmune 24 = .ok (.iconst 1, 1) := by decide +kernel
theorem dL_setImmune_25 : decode cL_setImmune 25 = .ok (.ireturn, 1) := by decide +kernel
theorem dL_isLive_0 : decode cL_isLive 0 = .ok (.aload_n 2, 1) := by decide +kernel
theorem dL_isLive_1 : decode cL_isLive 1 = .ok (.iconst 0, 1) := by decide +kernel
theorem dL_isLive_2 : decode cL_isLive 2 = .ok (.aload_n 0, 1) := by decide +kernel
theorem dL_isLive_3 : decode cL_isLive 3 = .ok (.iload_n 1, 1) := by decide +kernel
theorem dL_isLive_4 : decode cL_isLive 4 = .ok (.invokevirtual 66, 3) := by decide +kernel
theorem dL_isLive_19 : decode cL_isLive 19 = .ok (.astore_n 3, 1) := by decide +kernel
theorem dL_isLive_20 : decode cL_isLive 20 = .ok (.iconst 1, 1) := by decide +kernel
theorem dL_isLive_21 : decode cL_isLive 21 = .ok (.ireturn, 1) := by decide +kernel
theorem dL_numberOf_0 : decode cL_numberOf 0 = .ok (.aload_n 3, 1) := by decide +kernel
theorem dL_numberOf_1 : decode cL_numberOf 1 = .ok (.iconst 0, 1) := by decide +kernel
theorem dL_numberOf_2 : decode cL_numberOf 2 = .ok (.aload_n 0, 1) := by decide +kernel
theorem dL_numberOf_3 : decode cL_numberOf 3 = .ok (.iload_n 1, 1) := by decide +kernel
theorem dL_numberOf_4 : decode cL_numberOf 4 = .ok (.iload_n 2, 1) := by decide +kernel
theorem dL_numberOf_5 : decode cL_numberOf 5 = .ok (.invokevirtual 69, 3) := by decide +kernel
theorem dL_numberOf_13 : decode cL_numberOf 13 = .ok (.astore 4, 2) := by decide +kernel
theorem dL_numberOf_15 : decode cL_numberOf 15 = .ok (.iconst 1, 1) := by decide +kernel
theorem dL_numberOf_16 : decode cL_numberOf 16 = .ok (.ireturn, 1) := by decide +kernel
theorem dL_numberAnew_0 : decode cL_numberAnew 0 = .ok (.aload_n 3, 1) := by decide +kernel
theorem dL_numberAnew_1 : decode cL_numberAnew 1 = .ok (.iconst 0, 1) := by decide +kernel
theorem dL_numberAnew_2 : decode cL_numberAnew 2 = .ok (.aload_n 0, 1) := by decide +kernel
theorem dL_numberAnew_3 : decode cL_numberAnew 3 = .ok (.iload_n 1, 1) := by decide +kernel
theorem dL_numberAnew_4 : decode cL_numberAnew 4 = .ok (.iload_n 2, 1) := by decide +kernel
theorem dL_numberAnew_5 : decode cL_numberAnew 5 = .ok (.invokevirtual 73, 3) := by decide +kernel
theorem dL_numberAnew_13 : decode cL_numberAnew 13 = .ok (.astore 4, 2) := by decide +kernel
theorem dL_numberAnew_15 : decode cL_numberAnew 15 = .ok (.iconst 1, 1) := by decide +kernel
theorem dL_numberAnew_16 : decode cL_numberAnew 16 = .ok (.ireturn, 1) := by decide +kernel
theorem dL_has_0 : decode cL_has 0 = .ok (.aload_n 3, 1) := by decide +kernel
theorem dL_has_1 : decode cL_has 1 = .ok (.iconst 0, 1) := by decide +kernel
theorem dL_has_2 : decode cL_has 2 = .ok (.aload_n 0, 1) := by decide +kernel
theorem dL_has_3 : decode cL_has 3 = .ok (.iload_n 1, 1) := by decide +kernel
theorem dL_has_4 : decode cL_has 4 = .ok (.iload_n 2, 1) := by decide +kernel
theorem dL_has_5 : decode cL_has 5 = .ok (.invokevirtual 76, 3) := by decide +kernel
theorem dL_has_20 : decode cL_has 20 = .ok (.astore 4, 2) := by decide +kernel
theorem dL_has_22 : decode cL_has 22 = .ok (.iconst 1, 1) := by decide +kernel
theorem dL_has_23 : decode cL_has 23 = .ok (.ireturn, 1) := by decide +kernel
theorem dL_tellDie_0 : decode cL_tellDie 0 = .ok (.aload_n 2, 1) := by decide +kernel
theorem dL_tellDie_1 : decode cL_tellDie 1 = .ok (.iconst 0, 1) := by decide +kernel
theorem dL_tellDie_2 : decode cL_tellDie 2 = .ok (.aload_n 0, 1) := by decide +kernel
theorem dL_tellDie_3 : decode cL_tellDie 3 = .ok (.iload_n 1, 1) := by decide +kernel
theorem dL_tellDie_4 : decode cL_tellDie 4 = .ok (.invokevirtual 80, 3) := by decide +kernel
theorem dL_tellDie_7 : decode cL_tellDie 7 = .ok (.i2l, 1) := by decide +kernel
theorem dL_tellDie_8 : decode cL_tellDie 8 = .ok (.lastore, 1) := by decide +kernel
theorem dL_tellDie_9 : decode cL_tellDie 9 = .ok (.goto 6, 3) := by decide +kernel
theorem dL_tellDie_12 : decode cL_tellDie 12 = .ok (.astore_n 3, 1) := by decide +kernel
theorem dL_tellDie_13 : decode cL_tellDie 13 = .ok (.iconst 1, 1) := by decide +kernel
theorem dL_tellDie_14 : decode cL_tellDie 14 = .ok (.ireturn, 1) := by decide +kernel
theorem dL_tellDie_15 : decode cL_tellDie 15 = .ok (.iconst 0, 1) := by decide +kernel
theorem dL_tellDie_16 : decode cL_tellDie 16 = .ok (.ireturn, 1) := by decide +kernel
theorem dL_begin_0 : decode cL_begin 0 = .ok (.aload_n 1, 1) := by decide +kernel
theorem dL_begin_1 : decode cL_begin 1 = .ok (.iconst 0, 1) := by decide +kernel
theorem dL_begin_2 : decode cL_begin 2 = .ok (.aload_n 0, 1) := by decide +kernel
theorem dL_begin_3 : decode cL_begin 3 = .ok (.invokevirtual 83, 3) := by decide +kernel
theorem dL_begin_11 : decode cL_begin 11 = .ok (.astore_n 2, 1) := by decide +kernel
theorem dL_begin_12 : decode cL_begin 12 = .ok (.iconst 1, 1) := by decide +kernel
theorem dL_begin_13 : decode cL_begin 13 = .ok (.ireturn, 1) := by decide +kernel
theorem dL_endTurn_0 : decode cL_endTurn 0 = .ok (.aload_n 1, 1) := by decide +kernel
theorem dL_endTurn_1 : decode cL_endTurn 1 = .ok (.iconst 0, 1) := by decide +kernel
theorem dL_endTurn_2 : decode cL_endTurn 2 = .ok (.aload_n 0, 1) := by decide +kernel
theorem dL_endTurn_3 : decode cL_endTurn 3 = .ok (.invokevirtual 89, 3) := by decide +kernel
theorem dL_endTurn_11 : decode cL_endTurn 11 = .ok (.astore_n 2, 1) := by decide +kernel
theorem dL_endTurn_12 : decode cL_endTurn 12 = .ok (.iconst 1, 1) := by decide +kernel
theorem dL_endTurn_13 : decode cL_endTurn 13 = .ok (.ireturn, 1) := by decide +kernel
theorem dL_rest_0 : decode cL_rest 0 = .ok (.aload_n 1, 1) := by decide +kernel
theorem dL_rest_1 : decode cL_rest 1 = .ok (.iconst 0, 1) := by decide +kernel
theorem dL_rest_2 : decode cL_rest 2 = .ok (.aload_n 0, 1) := by decide +kernel
theorem dL_rest_3 : decode cL_rest 3 = .ok (.invokevirtual 92, 3) := by decide +kernel
theorem dL_rest_11 : decode cL_rest 11 = .ok (.astore_n 2, 1) := by decide +kernel
theorem dL_rest_12 : decode cL_rest 12 = .ok (.iconst 1, 1) := by decide +kernel
theorem dL_rest_13 : decode cL_rest 13 = .ok (.ireturn, 1) := by decide +kernel
theorem dL_turn_0 : decode cL_turn 0 = .ok (.aload_n 1, 1) := by decide +kernel
theorem dL_turn_1 : decode cL_turn 1 = .ok (.iconst 0, 1) := by decide +kernel
theorem dL_turn_2 : decode cL_turn 2 = .ok (.aload_n 0, 1) := by decide +kernel
theorem dL_turn_3 : decode cL_turn 3 = .ok (.invokevirtual 95, 3) := by decide +kernel
theorem dL_turn_11 : decode cL_turn 11 = .ok (.astore_n 2, 1) := by decide +kernel
theorem dL_turn_12 : decode cL_turn 12 = .ok (.iconst 1, 1) := by decide +kernel
theorem dL_turn_13 : decode cL_turn 13 = .ok (.ireturn, 1) := by decide +kernel
theorem dL_steps_0 : decode cL_steps 0 = .ok (.aload_n 1, 1) := by decide +kernel
theorem dL_steps_1 : decode cL_steps 1 = .ok (.iconst 0, 1) := by decide +kernel
theorem dL_steps_2 : decode cL_steps 2 = .ok (.aload_n 0, 1) := by decide +kernel
theorem dL_steps_3 : decode cL_steps 3 = .ok (.invokevirtual 98, 3) := by decide +kernel
theorem dL_steps_11 : decode cL_steps 11 = .ok (.astore_n 2, 1) := by decide +kernel
theorem dL_steps_12 : decode cL_steps 12 = .ok (.iconst 1, 1) := by decide +kernel
theorem dL_steps_13 : decode cL_steps 13 = .ok (.ireturn, 1) := by decide +kernel
theorem dL_canReact_0 : decode cL_canReact 0 = .ok (.aload_n 2, 1) := by decide +kernel
theorem dL_canReact_1 : decode cL_canReact 1 = .ok (.iconst 0, 1) := by decide +kernel
theorem dL_canReact_2 : decode cL_canReact 2 = .ok (.aload_n 0, 1) := by decide +kernel
theorem dL_canReact_3 : decode cL_canReact 3 = .ok (.iload_n 1, 1) := by decide +kernel
theorem dL_canReact_4 : decode cL_canReact 4 = .ok (.invokevirtual 101, 3) := by decide +kernel
theorem dL_canReact_19 : decode cL_canReact 19 = .ok (.astore_n 3, 1) := by decide +kernel
theorem dL_canReact_20 : decode cL_canReact 20 = .ok (.iconst 1, 1) := by decide +kernel
theorem dL_canReact_21 : decode cL_canReact 21 = .ok (.ireturn, 1) := by decide +kernel
theorem dL_attack_0 : decode cL_attack 0 = .ok (.aload_n 2, 1) := by decide +kernel
theorem dL_attack_1 : decode cL_attack 1 = .ok (.iconst 0, 1) := by decide +kernel
theorem dL_attack_2 : decode cL_attack 2 = .ok (.aload_n 0, 1) := by decide +kernel
theorem dL_attack_3 : decode cL_attack 3 = .ok (.iload_n 1, 1) := by decide +kernel
theorem dL_attack_4 : decode cL_attack 4 = .ok (.invokevirtual 104, 3) := by decide +kernel
theorem dL_attack_12 : decode cL_attack 12 = .ok (.astore_n 3, 1) := by decide +kernel
theorem dL_attack_13 : decode cL_attack 13 = .ok (.iconst 1, 1) := by decide +kernel
theorem dL_attack_14 : decode cL_attack 14 = .ok (.ireturn, 1) := by decide +kernel
theorem dL_step_0 : decode cL_step 0 = .ok (.aload_n 3, 1) := by decide +kernel
theorem dL_step_1 : decode cL_step 1 = .ok (.iconst 0, 1) := by decide +kernel
theorem dL_step_2 : decode cL_step 2 = .ok (.aload_n 0, 1) := by decide +kernel
theorem dL_step_3 : decode cL_step 3 = .ok (.iload_n 1, 1) := by decide +kernel
theorem dL_step_4 : decode cL_step 4 = .ok (.iload_n 2, 1) := by decide +kernel
theorem dL_step_5 : decode cL_step 5 = .ok (.invokevirtual 107, 3) := by decide +kernel
theorem dL_step_20 : decode cL_step 20 = .ok (.astore 4, 2) := by decide +kernel
theorem dL_step_22 : decode cL_step 22 = .ok (.iconst 1, 1) := by decide +kernel
theorem dL_step_23 : decode cL_step 23 = .ok (.ireturn, 1) := by decide +kernel
theorem dL_step_24 : decode cL_step 24 = .ok (.astore 4, 2) := by decide +kernel
theorem dL_step_26 : decode cL_step 26 = .ok (.iconst 2, 1) := by decide +kernel
theorem dL_step_27 : decode cL_step 27 = .ok (.ireturn, 1) := by decide +kernel
theorem dL_stand_0 : decode cL_stand 0 = .ok (.aload_n 1, 1) := by decide +kernel
theorem dL_stand_1 : decode cL_stand 1 = .ok (.iconst 0, 1) := by decide +kernel
theorem dL_stand_2 : decode cL_stand 2 = .ok (.aload_n 0, 1) := by decide +kernel
theorem dL_stand_3 : decode cL_stand 3 = .ok (.invokevirtual 111, 3) := by decide +kernel
theorem dL_stand_18 : decode cL_stand 18 = .ok (.astore_n 2, 1) := by decide +kernel
theorem dL_stand_19 : decode cL_stand 19 = .ok (.iconst 1, 1) := by decide +kernel
theorem dL_stand_20 : decode cL_stand 20 = .ok (.ireturn, 1) := by decide +kernel
theorem dL_ready_0 : decode cL_ready 0 = .ok (.aload_n 3, 1) := by decide +kernel
theorem dL_ready_1 : decode cL_ready 1 = .ok (.iconst 0, 1) := by decide +kernel
theorem dL_ready_2 : decode cL_ready 2 = .ok (.aload_n 0, 1) := by decide +kernel
theorem dL_ready_3 : decode cL_ready 3 = .ok (.iload_n 1, 1) := by decide +kernel
theorem dL_ready_4 : decode cL_ready 4 = .ok (.iload_n 2, 1) := by decide +kernel
theorem dL_ready_5 : decode cL_ready 5 = .ok (.invokevirtual 115, 3) := by decide +kernel
theorem dL_ready_20 : decode cL_ready 20 = .ok (.astore 4, 2) := by decide +kernel
theorem dL_ready_22 : decode cL_ready 22 = .ok (.iconst 1, 1) := by decide +kernel
theorem dL_ready_23 : decode cL_ready 23 = .ok (.ireturn, 1) := by decide +kernel
theorem dL_ready_24 : decode cL_ready 24 = .ok (.astore 4, 2) := by decide +kernel
theorem dL_ready_26 : decode cL_ready 26 = .ok (.iconst 2, 1) := by decide +kernel
theorem dL_ready_27 : decode cL_ready 27 = .ok (.ireturn, 1) := by decide +kernel
theorem dL_cast_0 : decode cL_cast 0 = .ok (.aload 4, 2) := by decide +kernel
theorem dL_cast_2 : decode cL_cast 2 = .ok (.iconst 0, 1) := by decide +kernel
theorem dL_cast_3 : decode cL_cast 3 = .ok (.aload_n 0, 1) := by decide +kernel
theorem dL_cast_4 : decode cL_cast 4 = .ok (.iload_n 1, 1) := by decide +kernel
theorem dL_cast_5 : decode cL_cast 5 = .ok (.iload_n 2, 1) := by decide +kernel
theorem dL_cast_6 : decode cL_cast 6 = .ok (.iload_n 3, 1) := by decide +kernel
theorem dL_cast_7 : decode cL_cast 7 = .ok (.invokevirtual 119, 3) := by decide +kernel
theorem dL_cast_15 : decode cL_cast 15 = .ok (.astore 5, 2) := by decide +kernel
theorem dL_cast_17 : decode cL_cast 17 = .ok (.iconst 1, 1) := by decide +kernel
theorem dL_cast_18 : decode cL_cast 18 = .ok (.ireturn, 1) := by decide +kernel
theorem dL_cast_19 : decode cL_cast 19 = .ok (.astore 5, 2) := by decide +kernel
theorem dL_cast_21 : decode cL_cast 21 = .ok (.iconst 2, 1) := by decide +kernel
theorem dL_cast_22 : decode cL_cast 22 = .ok (.ireturn, 1) := by decide +kernel
theorem dL_slots_0 : decode cL_slots 0 = .ok (.aload_n 2, 1) := by decide +kernel
theorem dL_slots_1 : decode cL_slots 1 = .ok (.iconst 0, 1) := by decide +kernel
theorem dL_slots_2 : decode cL_slots 2 = .ok (.aload_n 0, 1) := by decide +kernel
theorem dL_slots_3 : decode cL_slots 3 = .ok (.iload_n 1, 1) := by decide +kernel
theorem dL_slots_4 : decode cL_slots 4 = .ok (.invokevirtual 123, 3) := by decide +kernel
theorem dL_slots_12 : decode cL_slots 12 = .ok (.astore_n 3, 1) := by decide +kernel
theorem dL_slots_13 : decode cL_slots 13 = .ok (.iconst 1, 1) := by decide +kernel
theorem dL_slots_14 : decode cL_slots 14 = .ok (.ireturn, 1) := by decide +kernel
theorem dL_minds_0 : decode cL_minds 0 = .ok (.aload_n 2, 1) := by decide +kernel
theorem dL_minds_1 : decode cL_minds 1 = .ok (.iconst 0, 1) := by decide +kernel
theorem dL_minds_2 : decode cL_minds 2 = .ok (.aload_n 0, 1) := by decide +kernel
theorem dL_minds_3 : decode cL_minds 3 = .ok (.iload_n 1, 1) := by decide +kernel
theorem dL_minds_4 : decode cL_minds 4 = .ok (.invokevirtual 126, 3) := by decide +kernel
theorem dL_minds_19 : decode cL_minds 19 = .ok (.astore_n 3, 1) := by decide +kernel
theorem dL_minds_20 : decode cL_minds 20 = .ok (.iconst 1, 1) := by decide +kernel
theorem dL_minds_21 : decode cL_minds 21 = .ok (.ireturn, 1) := by decide +kernel
theorem dL_again_0 : decode cL_again 0 = .ok (.aload 4, 2) := by decide +kernel
theorem dL_again_2 : decode cL_again 2 = .ok (.iconst 0, 1) := by decide +kernel
theorem dL_again_3 : decode cL_again 3 = .ok (.aload_n 0, 1) := by decide +kernel
theorem dL_again_4 : decode cL_again 4 = .ok (.iload_n 1, 1) := by decide +kernel
theorem dL_again_5 : decode cL_again 5 = .ok (.iload_n 2, 1) := by decide +kernel
theorem dL_again_6 : decode cL_again 6 = .ok (.iload_n 3, 1) := by decide +kernel
theorem dL_again_7 : decode cL_again 7 = .ok (.invokevirtual 129, 3) := by decide +kernel
theorem dL_again_15 : decode cL_again 15 = .ok (.astore 5, 2) := by decide +kernel
theorem dL_again_17 : decode cL_again 17 = .ok (.iconst 1, 1) := by decide +kernel
theorem dL_again_18 : decode cL_again 18 = .ok (.ireturn, 1) := by decide +kernel
theorem dL_hitShare_0 : decode cL_hitShare 0 = .ok (.aload_n 1, 1) := by decide +kernel
theorem dL_hitShare_1 : decode cL_hitShare 1 = .ok (.iconst 0, 1) := by decide +kernel
theorem dL_hitShare_2 : decode cL_hitShare 2 = .ok (.aload_n 0, 1) := by decide +kernel
theorem dL_hitShare_3 : decode cL_hitShare 3 = .ok (.invokevirtual 133, 3) := by decide +kernel
theorem dL_hitShare_11 : decode cL_hitShare 11 = .ok (.astore_n 2, 1) := by decide +kernel
theorem dL_hitShare_12 : decode cL_hitShare 12 = .ok (.iconst 1, 1) := by decide +kernel
theorem dL_hitShare_13 : decode cL_hitShare 13 = .ok (.ireturn, 1) := by decide +kernel
theorem dL_meanLife_0 : decode cL_meanLife 0 = .ok (.aload_n 1, 1) := by decide +kernel
theorem dL_meanLife_1 : decode cL_meanLife 1 = .ok (.iconst 0, 1) := by decide +kernel
theorem dL_meanLife_2 : decode cL_meanLife 2 = .ok (.aload_n 0, 1) := by decide +kernel
theorem dL_meanLife_3 : decode cL_meanLife 3 = .ok (.invokevirtual 139, 3) := by decide +kernel
theorem dL_meanLife_10 : decode cL_meanLife 10 = .ok (.astore_n 2, 1) := by decide +kernel
theorem dL_meanLife_11 : decode cL_meanLife 11 = .ok (.iconst 1, 1) := by decide +kernel
theorem dL_meanLife_12 : decode cL_meanLife 12 = .ok (.ireturn, 1) := by decide +kernel
set_option maxHeartbeats 4000000 in
set_option maxRecDepth 100000 in
theorem c_w_addHero (l : Launch) (hfl : l.stackTraces = false) (g : GP) (x0 : Nat) (t0 : Nat) (th : Nat) (ts : Nat) (tg : Nat) (td : Nat) (tr : Nat) (u0 : Nat) (k0 : Nat) (tc : Nat) (fc : Nat → Int32) (fh : Nat → Option Nat) (z0 : Nat) (z1 : Nat) (z2 : Nat) (z3 : Nat) (z4 : Nat) (z5 : Nat) (f1 : Nat → Int32) (f2 : Nat → Int32) (f3 : Nat → Int32) (f4 : Nat → Int32) (f5 : Nat → Int32) (kr : Nat) (fk : Nat → Int32) (n1 : Int32) (n2 : Int32) (n3 : Int32) (n4 : Int32) (n5 : Int32) (o0 : Nat) (fo : Nat → Int64) (hfh : fh 0 = some z0) (hfc : ∀ j : Nat, j < 64 → fc j = 46) : XI l yL_addHero (wH yL_addHero cL_addHero 8 (Option.some Jvm.ClassFile.FieldType.int) [((0 : Nat), (16 : Nat), (19 : Nat), (13 : Nat)), ((0 : Nat), (16 : Nat), (23 : Nat), (15 : Nat)), ((0 : Nat), (16 : Nat), (27 : Nat), (17 : Nat))]) (LV 8 1 6) g [.ref x0, .int n1, .int n2, .int n3, .int n4, .int n5, .ref o0] ([(x0, .inr (8, [.ref t0, .ref u0, .ref k0])), (t0, .inr (6, [.ref th, .ref ts, .ref tg, .ref td, .int 0, .ref tr, .int (-1), .int 0, .int 0, .int 0, .long 0, .int 0, .int 0])), (th, .inl (g.2.1 3, 6, .inr (.inr (.inr (.inr fh))))), (z0, .inr (4, [.int 0, .int 0, .int 0, .int 0, .int 0, .int 0, .int 0, .int 0, .int 0, .int 0, .int 0, .int 0, .ref z1, .ref z2, .ref z3, .ref z4, .ref z5])), (z1, .inl (g.2.1 1, 5, .inl f1)), (z2, .inl (g.2.1 1, 5, .inl f2)), (z3, .inl (g.2.1 2, 5, .inl f3)), (z4, .inl (g.2.1 1, 6, .inl f4)), (z5, .inl (g.2.1 2, 6, .inl f5)), (tg, .inr (3, [.ref tc])), (tc, .inl (g.2.1 0, 64, .inl fc)), (k0, .inr (7, [.ref kr, .int 0])), (kr, .inl (g.2.1 1, 128, .inl fk)), (o0, .inl (g.2.1 6, 1, .inr (.inl fo)))]) (fun (r : Int32) (u : va_W) => ((¬ okAdd n1 n2 n3 n4 n5) ∧ r = 1 ∧ u = []) ∨ ((okAdd n1 n2 n3 n4 n5) ∧ r = 0 ∧ u = [(o0, .inl (g.2.1 6, 1, .inr (.inl (vp_updL fo 0 0))))])) (fun E : String => False) := by
  intro sz
  refine vx_ofWH (cc := cL_addHero) (maxL := 8) (ret := (Option.some Jvm.ClassFile.FieldType.int)) (hh := [((0 : Nat), (16 : Nat), (19 : Nat), (13 : Nat)), ((0 : Nat), (16 : Nat), (23 : Nat), (15 : Nat)), ((0 : Nat), (16 : Nat), (27 : Nat), (17 : Nat))]) (by decide) rfl ?_
  intro p e s m args below meth c s₁ B hml hv
  obtain ⟨rfl, hsz, hP, hK, hD0, hT0⟩ := hv
  have hx := B.exec
  have hb := B.bytes
  have hr := B.returns
  have hts := atoms_spec (ws := (wH yL_addHero cL_addHero 8 (Option.some Jvm.ClassFile.FieldType.int) [((0 : Nat), (16 : Nat), (19 : Nat), (13 : Nat)), ((0 : Nat), (16 : Nat), (23 : Nat), (15 : Nat)), ((0 : Nat), (16 : Nat), (27 : Nat), (17 : Nat))])) B.pre
  have htg : ∀ w ∈ G9, w.before _ s = true := fun w h => hts w (List.mem_cons_of_mem _ h)
  have hown : s.vm.findClass "HeroTableLaw" = some m.cls := findClass_of_methodNamed B.named
  have hlocks := B.notSynchronized
  subst hsz
  have hD := hD0.self (sz := s.heap.size)
  have hT := hT0
  clear hT0
  generalize hAe : va_A [(x0, .inr (8, [.ref t0, .ref u0, .ref k0])), (t0, .inr (6, [.ref th, .ref ts, .ref tg, .ref td, .int 0, .ref tr, .int (-1), .int 0, .int 0, .int 0, .long 0, .int 0, .int 0])), (th, .inl (g.2.1 3, 6, .inr (.inr (.inr (.inr fh))))), (z0, .inr (4, [.int 0, .int 0, .int 0, .int 0, .int 0, .int 0, .int 0, .int 0, .int 0, .int 0, .int 0, .int 0, .ref z1, .ref z2, .ref z3, .ref z4, .ref z5])), (z1, .inl (g.2.1 1, 5, .inl f1)), (z2, .inl (g.2.1 1, 5, .inl f2)), (z3, .inl (g.2.1 2, 5, .inl f3)), (z4, .inl (g.2.1 1, 6, .inl f4)), (z5, .inl (g.2.1 2, 6, .inl f5)), (tg, .inr (3, [.ref tc])), (tc, .inl (g.2.1 0, 64, .inl fc)), (k0, .inr (7, [.ref kr, .int 0])), (kr, .inl (g.2.1 1, 128, .inl fk)), (o0, .inl (g.2.1 6, 1, .inr (.inl fo)))] s.heap.size = A at hD hT ⊢
  have hA : ∀ q : Nat, s.heap.size ≤ q → A q := fun q h => by rw [← hAe]; exact Or.inr h
  obtain ⟨H, hH0⟩ : ∃ H, H = s.heap := ⟨_, rfl⟩
  have hS : va_S A s.heap H [] := by rw [hH0]; exact va_S.rf
  have hP : va_P g.1 CLS [(x0, .inr (8, [.ref t0, .ref u0, .ref k0])), (t0, .inr (6, [.ref th, .ref ts, .ref tg, .ref td, .int 0, .ref tr, .int (-1), .int 0, .int 0, .int 0, .long 0, .int 0, .int 0])), (th, .inl (g.2.1 3, 6, .inr (.inr (.inr (.inr fh))))), (z0, .inr (4, [.int 0, .int 0, .int 0, .int 0, .int 0, .int 0, .int 0, .int 0, .int 0, .int 0, .int 0, .int 0, .ref z1, .ref z2, .ref z3, .ref z4, .ref z5])), (z1, .inl (g.2.1 1, 5, .inl f1)), (z2, .inl (g.2.1 1, 5, .inl f2)), (z3, .inl (g.2.1 2, 5, .inl f3)), (z4, .inl (g.2.1 1, 6, .inl f4)), (z5, .inl (g.2.1 2, 6, .inl f5)), (tg, .inr (3, [.ref tc])), (tc, .inl (g.2.1 0, 64, .inl fc)), (k0, .inr (7, [.ref kr, .int 0])), (kr, .inl (g.2.1 1, 128, .inl fk)), (o0, .inl (g.2.1 6, 1, .inr (.inl fo)))] H := by rw [hH0]; exact hP
  rw [← hH0]
  have hl := lv_entry ([.ref x0, .int n1, .int n2, .int n3, .int n4, .int n5, .ref o0]) (n := 8) (Nat.le_of_ble_eq_true rfl)
  rw [lg_entry_eq]
  generalize (lg_sl ([.ref x0, .int n1, .int n2, .int n3, .int n4, .int n5, .ref o0]) ++ List.replicate (8 - (lg_sl ([.ref x0, .int n1, .int n2, .int n3, .int n4, .int n5, .ref o0])).length) Slot.unset).toArray = ls at hl ⊢
  have hl : lv_has ls 8 [(0, .ref x0), (1, .int n1), (2, .int n2), (3, .int n3), (4, .int n4), (5, .int n5), (6, .ref o0)] := hl
  refine lv_aload hx hb dL_addHero_0 (lv_at hl 6 rfl) ?_
  refine lv_iconst (v := 0) hx hb dL_addHero_2 (by decide) ?_
  refine lv_aload_n hx hb dL_addHero_3 rfl (lv_at hl 0 rfl) ?_
  refine lv_iload_n hx hb dL_addHero_4 rfl (lv_at hl 1 rfl) ?_
  refine lv_iload_n hx hb dL_addHero_5 rfl (lv_at hl 2 rfl) ?_
  refine lv_iload_n hx hb dL_addHero_6 rfl (lv_at hl 3 rfl) ?_
  refine lv_iload hx hb dL_addHero_7 (lv_at hl 4 rfl) ?_
  refine lv_iload hx hb dL_addHero_9 (lv_at hl 5 rfl) ?_
  have hPc := hP.sub (ws' := [(x0, .inr (8, [.ref t0, .ref u0, .ref k0])), (t0, .inr (6, [.ref th, .ref ts, .ref tg, .ref td, .int 0, .ref tr, .int (-1), .int 0, .int 0, .int 0, .long 0, .int 0, .int 0])), (th, .inl (g.2.1 3, 6, .inr (.inr (.inr (.inr fh))))), (z0, .inr (4, [.int 0, .int 0, .int 0, .int 0, .int 0, .int 0, .int 0, .int 0, .int 0, .int 0, .int 0, .int 0, .ref z1, .ref z2, .ref z3, .ref z4, .ref z5])), (z1, .inl (g.2.1 1, 5, .inl f1)), (z2, .inl (g.2.1 1, 5, .inl f2)), (z3, .inl (g.2.1 2, 5, .inl f3)), (z4, .inl (g.2.1 1, 6, .inl f4)), (z5, .inl (g.2.1 2, 6, .inl f5)), (tg, .inr (3, [.ref tc])), (tc, .inl (g.2.1 0, 64, .inl fc)), (k0, .inr (7, [.ref kr, .int 0])), (kr, .inl (g.2.1 1, 128, .inl fk))]) [0, 1, 2, 3, 4, 5, 6, 7, 8, 9, 10, 11, 12] rfl
  have hDc := hD.sub (ws' := [(x0, .inr (8, [.ref t0, .ref u0, .ref k0])), (t0, .inr (6, [.ref th, .ref ts, .ref tg, .ref td, .int 0, .ref tr, .int (-1), .int 0, .int 0, .int 0, .long 0, .int 0, .int 0])), (th, .inl (g.2.1 3, 6, .inr (.inr (.inr (.inr fh))))), (z0, .inr (4, [.int 0, .int 0, .int 0, .int 0, .int 0, .int 0, .int 0, .int 0, .int 0, .int 0, .int 0, .int 0, .ref z1, .ref z2, .ref z3, .ref z4, .ref z5])), (z1, .inl (g.2.1 1, 5, .inl f1)), (z2, .inl (g.2.1 1, 5, .inl f2)), (z3, .inl (g.2.1 2, 5, .inl f3)), (z4, .inl (g.2.1 1, 6, .inl f4)), (z5, .inl (g.2.1 2, 6, .inl f5)), (tg, .inr (3, [.ref tc])), (tc, .inl (g.2.1 0, 64, .inl fc)), (k0, .inr (7, [.ref kr, .int 0])), (kr, .inl (g.2.1 1, 128, .inl fk))]) [0, 1, 2, 3, 4, 5, 6, 7, 8, 9, 10, 11, 12] (by decide) rfl
  have hFc := va_free (wc := [(x0, .inr (8, [.ref t0, .ref u0, .ref k0])), (t0, .inr (6, [.ref th, .ref ts, .ref tg, .ref td, .int 0, .ref tr, .int (-1), .int 0, .int 0, .int 0, .long 0, .int 0, .int 0])), (th, .inl (g.2.1 3, 6, .inr (.inr (.inr (.inr fh))))), (z0, .inr (4, [.int 0, .int 0, .int 0, .int 0, .int 0, .int 0, .int 0, .int 0, .int 0, .int 0, .int 0, .int 0, .ref z1, .ref z2, .ref z3, .ref z4, .ref z5])), (z1, .inl (g.2.1 1, 5, .inl f1)), (z2, .inl (g.2.1 1, 5, .inl f2)), (z3, .inl (g.2.1 2, 5, .inl f3)), (z4, .inl (g.2.1 1, 6, .inl f4)), (z5, .inl (g.2.1 2, 6, .inl f5)), (tg, .inr (3, [.ref tc])), (tc, .inl (g.2.1 0, 64, .inl fc)), (k0, .inr (7, [.ref kr, .int 0])), (kr, .inl (g.2.1 1, 128, .inl fk))]) hD hS hA [0, 1, 2, 3, 4, 5, 6, 7, 8, 9, 10, 11, 12] rfl
  refine q_xi (wr := [(o0, .inl (g.2.1 6, 1, .inr (.inl fo)))]) (vx_runV (As := [.int n1, .int n2, .int n3, .int n4, .int n5]) (rest := [.int 0, .ref o0]) ⟨hx, hb, hml, hown, htg⟩ (c_X7_addHero l hfl g x0 t0 th ts tg td tr u0 k0 tc fc fh z0 z1 z2 z3 z4 z5 f1 f2 f3 f4 f5 kr fk n1 n2 n3 n4 n5 (hfh) (hfc) H.size) ⟨(qB htg k823 k50 k820 ok_X7_addHero rfl rfl ⟨Nat.le_of_ble_eq_true rfl, Nat.le_of_ble_eq_true rfl⟩), htg _ k821, htg _ k822⟩ ⟨(q_pre [.ref x0, .int n1, .int n2, .int n3, .int n4, .int n5] hPc hDc hK hS hT hFc).1, va_recv hK hP (ci := 8) (q0 := 0) rfl rfl, (q_pre [.ref x0, .int n1, .int n2, .int n3, .int n4, .int n5] hPc hDc hK hS hT hFc).2⟩ rfl rfl hl.1 rfl (lv_room (Nat.le_of_ble_eq_true rfl)) dL_addHero_11 ⟨Nat.le_of_ble_eq_true rfl, Nat.le_of_ble_eq_true rfl⟩) hP hD hS hFc [0, 1, 2, 3, 4, 5, 6, 7, 8, 9, 10, 11, 12] [13] rfl rfl (by decide) (by decide) (fun E9 ce9 q9 H locs hpx hP hD hS hq1 hq2 hq3 => ?_) (fun r9 u9 H locs hw hP hD hS => ?_)
  · rcases hpx with ⟨rfl, c_1⟩
    refine vx_catch hown [] ⟨0, 16, 19, 13⟩ [⟨0, 16, 23, 15⟩, ⟨0, 16, 27, 17⟩] ((vx_table (x := yL_addHero) B (hts _ List.mem_cons_self)).trans rfl) (fun z hz => nomatch hz) (by decide) (by decide) (htg _ k817) (va_Nw.use rfl hT.1.2.2.2.2.1.2.1) hq1 hq2 hq3 ?_
    refine W.widen (k := 1) (n := 6) (Nat.le_of_ble_eq_true rfl) (Nat.le_of_ble_eq_true rfl) ?_
    refine lv_astore (lv' := [(7, .ref q9), (0, .ref x0), (1, .int n1), (2, .int n2), (3, .int n3), (4, .int n4), (5, .int n5), (6, .ref o0)]) hx hb dL_addHero_19 hl (by decide) rfl (fun ls hl => ?_)
    refine lv_iconst (v := 1) hx hb dL_addHero_21 (by decide) ?_
    have hP9 := hP.sub (ws' := []) [] rfl
    have hD9 := hD.sub (ws' := []) [] (by decide) rfl
    refine W.widen (k := 1) (n := 6) (Nat.le_of_ble_eq_true rfl) (Nat.le_of_ble_eq_true rfl) ?_
    refine vx_ret ?_
    exact W.iret (v := 1) hx hb hr (fun t ht hW => ⟨⟨1, [], rfl, Or.inl ⟨c_1, rfl, rfl⟩, by rw [ht]; exact hP9, va_K.moved hW.alike hK, hD9⟩, hS.F ht⟩) hS.2.2 dL_addHero_22
  · try dsimp only at hw
    rcases hw with ⟨c_2, rfl, rfl⟩
    have hP : va_P g.1 CLS [(o0, .inl (g.2.1 6, 1, .inr (.inl fo)))] H := hP
    have hD : va_D A [(o0, .inl (g.2.1 6, 1, .inr (.inl fo)))] := hD
    refine W.widen (k := 1) (n := 6) (Nat.le_of_ble_eq_true rfl) (Nat.le_of_ble_eq_true rfl) ?_
    refine lv_i2l (v := 0) hx hb dL_addHero_14 (by decide) ?_
    refine va_last hx hb hK hP hD hS 0 6 rfl rfl (i := 0) (vp_in_iff.mpr (by decide)) dL_addHero_15 (fun H locs hP hD hS => ?_)
    have hP : va_P g.1 CLS [(o0, .inl (g.2.1 6, 1, .inr (.inl (vp_updL fo 0 0))))] H := hP
    have hD : va_D A [(o0, .inl (g.2.1 6, 1, .inr (.inl (vp_updL fo 0 0))))] := hD
    refine lv_goto (tgt := 31) hx hb dL_addHero_16 (by decide) ?_
    refine lv_iconst (v := 0) hx hb dL_addHero_31 (by decide) ?_
    have hP9 := hP.sub (ws' := [(o0, .inl (g.2.1 6, 1, .inr (.inl (vp_updL fo 0 0))))]) [0] rfl
    have hD9 := hD.sub (ws' := [(o0, .inl (g.2.1 6, 1, .inr (.inl (vp_updL fo 0 0))))]) [0] (by decide) rfl
    refine W.widen (k := 1) (n := 6) (Nat.le_of_ble_eq_true rfl) (Nat.le_of_ble_eq_true rfl) ?_
    refine vx_ret ?_
    exact W.iret (v := 0) hx hb hr (fun t ht hW => ⟨⟨0, [(o0, .inl (g.2.1 6, 1, .inr (.inl (vp_updL fo 0 0))))], rfl, Or.inr (⟨c_2, rfl, rfl⟩), by rw [ht]; exact hP9, va_K.moved hW.alike hK, hD9⟩, hS.F ht⟩) hS.2.2 dL_addHero_32

set_option maxHeartbeats 4000000 in
set_option maxRecDepth 100000 in
theorem c_w_setGround (l : Launch) (hfl : l.stackTraces = false) (g : GP) (x0 : Nat) (t0 : Nat) (th : Nat) (ts : Nat) (tg : Nat) (td : Nat) (tr : Nat) (u0 : Nat) (k0 : Nat) (tc : Nat) (fc : Nat → Int32) (kr : Nat) (fk : Nat → Int32) (n1 : Int32) (n2 : Int32) (n3 : Int32) (o0 : Nat) (fo : Nat → Int64) (hfc : ∀ j : Nat, j < 64 → fc j = 46) : XI l yL_setGround (wH yL_setGround cL_setGround 6 (Option.some Jvm.ClassFile.FieldType.int) [((0 : Nat), (12 : Nat), (15 : Nat), (13 : Nat)), ((0 : Nat), (12 : Nat), (19 : Nat), (17 : Nat))]) (LV 8 1 6) g [.ref x0, .int n1, .int n2, .int n3, .ref o0] ([(x0, .inr (8, [.ref t0, .ref u0, .ref k0])), (t0, .inr (6, [.ref th, .ref ts, .ref tg, .ref td, .int 0, .ref tr, .int (-1), .int 0, .int 0, .int 0, .long 0, .int 0, .int 0])), (tg, .inr (3, [.ref tc])), (tc, .inl (g.2.1 0, 64, .inl fc)), (k0, .inr (7, [.ref kr, .int 0])), (kr, .inl (g.2.1 1, 128, .inl fk)), (o0, .inl (g.2.1 6, 1, .inr (.inl fo)))]) (fun (r : Int32) (u : va_W) => ((¬ okGr n1 n2 n3) ∧ r = 1 ∧ u = []) ∨ ((okGr n1 n2 n3) ∧ r = 0 ∧ u = [(o0, .inl (g.2.1 6, 1, .inr (.inl (vp_updL fo 0 46))))])) (fun E : String => False) := by
  intro sz
  refine vx_ofWH (cc := cL_setGround) (maxL := 6) (ret := (Option.some Jvm.ClassFile.FieldType.int)) (hh := [((0 : Nat), (12 : Nat), (15 : Nat), (13 : Nat)), ((0 : Nat), (12 : Nat), (19 : Nat), (17 : Nat))]) (by decide) rfl ?_
  intro p e s m args below meth c s₁ B hml hv
  obtain ⟨rfl, hsz, hP, hK, hD0, hT0⟩ := hv
  have hx := B.exec
  have hb := B.bytes
  have hr := B.returns
  have hts := atoms_spec (ws := (wH yL_setGround cL_setGround 6 (Option.some Jvm.ClassFile.FieldType.int) [((0 : Nat), (12 : Nat), (15 : Nat), (13 : Nat)), ((0 : Nat), (12 : Nat), (19 : Nat), (17 : Nat))])) B.pre
  have htg : ∀ w ∈ G9, w.before _ s = true := fun w h => hts w (List.mem_cons_of_mem _ h)
  have hown : s.vm.findClass "HeroTableLaw" = some m.cls := findClass_of_methodNamed B.named
  have hlocks := B.notSynchronized
  subst hsz
  have hD := hD0.self (sz := s.heap.size)
  have hT := hT0
  clear hT0
  generalize hAe : va_A [(x0, .inr (8, [.ref t0, .ref u0, .ref k0])), (t0, .inr (6, [.ref th, .ref ts, .ref tg, .ref td, .int 0, .ref tr, .int (-1), .int 0, .int 0, .int 0, .long 0, .int 0, .int 0])), (tg, .inr (3, [.ref tc])), (tc, .inl (g.2.1 0, 64, .inl fc)), (k0, .inr (7, [.ref kr, .int 0])), (kr, .inl (g.2.1 1, 128, .inl fk)), (o0, .inl (g.2.1 6, 1, .inr (.inl fo)))] s.heap.size = A at hD hT ⊢
  have hA : ∀ q : Nat, s.heap.size ≤ q → A q := fun q h => by rw [← hAe]; exact Or.inr h
  obtain ⟨H, hH0⟩ : ∃ H, H = s.heap := ⟨_, rfl⟩
  have hS : va_S A s.heap H [] := by rw [hH0]; exact va_S.rf
  have hP : va_P g.1 CLS [(x0, .inr (8, [.ref t0, .ref u0, .ref k0])), (t0, .inr (6, [.ref th, .ref ts, .ref tg, .ref td, .int 0, .ref tr, .int (-1), .int 0, .int 0, .int 0, .long 0, .int 0, .int 0])), (tg, .inr (3, [.ref tc])), (tc, .inl (g.2.1 0, 64, .inl fc)), (k0, .inr (7, [.ref kr, .int 0])), (kr, .inl (g.2.1 1, 128, .inl fk)), (o0, .inl (g.2.1 6, 1, .inr (.inl fo)))] H := by rw [hH0]; exact hP
  rw [← hH0]
  have hl := lv_entry ([.ref x0, .int n1, .int n2, .int n3, .ref o0]) (n := 6) (Nat.le_of_ble_eq_true rfl)
  rw [lg_entry_eq]
  generalize (lg_sl ([.ref x0, .int n1, .int n2, .int n3, .ref o0]) ++ List.replicate (6 - (lg_sl ([.ref x0, .int n1, .int n2, .int n3, .ref o0])).length) Slot.unset).toArray = ls at hl ⊢
  have hl : lv_has ls 6 [(0, .ref x0), (1, .int n1), (2, .int n2), (3, .int n3), (4, .ref o0)] := hl
  refine lv_aload hx hb dL_setGround_0 (lv_at hl 4 rfl) ?_
  refine lv_iconst (v := 0) hx hb dL_setGround_2 (by decide) ?_
  refine lv_aload_n hx hb dL_setGround_3 rfl (lv_at hl 0 rfl) ?_
  refine lv_iload_n hx hb dL_setGround_4 rfl (lv_at hl 1 rfl) ?_
  refine lv_iload_n hx hb dL_setGround_5 rfl (lv_at hl 2 rfl) ?_
  refine lv_iload_n hx hb dL_setGround_6 rfl (lv_at hl 3 rfl) ?_
  have hPc := hP.sub (ws' := [(x0, .inr (8, [.ref t0, .ref u0, .ref k0])), (t0, .inr (6, [.ref th, .ref ts, .ref tg, .ref td, .int 0, .ref tr, .int (-1), .int 0, .int 0, .int 0, .long 0, .int 0, .int 0])), (tg, .inr (3, [.ref tc])), (tc, .inl (g.2.1 0, 64, .inl fc)), (k0, .inr (7, [.ref kr, .int 0])), (kr, .inl (g.2.1 1, 128, .inl fk))]) [0, 1, 2, 3, 4, 5] rfl
  have hDc := hD.sub (ws' := [(x0, .inr (8, [.ref t0, .ref u0, .ref k0])), (t0, .inr (6, [.ref th, .ref ts, .ref tg, .ref td, .int 0, .ref tr, .int (-1), .int 0, .int 0, .int 0, .long 0, .int 0, .int 0])), (tg, .inr (3, [.ref tc])), (tc, .inl (g.2.1 0, 64, .inl fc)), (k0, .inr (7, [.ref kr, .int 0])), (kr, .inl (g.2.1 1, 128, .inl fk))]) [0, 1, 2, 3, 4, 5] (by decide) rfl
  have hFc := va_free (wc := [(x0, .inr (8, [.ref t0, .ref u0, .ref k0])), (t0, .inr (6, [.ref th, .ref ts, .ref tg, .ref td, .int 0, .ref tr, .int (-1), .int 0, .int 0, .int 0, .long 0, .int 0, .int 0])), (tg, .inr (3, [.ref tc])), (tc, .inl (g.2.1 0, 64, .inl fc)), (k0, .inr (7, [.ref kr, .int 0])), (kr, .inl (g.2.1 1, 128, .inl fk))]) hD hS hA [0, 1, 2, 3, 4, 5] rfl
  refine q_xi (wr := [(o0, .inl (g.2.1 6, 1, .inr (.inl fo)))]) (vx_runV (As := [.int n1, .int n2, .int n3]) (rest := [.int 0, .ref o0]) ⟨hx, hb, hml, hown, htg⟩ (c_X7_setGround l hfl g x0 t0 th ts tg td tr u0 k0 tc fc kr fk n1 n2 n3 (hfc) H.size) ⟨(qB htg k979 k50 k976 ok_X7_setGround rfl rfl ⟨Nat.le_of_ble_eq_true rfl, Nat.le_of_ble_eq_true rfl⟩), htg _ k977, htg _ k978⟩ ⟨(q_pre [.ref x0, .int n1, .int n2, .int n3] hPc hDc hK hS hT hFc).1, va_recv hK hP (ci := 8) (q0 := 0) rfl rfl, (q_pre [.ref x0, .int n1, .int n2, .int n3] hPc hDc hK hS hT hFc).2⟩ rfl rfl hl.1 rfl (lv_room (Nat.le_of_ble_eq_true rfl)) dL_setGround_7 ⟨Nat.le_of_ble_eq_true rfl, Nat.le_of_ble_eq_true rfl⟩) hP hD hS hFc [0, 1, 2, 3, 4, 5] [6] rfl rfl (by decide) (by decide) (fun E9 ce9 q9 H locs hpx hP hD hS hq1 hq2 hq3 => ?_) (fun r9 u9 H locs hw hP hD hS => ?_)
  · rcases hpx with ⟨rfl, c_1⟩
    refine vx_catch hown [] ⟨0, 12, 15, 13⟩ [⟨0, 12, 19, 17⟩] ((vx_table (x := yL_setGround) B (hts _ List.mem_cons_self)).trans rfl) (fun z hz => nomatch hz) (by decide) (by decide) (htg _ k817) (va_Nw.use rfl hT.1.2.2.2.2.1.2.1) hq1 hq2 hq3 ?_
    refine W.widen (k := 1) (n := 6) (Nat.le_of_ble_eq_true rfl) (Nat.le_of_ble_eq_true rfl) ?_
    refine lv_astore (lv' := [(5, .ref q9), (0, .ref x0), (1, .int n1), (2, .int n2), (3, .int n3), (4, .ref o0)]) hx hb dL_setGround_15 hl (by decide) rfl (fun ls hl => ?_)
    refine lv_iconst (v := 1) hx hb dL_setGround_17 (by decide) ?_
    have hP9 := hP.sub (ws' := []) [] rfl
    have hD9 := hD.sub (ws' := []) [] (by decide) rfl
    refine W.widen (k := 1) (n := 6) (Nat.le_of_ble_eq_true rfl) (Nat.le_of_ble_eq_true rfl) ?_
    refine vx_ret ?_
    exact W.iret (v := 1) hx hb hr (fun t ht hW => ⟨⟨1, [], rfl, Or.inl ⟨c_1, rfl, rfl⟩, by rw [ht]; exact hP9, va_K.moved hW.alike hK, hD9⟩, hS.F ht⟩) hS.2.2 dL_setGround_18
  · try dsimp only at hw
    rcases hw with ⟨c_2, rfl, rfl⟩
    have hP : va_P g.1 CLS [(o0, .inl (g.2.1 6, 1, .inr (.inl fo)))] H := hP
    have hD : va_D A [(o0, .inl (g.2.1 6, 1, .inr (.inl fo)))] := hD
    refine W.widen (k := 1) (n := 6) (Nat.le_of_ble_eq_true rfl) (Nat.le_of_ble_eq_true rfl) ?_
    refine lv_i2l (v := 46) hx hb dL_setGround_10 (by decide) ?_
    refine va_last hx hb hK hP hD hS 0 6 rfl rfl (i := 0) (vp_in_iff.mpr (by decide)) dL_setGround_11 (fun H locs hP hD hS => ?_)
    have hP : va_P g.1 CLS [(o0, .inl (g.2.1 6, 1, .inr (.inl (vp_updL fo 0 46))))] H := hP
    have hD : va_D A [(o0, .inl (g.2.1 6, 1, .inr (.inl (vp_updL fo 0 46))))] := hD
    refine lv_goto (tgt := 23) hx hb dL_setGround_12 (by decide) ?_
    refine lv_iconst (v := 0) hx hb dL_setGround_23 (by decide) ?_
    have hP9 := hP.sub (ws' := [(o0, .inl (g.2.1 6, 1, .inr (.inl (vp_updL fo 0 46))))]) [0] rfl
    have hD9 := hD.sub (ws' := [(o0, .inl (g.2.1 6, 1, .inr (.inl (vp_updL fo 0 46))))]) [0] (by decide) rfl
    refine W.widen (k := 1) (n := 6) (Nat.le_of_ble_eq_true rfl) (Nat.le_of_ble_eq_true rfl) ?_
    refine vx_ret ?_
    exact W.iret (v := 0) hx hb hr (fun t ht hW => ⟨⟨0, [(o0, .inl (g.2.1 6, 1, .inr (.inl (vp_updL fo 0 46))))], rfl, Or.inr (⟨c_2, rfl, rfl⟩), by rw [ht]; exact hP9, va_K.moved hW.alike hK, hD9⟩, hS.F ht⟩) hS.2.2 dL_setGround_24

set_option maxHeartbeats 4000000 in
set_option maxRecDepth 100000 in
theorem c_w_setBase (l : Launch) (hfl : l.stackTraces = false) (g : GP) (x0 : Nat) (t0 : Nat) (th : Nat) (ts : Nat) (tg : Nat) (td : Nat) (tr : Nat) (u0 : Nat) (k0 : Nat) (n1 : Int32) (n2 : Int32) (n3 : Int32) (o0 : Nat) (fo : Nat → Int64)  : XI l yL_setBase (wH yL_setBase cL_setBase 6 (Option.some Jvm.ClassFile.FieldType.int) [((0 : Nat), (12 : Nat), (15 : Nat), (27 : Nat)), ((0 : Nat), (12 : Nat), (19 : Nat), (13 : Nat))]) (LV 8 1 6) g [.ref x0, .int n1, .int n2, .int n3, .ref o0] ([(x0, .inr (8, [.ref t0, .ref u0, .ref k0])), (t0, .inr (6, [.ref th, .ref ts, .ref tg, .ref td, .int 0, .ref tr, .int (-1), .int 0, .int 0, .int 0, .long 0, .int 0, .int 0])), (o0, .inl (g.2.1 6, 1, .inr (.inl fo)))]) (fun (r : Int32) (u : va_W) => r = 1 ∧ u = []) (fun E : String => False) := by
  intro sz
  refine vx_ofWH (cc := cL_setBase) (maxL := 6) (ret := (Option.some Jvm.ClassFile.FieldType.int)) (hh := [((0 : Nat), (12 : Nat), (15 : Nat), (27 : Nat)), ((0 : Nat), (12 : Nat), (19 : Nat), (13 : Nat))]) (by decide) rfl ?_
  intro p e s m args below meth c s₁ B hml hv
  obtain ⟨rfl, hsz, hP, hK, hD0, hT0⟩ := hv
  have hx := B.exec
  have hb := B.bytes
  have hr := B.returns
  have hts := atoms_spec (ws := (wH yL_setBase cL_setBase 6 (Option.some Jvm.ClassFile.FieldType.int) [((0 : Nat), (12 : Nat), (15 : Nat), (27 : Nat)), ((0 : Nat), (12 : Nat), (19 : Nat), (13 : Nat))])) B.pre
  have htg : ∀ w ∈ G9, w.before _ s = true := fun w h => hts w (List.mem_cons_of_mem _ h)
  have hown : s.vm.findClass "HeroTableLaw" = some m.cls := findClass_of_methodNamed B.named
  have hlocks := B.notSynchronized
  subst hsz
  have hD := hD0.self (sz := s.heap.size)
  have hT := hT0
  clear hT0
  generalize hAe : va_A [(x0, .inr (8, [.ref t0, .ref u0, .ref k0])), (t0, .inr (6, [.ref th, .ref ts, .ref tg, .ref td, .int 0, .ref tr, .int (-1), .int 0, .int 0, .int 0, .long 0, .int 0, .int 0])), (o0, .inl (g.2.1 6, 1, .inr (.inl fo)))] s.heap.size = A at hD hT ⊢
  have hA : ∀ q : Nat, s.heap.size ≤ q → A q := fun q h => by rw [← hAe]; exact Or.inr h
  obtain ⟨H, hH0⟩ : ∃ H, H = s.heap := ⟨_, rfl⟩
  have hS : va_S A s.heap H [] := by rw [hH0]; exact va_S.rf
  have hP : va_P g.1 CLS [(x0, .inr (8, [.ref t0, .ref u0, .ref k0])), (t0, .inr (6, [.ref th, .ref ts, .ref tg, .ref td, .int 0, .ref tr, .int (-1), .int 0, .int 0, .int 0, .long 0, .int 0, .int 0])), (o0, .inl (g.2.1 6, 1, .inr (.inl fo)))] H := by rw [hH0]; exact hP
  rw [← hH0]
  have hl := lv_entry ([.ref x0, .int n1, .int n2, .int n3, .ref o0]) (n := 6) (Nat.le_of_ble_eq_true rfl)
  rw [lg_entry_eq]
  generalize (lg_sl ([.ref x0, .int n1, .int n2, .int n3, .ref o0]) ++ List.replicate (6 - (lg_sl ([.ref x0, .int n1, .int n2, .int n3, .ref o0])).length) Slot.unset).toArray = ls at hl ⊢
  have hl : lv_has ls 6 [(0, .ref x0), (1, .int n1), (2, .int n2), (3, .int n3), (4, .ref o0)] := hl
  refine lv_aload hx hb dL_setBase_0 (lv_at hl 4 rfl) ?_
  refine lv_iconst (v := 0) hx hb dL_setBase_2 (by decide) ?_
  refine lv_aload_n hx hb dL_setBase_3 rfl (lv_at hl 0 rfl) ?_
  refine lv_iload_n hx hb dL_setBase_4 rfl (lv_at hl 1 rfl) ?_
  refine lv_iload_n hx hb dL_setBase_5 rfl (lv_at hl 2 rfl) ?_
  refine lv_iload_n hx hb dL_setBase_6 rfl (lv_at hl 3 rfl) ?_
  have hPc := hP.sub (ws' := [(x0, .inr (8, [.ref t0, .ref u0, .ref k0])), (t0, .inr (6, [.ref th, .ref ts, .ref tg, .ref td, .int 0, .ref tr, .int (-1), .int 0, .int 0, .int 0, .long 0, .int 0, .int 0]))]) [0, 1] rfl
  have hDc := hD.sub (ws' := [(x0, .inr (8, [.ref t0, .ref u0, .ref k0])), (t0, .inr (6, [.ref th, .ref ts, .ref tg, .ref td, .int 0, .ref tr, .int (-1), .int 0, .int 0, .int 0, .long 0, .int 0, .int 0]))]) [0, 1] (by decide) rfl
  have hFc := va_free (wc := [(x0, .inr (8, [.ref t0, .ref u0, .ref k0])), (t0, .inr (6, [.ref th, .ref ts, .ref tg, .ref td, .int 0, .ref tr, .int (-1), .int 0, .int 0, .int 0, .long 0, .int 0, .int 0]))]) hD hS hA [0, 1] rfl
  refine q_xi (wr := [(o0, .inl (g.2.1 6, 1, .inr (.inl fo)))]) (vx_runV (As := [.int n1, .int n2, .int n3]) (rest := [.int 0, .ref o0]) ⟨hx, hb, hml, hown, htg⟩ (c_X7_setBase l hfl g x0 t0 th ts tg td tr u0 k0 n1 n2 n3  H.size) ⟨(qB htg k1008 k50 k1005 ok_X7_setBase rfl rfl ⟨Nat.le_of_ble_eq_true rfl, Nat.le_of_ble_eq_true rfl⟩), htg _ k1006, htg _ k1007⟩ ⟨(q_pre [.ref x0, .int n1, .int n2, .int n3] hPc hDc hK hS hT hFc).1, va_recv hK hP (ci := 8) (q0 := 0) rfl rfl, (q_pre [.ref x0, .int n1, .int n2, .int n3] hPc hDc hK hS hT hFc).2⟩ rfl rfl hl.1 rfl (lv_room (Nat.le_of_ble_eq_true rfl)) dL_setBase_7 ⟨Nat.le_of_ble_eq_true rfl, Nat.le_of_ble_eq_true rfl⟩) hP hD hS hFc [0, 1] [2] rfl rfl (by decide) (by decide) (fun E9 ce9 q9 H locs hpx hP hD hS hq1 hq2 hq3 => ?_) (fun r9 u9 H locs hw hP hD hS => ?_)
  · rcases hpx with rfl
    refine vx_catch hown [] ⟨0, 12, 15, 27⟩ [⟨0, 12, 19, 13⟩] ((vx_table (x := yL_setBase) B (hts _ List.mem_cons_self)).trans rfl) (fun z hz => nomatch hz) (by decide) (by decide) (htg _ k984) (va_Nw.use rfl hT.1.2.2.2.2.1.1) hq1 hq2 hq3 ?_
    refine W.widen (k := 1) (n := 6) (Nat.le_of_ble_eq_true rfl) (Nat.le_of_ble_eq_true rfl) ?_
    refine lv_astore (lv' := [(5, .ref q9), (0, .ref x0), (1, .int n1), (2, .int n2), (3, .int n3), (4, .ref o0)]) hx hb dL_setBase_15 hl (by decide) rfl (fun ls hl => ?_)
    refine lv_iconst (v := 1) hx hb dL_setBase_17 (by decide) ?_
    have hP9 := hP.sub (ws' := []) [] rfl
    have hD9 := hD.sub (ws' := []) [] (by decide) rfl
    refine W.widen (k := 1) (n := 6) (Nat.le_of_ble_eq_true rfl) (Nat.le_of_ble_eq_true rfl) ?_
    refine vx_ret ?_
    exact W.iret (v := 1) hx hb hr (fun t ht hW => ⟨⟨1, [], rfl, ⟨rfl, rfl⟩, by rw [ht]; exact hP9, va_K.moved hW.alike hK, hD9⟩, hS.F ht⟩) hS.2.2 dL_setBase_18
  · exact hw.elim

set_option maxHeartbeats 4000000 in
set_option maxRecDepth 100000 in
theorem c_w_setSpare (l : Launch) (hfl : l.stackTraces = false) (g : GP) (x0 : Nat) (t0 : Nat) (th : Nat) (ts : Nat) (tg : Nat) (td : Nat) (tr : Nat) (u0 : Nat) (k0 : Nat) (n1 : Int32) (n2 : Int32) (o0 : Nat) (fo : Nat → Int64)  : XI l yL_setSpare (wH yL_setSpare cL_setSpare 5 (Option.some Jvm.ClassFile.FieldType.int) [((0 : Nat), (10 : Nat), (13 : Nat), (27 : Nat)), ((0 : Nat), (10 : Nat), (17 : Nat), (13 : Nat))]) (LV 8 1 6) g [.ref x0, .int n1, .int n2, .ref o0] ([(x0, .inr (8, [.ref t0, .ref u0, .ref k0])), (t0, .inr (6, [.ref th, .ref ts, .ref tg, .ref td, .int 0, .ref tr, .int (-1), .int 0, .int 0, .int 0, .long 0, .int 0, .int 0])), (o0, .inl (g.2.1 6, 1, .inr (.inl fo)))]) (fun (r : Int32) (u : va_W) => r = 1 ∧ u = []) (fun E : String => False) := by
  intro sz
  refine vx_ofWH (cc := cL_setSpare) (maxL := 5) (ret := (Option.some Jvm.ClassFile.FieldType.int)) (hh := [((0 : Nat), (10 : Nat), (13 : Nat), (27 : Nat)), ((0 : Nat), (10 : Nat), (17 : Nat), (13 : Nat))]) (by decide) rfl ?_
  intro p e s m args below meth c s₁ B hml hv
  obtain ⟨rfl, hsz, hP, hK, hD0, hT0⟩ := hv
  have hx := B.exec
  have hb := B.bytes
  have hr := B.returns
  have hts := atoms_spec (ws := (wH yL_setSpare cL_setSpare 5 (Option.some Jvm.ClassFile.FieldType.int) [((0 : Nat), (10 : Nat), (13 : Nat), (27 : Nat)), ((0 : Nat), (10 : Nat), (17 : Nat), (13 : Nat))])) B.pre
  have htg : ∀ w ∈ G9, w.before _ s = true := fun w h => hts w (List.mem_cons_of_mem _ h)
  have hown : s.vm.findClass "HeroTableLaw" = some m.cls := findClass_of_methodNamed B.named
  have hlocks := B.notSynchronized
  subst hsz
  have hD := hD0.self (sz := s.heap.size)
  have hT := hT0
  clear hT0
  generalize hAe : va_A [(x0, .inr (8, [.ref t0, .ref u0, .ref k0])), (t0, .inr (6, [.ref th, .ref ts, .ref tg, .ref td, .int 0, .ref tr, .int (-1), .int 0, .int 0, .int 0, .long 0, .int 0, .int 0])), (o0, .inl (g.2.1 6, 1, .inr (.inl fo)))] s.heap.size = A at hD hT ⊢
  have hA : ∀ q : Nat, s.heap.size ≤ q → A q := fun q h => by rw [← hAe]; exact Or.inr h
  obtain ⟨H, hH0⟩ : ∃ H, H = s.heap := ⟨_, rfl⟩
  have hS : va_S A s.heap H [] := by rw [hH0]; exact va_S.rf
  have hP : va_P g.1 CLS [(x0, .inr (8, [.ref t0, .ref u0, .ref k0])), (t0, .inr (6, [.ref th, .ref ts, .ref tg, .ref td, .int 0, .ref tr, .int (-1), .int 0, .int 0, .int 0, .long 0, .int 0, .int 0])), (o0, .inl (g.2.1 6, 1, .inr (.inl fo)))] H := by rw [hH0]; exact hP
  rw [← hH0]
  have hl := lv_entry ([.ref x0, .int n1, .int n2, .ref o0]) (n := 5) (Nat.le_of_ble_eq_true rfl)
  rw [lg_entry_eq]
  generalize (lg_sl ([.ref x0, .int n1, .int n2, .ref o0]) ++ List.replicate (5 - (lg_sl ([.ref x0, .int n1, .int n2, .ref o0])).length) Slot.unset).toArray = ls at hl ⊢
  have hl : lv_has ls 5 [(0, .ref x0), (1, .int n1), (2, .int n2), (3, .ref o0)] := hl
  refine lv_aload_n hx hb dL_setSpare_0 rfl (lv_at hl 3 rfl) ?_
  refine lv_iconst (v := 0) hx hb dL_setSpare_1 (by decide) ?_
  refine lv_aload_n hx hb dL_setSpare_2 rfl (lv_at hl 0 rfl) ?_
  refine lv_iload_n hx hb dL_setSpare_3 rfl (lv_at hl 1 rfl) ?_
  refine lv_iload_n hx hb dL_setSpare_4 rfl (lv_at hl 2 rfl) ?_
  have hPc := hP.sub (ws' := [(x0, .inr (8, [.ref t0, .ref u0, .ref k0])), (t0, .inr (6, [.ref th, .ref ts, .ref tg, .ref td, .int 0, .ref tr, .int (-1), .int 0, .int 0, .int 0, .long 0, .int 0, .int 0]))]) [0, 1] rfl
  have hDc := hD.sub (ws' := [(x0, .inr (8, [.ref t0, .ref u0, .ref k0])), (t0, .inr (6, [.ref th, .ref ts, .ref tg, .ref td, .int 0, .ref tr, .int (-1), .int 0, .int 0, .int 0, .long 0, .int 0, .int 0]))]) [0, 1] (by decide) rfl
  have hFc := va_free (wc := [(x0, .inr (8, [.ref t0, .ref u0, .ref k0])), (t0, .inr (6, [.ref th, .ref ts, .ref tg, .ref td, .int 0, .ref tr, .int (-1), .int 0, .int 0, .int 0, .long 0, .int 0, .int 0]))]) hD hS hA [0, 1] rfl
  refine q_xi (wr := [(o0, .inl (g.2.1 6, 1, .inr (.inl fo)))]) (vx_runV (As := [.int n1, .int n2]) (rest := [.int 0, .ref o0]) ⟨hx, hb, hml, hown, htg⟩ (c_X7_setSpare l hfl g x0 t0 th ts tg td tr u0 k0 n1 n2  H.size) ⟨(qB htg k1016 k50 k1013 ok_X7_setSpare rfl rfl ⟨Nat.le_of_ble_eq_true rfl, Nat.le_of_ble_eq_true rfl⟩), htg _ k1014, htg _ k1015⟩ ⟨(q_pre [.ref x0, .int n1, .int n2] hPc hDc hK hS hT hFc).1, va_recv hK hP (ci := 8) (q0 := 0) rfl rfl, (q_pre [.ref x0, .int n1, .int n2] hPc hDc hK hS hT hFc).2⟩ rfl rfl hl.1 rfl (lv_room (Nat.le_of_ble_eq_true rfl)) dL_setSpare_5 ⟨Nat.le_of_ble_eq_true rfl, Nat.le_of_ble_eq_true rfl⟩) hP hD hS hFc [0, 1] [2] rfl rfl (by decide) (by decide) (fun E9 ce9 q9 H locs hpx hP hD hS hq1 hq2 hq3 => ?_) (fun r9 u9 H locs hw hP hD hS => ?_)
  · rcases hpx with rfl
    refine vx_catch hown [] ⟨0, 10, 13, 27⟩ [⟨0, 10, 17, 13⟩] ((vx_table (x := yL_setSpare) B (hts _ List.mem_cons_self)).trans rfl) (fun z hz => nomatch hz) (by decide) (by decide) (htg _ k984) (va_Nw.use rfl hT.1.2.2.2.2.1.1) hq1 hq2 hq3 ?_
    refine W.widen (k := 1) (n := 6) (Nat.le_of_ble_eq_true rfl) (Nat.le_of_ble_eq_true rfl) ?_
    refine lv_astore (lv' := [(4, .ref q9), (0, .ref x0), (1, .int n1), (2, .int n2), (3, .ref o0)]) hx hb dL_setSpare_13 hl (by decide) rfl (fun ls hl => ?_)
    refine lv_iconst (v := 1) hx hb dL_setSpare_15 (by decide) ?_
    have hP9 := hP.sub (ws' := []) [] rfl
    have hD9 := hD.sub (ws' := []) [] (by decide) rfl
    refine W.widen (k := 1) (n := 6) (Nat.le_of_ble_eq_true rfl) (Nat.le_of_ble_eq_true rfl) ?_
    refine vx_ret ?_
    exact W.iret (v := 1) hx hb hr (fun t ht hW => ⟨⟨1, [], rfl, ⟨rfl, rfl⟩, by rw [ht]; exact hP9, va_K.moved hW.alike hK, hD9⟩, hS.F ht⟩) hS.2.2 dL_setSpare_16
  · exact hw.elim

set_option maxHeartbeats 4000000 in
set_option maxRecDepth 100000 in
theorem c_w_heal (l : Launch) (hfl : l.stackTraces = false) (g : GP) (x0 : Nat) (t0 : Nat) (th : Nat) (ts : Nat) (tg : Nat) (td : Nat) (tr : Nat) (u0 : Nat) (k0 : Nat) (n1 : Int32) (n2 : Int32) (o0 : Nat) (fo : Nat → Int64)  : XI l yL_heal (wH yL_heal cL_heal 5 (Option.some Jvm.ClassFile.FieldType.int) [((0 : Nat), (10 : Nat), (13 : Nat), (27 : Nat)), ((0 : Nat), (10 : Nat), (17 : Nat), (13 : Nat))]) (LV 8 1 6) g [.ref x0, .int n1, .int n2, .ref o0] ([(x0, .inr (8, [.ref t0, .ref u0, .ref k0])), (t0, .inr (6, [.ref th, .ref ts, .ref tg, .ref td, .int 0, .ref tr, .int (-1), .int 0, .int 0, .int 0, .long 0, .int 0, .int 0])), (o0, .inl (g.2.1 6, 1, .inr (.inl fo)))]) (fun (r : Int32) (u : va_W) => r = 1 ∧ u = []) (fun E : String => False) := by
  intro sz
  refine vx_ofWH (cc := cL_heal) (maxL := 5) (ret := (Option.some Jvm.ClassFile.FieldType.int)) (hh := [((0 : Nat), (10 : Nat), (13 : Nat), (27 : Nat)), ((0 : Nat), (10 : Nat), (17 : Nat), (13 : Nat))]) (by decide) rfl ?_
  intro p e s m args below meth c s₁ B hml hv
  obtain ⟨rfl, hsz, hP, hK, hD0, hT0⟩ := hv
  have hx := B.exec
  have hb := B.bytes
  have hr := B.returns
  have hts := atoms_spec (ws := (wH yL_heal cL_heal 5 (Option.some Jvm.ClassFile.FieldType.int) [((0 : Nat), (10 : Nat), (13 : Nat), (27 : Nat)), ((0 : Nat), (10 : Nat), (17 : Nat), (13 : Nat))])) B.pre
  have htg : ∀ w ∈ G9, w.before _ s = true := fun w h => hts w (List.mem_cons_of_mem _ h)
  have hown : s.vm.findClass "HeroTableLaw" = some m.cls := findClass_of_methodNamed B.named
  have hlocks := B.notSynchronized
  subst hsz
  have hD := hD0.self (sz := s.heap.size)
  have hT := hT0
  clear hT0
  generalize hAe : va_A [(x0, .inr (8, [.ref t0, .ref u0, .ref k0])), (t0, .inr (6, [.ref th, .ref ts, .ref tg, .ref td, .int 0, .ref tr, .int (-1), .int 0, .int 0, .int 0, .long 0, .int 0, .int 0])), (o0, .inl (g.2.1 6, 1, .inr (.inl fo)))] s.heap.size = A at hD hT ⊢
  have hA : ∀ q : Nat, s.heap.size ≤ q → A q := fun q h => by rw [← hAe]; exact Or.inr h
  obtain ⟨H, hH0⟩ : ∃ H, H = s.heap := ⟨_, rfl⟩
  have hS : va_S A s.heap H [] := by rw [hH0]; exact va_S.rf
  have hP : va_P g.1 CLS [(x0, .inr (8, [.ref t0, .ref u0, .ref k0])), (t0, .inr (6, [.ref th, .ref ts, .ref tg, .ref td, .int 0, .ref tr, .int (-1), .int 0, .int 0, .int 0, .long 0, .int 0, .int 0])), (o0, .inl (g.2.1 6, 1, .inr (.inl fo)))] H := by rw [hH0]; exact hP
  rw [← hH0]
  have hl := lv_entry ([.ref x0, .int n1, .int n2, .ref o0]) (n := 5) (Nat.le_of_ble_eq_true rfl)
  rw [lg_entry_eq]
  generalize (lg_sl ([.ref x0, .int n1, .int n2, .ref o0]) ++ List.replicate (5 - (lg_sl ([.ref x0, .int n1, .int n2, .ref o0])).length) Slot.unset).toArray = ls at hl ⊢
  have hl : lv_has ls 5 [(0, .ref x0), (1, .int n1), (2, .int n2), (3, .ref o0)] := hl
  refine lv_aload_n hx hb dL_heal_0 rfl (lv_at hl 3 rfl) ?_
  refine lv_iconst (v := 0) hx hb dL_heal_1 (by decide) ?_
  refine lv_aload_n hx hb dL_heal_2 rfl (lv_at hl 0 rfl) ?_
  refine lv_iload_n hx hb dL_heal_3 rfl (lv_at hl 1 rfl) ?_
  refine lv_iload_n hx hb dL_heal_4 rfl (lv_at hl 2 rfl) ?_
  have hPc := hP.sub (ws' := [(x0, .inr (8, [.ref t0, .ref u0, .ref k0])), (t0, .inr (6, [.ref th, .ref ts, .ref tg, .ref td, .int 0, .ref tr, .int (-1), .int 0, .int 0, .int 0, .long 0, .int 0, .int 0]))]) [0, 1] rfl
  have hDc := hD.sub (ws' := [(x0, .inr (8, [.ref t0, .ref u0, .ref k0])), (t0, .inr (6, [.ref th, .ref ts, .ref tg, .ref td, .int 0, .ref tr, .int (-1), .int 0, .int 0, .int 0, .long 0, .int 0, .int 0]))]) [0, 1] (by decide) rfl
  have hFc := va_free (wc := [(x0, .inr (8, [.ref t0, .ref u0, .ref k0])), (t0, .inr (6, [.ref th, .ref ts, .ref tg, .ref td, .int 0, .ref tr, .int (-1), .int 0, .int 0, .int 0, .long 0, .int 0, .int 0]))]) hD hS hA [0, 1] rfl
  refine q_xi (wr := [(o0, .inl (g.2.1 6, 1, .inr (.inl fo)))]) (vx_runV (As := [.int n1, .int n2]) (rest := [.int 0, .ref o0]) ⟨hx, hb, hml, hown, htg⟩ (c_X7_heal l hfl g x0 t0 th ts tg td tr u0 k0 n1 n2  H.size) ⟨(qB htg k1024 k50 k1021 ok_X7_heal rfl rfl ⟨Nat.le_of_ble_eq_true rfl, Nat.le_of_ble_eq_true rfl⟩), htg _ k1022, htg _ k1023⟩ ⟨(q_pre [.ref x0, .int n1, .int n2] hPc hDc hK hS hT hFc).1, va_recv hK hP (ci := 8) (q0 := 0) rfl rfl, (q_pre [.ref x0, .int n1, .int n2] hPc hDc hK hS hT hFc).2⟩ rfl rfl hl.1 rfl (lv_room (Nat.le_of_ble_eq_true rfl)) dL_heal_5 ⟨Nat.le_of_ble_eq_true rfl, Nat.le_of_ble_eq_true rfl⟩) hP hD hS hFc [0, 1] [2] rfl rfl (by decide) (by decide) (fun E9 ce9 q9 H locs hpx hP hD hS hq1 hq2 hq3 => ?_) (fun r9 u9 H locs hw hP hD hS => ?_)
  · rcases hpx with rfl
    refine vx_catch hown [] ⟨0, 10, 13, 27⟩ [⟨0, 10, 17, 13⟩] ((vx_table (x := yL_heal) B (hts _ List.mem_cons_self)).trans rfl) (fun z hz => nomatch hz) (by decide) (by decide) (htg _ k984) (va_Nw.use rfl hT.1.2.2.2.2.1.1) hq1 hq2 hq3 ?_
    refine W.widen (k := 1) (n := 6) (Nat.le_of_ble_eq_true rfl) (Nat.le_of_ble_eq_true rfl) ?_
    refine lv_astore (lv' := [(4, .ref q9), (0, .ref x0), (1, .int n1), (2, .int n2), (3, .ref o0)]) hx hb dL_heal_13 hl (by decide) rfl (fun ls hl => ?_)
    refine lv_iconst (v := 1) hx hb dL_heal_15 (by decide) ?_
    have hP9 := hP.sub (ws' := []) [] rfl
    have hD9 := hD.sub (ws' := []) [] (by decide) rfl
    refine W.widen (k := 1) (n := 6) (Nat.le_of_ble_eq_true rfl) (Nat.le_of_ble_eq_true rfl) ?_
    refine vx_ret ?_
    exact W.iret (v := 1) hx hb hr (fun t ht hW => ⟨⟨1, [], rfl, ⟨rfl, rfl⟩, by rw [ht]; exact hP9, va_K.moved hW.alike hK, hD9⟩, hS.F ht⟩) hS.2.2 dL_heal_16
  · exact hw.elim

set_option maxHeartbeats 4000000 in
set_option maxRecDepth 100000 in
theorem c_w_lifeOf (l : Launch) (hfl : l.stackTraces = false) (g : GP) (x0 : Nat) (t0 : Nat) (th : Nat) (ts : Nat) (tg : Nat) (td : Nat) (tr : Nat) (u0 : Nat) (k0 : Nat) (n1 : Int32) (o0 : Nat) (fo : Nat → Int64)  : XI l yL_lifeOf (wH yL_lifeOf cL_lifeOf 4 (Option.some Jvm.ClassFile.FieldType.int) [((0 : Nat), (9 : Nat), (12 : Nat), (27 : Nat))]) (LV 8 1 6) g [.ref x0, .int n1, .ref o0] ([(x0, .inr (8, [.ref t0, .ref u0, .ref k0])), (t0, .inr (6, [.ref th, .ref ts, .ref tg, .ref td, .int 0, .ref tr, .int (-1), .int 0, .int 0, .int 0, .long 0, .int 0, .int 0])), (o0, .inl (g.2.1 6, 1, .inr (.inl fo)))]) (fun (r : Int32) (u : va_W) => r = 1 ∧ u = []) (fun E : String => False) := by
  intro sz
  refine vx_ofWH (cc := cL_lifeOf) (maxL := 4) (ret := (Option.some Jvm.ClassFile.FieldType.int)) (hh := [((0 : Nat), (9 : Nat), (12 : Nat), (27 : Nat))]) (by decide) rfl ?_
  intro p e s m args below meth c s₁ B hml hv
  obtain ⟨rfl, hsz, hP, hK, hD0, hT0⟩ := hv
  have hx := B.exec
  have hb := B.bytes
  have hr := B.returns
  have hts := atoms_spec (ws := (wH yL_lifeOf cL_lifeOf 4 (Option.some Jvm.ClassFile.FieldType.int) [((0 : Nat), (9 : Nat), (12 : Nat), (27 : Nat))])) B.pre
  have htg : ∀ w ∈ G9, w.before _ s = true := fun w h => hts w (List.mem_cons_of_mem _ h)
  have hown : s.vm.findClass "HeroTableLaw" = some m.cls := findClass_of_methodNamed B.named
  have hlocks := B.notSynchronized
  subst hsz
  have hD := hD0.self (sz := s.heap.size)
  have hT := hT0
  clear hT0
  generalize hAe : va_A [(x0, .inr (8, [.ref t0, .ref u0, .ref k0])), (t0, .inr (6, [.ref th, .ref ts, .ref tg, .ref td, .int 0, .ref tr, .int (-1), .int 0, .int 0, .int 0, .long 0, .int 0, .int 0])), (o0, .inl (g.2.1 6, 1, .inr (.inl fo)))] s.heap.size = A at hD hT ⊢
  have hA : ∀ q : Nat, s.heap.size ≤ q → A q := fun q h => by rw [← hAe]; exact Or.inr h
  obtain ⟨H, hH0⟩ : ∃ H, H = s.heap := ⟨_, rfl⟩
  have hS : va_S A s.heap H [] := by rw [hH0]; exact va_S.rf
  have hP : va_P g.1 CLS [(x0, .inr (8, [.ref t0, .ref u0, .ref k0])), (t0, .inr (6, [.ref th, .ref ts, .ref tg, .ref td, .int 0, .ref tr, .int (-1), .int 0, .int 0, .int 0, .long 0, .int 0, .int 0])), (o0, .inl (g.2.1 6, 1, .inr (.inl fo)))] H := by rw [hH0]; exact hP
  rw [← hH0]
  have hl := lv_entry ([.ref x0, .int n1, .ref o0]) (n := 4) (Nat.le_of_ble_eq_true rfl)
  rw [lg_entry_eq]
  generalize (lg_sl ([.ref x0, .int n1, .ref o0]) ++ List.replicate (4 - (lg_sl ([.ref x0, .int n1, .ref o0])).length) Slot.unset).toArray = ls at hl ⊢
  have hl : lv_has ls 4 [(0, .ref x0), (1, .int n1), (2, .ref o0)] := hl
  refine lv_aload_n hx hb dL_lifeOf_0 rfl (lv_at hl 2 rfl) ?_
  refine lv_iconst (v := 0) hx hb dL_lifeOf_1 (by decide) ?_
  refine lv_aload_n hx hb dL_lifeOf_2 rfl (lv_at hl 0 rfl) ?_
  refine lv_iload_n hx hb dL_lifeOf_3 rfl (lv_at hl 1 rfl) ?_
  have hPc := hP.sub (ws' := [(x0, .inr (8, [.ref t0, .ref u0, .ref k0])), (t0, .inr (6, [.ref th, .ref ts, .ref tg, .ref td, .int 0, .ref tr, .int (-1), .int 0, .int 0, .int 0, .long 0, .int 0, .int 0]))]) [0, 1] rfl
  have hDc := hD.sub (ws' := [(x0, .inr (8, [.ref t0, .ref u0, .ref k0])), (t0, .inr (6, [.ref th, .ref ts, .ref tg, .ref td, .int 0, .ref tr, .int (-1), .int 0, .int 0, .int 0, .long 0, .int 0, .int 0]))]) [0, 1] (by decide) rfl
  have hFc := va_free (wc := [(x0, .inr (8, [.ref t0, .ref u0, .ref k0])), (t0, .inr (6, [.ref th, .ref ts, .ref tg, .ref td, .int 0, .ref tr, .int (-1), .int 0, .int 0, .int 0, .long 0, .int 0, .int 0]))]) hD hS hA [0, 1] rfl
  refine q_xi (wr := [(o0, .inl (g.2.1 6, 1, .inr (.inl fo)))]) (vx_runV (As := [.int n1]) (rest := [.int 0, .ref o0]) ⟨hx, hb, hml, hown, htg⟩ (c_X7_lifeOf l hfl g x0 t0 th ts tg td tr u0 k0 n1  H.size) ⟨(qB htg k1032 k50 k1029 ok_X7_lifeOf rfl rfl ⟨Nat.le_of_ble_eq_true rfl, Nat.le_of_ble_eq_true rfl⟩), htg _ k1030, htg _ k1031⟩ ⟨(q_pre [.ref x0, .int n1] hPc hDc hK hS hT hFc).1, va_recv hK hP (ci := 8) (q0 := 0) rfl rfl, (q_pre [.ref x0, .int n1] hPc hDc hK hS hT hFc).2⟩ rfl rfl hl.1 rfl (lv_room (Nat.le_of_ble_eq_true rfl)) dL_lifeOf_4 ⟨Nat.le_of_ble_eq_true rfl, Nat.le_of_ble_eq_true rfl⟩) hP hD hS hFc [0, 1] [2] rfl rfl (by decide) (by decide) (fun E9 ce9 q9 H locs hpx hP hD hS hq1 hq2 hq3 => ?_) (fun r9 u9 H locs hw hP hD hS => ?_)
  · rcases hpx with rfl
    refine vx_catch hown [] ⟨0, 9, 12, 27⟩ [] ((vx_table (x := yL_lifeOf) B (hts _ List.mem_cons_self)).trans rfl) (fun z hz => nomatch hz) (by decide) (by decide) (htg _ k984) (va_Nw.use rfl hT.1.2.2.2.2.1.1) hq1 hq2 hq3 ?_
    refine W.widen (k := 1) (n := 6) (Nat.le_of_ble_eq_true rfl) (Nat.le_of_ble_eq_true rfl) ?_
    refine lv_astore_n (lv' := [(3, .ref q9), (0, .ref x0), (1, .int n1), (2, .ref o0)]) hx hb dL_lifeOf_12 rfl hl (by decide) rfl (fun ls hl => ?_)
    refine lv_iconst (v := 1) hx hb dL_lifeOf_13 (by decide) ?_
    have hP9 := hP.sub (ws' := []) [] rfl
    have hD9 := hD.sub (ws' := []) [] (by decide) rfl
    refine W.widen (k := 1) (n := 6) (Nat.le_of_ble_eq_true rfl) (Nat.le_of_ble_eq_true rfl) ?_
    refine vx_ret ?_
    exact W.iret (v := 1) hx hb hr (fun t ht hW => ⟨⟨1, [], rfl, ⟨rfl, rfl⟩, by rw [ht]; exact hP9, va_K.moved hW.alike hK, hD9⟩, hS.F ht⟩) hS.2.2 dL_lifeOf_14
  · exact hw.elim

set_option maxHeartbeats 4000000 in
set_option maxRecDepth 100000 in
theorem c_w_spareOf (l : Launch) (hfl : l.stackTraces = false) (g : GP) (x0 : Nat) (t0 : Nat) (th : Nat) (ts : Nat) (tg : Nat) (td : Nat) (tr : Nat) (u0 : Nat) (k0 : Nat) (n1 : Int32) (o0 : Nat) (fo : Nat → Int64)  : XI l yL_spareOf (wH yL_spareOf cL_spareOf 4 (Option.some Jvm.ClassFile.FieldType.int) [((0 : Nat), (9 : Nat), (12 : Nat), (27 : Nat))]) (LV 8 1 6) g [.ref x0, .int n1, .ref o0] ([(x0, .inr (8, [.ref t0, .ref u0, .ref k0])), (t0, .inr (6, [.ref th, .ref ts, .ref tg, .ref td, .int 0, .ref tr, .int (-1), .int 0, .int 0, .int 0, .long 0, .int 0, .int 0])), (o0, .inl (g.2.1 6, 1, .inr (.inl fo)))]) (fun (r : Int32) (u : va_W) => r = 1 ∧ u = []) (fun E : String => False) := by
  intro sz
  refine vx_ofWH (cc := cL_spareOf) (maxL := 4) (ret := (Option.some Jvm.ClassFile.FieldType.int)) (hh := [((0 : Nat), (9 : Nat), (12 : Nat), (27 : Nat))]) (by decide) rfl ?_
  intro p e s m args below meth c s₁ B hml hv
  obtain ⟨rfl, hsz, hP, hK, hD0, hT0⟩ := hv
  have hx := B.exec
  have hb := B.bytes
  have hr := B.returns
  have hts := atoms_spec (ws := (wH yL_spareOf cL_spareOf 4 (Option.some Jvm.ClassFile.FieldType.int) [((0 : Nat), (9 : Nat), (12 : Nat), (27 : Nat))])) B.pre
  have htg : ∀ w ∈ G9, w.before _ s = true := fun w h => hts w (List.mem_cons_of_mem _ h)
  have hown : s.vm.findClass "HeroTableLaw" = some m.cls := findClass_of_methodNamed B.named
  have hlocks := B.notSynchronized
  subst hsz
  have hD := hD0.self (sz := s.heap.size)
  have hT := hT0
  clear hT0
  generalize hAe : va_A [(x0, .inr (8, [.ref t0, .ref u0, .ref k0])), (t0, .inr (6, [.ref th, .ref ts, .ref tg, .ref td, .int 0, .ref tr, .int (-1), .int 0, .int 0, .int 0, .long 0, .int 0, .int 0])), (o0, .inl (g.2.1 6, 1, .inr (.inl fo)))] s.heap.size = A at hD hT ⊢
  have hA : ∀ q : Nat, s.heap.size ≤ q → A q := fun q h => by rw [← hAe]; exact Or.inr h
  obtain ⟨H, hH0⟩ : ∃ H, H = s.heap := ⟨_, rfl⟩
  have hS : va_S A s.heap H [] := by rw [hH0]; exact va_S.rf
  have hP : va_P g.1 CLS [(x0, .inr (8, [.ref t0, .ref u0, .ref k0])), (t0, .inr (6, [.ref th, .ref ts, .ref tg, .ref td, .int 0, .ref tr, .int (-1), .int 0, .int 0, .int 0, .long 0, .int 0, .int 0])), (o0, .inl (g.2.1 6, 1, .inr (.inl fo)))] H := by rw [hH0]; exact hP
  rw [← hH0]
  have hl := lv_entry ([.ref x0, .int n1, .ref o0]) (n := 4) (Nat.le_of_ble_eq_true rfl)
  rw [lg_entry_eq]
  generalize (lg_sl ([.ref x0, .int n1, .ref o0]) ++ List.replicate (4 - (lg_sl ([.ref x0, .int n1, .ref o0])).length) Slot.unset).toArray = ls at hl ⊢
  have hl : lv_has ls 4 [(0, .ref x0), (1, .int n1), (2, .ref o0)] := hl
  refine lv_aload_n hx hb dL_spareOf_0 rfl (lv_at hl 2 rfl) ?_
  refine lv_iconst (v := 0) hx hb dL_spareOf_1 (by decide) ?_
  refine lv_aload_n hx hb dL_spareOf_2 rfl (lv_at hl 0 rfl) ?_
  refine lv_iload_n hx hb dL_spareOf_3 rfl (lv_at hl 1 rfl) ?_
  have hPc := hP.sub (ws' := [(x0, .inr (8, [.ref t0, .ref u0, .ref k0])), (t0, .inr (6, [.ref th, .ref ts, .ref tg, .ref td, .int 0, .ref tr, .int (-1), .int 0, .int 0, .int 0, .long 0, .int 0, .int 0]))]) [0, 1] rfl
  have hDc := hD.sub (ws' := [(x0, .inr (8, [.ref t0, .ref u0, .ref k0])), (t0, .inr (6, [.ref th, .ref ts, .ref tg, .ref td, .int 0, .ref tr, .int (-1), .int 0, .int 0, .int 0, .long 0, .int 0, .int 0]))]) [0, 1] (by decide) rfl
  have hFc := va_free (wc := [(x0, .inr (8, [.ref t0, .ref u0, .ref k0])), (t0, .inr (6, [.ref th, .ref ts, .ref tg, .ref td, .int 0, .ref tr, .int (-1), .int 0, .int 0, .int 0, .long 0, .int 0, .int 0]))]) hD hS hA [0, 1] rfl
  refine q_xi (wr := [(o0, .inl (g.2.1 6, 1, .inr (.inl fo)))]) (vx_runV (As := [.int n1]) (rest := [.int 0, .ref o0]) ⟨hx, hb, hml, hown, htg⟩ (c_X7_spareOf l hfl g x0 t0 th ts tg td tr u0 k0 n1  H.size) ⟨(qB htg k1045 k50 k1042 ok_X7_spareOf rfl rfl ⟨Nat.le_of_ble_eq_true rfl, Nat.le_of_ble_eq_true rfl⟩), htg _ k1043, htg _ k1044⟩ ⟨(q_pre [.ref x0, .int n1] hPc hDc hK hS hT hFc).1, va_recv hK hP (ci := 8) (q0 := 0) rfl rfl, (q_pre [.ref x0, .int n1] hPc hDc hK hS hT hFc).2⟩ rfl rfl hl.1 rfl (lv_room (Nat.le_of_ble_eq_true rfl)) dL_spareOf_4 ⟨Nat.le_of_ble_eq_true rfl, Nat.le_of_ble_eq_true rfl⟩) hP hD hS hFc [0, 1] [2] rfl rfl (by decide) (by decide) (fun E9 ce9 q9 H locs hpx hP hD hS hq1 hq2 hq3 => ?_) (fun r9 u9 H locs hw hP hD hS => ?_)
  · rcases hpx with rfl
    refine vx_catch hown [] ⟨0, 9, 12, 27⟩ [] ((vx_table (x := yL_spareOf) B (hts _ List.mem_cons_self)).trans rfl) (fun z hz => nomatch hz) (by decide) (by decide) (htg _ k984) (va_Nw.use rfl hT.1.2.2.2.2.1.1) hq1 hq2 hq3 ?_
    refine W.widen (k := 1) (n := 6) (Nat.le_of_ble_eq_true rfl) (Nat.le_of_ble_eq_true rfl) ?_
    refine lv_astore_n (lv' := [(3, .ref q9), (0, .ref x0), (1, .int n1), (2, .ref o0)]) hx hb dL_spareOf_12 rfl hl (by decide) rfl (fun ls hl => ?_)
    refine lv_iconst (v := 1) hx hb dL_spareOf_13 (by decide) ?_
    have hP9 := hP.sub (ws' := []) [] rfl
    have hD9 := hD.sub (ws' := []) [] (by decide) rfl
    refine W.widen (k := 1) (n := 6) (Nat.le_of_ble_eq_true rfl) (Nat.le_of_ble_eq_true rfl) ?_
    refine vx_ret ?_
    exact W.iret (v := 1) hx hb hr (fun t ht hW => ⟨⟨1, [], rfl, ⟨rfl, rfl⟩, by rw [ht]; exact hP9, va_K.moved hW.alike hK, hD9⟩, hS.F ht⟩) hS.2.2 dL_spareOf_14
  · exact hw.elim

set_option maxHeartbeats 4000000 in
set_option maxRecDepth 100000 in
theorem c_w_cellOf (l : Launch) (hfl : l.stackTraces = false) (g : GP) (x0 : Nat) (t0 : Nat) (th : Nat) (ts : Nat) (tg : Nat) (td : Nat) (tr : Nat) (u0 : Nat) (k0 : Nat) (n1 : Int32) (o0 : Nat) (fo : Nat → Int64)  : XI l yL_cellOf (wH yL_cellOf cL_cellOf 4 (Option.some Jvm.ClassFile.FieldType.int) [((0 : Nat), (9 : Nat), (12 : Nat), (27 : Nat))]) (LV 8 1 6) g [.ref x0, .int n1, .ref o0] ([(x0, .inr (8, [.ref t0, .ref u0, .ref k0])), (t0, .inr (6, [.ref th, .ref ts, .ref tg, .ref td, .int 0, .ref tr, .int (-1), .int 0, .int 0, .int 0, .long 0, .int 0, .int 0])), (o0, .inl (g.2.1 6, 1, .inr (.inl fo)))]) (fun (r : Int32) (u : va_W) => r = 1 ∧ u = []) (fun E : String => False) := by
  intro sz
  refine vx_ofWH (cc := cL_cellOf) (maxL := 4) (ret := (Option.some Jvm.ClassFile.FieldType.int)) (hh := [((0 : Nat), (9 : Nat), (12 : Nat), (27 : Nat))]) (by decide) rfl ?_
  intro p e s m args below meth c s₁ B hml hv
  obtain ⟨rfl, hsz, hP, hK, hD0, hT0⟩ := hv
  have hx := B.exec
  have hb := B.bytes
  have hr := B.returns
  have hts := atoms_spec (ws := (wH yL_cellOf cL_cellOf 4 (Option.some Jvm.ClassFile.FieldType.int) [((0 : Nat), (9 : Nat), (12 : Nat), (27 : Nat))])) B.pre
  have htg : ∀ w ∈ G9, w.before _ s = true := fun w h => hts w (List.mem_cons_of_mem _ h)
  have hown : s.vm.findClass "HeroTableLaw" = some m.cls := findClass_of_methodNamed B.named
  have hlocks := B.notSynchronized
  subst hsz
  have hD := hD0.self (sz := s.heap.size)
  have hT := hT0
  clear hT0
  generalize hAe : va_A [(x0, .inr (8, [.ref t0, .ref u0, .ref k0])), (t0, .inr (6, [.ref th, .ref ts, .ref tg, .ref td, .int 0, .ref tr, .int (-1), .int 0, .int 0, .int 0, .long 0, .int 0, .int 0])), (o0, .inl (g.2.1 6, 1, .inr (.inl fo)))] s.heap.size = A at hD hT ⊢
  have hA : ∀ q : Nat, s.heap.size ≤ q → A q := fun q h => by rw [← hAe]; exact Or.inr h
  obtain ⟨H, hH0⟩ : ∃ H, H = s.heap := ⟨_, rfl⟩
  have hS : va_S A s.heap H [] := by rw [hH0]; exact va_S.rf
  have hP : va_P g.1 CLS [(x0, .inr (8, [.ref t0, .ref u0, .ref k0])), (t0, .inr (6, [.ref th, .ref ts, .ref tg, .ref td, .int 0, .ref tr, .int (-1), .int 0, .int 0, .int 0, .long 0, .int 0, .int 0])), (o0, .inl (g.2.1 6, 1, .inr (.inl fo)))] H := by rw [hH0]; exact hP
  rw [← hH0]
  have hl := lv_entry ([.ref x0, .int n1, .ref o0]) (n := 4) (Nat.le_of_ble_eq_true rfl)
  rw [lg_entry_eq]
  generalize (lg_sl ([.ref x0, .int n1, .ref o0]) ++ List.replicate (4 - (lg_sl ([.ref x0, .int n1, .ref o0])).length) Slot.unset).toArray = ls at hl ⊢
  have hl : lv_has ls 4 [(0, .ref x0), (1, .int n1), (2, .ref o0)] := hl
  refine lv_aload_n hx hb dL_cellOf_0 rfl (lv_at hl 2 rfl) ?_
  refine lv_iconst (v := 0) hx hb dL_cellOf_1 (by decide) ?_
  refine lv_aload_n hx hb dL_cellOf_2 rfl (lv_at hl 0 rfl) ?_
  refine lv_iload_n hx hb dL_cellOf_3 rfl (lv_at hl 1 rfl) ?_
  have hPc := hP.sub (ws' := [(x0, .inr (8, [.ref t0, .ref u0, .ref k0])), (t0, .inr (6, [.ref th, .ref ts, .ref tg, .ref td, .int 0, .ref tr, .int (-1), .int 0, .int 0, .int 0, .long 0, .int 0, .int 0]))]) [0, 1] rfl
  have hDc := hD.sub (ws' := [(x0, .inr (8, [.ref t0, .ref u0, .ref k0])), (t0, .inr (6, [.ref th, .ref ts, .ref tg, .ref td, .int 0, .ref tr, .int (-1), .int 0, .int 0, .int 0, .long 0, .int 0, .int 0]))]) [0, 1] (by decide) rfl
  have hFc := va_free (wc := [(x0, .inr (8, [.ref t0, .ref u0, .ref k0])), (t0, .inr (6, [.ref th, .ref ts, .ref tg, .ref td, .int 0, .ref tr, .int (-1), .int 0, .int 0, .int 0, .long 0, .int 0, .int 0]))]) hD hS hA [0, 1] rfl
  refine q_xi (wr := [(o0, .inl (g.2.1 6, 1, .inr (.inl fo)))]) (vx_runV (As := [.int n1]) (rest := [.int 0, .ref o0]) ⟨hx, hb, hml, hown, htg⟩ (c_X7_cellOf l hfl g x0 t0 th ts tg td tr u0 k0 n1  H.size) ⟨(qB htg k1052 k50 k1049 ok_X7_cellOf rfl rfl ⟨Nat.le_of_ble_eq_true rfl, Nat.le_of_ble_eq_true rfl⟩), htg _ k1050, htg _ k1051⟩ ⟨(q_pre [.ref x0, .int n1] hPc hDc hK hS hT hFc).1, va_recv hK hP (ci := 8) (q0 := 0) rfl rfl, (q_pre [.ref x0, .int n1] hPc hDc hK hS hT hFc).2⟩ rfl rfl hl.1 rfl (lv_room (Nat.le_of_ble_eq_true rfl)) dL_cellOf_4 ⟨Nat.le_of_ble_eq_true rfl, Nat.le_of_ble_eq_true rfl⟩) hP hD hS hFc [0, 1] [2] rfl rfl (by decide) (by decide) (fun E9 ce9 q9 H locs hpx hP hD hS hq1 hq2 hq3 => ?_) (fun r9 u9 H locs hw hP hD hS => ?_)
  · rcases hpx with rfl
    refine vx_catch hown [] ⟨0, 9, 12, 27⟩ [] ((vx_table (x := yL_cellOf) B (hts _ List.mem_cons_self)).trans rfl) (fun z hz => nomatch hz) (by decide) (by decide) (htg _ k984) (va_Nw.use rfl hT.1.2.2.2.2.1.1) hq1 hq2 hq3 ?_
    refine W.widen (k := 1) (n := 6) (Nat.le_of_ble_eq_true rfl) (Nat.le_of_ble_eq_true rfl) ?_
    refine lv_astore_n (lv' := [(3, .ref q9), (0, .ref x0), (1, .int n1), (2, .ref o0)]) hx hb dL_cellOf_12 rfl hl (by decide) rfl (fun ls hl => ?_)
    refine lv_iconst (v := 1) hx hb dL_cellOf_13 (by decide) ?_
    have hP9 := hP.sub (ws' := []) [] rfl
    have hD9 := hD.sub (ws' := []) [] (by decide) rfl
    refine W.widen (k := 1) (n := 6) (Nat.le_of_ble_eq_true rfl) (Nat.le_of_ble_eq_true rfl) ?_
    refine vx_ret ?_
    exact W.iret (v := 1) hx hb hr (fun t ht hW => ⟨⟨1, [], rfl, ⟨rfl, rfl⟩, by rw [ht]; exact hP9, va_K.moved hW.alike hK, hD9⟩, hS.F ht⟩) hS.2.2 dL_cellOf_14
  · exact hw.elim

set_option maxHeartbeats 4000000 in
set_option maxRecDepth 100000 in
theorem c_w_sees (l : Launch) (hfl : l.stackTraces = false) (g : GP) (x0 : Nat) (t0 : Nat) (th : Nat) (ts : Nat) (tg : Nat) (td : Nat) (tr : Nat) (u0 : Nat) (k0 : Nat) (n1 : Int32) (n2 : Int32) (n3 : Int32) (o0 : Nat) (fo : Nat → Int64)  : XI l yL_sees (wH yL_sees cL_sees 6 (Option.some Jvm.ClassFile.FieldType.int) [((0 : Nat), (19 : Nat), (22 : Nat), (27 : Nat)), ((0 : Nat), (19 : Nat), (26 : Nat), (13 : Nat))]) (LV 8 1 6) g [.ref x0, .int n1, .int n2, .int n3, .ref o0] ([(x0, .inr (8, [.ref t0, .ref u0, .ref k0])), (t0, .inr (6, [.ref th, .ref ts, .ref tg, .ref td, .int 0, .ref tr, .int (-1), .int 0, .int 0, .int 0, .long 0, .int 0, .int 0])), (o0, .inl (g.2.1 6, 1, .inr (.inl fo)))]) (fun (r : Int32) (u : va_W) => r = 1 ∧ u = []) (fun E : String => False) := by
  intro sz
  refine vx_ofWH (cc := cL_sees) (maxL := 6) (ret := (Option.some Jvm.ClassFile.FieldType.int)) (hh := [((0 : Nat), (19 : Nat), (22 : Nat), (27 : Nat)), ((0 : Nat), (19 : Nat), (26 : Nat), (13 : Nat))]) (by decide) rfl ?_
  intro p e s m args below meth c s₁ B hml hv
  obtain ⟨rfl, hsz, hP, hK, hD0, hT0⟩ := hv
  have hx := B.exec
  have hb := B.bytes
  have hr := B.returns
  have hts := atoms_spec (ws := (wH yL_sees cL_sees 6 (Option.some Jvm.ClassFile.FieldType.int) [((0 : Nat), (19 : Nat), (22 : Nat), (27 : Nat)), ((0 : Nat), (19 : Nat), (26 : Nat), (13 : Nat))])) B.pre
  have htg : ∀ w ∈ G9, w.before _ s = true := fun w h => hts w (List.mem_cons_of_mem _ h)
  have hown : s.vm.findClass "HeroTableLaw" = some m.cls := findClass_of_methodNamed B.named
  have hlocks := B.notSynchronized
  subst hsz
  have hD := hD0.self (sz := s.heap.size)
  have hT := hT0
  clear hT0
  generalize hAe : va_A [(x0, .inr (8, [.ref t0, .ref u0, .ref k0])), (t0, .inr (6, [.ref th, .ref ts, .ref tg, .ref td, .int 0, .ref tr, .int (-1), .int 0, .int 0, .int 0, .long 0, .int 0, .int 0])), (o0, .inl (g.2.1 6, 1, .inr (.inl fo)))] s.heap.size = A at hD hT ⊢
  have hA : ∀ q : Nat, s.heap.size ≤ q → A q := fun q h => by rw [← hAe]; exact Or.inr h
  obtain ⟨H, hH0⟩ : ∃ H, H = s.heap := ⟨_, rfl⟩
  have hS : va_S A s.heap H [] := by rw [hH0]; exact va_S.rf
  have hP : va_P g.1 CLS [(x0, .inr (8, [.ref t0, .ref u0, .ref k0])), (t0, .inr (6, [.ref th, .ref ts, .ref tg, .ref td, .int 0, .ref tr, .int (-1), .int 0, .int 0, .int 0, .long 0, .int 0, .int 0])), (o0, .inl (g.2.1 6, 1, .inr (.inl fo)))] H := by rw [hH0]; exact hP
  rw [← hH0]
  have hl := lv_entry ([.ref x0, .int n1, .int n2, .int n3, .ref o0]) (n := 6) (Nat.le_of_ble_eq_true rfl)
  rw [lg_entry_eq]
  generalize (lg_sl ([.ref x0, .int n1, .int n2, .int n3, .ref o0]) ++ List.replicate (6 - (lg_sl ([.ref x0, .int n1, .int n2, .int n3, .ref o0])).length) Slot.unset).toArray = ls at hl ⊢
  have hl : lv_has ls 6 [(0, .ref x0), (1, .int n1), (2, .int n2), (3, .int n3), (4, .ref o0)] := hl
  refine lv_aload hx hb dL_sees_0 (lv_at hl 4 rfl) ?_
  refine lv_iconst (v := 0) hx hb dL_sees_2 (by decide) ?_
  refine lv_aload_n hx hb dL_sees_3 rfl (lv_at hl 0 rfl) ?_
  refine lv_iload_n hx hb dL_sees_4 rfl (lv_at hl 1 rfl) ?_
  refine lv_iload_n hx hb dL_sees_5 rfl (lv_at hl 2 rfl) ?_
  refine lv_iload_n hx hb dL_sees_6 rfl (lv_at hl 3 rfl) ?_
  have hPc := hP.sub (ws' := [(x0, .inr (8, [.ref t0, .ref u0, .ref k0])), (t0, .inr (6, [.ref th, .ref ts, .ref tg, .ref td, .int 0, .ref tr, .int (-1), .int 0, .int 0, .int 0, .long 0, .int 0, .int 0]))]) [0, 1] rfl
  have hDc := hD.sub (ws' := [(x0, .inr (8, [.ref t0, .ref u0, .ref k0])), (t0, .inr (6, [.ref th, .ref ts, .ref tg, .ref td, .int 0, .ref tr, .int (-1), .int 0, .int 0, .int 0, .long 0, .int 0, .int 0]))]) [0, 1] (by decide) rfl
  have hFc := va_free (wc := [(x0, .inr (8, [.ref t0, .ref u0, .ref k0])), (t0, .inr (6, [.ref th, .ref ts, .ref tg, .ref td, .int 0, .ref tr, .int (-1), .int 0, .int 0, .int 0, .long 0, .int 0, .int 0]))]) hD hS hA [0, 1] rfl
  refine q_xi (wr := [(o0, .inl (g.2.1 6, 1, .inr (.inl fo)))]) (vx_runV (As := [.int n1, .int n2, .int n3]) (rest := [.int 0, .ref o0]) ⟨hx, hb, hml, hown, htg⟩ (c_X7_sees l hfl g x0 t0 th ts tg td tr u0 k0 n1 n2 n3  H.size) ⟨(qB htg k1059 k50 k1056 ok_X7_sees rfl rfl ⟨Nat.le_of_ble_eq_true rfl, Nat.le_of_ble_eq_true rfl⟩), htg _ k1057, htg _ k1058⟩ ⟨(q_pre [.ref x0, .int n1, .int n2, .int n3] hPc hDc hK hS hT hFc).1, va_recv hK hP (ci := 8) (q0 := 0) rfl rfl, (q_pre [.ref x0, .int n1, .int n2, .int n3] hPc hDc hK hS hT hFc).2⟩ rfl rfl hl.1 rfl (lv_room (Nat.le_of_ble_eq_true rfl)) dL_sees_7 ⟨Nat.le_of_ble_eq_true rfl, Nat.le_of_ble_eq_true rfl⟩) hP hD hS hFc [0, 1] [2] rfl rfl (by decide) (by decide) (fun E9 ce9 q9 H locs hpx hP hD hS hq1 hq2 hq3 => ?_) (fun r9 u9 H locs hw hP hD hS => ?_)
  · rcases hpx with rfl
    refine vx_catch hown [] ⟨0, 19, 22, 27⟩ [⟨0, 19, 26, 13⟩] ((vx_table (x := yL_sees) B (hts _ List.mem_cons_self)).trans rfl) (fun z hz => nomatch hz) (by decide) (by decide) (htg _ k984) (va_Nw.use rfl hT.1.2.2.2.2.1.1) hq1 hq2 hq3 ?_
    refine W.widen (k := 1) (n := 6) (Nat.le_of_ble_eq_true rfl) (Nat.le_of_ble_eq_true rfl) ?_
    refine lv_astore (lv' := [(5, .ref q9), (0, .ref x0), (1, .int n1), (2, .int n2), (3, .int n3), (4, .ref o0)]) hx hb dL_sees_22 hl (by decide) rfl (fun ls hl => ?_)
    refine lv_iconst (v := 1) hx hb dL_sees_24 (by decide) ?_
    have hP9 := hP.sub (ws' := []) [] rfl
    have hD9 := hD.sub (ws' := []) [] (by decide) rfl
    refine W.widen (k := 1) (n := 6) (Nat.le_of_ble_eq_true rfl) (Nat.le_of_ble_eq_true rfl) ?_
    refine vx_ret ?_
    exact W.iret (v := 1) hx hb hr (fun t ht hW => ⟨⟨1, [], rfl, ⟨rfl, rfl⟩, by rw [ht]; exact hP9, va_K.moved hW.alike hK, hD9⟩, hS.F ht⟩) hS.2.2 dL_sees_25
  · exact hw.elim

set_option maxHeartbeats 4000000 in
set_option maxRecDepth 100000 in
theorem c_w_addSource (l : Launch) (hfl : l.stackTraces = false) (g : GP) (x0 : Nat) (t0 : Nat) (th : Nat) (ts : Nat) (tg : Nat) (td : Nat) (tr : Nat) (u0 : Nat) (k0 : Nat) (n1 : Int32) (n2 : Int32) (n3 : Int32) (n4 : Int32) (n5 : Int32) (n6 : Int32) (o0 : Nat) (fo : Nat → Int64)  : XI l yL_addSource (wH yL_addSource cL_addSource 9 (Option.some Jvm.ClassFile.FieldType.int) [((0 : Nat), (18 : Nat), (21 : Nat), (27 : Nat)), ((0 : Nat), (18 : Nat), (25 : Nat), (13 : Nat)), ((0 : Nat), (18 : Nat), (29 : Nat), (15 : Nat))]) (LV 8 1 6) g [.ref x0, .int n1, .int n2, .int n3, .int n4, .int n5, .int n6, .ref o0] ([(x0, .inr (8, [.ref t0, .ref u0, .ref k0])), (t0, .inr (6, [.ref th, .ref ts, .ref tg, .ref td, .int 0, .ref tr, .int (-1), .int 0, .int 0, .int 0, .long 0, .int 0, .int 0])), (o0, .inl (g.2.1 6, 1, .inr (.inl fo)))]) (fun (r : Int32) (u : va_W) => r = 1 ∧ u = []) (fun E : String => False) := by
  intro sz
  refine vx_ofWH (cc := cL_addSource) (maxL := 9) (ret := (Option.some Jvm.ClassFile.FieldType.int)) (hh := [((0 : Nat), (18 : Nat), (21 : Nat), (27 : Nat)), ((0 : Nat), (18 : Nat), (25 : Nat), (13 : Nat)), ((0 : Nat), (18 : Nat), (29 : Nat), (15 : Nat))]) (by decide) rfl ?_
  intro p e s m args below meth c s₁ B hml hv
  obtain ⟨rfl, hsz, hP, hK, hD0, hT0⟩ := hv
  have hx := B.exec
  have hb := B.bytes
  have hr := B.returns
  have hts := atoms_spec (ws := (wH yL_addSource cL_addSource 9 (Option.some Jvm.ClassFile.FieldType.int) [((0 : Nat), (18 : Nat), (21 : Nat), (27 : Nat)), ((0 : Nat), (18 : Nat), (25 : Nat), (13 : Nat)), ((0 : Nat), (18 : Nat), (29 : Nat), (15 : Nat))])) B.pre
  have htg : ∀ w ∈ G9, w.before _ s = true := fun w h => hts w (List.mem_cons_of_mem _ h)
  have hown : s.vm.findClass "HeroTableLaw" = some m.cls := findClass_of_methodNamed B.named
  have hlocks := B.notSynchronized
  subst hsz
  have hD := hD0.self (sz := s.heap.size)
  have hT := hT0
  clear hT0
  generalize hAe : va_A [(x0, .inr (8, [.ref t0, .ref u0, .ref k0])), (t0, .inr (6, [.ref th, .ref ts, .ref tg, .ref td, .int 0, .ref tr, .int (-1), .int 0, .int 0, .int 0, .long 0, .int 0, .int 0])), (o0, .inl (g.2.1 6, 1, .inr (.inl fo)))] s.heap.size = A at hD hT ⊢
  have hA : ∀ q : Nat, s.heap.size ≤ q → A q := fun q h => by rw [← hAe]; exact Or.inr h
  obtain ⟨H, hH0⟩ : ∃ H, H = s.heap := ⟨_, rfl⟩
  have hS : va_S A s.heap H [] := by rw [hH0]; exact va_S.rf
  have hP : va_P g.1 CLS [(x0, .inr (8, [.ref t0, .ref u0, .ref k0])), (t0, .inr (6, [.ref th, .ref ts, .ref tg, .ref td, .int 0, .ref tr, .int (-1), .int 0, .int 0, .int 0, .long 0, .int 0, .int 0])), (o0, .inl (g.2.1 6, 1, .inr (.inl fo)))] H := by rw [hH0]; exact hP
  rw [← hH0]
  have hl := lv_entry ([.ref x0, .int n1, .int n2, .int n3, .int n4, .int n5, .int n6, .ref o0]) (n := 9) (Nat.le_of_ble_eq_true rfl)
  rw [lg_entry_eq]
  generalize (lg_sl ([.ref x0, .int n1, .int n2, .int n3, .int n4, .int n5, .int n6, .ref o0]) ++ List.replicate (9 - (lg_sl ([.ref x0, .int n1, .int n2, .int n3, .int n4, .int n5, .int n6, .ref o0])).length) Slot.unset).toArray = ls at hl ⊢
  have hl : lv_has ls 9 [(0, .ref x0), (1, .int n1), (2, .int n2), (3, .int n3), (4, .int n4), (5, .int n5), (6, .int n6), (7, .ref o0)] := hl
  refine lv_aload hx hb dL_addSource_0 (lv_at hl 7 rfl) ?_
  refine lv_iconst (v := 0) hx hb dL_addSource_2 (by decide) ?_
  refine lv_aload_n hx hb dL_addSource_3 rfl (lv_at hl 0 rfl) ?_
  refine lv_iload_n hx hb dL_addSource_4 rfl (lv_at hl 1 rfl) ?_
  refine lv_iload_n hx hb dL_addSource_5 rfl (lv_at hl 2 rfl) ?_
  refine lv_iload_n hx hb dL_addSource_6 rfl (lv_at hl 3 rfl) ?_
  refine lv_iload hx hb dL_addSource_7 (lv_at hl 4 rfl) ?_
  refine lv_iload hx hb dL_addSource_9 (lv_at hl 5 rfl) ?_
  refine lv_iload hx hb dL_addSource_11 (lv_at hl 6 rfl) ?_
  have hPc := hP.sub (ws' := [(x0, .inr (8, [.ref t0, .ref u0, .ref k0])), (t0, .inr (6, [.ref th, .ref ts, .ref tg, .ref td, .int 0, .ref tr, .int (-1), .int 0, .int 0, .int 0, .long 0, .int 0, .int 0]))]) [0, 1] rfl
  have hDc := hD.sub (ws' := [(x0, .inr (8, [.ref t0, .ref u0, .ref k0])), (t0, .inr (6, [.ref th, .ref ts, .ref tg, .ref td, .int 0, .ref tr, .int (-1), .int 0, .int 0, .int 0, .long 0, .int 0, .int 0]))]) [0, 1] (by decide) rfl
  have hFc := va_free (wc := [(x0, .inr (8, [.ref t0, .ref u0, .ref k0])), (t0, .inr (6, [.ref th, .ref ts, .ref tg, .ref td, .int 0, .ref tr, .int (-1), .int 0, .int 0, .int 0, .long 0, .int 0, .int 0]))]) hD hS hA [0, 1] rfl
  refine q_xi (wr := [(o0, .inl (g.2.1 6, 1, .inr (.inl fo)))]) (vx_runV (As := [.int n1, .int n2, .int n3, .int n4, .int n5, .int n6]) (rest := [.int 0, .ref o0]) ⟨hx, hb, hml, hown, htg⟩ (c_X7_addSource l hfl g x0 t0 th ts tg td tr u0 k0 n1 n2 n3 n4 n5 n6  H.size) ⟨(qB htg k1069 k50 k1066 ok_X7_addSource rfl rfl ⟨Nat.le_of_ble_eq_true rfl, Nat.le_of_ble_eq_true rfl⟩), htg _ k1067, htg _ k1068⟩ ⟨(q_pre [.ref x0, .int n1, .int n2, .int n3, .int n4, .int n5, .int n6] hPc hDc hK hS hT hFc).1, va_recv hK hP (ci := 8) (q0 := 0) rfl rfl, (q_pre [.ref x0, .int n1, .int n2, .int n3, .int n4, .int n5, .int n6] hPc hDc hK hS hT hFc).2⟩ rfl rfl hl.1 rfl (lv_room (Nat.le_of_ble_eq_true rfl)) dL_addSource_13 ⟨Nat.le_of_ble_eq_true rfl, Nat.le_of_ble_eq_true rfl⟩) hP hD hS hFc [0, 1] [2] rfl rfl (by decide) (by decide) (fun E9 ce9 q9 H locs hpx hP hD hS hq1 hq2 hq3 => ?_) (fun r9 u9 H locs hw hP hD hS => ?_)
  · rcases hpx with rfl
    refine vx_catch hown [] ⟨0, 18, 21, 27⟩ [⟨0, 18, 25, 13⟩, ⟨0, 18, 29, 15⟩] ((vx_table (x := yL_addSource) B (hts _ List.mem_cons_self)).trans rfl) (fun z hz => nomatch hz) (by decide) (by decide) (htg _ k984) (va_Nw.use rfl hT.1.2.2.2.2.1.1) hq1 hq2 hq3 ?_
    refine W.widen (k := 1) (n := 6) (Nat.le_of_ble_eq_true rfl) (Nat.le_of_ble_eq_true rfl) ?_
    refine lv_astore (lv' := [(8, .ref q9), (0, .ref x0), (1, .int n1), (2, .int n2), (3, .int n3), (4, .int n4), (5, .int n5), (6, .int n6), (7, .ref o0)]) hx hb dL_addSource_21 hl (by decide) rfl (fun ls hl => ?_)
    refine lv_iconst (v := 1) hx hb dL_addSource_23 (by decide) ?_
    have hP9 := hP.sub (ws' := []) [] rfl
    have hD9 := hD.sub (ws' := []) [] (by decide) rfl
    refine W.widen (k := 1) (n := 6) (Nat.le_of_ble_eq_true rfl) (Nat.le_of_ble_eq_true rfl) ?_
    refine vx_ret ?_
    exact W.iret (v := 1) hx hb hr (fun t ht hW => ⟨⟨1, [], rfl, ⟨rfl, rfl⟩, by rw [ht]; exact hP9, va_K.moved hW.alike hK, hD9⟩, hS.F ht⟩) hS.2.2 dL_addSource_24
  · exact hw.elim

set_option maxHeartbeats 4000000 in
set_option maxRecDepth 100000 in
theorem c_w_afflict (l : Launch) (hfl : l.stackTraces = false) (g : GP) (x0 : Nat) (t0 : Nat) (th : Nat) (ts : Nat) (tg : Nat) (td : Nat) (tr : Nat) (u0 : Nat) (k0 : Nat) (n1 : Int32) (n2 : Int32) (n3 : Int32) (n4 : Int32) (n5 : Int32) (o0 : Nat) (fo : Nat → Int64)  : XI l yL_afflict (wH yL_afflict cL_afflict 8 (Option.some Jvm.ClassFile.FieldType.int) [((0 : Nat), (16 : Nat), (19 : Nat), (27 : Nat)), ((0 : Nat), (16 : Nat), (23 : Nat), (13 : Nat)), ((0 : Nat), (16 : Nat), (27 : Nat), (15 : Nat))]) (LV 8 1 6) g [.ref x0, .int n1, .int n2, .int n3, .int n4, .int n5, .ref o0] ([(x0, .inr (8, [.ref t0, .ref u0, .ref k0])), (t0, .inr (6, [.ref th, .ref ts, .ref tg, .ref td, .int 0, .ref tr, .int (-1), .int 0, .int 0, .int 0, .long 0, .int 0, .int 0])), (o0, .inl (g.2.1 6, 1, .inr (.inl fo)))]) (fun (r : Int32) (u : va_W) => r = 1 ∧ u = []) (fun E : String => False) := by
  intro sz
  refine vx_ofWH (cc := cL_afflict) (maxL := 8) (ret := (Option.some Jvm.ClassFile.FieldType.int)) (hh := [((0 : Nat), (16 : Nat), (19 : Nat), (27 : Nat)), ((0 : Nat), (16 : Nat), (23 : Nat), (13 : Nat)), ((0 : Nat), (16 : Nat), (27 : Nat), (15 : Nat))]) (by decide) rfl ?_
  intro p e s m args below meth c s₁ B hml hv
  obtain ⟨rfl, hsz, hP, hK, hD0, hT0⟩ := hv
  have hx := B.exec
  have hb := B.bytes
  have hr := B.returns
  have hts := atoms_spec (ws := (wH yL_afflict cL_afflict 8 (Option.some Jvm.ClassFile.FieldType.int) [((0 : Nat), (16 : Nat), (19 : Nat), (27 : Nat)), ((0 : Nat), (16 : Nat), (23 : Nat), (13 : Nat)), ((0 : Nat), (16 : Nat), (27 : Nat), (15 : Nat))])) B.pre
  have htg : ∀ w ∈ G9, w.before _ s = true := fun w h => hts w (List.mem_cons_of_mem _ h)
  have hown : s.vm.findClass "HeroTableLaw" = some m.cls := findClass_of_methodNamed B.named
  have hlocks := B.notSynchronized
  subst hsz
  have hD := hD0.self (sz := s.heap.size)
  have hT := hT0
  clear hT0
  generalize hAe : va_A [(x0, .inr (8, [.ref t0, .ref u0, .ref k0])), (t0, .inr (6, [.ref th, .ref ts, .ref tg, .ref td, .int 0, .ref tr, .int (-1), .int 0, .int 0, .int 0, .long 0, .int 0, .int 0])), (o0, .inl (g.2.1 6, 1, .inr (.inl fo)))] s.heap.size = A at hD hT ⊢
  have hA : ∀ q : Nat, s.heap.size ≤ q → A q := fun q h => by rw [← hAe]; exact Or.inr h
  obtain ⟨H, hH0⟩ : ∃ H, H = s.heap := ⟨_, rfl⟩
  have hS : va_S A s.heap H [] := by rw [hH0]; exact va_S.rf
  have hP : va_P g.1 CLS [(x0, .inr (8, [.ref t0, .ref u0, .ref k0])), (t0, .inr (6, [.ref th, .ref ts, .ref tg, .ref td, .int 0, .ref tr, .int (-1), .int 0, .int 0, .int 0, .long 0, .int 0, .int 0])), (o0, .inl (g.2.1 6, 1, .inr (.inl fo)))] H := by rw [hH0]; exact hP
  rw [← hH0]
  have hl := lv_entry ([.ref x0, .int n1, .int n2, .int n3, .int n4, .int n5, .ref o0]) (n := 8) (Nat.le_of_ble_eq_true rfl)
  rw [lg_entry_eq]
  generalize (lg_sl ([.ref x0, .int n1, .int n2, .int n3, .int n4, .int n5, .ref o0]) ++ List.replicate (8 - (lg_sl ([.ref x0, .int n1, .int n2, .int n3, .int n4, .int n5, .ref o0])).length) Slot.unset).toArray = ls at hl ⊢
  have hl : lv_has ls 8 [(0, .ref x0), (1, .int n1), (2, .int n2), (3, .int n3), (4, .int n4), (5, .int n5), (6, .ref o0)] := hl
  refine lv_aload hx hb dL_afflict_0 (lv_at hl 6 rfl) ?_
  refine lv_iconst (v := 0) hx hb dL_afflict_2 (by decide) ?_
  refine lv_aload_n hx hb dL_afflict_3 rfl (lv_at hl 0 rfl) ?_
  refine lv_iload_n hx hb dL_afflict_4 rfl (lv_at hl 1 rfl) ?_
  refine lv_iload_n hx hb dL_afflict_5 rfl (lv_at hl 2 rfl) ?_
  refine lv_iload_n hx hb dL_afflict_6 rfl (lv_at hl 3 rfl) ?_
  refine lv_iload hx hb dL_afflict_7 (lv_at hl 4 rfl) ?_
  refine lv_iload hx hb dL_afflict_9 (lv_at hl 5 rfl) ?_
  have hPc := hP.sub (ws' := [(x0, .inr (8, [.ref t0, .ref u0, .ref k0])), (t0, .inr (6, [.ref th, .ref ts, .ref tg, .ref td, .int 0, .ref tr, .int (-1), .int 0, .int 0, .int 0, .long 0, .int 0, .int 0]))]) [0, 1] rfl
  have hDc := hD.sub (ws' := [(x0, .inr (8, [.ref t0, .ref u0, .ref k0])), (t0, .inr (6, [.ref th, .ref ts, .ref tg, .ref td, .int 0, .ref tr, .int (-1), .int 0, .int 0, .int 0, .long 0, .int 0, .int 0]))]) [0, 1] (by decide) rfl
  have hFc := va_free (wc := [(x0, .inr (8, [.ref t0, .ref u0, .ref k0])), (t0, .inr (6, [.ref th, .ref ts, .ref tg, .ref td, .int 0, .ref tr, .int (-1), .int 0, .int 0, .int 0, .long 0, .int 0, .int 0]))]) hD hS hA [0, 1] rfl
  refine q_xi (wr := [(o0, .inl (g.2.1 6, 1, .inr (.inl fo)))]) (vx_runV (As := [.int n1, .int n2, .int n3, .int n4, .int n5]) (rest := [.int 0, .ref o0]) ⟨hx, hb, hml, hown, htg⟩ (c_X7_afflict l hfl g x0 t0 th ts tg td tr u0 k0 n1 n2 n3 n4 n5  H.size) ⟨(qB htg k1077 k50 k1074 ok_X7_afflict rfl rfl ⟨Nat.le_of_ble_eq_true rfl, Nat.le_of_ble_eq_true rfl⟩), htg _ k1075, htg _ k1076⟩ ⟨(q_pre [.ref x0, .int n1, .int n2, .int n3, .int n4, .int n5] hPc hDc hK hS hT hFc).1, va_recv hK hP (ci := 8) (q0 := 0) rfl rfl, (q_pre [.ref x0, .int n1, .int n2, .int n3, .int n4, .int n5] hPc hDc hK hS hT hFc).2⟩ rfl rfl hl.1 rfl (lv_room (Nat.le_of_ble_eq_true rfl)) dL_afflict_11 ⟨Nat.le_of_ble_eq_true rfl, Nat.le_of_ble_eq_true rfl⟩) hP hD hS hFc [0, 1] [2] rfl rfl (by decide) (by decide) (fun E9 ce9 q9 H locs hpx hP hD hS hq1 hq2 hq3 => ?_) (fun r9 u9 H locs hw hP hD hS => ?_)
  · rcases hpx with rfl
    refine vx_catch hown [] ⟨0, 16, 19, 27⟩ [⟨0, 16, 23, 13⟩, ⟨0, 16, 27, 15⟩] ((vx_table (x := yL_afflict) B (hts _ List.mem_cons_self)).trans rfl) (fun z hz => nomatch hz) (by decide) (by decide) (htg _ k984) (va_Nw.use rfl hT.1.2.2.2.2.1.1) hq1 hq2 hq3 ?_
    refine W.widen (k := 1) (n := 6) (Nat.le_of_ble_eq_true rfl) (Nat.le_of_ble_eq_true rfl) ?_
    refine lv_astore (lv' := [(7, .ref q9), (0, .ref x0), (1, .int n1), (2, .int n2), (3, .int n3), (4, .int n4), (5, .int n5), (6, .ref o0)]) hx hb dL_afflict_19 hl (by decide) rfl (fun ls hl => ?_)
    refine lv_iconst (v := 1) hx hb dL_afflict_21 (by decide) ?_
    have hP9 := hP.sub (ws' := []) [] rfl
    have hD9 := hD.sub (ws' := []) [] (by decide) rfl
    refine W.widen (k := 1) (n := 6) (Nat.le_of_ble_eq_true rfl) (Nat.le_of_ble_eq_true rfl) ?_
    refine vx_ret ?_
    exact W.iret (v := 1) hx hb hr (fun t ht hW => ⟨⟨1, [], rfl, ⟨rfl, rfl⟩, by rw [ht]; exact hP9, va_K.moved hW.alike hK, hD9⟩, hS.F ht⟩) hS.2.2 dL_afflict_22
  · exact hw.elim

set_option maxHeartbeats 4000000 in
set_option maxRecDepth 100000 in
theorem c_w_endSource (l : Launch) (hfl : l.stackTraces = false) (g : GP) (x0 : Nat) (t0 : Nat) (th : Nat) (ts : Nat) (tg : Nat) (td : Nat) (tr : Nat) (u0 : Nat) (k0 : Nat) (tw : Nat) (n1 : Int32) (o0 : Nat) (fo : Nat → Int64)  : XI l yL_endSource (wH yL_endSource cL_endSource 4 (Option.some Jvm.ClassFile.FieldType.int) [((0 : Nat), (16 : Nat), (19 : Nat), (27 : Nat))]) (LV 8 1 6) g [.ref x0, .int n1, .ref o0] ([(x0, .inr (8, [.ref t0, .ref u0, .ref k0])), (t0, .inr (6, [.ref th, .ref ts, .ref tg, .ref td, .int 0, .ref tr, .int (-1), .int 0, .int 0, .int 0, .long 0, .int 0, .int 0])), (ts, .inr (5, [.ref th, .ref tw, .int 0])), (o0, .inl (g.2.1 6, 1, .inr (.inl fo)))]) (fun (r : Int32) (u : va_W) => r = 1 ∧ u = []) (fun E : String => False) := by
  intro sz
  refine vx_ofWH (cc := cL_endSource) (maxL := 4) (ret := (Option.some Jvm.ClassFile.FieldType.int)) (hh := [((0 : Nat), (16 : Nat), (19 : Nat), (27 : Nat))]) (by decide) rfl ?_
  intro p e s m args below meth c s₁ B hml hv
  obtain ⟨rfl, hsz, hP, hK, hD0, hT0⟩ := hv
  have hx := B.exec
  have hb := B.bytes
  have hr := B.returns
  have hts := atoms_spec (ws := (wH yL_endSource cL_endSource 4 (Option.some Jvm.ClassFile.FieldType.int) [((0 : Nat), (16 : Nat), (19 : Nat), (27 : Nat))])) B.pre
  have htg : ∀ w ∈ G9, w.before _ s = true := fun w h => hts w (List.mem_cons_of_mem _ h)
  have hown : s.vm.findClass "HeroTableLaw" = some m.cls := findClass_of_methodNamed B.named
  have hlocks := B.notSynchronized
  subst hsz
  have hD := hD0.self (sz := s.heap.size)
  have hT := hT0
  clear hT0
  generalize hAe : va_A [(x0, .inr (8, [.ref t0, .ref u0, .ref k0])), (t0, .inr (6, [.ref th, .ref ts, .ref tg, .ref td, .int 0, .ref tr, .int (-1), .int 0, .int 0, .int 0, .long 0, .int 0, .int 0])), (ts, .inr (5, [.ref th, .ref tw, .int 0])), (o0, .inl (g.2.1 6, 1, .inr (.inl fo)))] s.heap.size = A at hD hT ⊢
  have hA : ∀ q : Nat, s.heap.size ≤ q → A q := fun q h => by rw [← hAe]; exact Or.inr h
  obtain ⟨H, hH0⟩ : ∃ H, H = s.heap := ⟨_, rfl⟩
  have hS : va_S A s.heap H [] := by rw [hH0]; exact va_S.rf
  have hP : va_P g.1 CLS [(x0, .inr (8, [.ref t0, .ref u0, .ref k0])), (t0, .inr (6, [.ref th, .ref ts, .ref tg, .ref td, .int 0, .ref tr, .int (-1), .int 0, .int 0, .int 0, .long 0, .int 0, .int 0])), (ts, .inr (5, [.ref th, .ref tw, .int 0])), (o0, .inl (g.2.1 6, 1, .inr (.inl fo)))] H := by rw [hH0]; exact hP
  rw [← hH0]
  have hl := lv_entry ([.ref x0, .int n1, .ref o0]) (n := 4) (Nat.le_of_ble_eq_true rfl)
  rw [lg_entry_eq]
  generalize (lg_sl ([.ref x0, .int n1, .ref o0]) ++ List.replicate (4 - (lg_sl ([.ref x0, .int n1, .ref o0])).length) Slot.unset).toArray = ls at hl ⊢
  have hl : lv_has ls 4 [(0, .ref x0), (1, .int n1), (2, .ref o0)] := hl
  refine lv_aload_n hx hb dL_endSource_0 rfl (lv_at hl 2 rfl) ?_
  refine lv_iconst (v := 0) hx hb dL_endSource_1 (by decide) ?_
  refine lv_aload_n hx hb dL_endSource_2 rfl (lv_at hl 0 rfl) ?_
  refine lv_iload_n hx hb dL_endSource_3 rfl (lv_at hl 1 rfl) ?_
  have hPc := hP.sub (ws' := [(x0, .inr (8, [.ref t0, .ref u0, .ref k0])), (t0, .inr (6, [.ref th, .ref ts, .ref tg, .ref td, .int 0, .ref tr, .int (-1), .int 0, .int 0, .int 0, .long 0, .int 0, .int 0])), (ts, .inr (5, [.ref th, .ref tw, .int 0]))]) [0, 1, 2] rfl
  have hDc := hD.sub (ws' := [(x0, .inr (8, [.ref t0, .ref u0, .ref k0])), (t0, .inr (6, [.ref th, .ref ts, .ref tg, .ref td, .int 0, .ref tr, .int (-1), .int 0, .int 0, .int 0, .long 0, .int 0, .int 0])), (ts, .inr (5, [.ref th, .ref tw, .int 0]))]) [0, 1, 2] (by decide) rfl
  have hFc := va_free (wc := [(x0, .inr (8, [.ref t0, .ref u0, .ref k0])), (t0, .inr (6, [.ref th, .ref ts, .ref tg, .ref td, .int 0, .ref tr, .int (-1), .int 0, .int 0, .int 0, .long 0, .int 0, .int 0])), (ts, .inr (5, [.ref th, .ref tw, .int 0]))]) hD hS hA [0, 1, 2] rfl
  refine q_xi (wr := [(o0, .inl (g.2.1 6, 1, .inr (.inl fo)))]) (vx_runV (As := [.int n1]) (rest := [.int 0, .ref o0]) ⟨hx, hb, hml, hown, htg⟩ (c_X7_endSource l hfl g x0 t0 th ts tg td tr u0 k0 tw n1  H.size) ⟨(qB htg k1085 k50 k1082 ok_X7_endSource rfl rfl ⟨Nat.le_of_ble_eq_true rfl, Nat.le_of_ble_eq_true rfl⟩), htg _ k1083, htg _ k1084⟩ ⟨(q_pre [.ref x0, .int n1] hPc hDc hK hS hT hFc).1, va_recv hK hP (ci := 8) (q0 := 0) rfl rfl, (q_pre [.ref x0, .int n1] hPc hDc hK hS hT hFc).2⟩ rfl rfl hl.1 rfl (lv_room (Nat.le_of_ble_eq_true rfl)) dL_endSource_4 ⟨Nat.le_of_ble_eq_true rfl, Nat.le_of_ble_eq_true rfl⟩) hP hD hS hFc [0, 1, 2] [3] rfl rfl (by decide) (by decide) (fun E9 ce9 q9 H locs hpx hP hD hS hq1 hq2 hq3 => ?_) (fun r9 u9 H locs hw hP hD hS => ?_)
  · rcases hpx with rfl
    refine vx_catch hown [] ⟨0, 16, 19, 27⟩ [] ((vx_table (x := yL_endSource) B (hts _ List.mem_cons_self)).trans rfl) (fun z hz => nomatch hz) (by decide) (by decide) (htg _ k984) (va_Nw.use rfl hT.1.2.2.2.2.1.1) hq1 hq2 hq3 ?_
    refine W.widen (k := 1) (n := 6) (Nat.le_of_ble_eq_true rfl) (Nat.le_of_ble_eq_true rfl) ?_
    refine lv_astore_n (lv' := [(3, .ref q9), (0, .ref x0), (1, .int n1), (2, .ref o0)]) hx hb dL_endSource_19 rfl hl (by decide) rfl (fun ls hl => ?_)
    refine lv_iconst (v := 1) hx hb dL_endSource_20 (by decide) ?_
    have hP9 := hP.sub (ws' := []) [] rfl
    have hD9 := hD.sub (ws' := []) [] (by decide) rfl
    refine W.widen (k := 1) (n := 6) (Nat.le_of_ble_eq_true rfl) (Nat.le_of_ble_eq_true rfl) ?_
    refine vx_ret ?_
    exact W.iret (v := 1) hx hb hr (fun t ht hW => ⟨⟨1, [], rfl, ⟨rfl, rfl⟩, by rw [ht]; exact hP9, va_K.moved hW.alike hK, hD9⟩, hS.F ht⟩) hS.2.2 dL_endSource_21
  · exact hw.elim

set_option maxHeartbeats 4000000 in
set_option maxRecDepth 100000 in
theorem c_w_setImmune (l : Launch) (hfl : l.stackTraces = false) (g : GP) (x0 : Nat) (t0 : Nat) (th : Nat) (ts : Nat) (tg : Nat) (td : Nat) (tr : Nat) (u0 : Nat) (k0 : Nat) (n1 : Int32) (n2 : Int32) (n3 : Int32) (o0 : Nat) (fo : Nat → Int64)  : XI l yL_setImmune (wH yL_setImmune cL_setImmune 6 (Option.some Jvm.ClassFile.FieldType.int) [((0 : Nat), (19 : Nat), (22 : Nat), (27 : Nat)), ((0 : Nat), (19 : Nat), (26 : Nat), (13 : Nat))]) (LV 8 1 6) g [.ref x0, .int n1, .int n2, .int n3, .ref o0] ([(x0, .inr (8, [.ref t0, .ref u0, .ref k0])), (t0, .inr (6, [.ref th, .ref ts, .ref tg, .ref td, .int 0, .ref tr, .int (-1), .int 0, .int 0, .int 0, .long 0, .int 0, .int 0])), (o0, .inl (g.2.1 6, 1, .inr (.inl fo)))]) (fun (r : Int32) (u : va_W) => r = 1 ∧ u = []) (fun E : String => False) := by
  intro sz
  refine vx_ofWH (cc := cL_setImmune) (maxL := 6) (ret := (Option.some Jvm.ClassFile.FieldType.int)) (hh := [((0 : Nat), (19 : Nat), (22 : Nat), (27 : Nat)), ((0 : Nat), (19 : Nat), (26 : Nat), (13 : Nat))]) (by decide) rfl ?_
  intro p e s m args below meth c s₁ B hml hv
  obtain ⟨rfl, hsz, hP, hK, hD0, hT0⟩ := hv
  have hx := B.exec
  have hb := B.bytes
  have hr := B.returns
  have hts := atoms_spec (ws := (wH yL_setImmune cL_setImmune 6 (Option.some Jvm.ClassFile.FieldType.int) [((0 : Nat), (19 : Nat), (22 : Nat), (27 : Nat)), ((0 : Nat), (19 : Nat), (26 : Nat), (13 : Nat))])) B.pre
  have htg : ∀ w ∈ G9, w.before _ s = true := fun w h => hts w (List.mem_cons_of_mem _ h)
  have hown : s.vm.findClass "HeroTableLaw" = some m.cls := findClass_of_methodNamed B.named
  have hlocks := B.notSynchronized
  subst hsz
  have hD := hD0.self (sz := s.heap.size)
  have hT := hT0
  clear hT0
  generalize hAe : va_A [(x0, .inr (8, [.ref t0, .ref u0, .ref k0])), (t0, .inr (6, [.ref th, .ref ts, .ref tg, .ref td, .int 0, .ref tr, .int (-1), .int 0, .int 0, .int 0, .long 0, .int 0, .int 0])), (o0, .inl (g.2.1 6, 1, .inr (.inl fo)))] s.heap.size = A at hD hT ⊢
  have hA : ∀ q : Nat, s.heap.size ≤ q → A q := fun q h => by rw [← hAe]; exact Or.inr h
  obtain ⟨H, hH0⟩ : ∃ H, H = s.heap := ⟨_, rfl⟩
  have hS : va_S A s.heap H [] := by rw [hH0]; exact va_S.rf
  have hP : va_P g.1 CLS [(x0, .inr (8, [.ref t0, .ref u0, .ref k0])), (t0, .inr (6, [.ref th, .ref ts, .ref tg, .ref td, .int 0, .ref tr, .int (-1), .int 0, .int 0, .int 0, .long 0, .int 0, .int 0])), (o0, .inl (g.2.1 6, 1, .inr (.inl fo)))] H := by rw [hH0]; exact hP
  rw [← hH0]
  have hl := lv_entry ([.ref x0, .int n1, .int n2, .int n3, .ref o0]) (n := 6) (Nat.le_of_ble_eq_true rfl)
  rw [lg_entry_eq]
  generalize (lg_sl ([.ref x0, .int n1, .int n2, .int n3, .ref o0]) ++ List.replicate (6 - (lg_sl ([.ref x0, .int n1, .int n2, .int n3, .ref o0])).length) Slot.unset).toArray = ls at hl ⊢
  have hl : lv_has ls 6 [(0, .ref x0), (1, .int n1), (2, .int n2), (3, .int n3), (4, .ref o0)] := hl
  refine lv_aload hx hb dL_setImmune_0 (lv_at hl 4 rfl) ?_
  refine lv_iconst (v := 0) hx hb dL_setImmune_2 (by decide) ?_
  refine lv_aload_n hx hb dL_setImmune_3 rfl (lv_at hl 0 rfl) ?_
  refine lv_iload_n hx hb dL_setImmune_4 rfl (lv_at hl 1 rfl) ?_
  refine lv_iload_n hx hb dL_setImmune_5 rfl (lv_at hl 2 rfl) ?_
  refine lv_iload_n hx hb dL_setImmune_6 rfl (lv_at hl 3 rfl) ?_
  have hPc := hP.sub (ws' := [(x0, .inr (8, [.ref t0, .ref u0, .ref k0])), (t0, .inr (6, [.ref th, .ref ts, .ref tg, .ref td, .int 0, .ref tr, .int (-1), .int 0, .int 0, .int 0, .long 0, .int 0, .int 0]))]) [0, 1] rfl
  have hDc := hD.sub (ws' := [(x0, .inr (8, [.ref t0, .ref u0, .ref k0])), (t0, .inr (6, [.ref th, .ref ts, .ref tg, .ref td, .int 0, .ref tr, .int (-1), .int 0, .int 0, .int 0, .long 0, .int 0, .int 0]))]) [0, 1] (by decide) rfl
  have hFc := va_free (wc := [(x0, .inr (8, [.ref t0, .ref u0, .ref k0])), (t0, .inr (6, [.ref th, .ref ts, .ref tg, .ref td, .int 0, .ref tr, .int (-1), .int 0, .int 0, .int 0, .long 0, .int 0, .int 0]))]) hD hS hA [0, 1] rfl
  refine q_xi (wr := [(o0, .inl (g.2.1 6, 1, .inr (.inl fo)))]) (vx_runV (As := [.int n1, .int n2, .int n3]) (rest := [.int 0, .ref o0]) ⟨hx, hb, hml, hown, htg⟩ (c_X7_setImmune l hfl g x0 t0 th ts tg td tr u0 k0 n1 n2 n3  H.size) ⟨(qB htg k1093 k50 k1090 ok_X7_setImmune rfl rfl ⟨Nat.le_of_ble_eq_true rfl, Nat.le_of_ble_eq_true rfl⟩), htg _ k1091, htg _ k1092⟩ ⟨(q_pre [.ref x0, .int n1, .int n2, .int n3] hPc hDc hK hS hT hFc).1, va_recv hK hP (ci := 8) (q0 := 0) rfl rfl, (q_pre [.ref x0, .int n1, .int n2, .int n3] hPc hDc hK hS hT hFc).2⟩ rfl rfl hl.1 rfl (lv_room (Nat.le_of_ble_eq_true rfl)) dL_setImmune_7 ⟨Nat.le_of_ble_eq_true rfl, Nat.le_of_ble_eq_true rfl⟩) hP hD hS hFc [0, 1] [2] rfl rfl (by decide) (by decide) (fun E9 ce9 q9 H locs hpx hP hD hS hq1 hq2 hq3 => ?_) (fun r9 u9 H locs hw hP hD hS => ?_)
  · rcases hpx with rfl
    refine vx_catch hown [] ⟨0, 19, 22, 27⟩ [⟨0, 19, 26, 13⟩] ((vx_table (x := yL_setImmune) B (hts _ List.mem_cons_self)).trans rfl) (fun z hz => nomatch hz) (by decide) (by decide) (htg _ k984) (va_Nw.use rfl hT.1.2.2.2.2.1.1) hq1 hq2 hq3 ?_
    refine W.widen (k := 1) (n := 6) (Nat.le_of_ble_eq_true rfl) (Nat.le_of_ble_eq_true rfl) ?_
    refine lv_astore (lv' := [(5, .ref q9), (0, .ref x0), (1, .int n1), (2, .int n2), (3, .int n3), (4, .ref o0)]) hx hb dL_setImmune_22 hl (by decide) rfl (fun ls hl => ?_)
    refine lv_iconst (v := 1) hx hb dL_setImmune_24 (by decide) ?_
    have hP9 := hP.sub (ws' := []) [] rfl
    have hD9 := hD.sub (ws' := []) [] (by decide) rfl
    refine W.widen (k := 1) (n := 6) (Nat.le_of_ble_eq_true rfl) (Nat.le_of_ble_eq_true rfl) ?_
    refine vx_ret ?_
    exact W.iret (v := 1) hx hb hr (fun t ht hW => ⟨⟨1, [], rfl, ⟨rfl, rfl⟩, by rw [ht]; exact hP9, va_K.moved hW.alike hK, hD9⟩, hS.F ht⟩) hS.2.2 dL_setImmune_25
  · exact hw.elim

set_option maxHeartbeats 4000000 in
set_option maxRecDepth 100000 in
theorem c_w_isLive (l : Launch) (hfl : l.stackTraces = false) (g : GP) (x0 : Nat) (t0 : Nat) (th : Nat) (ts : Nat) (tg : Nat) (td : Nat) (tr : Nat) (u0 : Nat) (k0 : Nat) (tw : Nat) (n1 : Int32) (o0 : Nat) (fo : Nat → Int64)  : XI l yL_isLive (wH yL_isLive cL_isLive 4 (Option.some Jvm.ClassFile.FieldType.int) [((0 : Nat), (16 : Nat), (19 : Nat), (27 : Nat))]) (LV 8 1 6) g [.ref x0, .int n1, .ref o0] ([(x0, .inr (8, [.ref t0, .ref u0, .ref k0])), (t0, .inr (6, [.ref th, .ref ts, .ref tg, .ref td, .int 0, .ref tr, .int (-1), .int 0, .int 0, .int 0, .long 0, .int 0, .int 0])), (ts, .inr (5, [.ref th, .ref tw, .int 0])), (o0, .inl (g.2.1 6, 1, .inr (.inl fo)))]) (fun (r : Int32) (u : va_W) => r = 1 ∧ u = []) (fun E : String => False) := by
  intro sz
  refine vx_ofWH (cc := cL_isLive) (maxL := 4) (ret := (Option.some Jvm.ClassFile.FieldType.int)) (hh := [((0 : Nat), (16 : Nat), (19 : Nat), (27 : Nat))]) (by decide) rfl ?_
  intro p e s m args below meth c s₁ B hml hv
  obtain ⟨rfl, hsz, hP, hK, hD0, hT0⟩ := hv
  have hx := B.exec
  have hb := B.bytes
  have hr := B.returns
  have hts := atoms_spec (ws := (wH yL_isLive cL_isLive 4 (Option.some Jvm.ClassFile.FieldType.int) [((0 : Nat), (16 : Nat), (19 : Nat), (27 : Nat))])) B.pre
  have htg : ∀ w ∈ G9, w.before _ s = true := fun w h => hts w (List.mem_cons_of_mem _ h)
  have hown : s.vm.findClass "HeroTableLaw" = some m.cls := findClass_of_methodNamed B.named
  have hlocks := B.notSynchronized
  subst hsz
  have hD := hD0.self (sz := s.heap.size)
  have hT := hT0
  clear hT0
  generalize hAe : va_A [(x0, .inr (8, [.ref t0, .ref u0, .ref k0])), (t0, .inr (6, [.ref th, .ref ts, .ref tg, .ref td, .int 0, .ref tr, .int (-1), .int 0, .int 0, .int 0, .long 0, .int 0, .int 0])), (ts, .inr (5, [.ref th, .ref tw, .int 0])), (o0, .inl (g.2.1 6, 1, .inr (.inl fo)))] s.heap.size = A at hD hT ⊢
  have hA : ∀ q : Nat, s.heap.size ≤ q → A q := fun q h => by rw [← hAe]; exact Or.inr h
  obtain ⟨H, hH0⟩ : ∃ H, H = s.heap := ⟨_, rfl⟩
  have hS : va_S A s.heap H [] := by rw [hH0]; exact va_S.rf
  have hP : va_P g.1 CLS [(x0, .inr (8, [.ref t0, .ref u0, .ref k0])), (t0, .inr (6, [.ref th, .ref ts, .ref tg, .ref td, .int 0, .ref tr, .int (-1), .int 0, .int 0, .int 0, .long 0, .int 0, .int 0])), (ts, .inr (5, [.ref th, .ref tw, .int 0])), (o0, .inl (g.2.1 6, 1, .inr (.inl fo)))] H := by rw [hH0]; exact hP
  rw [← hH0]
  have hl := lv_entry ([.ref x0, .int n1, .ref o0]) (n := 4) (Nat.le_of_ble_eq_true rfl)
  rw [lg_entry_eq]
  generalize (lg_sl ([.ref x0, .int n1, .ref o0]) ++ List.replicate (4 - (lg_sl ([.ref x0, .int n1, .ref o0])).length) Slot.unset).toArray = ls at hl ⊢
  have hl : lv_has ls 4 [(0, .ref x0), (1, .int n1), (2, .ref o0)] := hl
  refine lv_aload_n hx hb dL_isLive_0 rfl (lv_at hl 2 rfl) ?_
  refine lv_iconst (v := 0) hx hb dL_isLive_1 (by decide) ?_
  refine lv_aload_n hx hb dL_isLive_2 rfl (lv_at hl 0 rfl) ?_
  refine lv_iload_n hx hb dL_isLive_3 rfl (lv_at hl 1 rfl) ?_
  have hPc := hP.sub (ws' := [(x0, .inr (8, [.ref t0, .ref u0, .ref k0])), (t0, .inr (6, [.ref th, .ref ts, .ref tg, .ref td, .int 0, .ref tr, .int (-1), .int 0, .int 0, .int 0, .long 0, .int 0, .int 0])), (ts, .inr (5, [.ref th, .ref tw, .int 0]))]) [0, 1, 2] rfl
  have hDc := hD.sub (ws' := [(x0, .inr (8, [.ref t0, .ref u0, .ref k0])), (t0, .inr (6, [.ref th, .ref ts, .ref tg, .ref td, .int 0, .ref tr, .int (-1), .int 0, .int 0, .int 0, .long 0, .int 0, .int 0])), (ts, .inr (5, [.ref th, .ref tw, .int 0]))]) [0, 1, 2] (by decide) rfl
  have hFc := va_free (wc := [(x0, .inr (8, [.ref t0, .ref u0, .ref k0])), (t0, .inr (6, [.ref th, .ref ts, .ref tg, .ref td, .int 0, .ref tr, .int (-1), .int 0, .int 0, .int 0, .long 0, .int 0, .int 0])), (ts, .inr (5, [.ref th, .ref tw, .int 0]))]) hD hS hA [0, 1, 2] rfl
  refine q_xi (wr := [(o0, .inl (g.2.1 6, 1, .inr (.inl fo)))]) (vx_runV (As := [.int n1]) (rest := [.int 0, .ref o0]) ⟨hx, hb, hml, hown, htg⟩ (c_X7_isLive l hfl g x0 t0 th ts tg td tr u0 k0 tw n1  H.size) ⟨(qB htg k1101 k50 k1098 ok_X7_isLive rfl rfl ⟨Nat.le_of_ble_eq_true rfl, Nat.le_of_ble_eq_true rfl⟩), htg _ k1099, htg _ k1100⟩ ⟨(q_pre [.ref x0, .int n1] hPc hDc hK hS hT hFc).1, va_recv hK hP (ci := 8) (q0 := 0) rfl rfl, (q_pre [.ref x0, .int n1] hPc hDc hK hS hT hFc).2⟩ rfl rfl hl.1 rfl (lv_room (Nat.le_of_ble_eq_true rfl)) dL_isLive_4 ⟨Nat.le_of_ble_eq_true rfl, Nat.le_of_ble_eq_true rfl⟩) hP hD hS hFc [0, 1, 2] [3] rfl rfl (by decide) (by decide) (fun E9 ce9 q9 H locs hpx hP hD hS hq1 hq2 hq3 => ?_) (fun r9 u9 H locs hw hP hD hS => ?_)
  · rcases hpx with rfl
    refine vx_catch hown [] ⟨0, 16, 19, 27⟩ [] ((vx_table (x := yL_isLive) B (hts _ List.mem_cons_self)).trans rfl) (fun z hz => nomatch hz) (by decide) (by decide) (htg _ k984) (va_Nw.use rfl hT.1.2.2.2.2.1.1) hq1 hq2 hq3 ?_
    refine W.widen (k := 1) (n := 6) (Nat.le_of_ble_eq_true rfl) (Nat.le_of_ble_eq_true rfl) ?_
    refine lv_astore_n (lv' := [(3, .ref q9), (0, .ref x0), (1, .int n1), (2, .ref o0)]) hx hb dL_isLive_19 rfl hl (by decide) rfl (fun ls hl => ?_)
    refine lv_iconst (v := 1) hx hb dL_isLive_20 (by decide) ?_
    have hP9 := hP.sub (ws' := []) [] rfl
    have hD9 := hD.sub (ws' := []) [] (by decide) rfl
    refine W.widen (k := 1) (n := 6) (Nat.le_of_ble_eq_true rfl) (Nat.le_of_ble_eq_true rfl) ?_
    refine vx_ret ?_
    exact W.iret (v := 1) hx hb hr (fun t ht hW => ⟨⟨1, [], rfl, ⟨rfl, rfl⟩, by rw [ht]; exact hP9, va_K.moved hW.alike hK, hD9⟩, hS.F ht⟩) hS.2.2 dL_isLive_21
  · exact hw.elim

set_option maxHeartbeats 4000000 in
set_option maxRecDepth 100000 in
theorem c_w_numberOf (l : Launch) (hfl : l.stackTraces = false) (g : GP) (x0 : Nat) (t0 : Nat) (th : Nat) (ts : Nat) (tg : Nat) (td : Nat) (tr : Nat) (u0 : Nat) (k0 : Nat) (n1 : Int32) (n2 : Int32) (o0 : Nat) (fo : Nat → Int64)  : XI l yL_numberOf (wH yL_numberOf cL_numberOf 5 (Option.some Jvm.ClassFile.FieldType.int) [((0 : Nat), (10 : Nat), (13 : Nat), (27 : Nat)), ((0 : Nat), (10 : Nat), (17 : Nat), (13 : Nat))]) (LV 8 1 6) g [.ref x0, .int n1, .int n2, .ref o0] ([(x0, .inr (8, [.ref t0, .ref u0, .ref k0])), (t0, .inr (6, [.ref th, .ref ts, .ref tg, .ref td, .int 0, .ref tr, .int (-1), .int 0, .int 0, .int 0, .long 0, .int 0, .int 0])), (o0, .inl (g.2.1 6, 1, .inr (.inl fo)))]) (fun (r : Int32) (u : va_W) => r = 1 ∧ u = []) (fun E : String => False) := by
  intro sz
  refine vx_ofWH (cc := cL_numberOf) (maxL := 5) (ret := (Option.some Jvm.ClassFile.FieldType.int)) (hh := [((0 : Nat), (10 : Nat), (13 : Nat), (27 : Nat)), ((0 : Nat), (10 : Nat), (17 : Nat), (13 : Nat))]) (by decide) rfl ?_
  intro p e s m args below meth c s₁ B hml hv
  obtain ⟨rfl, hsz, hP, hK, hD0, hT0⟩ := hv
  have hx := B.exec
  have hb := B.bytes
  have hr := B.returns
  have hts := atoms_spec (ws := (wH yL_numberOf cL_numberOf 5 (Option.some Jvm.ClassFile.FieldType.int) [((0 : Nat), (10 : Nat), (13 : Nat), (27 : Nat)), ((0 : Nat), (10 : Nat), (17 : Nat), (13 : Nat))])) B.pre
  have htg : ∀ w ∈ G9, w.before _ s = true := fun w h => hts w (List.mem_cons_of_mem _ h)
  have hown : s.vm.findClass "HeroTableLaw" = some m.cls := findClass_of_methodNamed B.named
  have hlocks := B.notSynchronized
  subst hsz
  have hD := hD0.self (sz := s.heap.size)
  have hT := hT0
  clear hT0
  generalize hAe : va_A [(x0, .inr (8, [.ref t0, .ref u0, .ref k0])), (t0, .inr (6, [.ref th, .ref ts, .ref tg, .ref td, .int 0, .ref tr, .int (-1), .int 0, .int 0, .int 0, .long 0, .int 0, .int 0])), (o0, .inl (g.2.1 6, 1, .inr (.inl fo)))] s.heap.size = A at hD hT ⊢
  have hA : ∀ q : Nat, s.heap.size ≤ q → A q := fun q h => by rw [← hAe]; exact Or.inr h
  obtain ⟨H, hH0⟩ : ∃ H, H = s.heap := ⟨_, rfl⟩
  have hS : va_S A s.heap H [] := by rw [hH0]; exact va_S.rf
  have hP : va_P g.1 CLS [(x0, .inr (8, [.ref t0, .ref u0, .ref k0])), (t0, .inr (6, [.ref th, .ref ts, .ref tg, .ref td, .int 0, .ref tr, .int (-1), .int 0, .int 0, .int 0, .long 0, .int 0, .int 0])), (o0, .inl (g.2.1 6, 1, .inr (.inl fo)))] H := by rw [hH0]; exact hP
  rw [← hH0]
  have hl := lv_entry ([.ref x0, .int n1, .int n2, .ref o0]) (n := 5) (Nat.le_of_ble_eq_true rfl)
  rw [lg_entry_eq]
  generalize (lg_sl ([.ref x0, .int n1, .int n2, .ref o0]) ++ List.replicate (5 - (lg_sl ([.ref x0, .int n1, .int n2, .ref o0])).length) Slot.unset).toArray = ls at hl ⊢
  have hl : lv_has ls 5 [(0, .ref x0), (1, .int n1), (2, .int n2), (3, .ref o0)] := hl
  refine lv_aload_n hx hb dL_numberOf_0 rfl (lv_at hl 3 rfl) ?_
  refine lv_iconst (v := 0) hx hb dL_numberOf_1 (by decide) ?_
  refine lv_aload_n hx hb dL_numberOf_2 rfl (lv_at hl 0 rfl) ?_
  refine lv_iload_n hx hb dL_numberOf_3 rfl (lv_at hl 1 rfl) ?_
  refine lv_iload_n hx hb dL_numberOf_4 rfl (lv_at hl 2 rfl) ?_
  have hPc := hP.sub (ws' := [(x0, .inr (8, [.ref t0, .ref u0, .ref k0])), (t0, .inr (6, [.ref th, .ref ts, .ref tg, .ref td, .int 0, .ref tr, .int (-1), .int 0, .int 0, .int 0, .long 0, .int 0, .int 0]))]) [0, 1] rfl
  have hDc := hD.sub (ws' := [(x0, .inr (8, [.ref t0, .ref u0, .ref k0])), (t0, .inr (6, [.ref th, .ref ts, .ref tg, .ref td, .int 0, .ref tr, .int (-1), .int 0, .int 0, .int 0, .long 0, .int 0, .int 0]))]) [0, 1] (by decide) rfl
  have hFc := va_free (wc := [(x0, .inr (8, [.ref t0, .ref u0, .ref k0])), (t0, .inr (6, [.ref th, .ref ts, .ref tg, .ref td, .int 0, .ref tr, .int (-1), .int 0, .int 0, .int 0, .long 0, .int 0, .int 0]))]) hD hS hA [0, 1] rfl
  refine q_xi (wr := [(o0, .inl (g.2.1 6, 1, .inr (.inl fo)))]) (vx_runV (As := [.int n1, .int n2]) (rest := [.int 0, .ref o0]) ⟨hx, hb, hml, hown, htg⟩ (c_X7_numberOf l hfl g x0 t0 th ts tg td tr u0 k0 n1 n2  H.size) ⟨(qB htg k1111 k50 k1108 ok_X7_numberOf rfl rfl ⟨Nat.le_of_ble_eq_true rfl, Nat.le_of_ble_eq_true rfl⟩), htg _ k1109, htg _ k1110⟩ ⟨(q_pre [.ref x0, .int n1, .int n2] hPc hDc hK hS hT hFc).1, va_recv hK hP (ci := 8) (q0 := 0) rfl rfl, (q_pre [.ref x0, .int n1, .int n2] hPc hDc hK hS hT hFc).2⟩ rfl rfl hl.1 rfl (lv_room (Nat.le_of_ble_eq_true rfl)) dL_numberOf_5 ⟨Nat.le_of_ble_eq_true rfl, Nat.le_of_ble_eq_true rfl⟩) hP hD hS hFc [0, 1] [2] rfl rfl (by decide) (by decide) (fun E9 ce9 q9 H locs hpx hP hD hS hq1 hq2 hq3 => ?_) (fun r9 u9 H locs hw hP hD hS => ?_)
  · rcases hpx with rfl
    refine vx_catch hown [] ⟨0, 10, 13, 27⟩ [⟨0, 10, 17, 13⟩] ((vx_table (x := yL_numberOf) B (hts _ List.mem_cons_self)).trans rfl) (fun z hz => nomatch hz) (by decide) (by decide) (htg _ k984) (va_Nw.use rfl hT.1.2.2.2.2.1.1) hq1 hq2 hq3 ?_
    refine W.widen (k := 1) (n := 6) (Nat.le_of_ble_eq_true rfl) (Nat.le_of_ble_eq_true rfl) ?_
    refine lv_astore (lv' := [(4, .ref q9), (0, .ref x0), (1, .int n1), (2, .int n2), (3, .ref o0)]) hx hb dL_numberOf_13 hl (by decide) rfl (fun ls hl => ?_)
    refine lv_iconst (v := 1) hx hb dL_numberOf_15 (by decide) ?_
    have hP9 := hP.sub (ws' := []) [] rfl
    have hD9 := hD.sub (ws' := []) [] (by decide) rfl
    refine W.widen (k := 1) (n := 6) (Nat.le_of_ble_eq_true rfl) (Nat.le_of_ble_eq_true rfl) ?_
    refine vx_ret ?_
    exact W.iret (v := 1) hx hb hr (fun t ht hW => ⟨⟨1, [], rfl, ⟨rfl, rfl⟩, by rw [ht]; exact hP9, va_K.moved hW.alike hK, hD9⟩, hS.F ht⟩) hS.2.2 dL_numberOf_16
  · exact hw.elim

set_option maxHeartbeats 4000000 in
set_option maxRecDepth 100000 in
theorem c_w_numberAnew (l : Launch) (hfl : l.stackTraces = false) (g : GP) (x0 : Nat) (t0 : Nat) (th : Nat) (ts : Nat) (tg : Nat) (td : Nat) (tr : Nat) (u0 : Nat) (k0 : Nat) (n1 : Int32) (n2 : Int32) (o0 : Nat) (fo : Nat → Int64)  : XI l yL_numberAnew (wH yL_numberAnew cL_numberAnew 5 (Option.some Jvm.ClassFile.FieldType.int) [((0 : Nat), (10 : Nat), (13 : Nat), (27 : Nat)), ((0 : Nat), (10 : Nat), (17 : Nat), (13 : Nat))]) (LV 8 1 6) g [.ref x0, .int n1, .int n2, .ref o0] ([(x0, .inr (8, [.ref t0, .ref u0, .ref k0])), (t0, .inr (6, [.ref th, .ref ts, .ref tg, .ref td, .int 0, .ref tr, .int (-1), .int 0, .int 0, .int 0, .long 0, .int 0, .int 0])), (o0, .inl (g.2.1 6, 1, .inr (.inl fo)))]) (fun (r : Int32) (u : va_W) => r = 1 ∧ u = []) (fun E : String => False) := by
  intro sz
  refine vx_ofWH (cc := cL_numberAnew) (maxL := 5) (ret := (Option.some Jvm.ClassFile.FieldType.int)) (hh := [((0 : Nat), (10 : Nat), (13 : Nat), (27 : Nat)), ((0 : Nat), (10 : Nat), (17 : Nat), (13 : Nat))]) (by decide) rfl ?_
  intro p e s m args below meth c s₁ B hml hv
  obtain ⟨rfl, hsz, hP, hK, hD0, hT0⟩ := hv
  have hx := B.exec
  have hb := B.bytes
  have hr := B.returns
  have hts := atoms_spec (ws := (wH yL_numberAnew cL_numberAnew 5 (Option.some Jvm.ClassFile.FieldType.int) [((0 : Nat), (10 : Nat), (13 : Nat), (27 : Nat)), ((0 : Nat), (10 : Nat), (17 : Nat), (13 : Nat))])) B.pre
  have htg : ∀ w ∈ G9, w.before _ s = true := fun w h => hts w (List.mem_cons_of_mem _ h)
  have hown : s.vm.findClass "HeroTableLaw" = some m.cls := findClass_of_methodNamed B.named
  have hlocks := B.notSynchronized
  subst hsz
  have hD := hD0.self (sz := s.heap.size)
  have hT := hT0
  clear hT0
  generalize hAe : va_A [(x0, .inr (8, [.ref t0, .ref u0, .ref k0])), (t0, .inr (6, [.ref th, .ref ts, .ref tg, .ref td, .int 0, .ref tr, .int (-1), .int 0, .int 0, .int 0, .long 0, .int 0, .int 0])), (o0, .inl (g.2.1 6, 1, .inr (.inl fo)))] s.heap.size = A at hD hT ⊢
  have hA : ∀ q : Nat, s.heap.size ≤ q → A q := fun q h => by rw [← hAe]; exact Or.inr h
  obtain ⟨H, hH0⟩ : ∃ H, H = s.heap := ⟨_, rfl⟩
  have hS : va_S A s.heap H [] := by rw [hH0]; exact va_S.rf
  have hP : va_P g.1 CLS [(x0, .inr (8, [.ref t0, .ref u0, .ref k0])), (t0, .inr (6, [.ref th, .ref ts, .ref tg, .ref td, .int 0, .ref tr, .int (-1), .int 0, .int 0, .int 0, .long 0, .int 0, .int 0])), (o0, .inl (g.2.1 6, 1, .inr (.inl fo)))] H := by rw [hH0]; exact hP
  rw [← hH0]
  have hl := lv_entry ([.ref x0, .int n1, .int n2, .ref o0]) (n := 5) (Nat.le_of_ble_eq_true rfl)
  rw [lg_entry_eq]
  generalize (lg_sl ([.ref x0, .int n1, .int n2, .ref o0]) ++ List.replicate (5 - (lg_sl ([.ref x0, .int n1, .int n2, .ref o0])).length) Slot.unset).toArray = ls at hl ⊢
  have hl : lv_has ls 5 [(0, .ref x0), (1, .int n1), (2, .int n2), (3, .ref o0)] := hl
  refine lv_aload_n hx hb dL_numberAnew_0 rfl (lv_at hl 3 rfl) ?_
  refine lv_iconst (v := 0) hx hb dL_numberAnew_1 (by decide) ?_
  refine lv_aload_n hx hb dL_numberAnew_2 rfl (lv_at hl 0 rfl) ?_
  refine lv_iload_n hx hb dL_numberAnew_3 rfl (lv_at hl 1 rfl) ?_
  refine lv_iload_n hx hb dL_numberAnew_4 rfl (lv_at hl 2 rfl) ?_
  have hPc := hP.sub (ws' := [(x0, .inr (8, [.ref t0, .ref u0, .ref k0])), (t0, .inr (6, [.ref th, .ref ts, .ref tg, .ref td, .int 0, .ref tr, .int (-1), .int 0, .int 0, .int 0, .long 0, .int 0, .int 0]))]) [0, 1] rfl
  have hDc := hD.sub (ws' := [(x0, .inr (8, [.ref t0, .ref u0, .ref k0])), (t0, .inr (6, [.ref th, .ref ts, .ref tg, .ref td, .int 0, .ref tr, .int (-1), .int 0, .int 0, .int 0, .long 0, .int 0, .int 0]))]) [0, 1] (by decide) rfl
  have hFc := va_free (wc := [(x0, .inr (8, [.ref t0, .ref u0, .ref k0])), (t0, .inr (6, [.ref th, .ref ts, .ref tg, .ref td, .int 0, .ref tr, .int (-1), .int 0, .int 0, .int 0, .long 0, .int 0, .int 0]))]) hD hS hA [0, 1] rfl
  refine q_xi (wr := [(o0, .inl (g.2.1 6, 1, .inr (.inl fo)))]) (vx_runV (As := [.int n1, .int n2]) (rest := [.int 0, .ref o0]) ⟨hx, hb, hml, hown, htg⟩ (c_X7_numberAnew l hfl g x0 t0 th ts tg td tr u0 k0 n1 n2  H.size) ⟨(qB htg k1125 k50 k1122 ok_X7_numberAnew rfl rfl ⟨Nat.le_of_ble_eq_true rfl, Nat.le_of_ble_eq_true rfl⟩), htg _ k1123, htg _ k1124⟩ ⟨(q_pre [.ref x0, .int n1, .int n2] hPc hDc hK hS hT hFc).1, va_recv hK hP (ci := 8) (q0 := 0) rfl rfl, (q_pre [.ref x0, .int n1, .int n2] hPc hDc hK hS hT hFc).2⟩ rfl rfl hl.1 rfl (lv_room (Nat.le_of_ble_eq_true rfl)) dL_numberAnew_5 ⟨Nat.le_of_ble_eq_true rfl, Nat.le_of_ble_eq_true rfl⟩) hP hD hS hFc [0, 1] [2] rfl rfl (by decide) (by decide) (fun E9 ce9 q9 H locs hpx hP hD hS hq1 hq2 hq3 => ?_) (fun r9 u9 H locs hw hP hD hS => ?_)
  · rcases hpx with rfl
    refine vx_catch hown [] ⟨0, 10, 13, 27⟩ [⟨0, 10, 17, 13⟩] ((vx_table (x := yL_numberAnew) B (hts _ List.mem_cons_self)).trans rfl) (fun z hz => nomatch hz) (by decide) (by decide) (htg _ k984) (va_Nw.use rfl hT.1.2.2.2.2.1.1) hq1 hq2 hq3 ?_
    refine W.widen (k := 1) (n := 6) (Nat.le_of_ble_eq_true rfl) (Nat.le_of_ble_eq_true rfl) ?_
    refine lv_astore (lv' := [(4, .ref q9), (0, .ref x0), (1, .int n1), (2, .int n2), (3, .ref o0)]) hx hb dL_numberAnew_13 hl (by decide) rfl (fun ls hl => ?_)
    refine lv_iconst (v := 1) hx hb dL_numberAnew_15 (by decide) ?_
    have hP9 := hP.sub (ws' := []) [] rfl
    have hD9 := hD.sub (ws' := []) [] (by decide) rfl
    refine W.widen (k := 1) (n := 6) (Nat.le_of_ble_eq_true rfl) (Nat.le_of_ble_eq_true rfl) ?_
    refine vx_ret ?_
    exact W.iret (v := 1) hx hb hr (fun t ht hW => ⟨⟨1, [], rfl, ⟨rfl, rfl⟩, by rw [ht]; exact hP9, va_K.moved hW.alike hK, hD9⟩, hS.F ht⟩) hS.2.2 dL_numberAnew_16
  · exact hw.elim

set_option maxHeartbeats 4000000 in
set_option maxRecDepth 100000 in
theorem c_w_has (l : Launch) (hfl : l.stackTraces = false) (g : GP) (x0 : Nat) (t0 : Nat) (th : Nat) (ts : Nat) (tg : Nat) (td : Nat) (tr : Nat) (u0 : Nat) (k0 : Nat) (n1 : Int32) (n2 : Int32) (o0 : Nat) (fo : Nat → Int64)  : XI l yL_has (wH yL_has cL_has 5 (Option.some Jvm.ClassFile.FieldType.int) [((0 : Nat), (17 : Nat), (20 : Nat), (27 : Nat)), ((0 : Nat), (17 : Nat), (24 : Nat), (13 : Nat))]) (LV 8 1 6) g [.ref x0, .int n1, .int n2, .ref o0] ([(x0, .inr (8, [.ref t0, .ref u0, .ref k0])), (t0, .inr (6, [.ref th, .ref ts, .ref tg, .ref td, .int 0, .ref tr, .int (-1), .int 0, .int 0, .int 0, .long 0, .int 0, .int 0])), (o0, .inl (g.2.1 6, 1, .inr (.inl fo)))]) (fun (r : Int32) (u : va_W) => r = 1 ∧ u = []) (fun E : String => False) := by
  intro sz
  refine vx_ofWH (cc := cL_has) (maxL := 5) (ret := (Option.some Jvm.ClassFile.FieldType.int)) (hh := [((0 : Nat), (17 : Nat), (20 : Nat), (27 : Nat)), ((0 : Nat), (17 : Nat), (24 : Nat), (13 : Nat))]) (by decide) rfl ?_
  intro p e s m args below meth c s₁ B hml hv
  obtain ⟨rfl, hsz, hP, hK, hD0, hT0⟩ := hv
  have hx := B.exec
  have hb := B.bytes
  have hr := B.returns
  have hts := atoms_spec (ws := (wH yL_has cL_has 5 (Option.some Jvm.ClassFile.FieldType.int) [((0 : Nat), (17 : Nat), (20 : Nat), (27 : Nat)), ((0 : Nat), (17 : Nat), (24 : Nat), (13 : Nat))])) B.pre
  have htg : ∀ w ∈ G9, w.before _ s = true := fun w h => hts w (List.mem_cons_of_mem _ h)
  have hown : s.vm.findClass "HeroTableLaw" = some m.cls := findClass_of_methodNamed B.named
  have hlocks := B.notSynchronized
  subst hsz
  have hD := hD0.self (sz := s.heap.size)
  have hT := hT0
  clear hT0
  generalize hAe : va_A [(x0, .inr (8, [.ref t0, .ref u0, .ref k0])), (t0, .inr (6, [.ref th, .ref ts, .ref tg, .ref td, .int 0, .ref tr, .int (-1), .int 0, .int 0, .int 0, .long 0, .int 0, .int 0])), (o0, .inl (g.2.1 6, 1, .inr (.inl fo)))] s.heap.size = A at hD hT ⊢
  have hA : ∀ q : Nat, s.heap.size ≤ q → A q := fun q h => by rw [← hAe]; exact Or.inr h
  obtain ⟨H, hH0⟩ : ∃ H, H = s.heap := ⟨_, rfl⟩
  have hS : va_S A s.heap H [] := by rw [hH0]; exact va_S.rf
  have hP : va_P g.1 CLS [(x0, .inr (8, [.ref t0, .ref u0, .ref k0])), (t0, .inr (6, [.ref th, .ref ts, .ref tg, .ref td, .int 0, .ref tr, .int (-1), .int 0, .int 0, .int 0, .long 0, .int 0, .int 0])), (o0, .inl (g.2.1 6, 1, .inr (.inl fo)))] H := by rw [hH0]; exact hP
  rw [← hH0]
  have hl := lv_entry ([.ref x0, .int n1, .int n2, .ref o0]) (n := 5) (Nat.le_of_ble_eq_true rfl)
  rw [lg_entry_eq]
  generalize (lg_sl ([.ref x0, .int n1, .int n2, .ref o0]) ++ List.replicate (5 - (lg_sl ([.ref x0, .int n1, .int n2, .ref o0])).length) Slot.unset).toArray = ls at hl ⊢
  have hl : lv_has ls 5 [(0, .ref x0), (1, .int n1), (2, .int n2), (3, .ref o0)] := hl
  refine lv_aload_n hx hb dL_has_0 rfl (lv_at hl 3 rfl) ?_
  refine lv_iconst (v := 0) hx hb dL_has_1 (by decide) ?_
  refine lv_aload_n hx hb dL_has_2 rfl (lv_at hl 0 rfl) ?_
  refine lv_iload_n hx hb dL_has_3 rfl (lv_at hl 1 rfl) ?_
  refine lv_iload_n hx hb dL_has_4 rfl (lv_at hl 2 rfl) ?_
  have hPc := hP.sub (ws' := [(x0, .inr (8, [.ref t0, .ref u0, .ref k0])), (t0, .inr (6, [.ref th, .ref ts, .ref tg, .ref td, .int 0, .ref tr, .int (-1), .int 0, .int 0, .int 0, .long 0, .int 0, .int 0]))]) [0, 1] rfl
  have hDc := hD.sub (ws' := [(x0, .inr (8, [.ref t0, .ref u0, .ref k0])), (t0, .inr (6, [.ref th, .ref ts, .ref tg, .ref td, .int 0, .ref tr, .int (-1), .int 0, .int 0, .int 0, .long 0, .int 0, .int 0]))]) [0, 1] (by decide) rfl
  have hFc := va_free (wc := [(x0, .inr (8, [.ref t0, .ref u0, .ref k0])), (t0, .inr (6, [.ref th, .ref ts, .ref tg, .ref td, .int 0, .ref tr, .int (-1), .int 0, .int 0, .int 0, .long 0, .int 0, .int 0]))]) hD hS hA [0, 1] rfl
  refine q_xi (wr := [(o0, .inl (g.2.1 6, 1, .inr (.inl fo)))]) (vx_runV (As := [.int n1, .int n2]) (rest := [.int 0, .ref o0]) ⟨hx, hb, hml, hown, htg⟩ (c_X7_has l hfl g x0 t0 th ts tg td tr u0 k0 n1 n2  H.size) ⟨(qB htg k1133 k50 k1130 ok_X7_has rfl rfl ⟨Nat.le_of_ble_eq_true rfl, Nat.le_of_ble_eq_true rfl⟩), htg _ k1131, htg _ k1132⟩ ⟨(q_pre [.ref x0, .int n1, .int n2] hPc hDc hK hS hT hFc).1, va_recv hK hP (ci := 8) (q0 := 0) rfl rfl, (q_pre [.ref x0, .int n1, .int n2] hPc hDc hK hS hT hFc).2⟩ rfl rfl hl.1 rfl (lv_room (Nat.le_of_ble_eq_true rfl)) dL_has_5 ⟨Nat.le_of_ble_eq_true rfl, Nat.le_of_ble_eq_true rfl⟩) hP hD hS hFc [0, 1] [2] rfl rfl (by decide) (by decide) (fun E9 ce9 q9 H locs hpx hP hD hS hq1 hq2 hq3 => ?_) (fun r9 u9 H locs hw hP hD hS => ?_)
  · rcases hpx with rfl
    refine vx_catch hown [] ⟨0, 17, 20, 27⟩ [⟨0, 17, 24, 13⟩] ((vx_table (x := yL_has) B (hts _ List.mem_cons_self)).trans rfl) (fun z hz => nomatch hz) (by decide) (by decide) (htg _ k984) (va_Nw.use rfl hT.1.2.2.2.2.1.1) hq1 hq2 hq3 ?_
    refine W.widen (k := 1) (n := 6) (Nat.le_of_ble_eq_true rfl) (Nat.le_of_ble_eq_true rfl) ?_
    refine lv_astore (lv' := [(4, .ref q9), (0, .ref x0), (1, .int n1), (2, .int n2), (3, .ref o0)]) hx hb dL_has_20 hl (by decide) rfl (fun ls hl => ?_)
    refine lv_iconst (v := 1) hx hb dL_has_22 (by decide) ?_
    have hP9 := hP.sub (ws' := []) [] rfl
    have hD9 := hD.sub (ws' := []) [] (by decide) rfl
    refine W.widen (k := 1) (n := 6) (Nat.le_of_ble_eq_true rfl) (Nat.le_of_ble_eq_true rfl) ?_
    refine vx_ret ?_
    exact W.iret (v := 1) hx hb hr (fun t ht hW => ⟨⟨1, [], rfl, ⟨rfl, rfl⟩, by rw [ht]; exact hP9, va_K.moved hW.alike hK, hD9⟩, hS.F ht⟩) hS.2.2 dL_has_23
  · exact hw.elim

set_option maxHeartbeats 4000000 in
set_option maxRecDepth 100000 in
theorem c_w_tellDie (l : Launch) (hfl : l.stackTraces = false) (g : GP) (x0 : Nat) (t0 : Nat) (th : Nat) (ts : Nat) (tg : Nat) (td : Nat) (tr : Nat) (u0 : Nat) (k0 : Nat) (tv : Nat) (fv : Nat → Int32) (kr : Nat) (fk : Nat → Int32) (n1 : Int32) (o0 : Nat) (fo : Nat → Int64)  : XI l yL_tellDie (wH yL_tellDie cL_tellDie 4 (Option.some Jvm.ClassFile.FieldType.int) [((0 : Nat), (9 : Nat), (12 : Nat), (13 : Nat))]) (LV 8 1 6) g [.ref x0, .int n1, .ref o0] ([(x0, .inr (8, [.ref t0, .ref u0, .ref k0])), (t0, .inr (6, [.ref th, .ref ts, .ref tg, .ref td, .int 0, .ref tr, .int (-1), .int 0, .int 0, .int 0, .long 0, .int 0, .int 0])), (td, .inr (2, [.ref tv, .int 0, .int 0])), (tv, .inl (g.2.1 1, 16, .inl fv)), (k0, .inr (7, [.ref kr, .int 0])), (kr, .inl (g.2.1 1, 128, .inl fk)), (o0, .inl (g.2.1 6, 1, .inr (.inl fo)))]) (fun (r : Int32) (u : va_W) => ((¬ okDie n1) ∧ r = 1 ∧ u = []) ∨ ((okDie n1) ∧ r = 0 ∧ u = [(o0, .inl (g.2.1 6, 1, .inr (.inl (vp_updL fo 0 1))))])) (fun E : String => False) := by
  intro sz
  refine vx_ofWH (cc := cL_tellDie) (maxL := 4) (ret := (Option.some Jvm.ClassFile.FieldType.int)) (hh := [((0 : Nat), (9 : Nat), (12 : Nat), (13 : Nat))]) (by decide) rfl ?_
  intro p e s m args below meth c s₁ B hml hv
  obtain ⟨rfl, hsz, hP, hK, hD0, hT0⟩ := hv
  have hx := B.exec
  have hb := B.bytes
  have hr := B.returns
  have hts := atoms_spec (ws := (wH yL_tellDie cL_tellDie 4 (Option.some Jvm.ClassFile.FieldType.int) [((0 : Nat), (9 : Nat), (12 : Nat), (13 : Nat))])) B.pre
  have htg : ∀ w ∈ G9, w.before _ s = true := fun w h => hts w (List.mem_cons_of_mem _ h)
  have hown : s.vm.findClass "HeroTableLaw" = some m.cls := findClass_of_methodNamed B.named
  have hlocks := B.notSynchronized
  subst hsz
  have hD := hD0.self (sz := s.heap.size)
  have hT := hT0
  clear hT0
  generalize hAe : va_A [(x0, .inr (8, [.ref t0, .ref u0, .ref k0])), (t0, .inr (6, [.ref th, .ref ts, .ref tg, .ref td, .int 0, .ref tr, .int (-1), .int 0, .int 0, .int 0, .long 0, .int 0, .int 0])), (td, .inr (2, [.ref tv, .int 0, .int 0])), (tv, .inl (g.2.1 1, 16, .inl fv)), (k0, .inr (7, [.ref kr, .int 0])), (kr, .inl (g.2.1 1, 128, .inl fk)), (o0, .inl (g.2.1 6, 1, .inr (.inl fo)))] s.heap.size = A at hD hT ⊢
  have hA : ∀ q : Nat, s.heap.size ≤ q → A q := fun q h => by rw [← hAe]; exact Or.inr h
  obtain ⟨H, hH0⟩ : ∃ H, H = s.heap := ⟨_, rfl⟩
  have hS : va_S A s.heap H [] := by rw [hH0]; exact va_S.rf
  have hP : va_P g.1 CLS [(x0, .inr (8, [.ref t0, .ref u0, .ref k0])), (t0, .inr (6, [.ref th, .ref ts, .ref tg, .ref td, .int 0, .ref tr, .int (-1), .int 0, .int 0, .int 0, .long 0, .int 0, .int 0])), (td, .inr (2, [.ref tv, .int 0, .int 0])), (tv, .inl (g.2.1 1, 16, .inl fv)), (k0, .inr (7, [.ref kr, .int 0])), (kr, .inl (g.2.1 1, 128, .inl fk)), (o0, .inl (g.2.1 6, 1, .inr (.inl fo)))] H := by rw [hH0]; exact hP
  rw [← hH0]
  have hl := lv_entry ([.ref x0, .int n1, .ref o0]) (n := 4) (Nat.le_of_ble_eq_true rfl)
  rw [lg_entry_eq]
  generalize (lg_sl ([.ref x0, .int n1, .ref o0]) ++ List.replicate (4 - (lg_sl ([.ref x0, .int n1, .ref o0])).length) Slot.unset).toArray = ls at hl ⊢
  have hl : lv_has ls 4 [(0, .ref x0), (1, .int n1), (2, .ref o0)] := hl
  refine lv_aload_n hx hb dL_tellDie_0 rfl (lv_at hl 2 rfl) ?_
  refine lv_iconst (v := 0) hx hb dL_tellDie_1 (by decide) ?_
  refine lv_aload_n hx hb dL_tellDie_2 rfl (lv_at hl 0 rfl) ?_
  refine lv_iload_n hx hb dL_tellDie_3 rfl (lv_at hl 1 rfl) ?_
  have hPc := hP.sub (ws' := [(x0, .inr (8, [.ref t0, .ref u0, .ref k0])), (t0, .inr (6, [.ref th, .ref ts, .ref tg, .ref td, .int 0, .ref tr, .int (-1), .int 0, .int 0, .int 0, .long 0, .int 0, .int 0])), (td, .inr (2, [.ref tv, .int 0, .int 0])), (tv, .inl (g.2.1 1, 16, .inl fv)), (k0, .inr (7, [.ref kr, .int 0])), (kr, .inl (g.2.1 1, 128, .inl fk))]) [0, 1, 2, 3, 4, 5] rfl
  have hDc := hD.sub (ws' := [(x0, .inr (8, [.ref t0, .ref u0, .ref k0])), (t0, .inr (6, [.ref th, .ref ts, .ref tg, .ref td, .int 0, .ref tr, .int (-1), .int 0, .int 0, .int 0, .long 0, .int 0, .int 0])), (td, .inr (2, [.ref tv, .int 0, .int 0])), (tv, .inl (g.2.1 1, 16, .inl fv)), (k0, .inr (7, [.ref kr, .int 0])), (kr, .inl (g.2.1 1, 128, .inl fk))]) [0, 1, 2, 3, 4, 5] (by decide) rfl
  have hFc := va_free (wc := [(x0, .inr (8, [.ref t0, .ref u0, .ref k0])), (t0, .inr (6, [.ref th, .ref ts, .ref tg, .ref td, .int 0, .ref tr, .int (-1), .int 0, .int 0, .int 0, .long 0, .int 0, .int 0])), (td, .inr (2, [.ref tv, .int 0, .int 0])), (tv, .inl (g.2.1 1, 16, .inl fv)), (k0, .inr (7, [.ref kr, .int 0])), (kr, .inl (g.2.1 1, 128, .inl fk))]) hD hS hA [0, 1, 2, 3, 4, 5] rfl
  refine q_xi (wr := [(o0, .inl (g.2.1 6, 1, .inr (.inl fo)))]) (vx_runV (As := [.int n1]) (rest := [.int 0, .ref o0]) ⟨hx, hb, hml, hown, htg⟩ (c_X7_tellDie l hfl g x0 t0 th ts tg td tr u0 k0 tv fv kr fk n1  H.size) ⟨(qB htg k1142 k50 k1139 ok_X7_tellDie rfl rfl ⟨Nat.le_of_ble_eq_true rfl, Nat.le_of_ble_eq_true rfl⟩), htg _ k1140, htg _ k1141⟩ ⟨(q_pre [.ref x0, .int n1] hPc hDc hK hS hT hFc).1, va_recv hK hP (ci := 8) (q0 := 0) rfl rfl, (q_pre [.ref x0, .int n1] hPc hDc hK hS hT hFc).2⟩ rfl rfl hl.1 rfl (lv_room (Nat.le_of_ble_eq_true rfl)) dL_tellDie_4 ⟨Nat.le_of_ble_eq_true rfl, Nat.le_of_ble_eq_true rfl⟩) hP hD hS hFc [0, 1, 2, 3, 4, 5] [6] rfl rfl (by decide) (by decide) (fun E9 ce9 q9 H locs hpx hP hD hS hq1 hq2 hq3 => ?_) (fun r9 u9 H locs hw hP hD hS => ?_)
  · rcases hpx with ⟨rfl, c_1⟩
    refine vx_catch hown [] ⟨0, 9, 12, 13⟩ [] ((vx_table (x := yL_tellDie) B (hts _ List.mem_cons_self)).trans rfl) (fun z hz => nomatch hz) (by decide) (by decide) (htg _ k817) (va_Nw.use rfl hT.1.2.2.2.2.1.2.1) hq1 hq2 hq3 ?_
    refine W.widen (k := 1) (n := 6) (Nat.le_of_ble_eq_true rfl) (Nat.le_of_ble_eq_true rfl) ?_
    refine lv_astore_n (lv' := [(3, .ref q9), (0, .ref x0), (1, .int n1), (2, .ref o0)]) hx hb dL_tellDie_12 rfl hl (by decide) rfl (fun ls hl => ?_)
    refine lv_iconst (v := 1) hx hb dL_tellDie_13 (by decide) ?_
    have hP9 := hP.sub (ws' := []) [] rfl
    have hD9 := hD.sub (ws' := []) [] (by decide) rfl
    refine W.widen (k := 1) (n := 6) (Nat.le_of_ble_eq_true rfl) (Nat.le_of_ble_eq_true rfl) ?_
    refine vx_ret ?_
    exact W.iret (v := 1) hx hb hr (fun t ht hW => ⟨⟨1, [], rfl, Or.inl ⟨c_1, rfl, rfl⟩, by rw [ht]; exact hP9, va_K.moved hW.alike hK, hD9⟩, hS.F ht⟩) hS.2.2 dL_tellDie_14
  · try dsimp only at hw
    rcases hw with ⟨c_2, rfl, rfl⟩
    have hP : va_P g.1 CLS [(o0, .inl (g.2.1 6, 1, .inr (.inl fo)))] H := hP
    have hD : va_D A [(o0, .inl (g.2.1 6, 1, .inr (.inl fo)))] := hD
    refine W.widen (k := 1) (n := 6) (Nat.le_of_ble_eq_true rfl) (Nat.le_of_ble_eq_true rfl) ?_
    refine lv_i2l (v := 1) hx hb dL_tellDie_7 (by decide) ?_
    refine va_last hx hb hK hP hD hS 0 6 rfl rfl (i := 0) (vp_in_iff.mpr (by decide)) dL_tellDie_8 (fun H locs hP hD hS => ?_)
    have hP : va_P g.1 CLS [(o0, .inl (g.2.1 6, 1, .inr (.inl (vp_updL fo 0 1))))] H := hP
    have hD : va_D A [(o0, .inl (g.2.1 6, 1, .inr (.inl (vp_updL fo 0 1))))] := hD
    refine lv_goto (tgt := 15) hx hb dL_tellDie_9 (by decide) ?_
    refine lv_iconst (v := 0) hx hb dL_tellDie_15 (by decide) ?_
    have hP9 := hP.sub (ws' := [(o0, .inl (g.2.1 6, 1, .inr (.inl (vp_updL fo 0 1))))]) [0] rfl
    have hD9 := hD.sub (ws' := [(o0, .inl (g.2.1 6, 1, .inr (.inl (vp_updL fo 0 1))))]) [0] (by decide) rfl
    refine W.widen (k := 1) (n := 6) (Nat.le_of_ble_eq_true rfl) (Nat.le_of_ble_eq_true rfl) ?_
    refine vx_ret ?_
    exact W.iret (v := 0) hx hb hr (fun t ht hW => ⟨⟨0, [(o0, .inl (g.2.1 6, 1, .inr (.inl (vp_updL fo 0 1))))], rfl, Or.inr (⟨c_2, rfl, rfl⟩), by rw [ht]; exact hP9, va_K.moved hW.alike hK, hD9⟩, hS.F ht⟩) hS.2.2 dL_tellDie_16

set_option maxHeartbeats 4000000 in
set_option maxRecDepth 100000 in
theorem c_w_begin (l : Launch) (hfl : l.stackTraces = false) (g : GP) (x0 : Nat) (t0 : Nat) (th : Nat) (ts : Nat) (tg : Nat) (td : Nat) (tr : Nat) (u0 : Nat) (k0 : Nat) (o0 : Nat) (fo : Nat → Int64)  : XI l yL_begin (wH yL_begin cL_begin 3 (Option.some Jvm.ClassFile.FieldType.int) [((0 : Nat), (8 : Nat), (11 : Nat), (87 : Nat)), ((0 : Nat), (8 : Nat), (14 : Nat), (15 : Nat))]) (LV 8 1 6) g [.ref x0, .ref o0] ([(x0, .inr (8, [.ref t0, .ref u0, .ref k0])), (t0, .inr (6, [.ref th, .ref ts, .ref tg, .ref td, .int 0, .ref tr, .int (-1), .int 0, .int 0, .int 0, .long 0, .int 0, .int 0])), (o0, .inl (g.2.1 6, 1, .inr (.inl fo)))]) (fun (r : Int32) (u : va_W) => r = 1 ∧ u = []) (fun E : String => False) := by
  intro sz
  refine vx_ofWH (cc := cL_begin) (maxL := 3) (ret := (Option.some Jvm.ClassFile.FieldType.int)) (hh := [((0 : Nat), (8 : Nat), (11 : Nat), (87 : Nat)), ((0 : Nat), (8 : Nat), (14 : Nat), (15 : Nat))]) (by decide) rfl ?_
  intro p e s m args below meth c s₁ B hml hv
  obtain ⟨rfl, hsz, hP, hK, hD0, hT0⟩ := hv
  have hx := B.exec
  have hb := B.bytes
  have hr := B.returns
  have hts := atoms_spec (ws := (wH yL_begin cL_begin 3 (Option.some Jvm.ClassFile.FieldType.int) [((0 : Nat), (8 : Nat), (11 : Nat), (87 : Nat)), ((0 : Nat), (8 : Nat), (14 : Nat), (15 : Nat))])) B.pre
  have htg : ∀ w ∈ G9, w.before _ s = true := fun w h => hts w (List.mem_cons_of_mem _ h)
  have hown : s.vm.findClass "HeroTableLaw" = some m.cls := findClass_of_methodNamed B.named
  have hlocks := B.notSynchronized
  subst hsz
  have hD := hD0.self (sz := s.heap.size)
  have hT := hT0
  clear hT0
  generalize hAe : va_A [(x0, .inr (8, [.ref t0, .ref u0, .ref k0])), (t0, .inr (6, [.ref th, .ref ts, .ref tg, .ref td, .int 0, .ref tr, .int (-1), .int 0, .int 0, .int 0, .long 0, .int 0, .int 0])), (o0, .inl (g.2.1 6, 1, .inr (.inl fo)))] s.heap.size = A at hD hT ⊢
  have hA : ∀ q : Nat, s.heap.size ≤ q → A q := fun q h => by rw [← hAe]; exact Or.inr h
  obtain ⟨H, hH0⟩ : ∃ H, H = s.heap := ⟨_, rfl⟩
  have hS : va_S A s.heap H [] := by rw [hH0]; exact va_S.rf
  have hP : va_P g.1 CLS [(x0, .inr (8, [.ref t0, .ref u0, .ref k0])), (t0, .inr (6, [.ref th, .ref ts, .ref tg, .ref td, .int 0, .ref tr, .int (-1), .int 0, .int 0, .int 0, .long 0, .int 0, .int 0])), (o0, .inl (g.2.1 6, 1, .inr (.inl fo)))] H := by rw [hH0]; exact hP
  rw [← hH0]
  have hl := lv_entry ([.ref x0, .ref o0]) (n := 3) (Nat.le_of_ble_eq_true rfl)
  rw [lg_entry_eq]
  generalize (lg_sl ([.ref x0, .ref o0]) ++ List.replicate (3 - (lg_sl ([.ref x0, .ref o0])).length) Slot.unset).toArray = ls at hl ⊢
  have hl : lv_has ls 3 [(0, .ref x0), (1, .ref o0)] := hl
  refine lv_aload_n hx hb dL_begin_0 rfl (lv_at hl 1 rfl) ?_
  refine lv_iconst (v := 0) hx hb dL_begin_1 (by decide) ?_
  refine lv_aload_n hx hb dL_begin_2 rfl (lv_at hl 0 rfl) ?_
  have hPc := hP.sub (ws' := [(x0, .inr (8, [.ref t0, .ref u0, .ref k0])), (t0, .inr (6, [.ref th, .ref ts, .ref tg, .ref td, .int 0, .ref tr, .int (-1), .int 0, .int 0, .int 0, .long 0, .int 0, .int 0]))]) [0, 1] rfl
  have hDc := hD.sub (ws' := [(x0, .inr (8, [.ref t0, .ref u0, .ref k0])), (t0, .inr (6, [.ref th, .ref ts, .ref tg, .ref td, .int 0, .ref tr, .int (-1), .int 0, .int 0, .int 0, .long 0, .int 0, .int 0]))]) [0, 1] (by decide) rfl
  have hFc := va_free (wc := [(x0, .inr (8, [.ref t0, .ref u0, .ref k0])), (t0, .inr (6, [.ref th, .ref ts, .ref tg, .ref td, .int 0, .ref tr, .int (-1), .int 0, .int 0, .int 0, .long 0, .int 0, .int 0]))]) hD hS hA [0, 1] rfl
  refine q_xi (wr := [(o0, .inl (g.2.1 6, 1, .inr (.inl fo)))]) (vx_runV (As := []) (rest := [.int 0, .ref o0]) ⟨hx, hb, hml, hown, htg⟩ (c_X7_begin l hfl g x0 t0 th ts tg td tr u0 k0  H.size) ⟨(qB htg k1151 k50 k1148 ok_X7_begin rfl rfl ⟨Nat.le_of_ble_eq_true rfl, Nat.le_of_ble_eq_true rfl⟩), htg _ k1149, htg _ k1150⟩ ⟨(q_pre [.ref x0] hPc hDc hK hS hT hFc).1, va_recv hK hP (ci := 8) (q0 := 0) rfl rfl, (q_pre [.ref x0] hPc hDc hK hS hT hFc).2⟩ rfl rfl hl.1 rfl (lv_room (Nat.le_of_ble_eq_true rfl)) dL_begin_3 ⟨Nat.le_of_ble_eq_true rfl, Nat.le_of_ble_eq_true rfl⟩) hP hD hS hFc [0, 1] [2] rfl rfl (by decide) (by decide) (fun E9 ce9 q9 H locs hpx hP hD hS hq1 hq2 hq3 => ?_) (fun r9 u9 H locs hw hP hD hS => ?_)
  · rcases hpx with rfl
    refine vx_catch hown [] ⟨0, 8, 11, 87⟩ [⟨0, 8, 14, 15⟩] ((vx_table (x := yL_begin) B (hts _ List.mem_cons_self)).trans rfl) (fun z hz => nomatch hz) (by decide) (by decide) (htg _ k1147) (va_Nw.use rfl hT.1.2.2.2.2.1.2.2.2.1) hq1 hq2 hq3 ?_
    refine W.widen (k := 1) (n := 6) (Nat.le_of_ble_eq_true rfl) (Nat.le_of_ble_eq_true rfl) ?_
    refine lv_astore_n (lv' := [(2, .ref q9), (0, .ref x0), (1, .ref o0)]) hx hb dL_begin_11 rfl hl (by decide) rfl (fun ls hl => ?_)
    refine lv_iconst (v := 1) hx hb dL_begin_12 (by decide) ?_
    have hP9 := hP.sub (ws' := []) [] rfl
    have hD9 := hD.sub (ws' := []) [] (by decide) rfl
    refine W.widen (k := 1) (n := 6) (Nat.le_of_ble_eq_true rfl) (Nat.le_of_ble_eq_true rfl) ?_
    refine vx_ret ?_
    exact W.iret (v := 1) hx hb hr (fun t ht hW => ⟨⟨1, [], rfl, ⟨rfl, rfl⟩, by rw [ht]; exact hP9, va_K.moved hW.alike hK, hD9⟩, hS.F ht⟩) hS.2.2 dL_begin_13
  · exact hw.elim

set_option maxHeartbeats 4000000 in
set_option maxRecDepth 100000 in
theorem c_w_endTurn (l : Launch) (hfl : l.stackTraces = false) (g : GP) (x0 : Nat) (t0 : Nat) (th : Nat) (ts : Nat) (tg : Nat) (td : Nat) (tr : Nat) (u0 : Nat) (k0 : Nat) (o0 : Nat) (fo : Nat → Int64)  : XI l yL_endTurn (wH yL_endTurn cL_endTurn 3 (Option.some Jvm.ClassFile.FieldType.int) [((0 : Nat), (8 : Nat), (11 : Nat), (15 : Nat))]) (LV 8 1 6) g [.ref x0, .ref o0] ([(x0, .inr (8, [.ref t0, .ref u0, .ref k0])), (t0, .inr (6, [.ref th, .ref ts, .ref tg, .ref td, .int 0, .ref tr, .int (-1), .int 0, .int 0, .int 0, .long 0, .int 0, .int 0])), (o0, .inl (g.2.1 6, 1, .inr (.inl fo)))]) (fun (r : Int32) (u : va_W) => r = 1 ∧ u = []) (fun E : String => False) := by
  intro sz
  refine vx_ofWH (cc := cL_endTurn) (maxL := 3) (ret := (Option.some Jvm.ClassFile.FieldType.int)) (hh := [((0 : Nat), (8 : Nat), (11 : Nat), (15 : Nat))]) (by decide) rfl ?_
  intro p e s m args below meth c s₁ B hml hv
  obtain ⟨rfl, hsz, hP, hK, hD0, hT0⟩ := hv
  have hx := B.exec
  have hb := B.bytes
  have hr := B.returns
  have hts := atoms_spec (ws := (wH yL_endTurn cL_endTurn 3 (Option.some Jvm.ClassFile.FieldType.int) [((0 : Nat), (8 : Nat), (11 : Nat), (15 : Nat))])) B.pre
  have htg : ∀ w ∈ G9, w.before _ s = true := fun w h => hts w (List.mem_cons_of_mem _ h)
  have hown : s.vm.findClass "HeroTableLaw" = some m.cls := findClass_of_methodNamed B.named
  have hlocks := B.notSynchronized
  subst hsz
  have hD := hD0.self (sz := s.heap.size)
  have hT := hT0
  clear hT0
  generalize hAe : va_A [(x0, .inr (8, [.ref t0, .ref u0, .ref k0])), (t0, .inr (6, [.ref th, .ref ts, .ref tg, .ref td, .int 0, .ref tr, .int (-1), .int 0, .int 0, .int 0, .long 0, .int 0, .int 0])), (o0, .inl (g.2.1 6, 1, .inr (.inl fo)))] s.heap.size = A at hD hT ⊢
  have hA : ∀ q : Nat, s.heap.size ≤ q → A q := fun q h => by rw [← hAe]; exact Or.inr h
  obtain ⟨H, hH0⟩ : ∃ H, H = s.heap := ⟨_, rfl⟩
  have hS : va_S A s.heap H [] := by rw [hH0]; exact va_S.rf
  have hP : va_P g.1 CLS [(x0, .inr (8, [.ref t0, .ref u0, .ref k0])), (t0, .inr (6, [.ref th, .ref ts, .ref tg, .ref td, .int 0, .ref tr, .int (-1), .int 0, .int 0, .int 0, .long 0, .int 0, .int 0])), (o0, .inl (g.2.1 6, 1, .inr (.inl fo)))] H := by rw [hH0]; exact hP
  rw [← hH0]
  have hl := lv_entry ([.ref x0, .ref o0]) (n := 3) (Nat.le_of_ble_eq_true rfl)
  rw [lg_entry_eq]
  generalize (lg_sl ([.ref x0, .ref o0]) ++ List.replicate (3 - (lg_sl ([.ref x0, .ref o0])).length) Slot.unset).toArray = ls at hl ⊢
  have hl : lv_has ls 3 [(0, .ref x0), (1, .ref o0)] := hl
  refine lv_aload_n hx hb dL_endTurn_0 rfl (lv_at hl 1 rfl) ?_
  refine lv_iconst (v := 0) hx hb dL_endTurn_1 (by decide) ?_
  refine lv_aload_n hx hb dL_endTurn_2 rfl (lv_at hl 0 rfl) ?_
  have hPc := hP.sub (ws' := [(x0, .inr (8, [.ref t0, .ref u0, .ref k0])), (t0, .inr (6, [.ref th, .ref ts, .ref tg, .ref td, .int 0, .ref tr, .int (-1), .int 0, .int 0, .int 0, .long 0, .int 0, .int 0]))]) [0, 1] rfl
  have hDc := hD.sub (ws' := [(x0, .inr (8, [.ref t0, .ref u0, .ref k0])), (t0, .inr (6, [.ref th, .ref ts, .ref tg, .ref td, .int 0, .ref tr, .int (-1), .int 0, .int 0, .int 0, .long 0, .int 0, .int 0]))]) [0, 1] (by decide) rfl
  have hFc := va_free (wc := [(x0, .inr (8, [.ref t0, .ref u0, .ref k0])), (t0, .inr (6, [.ref th, .ref ts, .ref tg, .ref td, .int 0, .ref tr, .int (-1), .int 0, .int 0, .int 0, .long 0, .int 0, .int 0]))]) hD hS hA [0, 1] rfl
  refine q_xi (wr := [(o0, .inl (g.2.1 6, 1, .inr (.inl fo)))]) (vx_runV (As := []) (rest := [.int 0, .ref o0]) ⟨hx, hb, hml, hown, htg⟩ (c_X7_endTurn l hfl g x0 t0 th ts tg td tr u0 k0  H.size) ⟨(qB htg k1159 k50 k1156 ok_X7_endTurn rfl rfl ⟨Nat.le_of_ble_eq_true rfl, Nat.le_of_ble_eq_true rfl⟩), htg _ k1157, htg _ k1158⟩ ⟨(q_pre [.ref x0] hPc hDc hK hS hT hFc).1, va_recv hK hP (ci := 8) (q0 := 0) rfl rfl, (q_pre [.ref x0] hPc hDc hK hS hT hFc).2⟩ rfl rfl hl.1 rfl (lv_room (Nat.le_of_ble_eq_true rfl)) dL_endTurn_3 ⟨Nat.le_of_ble_eq_true rfl, Nat.le_of_ble_eq_true rfl⟩) hP hD hS hFc [0, 1] [2] rfl rfl (by decide) (by decide) (fun E9 ce9 q9 H locs hpx hP hD hS hq1 hq2 hq3 => ?_) (fun r9 u9 H locs hw hP hD hS => ?_)
  · rcases hpx with rfl
    refine vx_catch hown [] ⟨0, 8, 11, 15⟩ [] ((vx_table (x := yL_endTurn) B (hts _ List.mem_cons_self)).trans rfl) (fun z hz => nomatch hz) (by decide) (by decide) (htg _ k818) (va_Nw.use rfl hT.1.2.2.2.2.1.2.2.1) hq1 hq2 hq3 ?_
    refine W.widen (k := 1) (n := 6) (Nat.le_of_ble_eq_true rfl) (Nat.le_of_ble_eq_true rfl) ?_
    refine lv_astore_n (lv' := [(2, .ref q9), (0, .ref x0), (1, .ref o0)]) hx hb dL_endTurn_11 rfl hl (by decide) rfl (fun ls hl => ?_)
    refine lv_iconst (v := 1) hx hb dL_endTurn_12 (by decide) ?_
    have hP9 := hP.sub (ws' := []) [] rfl
    have hD9 := hD.sub (ws' := []) [] (by decide) rfl
    refine W.widen (k := 1) (n := 6) (Nat.le_of_ble_eq_true rfl) (Nat.le_of_ble_eq_true rfl) ?_
    refine vx_ret ?_
    exact W.iret (v := 1) hx hb hr (fun t ht hW => ⟨⟨1, [], rfl, ⟨rfl, rfl⟩, by rw [ht]; exact hP9, va_K.moved hW.alike hK, hD9⟩, hS.F ht⟩) hS.2.2 dL_endTurn_13
  · exact hw.elim

set_option maxHeartbeats 4000000 in
set_option maxRecDepth 100000 in
theorem c_w_rest (l : Launch) (hfl : l.stackTraces = false) (g : GP) (x0 : Nat) (t0 : Nat) (th : Nat) (ts : Nat) (tg : Nat) (td : Nat) (tr : Nat) (u0 : Nat) (k0 : Nat) (o0 : Nat) (fo : Nat → Int64)  : XI l yL_rest (wH yL_rest cL_rest 3 (Option.some Jvm.ClassFile.FieldType.int) [((0 : Nat), (8 : Nat), (11 : Nat), (15 : Nat))]) (LV 8 1 6) g [.ref x0, .ref o0] ([(x0, .inr (8, [.ref t0, .ref u0, .ref k0])), (t0, .inr (6, [.ref th, .ref ts, .ref tg, .ref td, .int 0, .ref tr, .int (-1), .int 0, .int 0, .int 0, .long 0, .int 0, .int 0])), (o0, .inl (g.2.1 6, 1, .inr (.inl fo)))]) (fun (r : Int32) (u : va_W) => r = 1 ∧ u = []) (fun E : String => False) := by
  intro sz
  refine vx_ofWH (cc := cL_rest) (maxL := 3) (ret := (Option.some Jvm.ClassFile.FieldType.int)) (hh := [((0 : Nat), (8 : Nat), (11 : Nat), (15 : Nat))]) (by decide) rfl ?_
  intro p e s m args below meth c s₁ B hml hv
  obtain ⟨rfl, hsz, hP, hK, hD0, hT0⟩ := hv
  have hx := B.exec
  have hb := B.bytes
  have hr := B.returns
  have hts := atoms_spec (ws := (wH yL_rest cL_rest 3 (Option.some Jvm.ClassFile.FieldType.int) [((0 : Nat), (8 : Nat), (11 : Nat), (15 : Nat))])) B.pre
  have htg : ∀ w ∈ G9, w.before _ s = true := fun w h => hts w (List.mem_cons_of_mem _ h)
  have hown : s.vm.findClass "HeroTableLaw" = some m.cls := findClass_of_methodNamed B.named
  have hlocks := B.notSynchronized
  subst hsz
  have hD := hD0.self (sz := s.heap.size)
  have hT := hT0
  clear hT0
  generalize hAe : va_A [(x0, .inr (8, [.ref t0, .ref u0, .ref k0])), (t0, .inr (6, [.ref th, .ref ts, .ref tg, .ref td, .int 0, .ref tr, .int (-1), .int 0, .int 0, .int 0, .long 0, .int 0, .int 0])), (o0, .inl (g.2.1 6, 1, .inr (.inl fo)))] s.heap.size = A at hD hT ⊢
  have hA : ∀ q : Nat, s.heap.size ≤ q → A q := fun q h => by rw [← hAe]; exact Or.inr h
  obtain ⟨H, hH0⟩ : ∃ H, H = s.heap := ⟨_, rfl⟩
  have hS : va_S A s.heap H [] := by rw [hH0]; exact va_S.rf
  have hP : va_P g.1 CLS [(x0, .inr (8, [.ref t0, .ref u0, .ref k0])), (t0, .inr (6, [.ref th, .ref ts, .ref tg, .ref td, .int 0, .ref tr, .int (-1), .int 0, .int 0, .int 0, .long 0, .int 0, .int 0])), (o0, .inl (g.2.1 6, 1, .inr (.inl fo)))] H := by rw [hH0]; exact hP
  rw [← hH0]
  have hl := lv_entry ([.ref x0, .ref o0]) (n := 3) (Nat.le_of_ble_eq_true rfl)
  rw [lg_entry_eq]
  generalize (lg_sl ([.ref x0, .ref o0]) ++ List.replicate (3 - (lg_sl ([.ref x0, .ref o0])).length) Slot.unset).toArray = ls at hl ⊢
  have hl : lv_has ls 3 [(0, .ref x0), (1, .ref o0)] := hl
  refine lv_aload_n hx hb dL_rest_0 rfl (lv_at hl 1 rfl) ?_
  refine lv_iconst (v := 0) hx hb dL_rest_1 (by decide) ?_
  refine lv_aload_n hx hb dL_rest_2 rfl (lv_at hl 0 rfl) ?_
  have hPc := hP.sub (ws' := [(x0, .inr (8, [.ref t0, .ref u0, .ref k0])), (t0, .inr (6, [.ref th, .ref ts, .ref tg, .ref td, .int 0, .ref tr, .int (-1), .int 0, .int 0, .int 0, .long 0, .int 0, .int 0]))]) [0, 1] rfl
  have hDc := hD.sub (ws' := [(x0, .inr (8, [.ref t0, .ref u0, .ref k0])), (t0, .inr (6, [.ref th, .ref ts, .ref tg, .ref td, .int 0, .ref tr, .int (-1), .int 0, .int 0, .int 0, .long 0, .int 0, .int 0]))]) [0, 1] (by decide) rfl
  have hFc := va_free (wc := [(x0, .inr (8, [.ref t0, .ref u0, .ref k0])), (t0, .inr (6, [.ref th, .ref ts, .ref tg, .ref td, .int 0, .ref tr, .int (-1), .int 0, .int 0, .int 0, .long 0, .int 0, .int 0]))]) hD hS hA [0, 1] rfl
  refine q_xi (wr := [(o0, .inl (g.2.1 6, 1, .inr (.inl fo)))]) (vx_runV (As := []) (rest := [.int 0, .ref o0]) ⟨hx, hb, hml, hown, htg⟩ (c_X7_rest l hfl g x0 t0 th ts tg td tr u0 k0  H.size) ⟨(qB htg k1167 k50 k1164 ok_X7_rest rfl rfl ⟨Nat.le_of_ble_eq_true rfl, Nat.le_of_ble_eq_true rfl⟩), htg _ k1165, htg _ k1166⟩ ⟨(q_pre [.ref x0] hPc hDc hK hS hT hFc).1, va_recv hK hP (ci := 8) (q0 := 0) rfl rfl, (q_pre [.ref x0] hPc hDc hK hS hT hFc).2⟩ rfl rfl hl.1 rfl (lv_room (Nat.le_of_ble_eq_true rfl)) dL_rest_3 ⟨Nat.le_of_ble_eq_true rfl, Nat.le_of_ble_eq_true rfl⟩) hP hD hS hFc [0, 1] [2] rfl rfl (by decide) (by decide) (fun E9 ce9 q9 H locs hpx hP hD hS hq1 hq2 hq3 => ?_) (fun r9 u9 H locs hw hP hD hS => ?_)
  · rcases hpx with rfl
    refine vx_catch hown [] ⟨0, 8, 11, 15⟩ [] ((vx_table (x := yL_rest) B (hts _ List.mem_cons_self)).trans rfl) (fun z hz => nomatch hz) (by decide) (by decide) (htg _ k818) (va_Nw.use rfl hT.1.2.2.2.2.1.2.2.1) hq1 hq2 hq3 ?_
    refine W.widen (k := 1) (n := 6) (Nat.le_of_ble_eq_true rfl) (Nat.le_of_ble_eq_true rfl) ?_
    refine lv_astore_n (lv' := [(2, .ref q9), (0, .ref x0), (1, .ref o0)]) hx hb dL_rest_11 rfl hl (by decide) rfl (fun ls hl => ?_)
    refine lv_iconst (v := 1) hx hb dL_rest_12 (by decide) ?_
    have hP9 := hP.sub (ws' := []) [] rfl
    have hD9 := hD.sub (ws' := []) [] (by decide) rfl
    refine W.widen (k := 1) (n := 6) (Nat.le_of_ble_eq_true rfl) (Nat.le_of_ble_eq_true rfl) ?_
    refine vx_ret ?_
    exact W.iret (v := 1) hx hb hr (fun t ht hW => ⟨⟨1, [], rfl, ⟨rfl, rfl⟩, by rw [ht]; exact hP9, va_K.moved hW.alike hK, hD9⟩, hS.F ht⟩) hS.2.2 dL_rest_13
  · exact hw.elim

set_option maxHeartbeats 4000000 in
set_option maxRecDepth 100000 in
theorem c_w_turn (l : Launch) (hfl : l.stackTraces = false) (g : GP) (x0 : Nat) (t0 : Nat) (th : Nat) (ts : Nat) (tg : Nat) (td : Nat) (tr : Nat) (u0 : Nat) (k0 : Nat) (o0 : Nat) (fo : Nat → Int64)  : XI l yL_turn (wH yL_turn cL_turn 3 (Option.some Jvm.ClassFile.FieldType.int) [((0 : Nat), (8 : Nat), (11 : Nat), (87 : Nat))]) (LV 8 1 6) g [.ref x0, .ref o0] ([(x0, .inr (8, [.ref t0, .ref u0, .ref k0])), (t0, .inr (6, [.ref th, .ref ts, .ref tg, .ref td, .int 0, .ref tr, .int (-1), .int 0, .int 0, .int 0, .long 0, .int 0, .int 0])), (o0, .inl (g.2.1 6, 1, .inr (.inl fo)))]) (fun (r : Int32) (u : va_W) => r = 1 ∧ u = []) (fun E : String => False) := by
  intro sz
  refine vx_ofWH (cc := cL_turn) (maxL := 3) (ret := (Option.some Jvm.ClassFile.FieldType.int)) (hh := [((0 : Nat), (8 : Nat), (11 : Nat), (87 : Nat))]) (by decide) rfl ?_
  intro p e s m args below meth c s₁ B hml hv
  obtain ⟨rfl, hsz, hP, hK, hD0, hT0⟩ := hv
  have hx := B.exec
  have hb := B.bytes
  have hr := B.returns
  have hts := atoms_spec (ws := (wH yL_turn cL_turn 3 (Option.some Jvm.ClassFile.FieldType.int) [((0 : Nat), (8 : Nat), (11 : Nat), (87 : Nat))])) B.pre
  have htg : ∀ w ∈ G9, w.before _ s = true := fun w h => hts w (List.mem_cons_of_mem _ h)
  have hown : s.vm.findClass "HeroTableLaw" = some m.cls := findClass_of_methodNamed B.named
  have hlocks := B.notSynchronized
  subst hsz
  have hD := hD0.self (sz := s.heap.size)
  have hT := hT0
  clear hT0
  generalize hAe : va_A [(x0, .inr (8, [.ref t0, .ref u0, .ref k0])), (t0, .inr (6, [.ref th, .ref ts, .ref tg, .ref td, .int 0, .ref tr, .int (-1), .int 0, .int 0, .int 0, .long 0, .int 0, .int 0])), (o0, .inl (g.2.1 6, 1, .inr (.inl fo)))] s.heap.size = A at hD hT ⊢
  have hA : ∀ q : Nat, s.heap.size ≤ q → A q := fun q h => by rw [← hAe]; exact Or.inr h
  obtain ⟨H, hH0⟩ : ∃ H, H = s.heap := ⟨_, rfl⟩
  have hS : va_S A s.heap H [] := by rw [hH0]; exact va_S.rf
  have hP : va_P g.1 CLS [(x0, .inr (8, [.ref t0, .ref u0, .ref k0])), (t0, .inr (6, [.ref th, .ref ts, .ref tg, .ref td, .int 0, .ref tr, .int (-1), .int 0, .int 0, .int 0, .long 0, .int 0, .int 0])), (o0, .inl (g.2.1 6, 1, .inr (.inl fo)))] H := by rw [hH0]; exact hP
  rw [← hH0]
  have hl := lv_entry ([.ref x0, .ref o0]) (n := 3) (Nat.le_of_ble_eq_true rfl)
  rw [lg_entry_eq]
  generalize (lg_sl ([.ref x0, .ref o0]) ++ List.replicate (3 - (lg_sl ([.ref x0, .ref o0])).length) Slot.unset).toArray = ls at hl ⊢
  have hl : lv_has ls 3 [(0, .ref x0), (1, .ref o0)] := hl
  refine lv_aload_n hx hb dL_turn_0 rfl (lv_at hl 1 rfl) ?_
  refine lv_iconst (v := 0) hx hb dL_turn_1 (by decide) ?_
  refine lv_aload_n hx hb dL_turn_2 rfl (lv_at hl 0 rfl) ?_
  have hPc := hP.sub (ws' := [(x0, .inr (8, [.ref t0, .ref u0, .ref k0])), (t0, .inr (6, [.ref th, .ref ts, .ref tg, .ref td, .int 0, .ref tr, .int (-1), .int 0, .int 0, .int 0, .long 0, .int 0, .int 0]))]) [0, 1] rfl
  have hDc := hD.sub (ws' := [(x0, .inr (8, [.ref t0, .ref u0, .ref k0])), (t0, .inr (6, [.ref th, .ref ts, .ref tg, .ref td, .int 0, .ref tr, .int (-1), .int 0, .int 0, .int 0, .long 0, .int 0, .int 0]))]) [0, 1] (by decide) rfl
  have hFc := va_free (wc := [(x0, .inr (8, [.ref t0, .ref u0, .ref k0])), (t0, .inr (6, [.ref th, .ref ts, .ref tg, .ref td, .int 0, .ref tr, .int (-1), .int 0, .int 0, .int 0, .long 0, .int 0, .int 0]))]) hD hS hA [0, 1] rfl
  refine q_xi (wr := [(o0, .inl (g.2.1 6, 1, .inr (.inl fo)))]) (vx_runV (As := []) (rest := [.int 0, .ref o0]) ⟨hx, hb, hml, hown, htg⟩ (c_X7_turn l hfl g x0 t0 th ts tg td tr u0 k0  H.size) ⟨(qB htg k1175 k50 k1172 ok_X7_turn rfl rfl ⟨Nat.le_of_ble_eq_true rfl, Nat.le_of_ble_eq_true rfl⟩), htg _ k1173, htg _ k1174⟩ ⟨(q_pre [.ref x0] hPc hDc hK hS hT hFc).1, va_recv hK hP (ci := 8) (q0 := 0) rfl rfl, (q_pre [.ref x0] hPc hDc hK hS hT hFc).2⟩ rfl rfl hl.1 rfl (lv_room (Nat.le_of_ble_eq_true rfl)) dL_turn_3 ⟨Nat.le_of_ble_eq_true rfl, Nat.le_of_ble_eq_true rfl⟩) hP hD hS hFc [0, 1] [2] rfl rfl (by decide) (by decide) (fun E9 ce9 q9 H locs hpx hP hD hS hq1 hq2 hq3 => ?_) (fun r9 u9 H locs hw hP hD hS => ?_)
  · rcases hpx with rfl
    refine vx_catch hown [] ⟨0, 8, 11, 87⟩ [] ((vx_table (x := yL_turn) B (hts _ List.mem_cons_self)).trans rfl) (fun z hz => nomatch hz) (by decide) (by decide) (htg _ k1147) (va_Nw.use rfl hT.1.2.2.2.2.1.2.2.2.1) hq1 hq2 hq3 ?_
    refine W.widen (k := 1) (n := 6) (Nat.le_of_ble_eq_true rfl) (Nat.le_of_ble_eq_true rfl) ?_
    refine lv_astore_n (lv' := [(2, .ref q9), (0, .ref x0), (1, .ref o0)]) hx hb dL_turn_11 rfl hl (by decide) rfl (fun ls hl => ?_)
    refine lv_iconst (v := 1) hx hb dL_turn_12 (by decide) ?_
    have hP9 := hP.sub (ws' := []) [] rfl
    have hD9 := hD.sub (ws' := []) [] (by decide) rfl
    refine W.widen (k := 1) (n := 6) (Nat.le_of_ble_eq_true rfl) (Nat.le_of_ble_eq_true rfl) ?_
    refine vx_ret ?_
    exact W.iret (v := 1) hx hb hr (fun t ht hW => ⟨⟨1, [], rfl, ⟨rfl, rfl⟩, by rw [ht]; exact hP9, va_K.moved hW.alike hK, hD9⟩, hS.F ht⟩) hS.2.2 dL_turn_13
  · exact hw.elim

set_option maxHeartbeats 4000000 in
set_option maxRecDepth 100000 in
theorem c_w_steps (l : Launch) (hfl : l.stackTraces = false) (g : GP) (x0 : Nat) (t0 : Nat) (th : Nat) (ts : Nat) (tg : Nat) (td : Nat) (tr : Nat) (u0 : Nat) (k0 : Nat) (o0 : Nat) (fo : Nat → Int64)  : XI l yL_steps (wH yL_steps cL_steps 3 (Option.some Jvm.ClassFile.FieldType.int) [((0 : Nat), (8 : Nat), (11 : Nat), (87 : Nat))]) (LV 8 1 6) g [.ref x0, .ref o0] ([(x0, .inr (8, [.ref t0, .ref u0, .ref k0])), (t0, .inr (6, [.ref th, .ref ts, .ref tg, .ref td, .int 0, .ref tr, .int (-1), .int 0, .int 0, .int 0, .long 0, .int 0, .int 0])), (o0, .inl (g.2.1 6, 1, .inr (.inl fo)))]) (fun (r : Int32) (u : va_W) => r = 1 ∧ u = []) (fun E : String => False) := by
  intro sz
  refine vx_ofWH (cc := cL_steps) (maxL := 3) (ret := (Option.some Jvm.ClassFile.FieldType.int)) (hh := [((0 : Nat), (8 : Nat), (11 : Nat), (87 : Nat))]) (by decide) rfl ?_
  intro p e s m args below meth c s₁ B hml hv
  obtain ⟨rfl, hsz, hP, hK, hD0, hT0⟩ := hv
  have hx := B.exec
  have hb := B.bytes
  have hr := B.returns
  have hts := atoms_spec (ws := (wH yL_steps cL_steps 3 (Option.some Jvm.ClassFile.FieldType.int) [((0 : Nat), (8 : Nat), (11 : Nat), (87 : Nat))])) B.pre
  have htg : ∀ w ∈ G9, w.before _ s = true := fun w h => hts w (List.mem_cons_of_mem _ h)
  have hown : s.vm.findClass "HeroTableLaw" = some m.cls := findClass_of_methodNamed B.named
  have hlocks := B.notSynchronized
  subst hsz
  have hD := hD0.self (sz := s.heap.size)
  have hT := hT0
  clear hT0
  generalize hAe : va_A [(x0, .inr (8, [.ref t0, .ref u0, .ref k0])), (t0, .inr (6, [.ref th, .ref ts, .ref tg, .ref td, .int 0, .ref tr, .int (-1), .int 0, .int 0, .int 0, .long 0, .int 0, .int 0])), (o0, .inl (g.2.1 6, 1, .inr (.inl fo)))] s.heap.size = A at hD hT ⊢
  have hA : ∀ q : Nat, s.heap.size ≤ q → A q := fun q h => by rw [← hAe]; exact Or.inr h
  obtain ⟨H, hH0⟩ : ∃ H, H = s.heap := ⟨_, rfl⟩
  have hS : va_S A s.heap H [] := by rw [hH0]; exact va_S.rf
  have hP : va_P g.1 CLS [(x0, .inr (8, [.ref t0, .ref u0, .ref k0])), (t0, .inr (6, [.ref th, .ref ts, .ref tg, .ref td, .int 0, .ref tr, .int (-1), .int 0, .int 0, .int 0, .long 0, .int 0, .int 0])), (o0, .inl (g.2.1 6, 1, .inr (.inl fo)))] H := by rw [hH0]; exact hP
  rw [← hH0]
  have hl := lv_entry ([.ref x0, .ref o0]) (n := 3) (Nat.le_of_ble_eq_true rfl)
  rw [lg_entry_eq]
  generalize (lg_sl ([.ref x0, .ref o0]) ++ List.replicate (3 - (lg_sl ([.ref x0, .ref o0])).length) Slot.unset).toArray = ls at hl ⊢
  have hl : lv_has ls 3 [(0, .ref x0), (1, .ref o0)] := hl
  refine lv_aload_n hx hb dL_steps_0 rfl (lv_at hl 1 rfl) ?_
  refine lv_iconst (v := 0) hx hb dL_steps_1 (by decide) ?_
  refine lv_aload_n hx hb dL_steps_2 rfl (lv_at hl 0 rfl) ?_
  have hPc := hP.sub (ws' := [(x0, .inr (8, [.ref t0, .ref u0, .ref k0])), (t0, .inr (6, [.ref th, .ref ts, .ref tg, .ref td, .int 0, .ref tr, .int (-1), .int 0, .int 0, .int 0, .long 0, .int 0, .int 0]))]) [0, 1] rfl
  have hDc := hD.sub (ws' := [(x0, .inr (8, [.ref t0, .ref u0, .ref k0])), (t0, .inr (6, [.ref th, .ref ts, .ref tg, .ref td, .int 0, .ref tr, .int (-1), .int 0, .int 0, .int 0, .long 0, .int 0, .int 0]))]) [0, 1] (by decide) rfl
  have hFc := va_free (wc := [(x0, .inr (8, [.ref t0, .ref u0, .ref k0])), (t0, .inr (6, [.ref th, .ref ts, .ref tg, .ref td, .int 0, .ref tr, .int (-1), .int 0, .int 0, .int 0, .long 0, .int 0, .int 0]))]) hD hS hA [0, 1] rfl
  refine q_xi (wr := [(o0, .inl (g.2.1 6, 1, .inr (.inl fo)))]) (vx_runV (As := []) (rest := [.int 0, .ref o0]) ⟨hx, hb, hml, hown, htg⟩ (c_X7_steps l hfl g x0 t0 th ts tg td tr u0 k0  H.size) ⟨(qB htg k1185 k50 k1182 ok_X7_steps rfl rfl ⟨Nat.le_of_ble_eq_true rfl, Nat.le_of_ble_eq_true rfl⟩), htg _ k1183, htg _ k1184⟩ ⟨(q_pre [.ref x0] hPc hDc hK hS hT hFc).1, va_recv hK hP (ci := 8) (q0 := 0) rfl rfl, (q_pre [.ref x0] hPc hDc hK hS hT hFc).2⟩ rfl rfl hl.1 rfl (lv_room (Nat.le_of_ble_eq_true rfl)) dL_steps_3 ⟨Nat.le_of_ble_eq_true rfl, Nat.le_of_ble_eq_true rfl⟩) hP hD hS hFc [0, 1] [2] rfl rfl (by decide) (by decide) (fun E9 ce9 q9 H locs hpx hP hD hS hq1 hq2 hq3 => ?_) (fun r9 u9 H locs hw hP hD hS => ?_)
  · rcases hpx with rfl
    refine vx_catch hown [] ⟨0, 8, 11, 87⟩ [] ((vx_table (x := yL_steps) B (hts _ List.mem_cons_self)).trans rfl) (fun z hz => nomatch hz) (by decide) (by decide) (htg _ k1147) (va_Nw.use rfl hT.1.2.2.2.2.1.2.2.2.1) hq1 hq2 hq3 ?_
    refine W.widen (k := 1) (n := 6) (Nat.le_of_ble_eq_true rfl) (Nat.le_of_ble_eq_true rfl) ?_
    refine lv_astore_n (lv' := [(2, .ref q9), (0, .ref x0), (1, .ref o0)]) hx hb dL_steps_11 rfl hl (by decide) rfl (fun ls hl => ?_)
    refine lv_iconst (v := 1) hx hb dL_steps_12 (by decide) ?_
    have hP9 := hP.sub (ws' := []) [] rfl
    have hD9 := hD.sub (ws' := []) [] (by decide) rfl
    refine W.widen (k := 1) (n := 6) (Nat.le_of_ble_eq_true rfl) (Nat.le_of_ble_eq_true rfl) ?_
    refine vx_ret ?_
    exact W.iret (v := 1) hx hb hr (fun t ht hW => ⟨⟨1, [], rfl, ⟨rfl, rfl⟩, by rw [ht]; exact hP9, va_K.moved hW.alike hK, hD9⟩, hS.F ht⟩) hS.2.2 dL_steps_13
  · exact hw.elim

set_option maxHeartbeats 4000000 in
set_option maxRecDepth 100000 in
theorem c_w_canReact (l : Launch) (hfl : l.stackTraces = false) (g : GP) (x0 : Nat) (t0 : Nat) (th : Nat) (ts : Nat) (tg : Nat) (td : Nat) (tr : Nat) (u0 : Nat) (k0 : Nat) (n1 : Int32) (o0 : Nat) (fo : Nat → Int64)  : XI l yL_canReact (wH yL_canReact cL_canReact 4 (Option.some Jvm.ClassFile.FieldType.int) [((0 : Nat), (16 : Nat), (19 : Nat), (27 : Nat))]) (LV 8 1 6) g [.ref x0, .int n1, .ref o0] ([(x0, .inr (8, [.ref t0, .ref u0, .ref k0])), (t0, .inr (6, [.ref th, .ref ts, .ref tg, .ref td, .int 0, .ref tr, .int (-1), .int 0, .int 0, .int 0, .long 0, .int 0, .int 0])), (o0, .inl (g.2.1 6, 1, .inr (.inl fo)))]) (fun (r : Int32) (u : va_W) => r = 1 ∧ u = []) (fun E : String => False) := by
  intro sz
  refine vx_ofWH (cc := cL_canReact) (maxL := 4) (ret := (Option.some Jvm.ClassFile.FieldType.int)) (hh := [((0 : Nat), (16 : Nat), (19 : Nat), (27 : Nat))]) (by decide) rfl ?_
  intro p e s m args below meth c s₁ B hml hv
  obtain ⟨rfl, hsz, hP, hK, hD0, hT0⟩ := hv
  have hx := B.exec
  have hb := B.bytes
  have hr := B.returns
  have hts := atoms_spec (ws := (wH yL_canReact cL_canReact 4 (Option.some Jvm.ClassFile.FieldType.int) [((0 : Nat), (16 : Nat), (19 : Nat), (27 : Nat))])) B.pre
  have htg : ∀ w ∈ G9, w.before _ s = true := fun w h => hts w (List.mem_cons_of_mem _ h)
  have hown : s.vm.findClass "HeroTableLaw" = some m.cls := findClass_of_methodNamed B.named
  have hlocks := B.notSynchronized
  subst hsz
  have hD := hD0.self (sz := s.heap.size)
  have hT := hT0
  clear hT0
  generalize hAe : va_A [(x0, .inr (8, [.ref t0, .ref u0, .ref k0])), (t0, .inr (6, [.ref th, .ref ts, .ref tg, .ref td, .int 0, .ref tr, .int (-1), .int 0, .int 0, .int 0, .long 0, .int 0, .int 0])), (o0, .inl (g.2.1 6, 1, .inr (.inl fo)))] s.heap.size = A at hD hT ⊢
  have hA : ∀ q : Nat, s.heap.size ≤ q → A q := fun q h => by rw [← hAe]; exact Or.inr h
  obtain ⟨H, hH0⟩ : ∃ H, H = s.heap := ⟨_, rfl⟩
  have hS : va_S A s.heap H [] := by rw [hH0]; exact va_S.rf
  have hP : va_P g.1 CLS [(x0, .inr (8, [.ref t0, .ref u0, .ref k0])), (t0, .inr (6, [.ref th, .ref ts, .ref tg, .ref td, .int 0, .ref tr, .int (-1), .int 0, .int 0, .int 0, .long 0, .int 0, .int 0])), (o0, .inl (g.2.1 6, 1, .inr (.inl fo)))] H := by rw [hH0]; exact hP
  rw [← hH0]
  have hl := lv_entry ([.ref x0, .int n1, .ref o0]) (n := 4) (Nat.le_of_ble_eq_true rfl)
  rw [lg_entry_eq]
  generalize (lg_sl ([.ref x0, .int n1, .ref o0]) ++ List.replicate (4 - (lg_sl ([.ref x0, .int n1, .ref o0])).length) Slot.unset).toArray = ls at hl ⊢
  have hl : lv_has ls 4 [(0, .ref x0), (1, .int n1), (2, .ref o0)] := hl
  refine lv_aload_n hx hb dL_canReact_0 rfl (lv_at hl 2 rfl) ?_
  refine lv_iconst (v := 0) hx hb dL_canReact_1 (by decide) ?_
  refine lv_aload_n hx hb dL_canReact_2 rfl (lv_at hl 0 rfl) ?_
  refine lv_iload_n hx hb dL_canReact_3 rfl (lv_at hl 1 rfl) ?_
  have hPc := hP.sub (ws' := [(x0, .inr (8, [.ref t0, .ref u0, .ref k0])), (t0, .inr (6, [.ref th, .ref ts, .ref tg, .ref td, .int 0, .ref tr, .int (-1), .int 0, .int 0, .int 0, .long 0, .int 0, .int 0]))]) [0, 1] rfl
  have hDc := hD.sub (ws' := [(x0, .inr (8, [.ref t0, .ref u0, .ref k0])), (t0, .inr (6, [.ref th, .ref ts, .ref tg, .ref td, .int 0, .ref tr, .int (-1), .int 0, .int 0, .int 0, .long 0, .int 0, .int 0]))]) [0, 1] (by decide) rfl
  have hFc := va_free (wc := [(x0, .inr (8, [.ref t0, .ref u0, .ref k0])), (t0, .inr (6, [.ref th, .ref ts, .ref tg, .ref td, .int 0, .ref tr, .int (-1), .int 0, .int 0, .int 0, .long 0, .int 0, .int 0]))]) hD hS hA [0, 1] rfl
  refine q_xi (wr := [(o0, .inl (g.2.1 6, 1, .inr (.inl fo)))]) (vx_runV (As := [.int n1]) (rest := [.int 0, .ref o0]) ⟨hx, hb, hml, hown, htg⟩ (c_X7_canReact l hfl g x0 t0 th ts tg td tr u0 k0 n1  H.size) ⟨(qB htg k1192 k50 k1189 ok_X7_canReact rfl rfl ⟨Nat.le_of_ble_eq_true rfl, Nat.le_of_ble_eq_true rfl⟩), htg _ k1190, htg _ k1191⟩ ⟨(q_pre [.ref x0, .int n1] hPc hDc hK hS hT hFc).1, va_recv hK hP (ci := 8) (q0 := 0) rfl rfl, (q_pre [.ref x0, .int n1] hPc hDc hK hS hT hFc).2⟩ rfl rfl hl.1 rfl (lv_room (Nat.le_of_ble_eq_true rfl)) dL_canReact_4 ⟨Nat.le_of_ble_eq_true rfl, Nat.le_of_ble_eq_true rfl⟩) hP hD hS hFc [0, 1] [2] rfl rfl (by decide) (by decide) (fun E9 ce9 q9 H locs hpx hP hD hS hq1 hq2 hq3 => ?_) (fun r9 u9 H locs hw hP hD hS => ?_)
  · rcases hpx with rfl
    refine vx_catch hown [] ⟨0, 16, 19, 27⟩ [] ((vx_table (x := yL_canReact) B (hts _ List.mem_cons_self)).trans rfl) (fun z hz => nomatch hz) (by decide) (by decide) (htg _ k984) (va_Nw.use rfl hT.1.2.2.2.2.1.1) hq1 hq2 hq3 ?_
    refine W.widen (k := 1) (n := 6) (Nat.le_of_ble_eq_true rfl) (Nat.le_of_ble_eq_true rfl) ?_
    refine lv_astore_n (lv' := [(3, .ref q9), (0, .ref x0), (1, .int n1), (2, .ref o0)]) hx hb dL_canReact_19 rfl hl (by decide) rfl (fun ls hl => ?_)
    refine lv_iconst (v := 1) hx hb dL_canReact_20 (by decide) ?_
    have hP9 := hP.sub (ws' := []) [] rfl
    have hD9 := hD.sub (ws' := []) [] (by decide) rfl
    refine W.widen (k := 1) (n := 6) (Nat.le_of_ble_eq_true rfl) (Nat.le_of_ble_eq_true rfl) ?_
    refine vx_ret ?_
    exact W.iret (v := 1) hx hb hr (fun t ht hW => ⟨⟨1, [], rfl, ⟨rfl, rfl⟩, by rw [ht]; exact hP9, va_K.moved hW.alike hK, hD9⟩, hS.F ht⟩) hS.2.2 dL_canReact_21
  · exact hw.elim

set_option maxHeartbeats 4000000 in
set_option maxRecDepth 100000 in
theorem c_w_attack (l : Launch) (hfl : l.stackTraces = false) (g : GP) (x0 : Nat) (t0 : Nat) (th : Nat) (ts : Nat) (tg : Nat) (td : Nat) (tr : Nat) (u0 : Nat) (k0 : Nat) (n1 : Int32) (o0 : Nat) (fo : Nat → Int64)  : XI l yL_attack (wH yL_attack cL_attack 4 (Option.some Jvm.ClassFile.FieldType.int) [((0 : Nat), (9 : Nat), (12 : Nat), (27 : Nat)), ((0 : Nat), (9 : Nat), (15 : Nat), (15 : Nat)), ((0 : Nat), (9 : Nat), (18 : Nat), (17 : Nat))]) (LV 8 1 6) g [.ref x0, .int n1, .ref o0] ([(x0, .inr (8, [.ref t0, .ref u0, .ref k0])), (t0, .inr (6, [.ref th, .ref ts, .ref tg, .ref td, .int 0, .ref tr, .int (-1), .int 0, .int 0, .int 0, .long 0, .int 0, .int 0])), (o0, .inl (g.2.1 6, 1, .inr (.inl fo)))]) (fun (r : Int32) (u : va_W) => r = 1 ∧ u = []) (fun E : String => False) := by
  intro sz
  refine vx_ofWH (cc := cL_attack) (maxL := 4) (ret := (Option.some Jvm.ClassFile.FieldType.int)) (hh := [((0 : Nat), (9 : Nat), (12 : Nat), (27 : Nat)), ((0 : Nat), (9 : Nat), (15 : Nat), (15 : Nat)), ((0 : Nat), (9 : Nat), (18 : Nat), (17 : Nat))]) (by decide) rfl ?_
  intro p e s m args below meth c s₁ B hml hv
  obtain ⟨rfl, hsz, hP, hK, hD0, hT0⟩ := hv
  have hx := B.exec
  have hb := B.bytes
  have hr := B.returns
  have hts := atoms_spec (ws := (wH yL_attack cL_attack 4 (Option.some Jvm.ClassFile.FieldType.int) [((0 : Nat), (9 : Nat), (12 : Nat), (27 : Nat)), ((0 : Nat), (9 : Nat), (15 : Nat), (15 : Nat)), ((0 : Nat), (9 : Nat), (18 : Nat), (17 : Nat))])) B.pre
  have htg : ∀ w ∈ G9, w.before _ s = true := fun w h => hts w (List.mem_cons_of_mem _ h)
  have hown : s.vm.findClass "HeroTableLaw" = some m.cls := findClass_of_methodNamed B.named
  have hlocks := B.notSynchronized
  subst hsz
  have hD := hD0.self (sz := s.heap.size)
  have hT := hT0
  clear hT0
  generalize hAe : va_A [(x0, .inr (8, [.ref t0, .ref u0, .ref k0])), (t0, .inr (6, [.ref th, .ref ts, .ref tg, .ref td, .int 0, .ref tr, .int (-1), .int 0, .int 0, .int 0, .long 0, .int 0, .int 0])), (o0, .inl (g.2.1 6, 1, .inr (.inl fo)))] s.heap.size = A at hD hT ⊢
  have hA : ∀ q : Nat, s.heap.size ≤ q → A q := fun q h => by rw [← hAe]; exact Or.inr h
  obtain ⟨H, hH0⟩ : ∃ H, H = s.heap := ⟨_, rfl⟩
  have hS : va_S A s.heap H [] := by rw [hH0]; exact va_S.rf
  have hP : va_P g.1 CLS [(x0, .inr (8, [.ref t0, .ref u0, .ref k0])), (t0, .inr (6, [.ref th, .ref ts, .ref tg, .ref td, .int 0, .ref tr, .int (-1), .int 0, .int 0, .int 0, .long 0, .int 0, .int 0])), (o0, .inl (g.2.1 6, 1, .inr (.inl fo)))] H := by rw [hH0]; exact hP
  rw [← hH0]
  have hl := lv_entry ([.ref x0, .int n1, .ref o0]) (n := 4) (Nat.le_of_ble_eq_true rfl)
  rw [lg_entry_eq]
  generalize (lg_sl ([.ref x0, .int n1, .ref o0]) ++ List.replicate (4 - (lg_sl ([.ref x0, .int n1, .ref o0])).length) Slot.unset).toArray = ls at hl ⊢
  have hl : lv_has ls 4 [(0, .ref x0), (1, .int n1), (2, .ref o0)] := hl
  refine lv_aload_n hx hb dL_attack_0 rfl (lv_at hl 2 rfl) ?_
  refine lv_iconst (v := 0) hx hb dL_attack_1 (by decide) ?_
  refine lv_aload_n hx hb dL_attack_2 rfl (lv_at hl 0 rfl) ?_
  refine lv_iload_n hx hb dL_attack_3 rfl (lv_at hl 1 rfl) ?_
  have hPc := hP.sub (ws' := [(x0, .inr (8, [.ref t0, .ref u0, .ref k0])), (t0, .inr (6, [.ref th, .ref ts, .ref tg, .ref td, .int 0, .ref tr, .int (-1), .int 0, .int 0, .int 0, .long 0, .int 0, .int 0]))]) [0, 1] rfl
  have hDc := hD.sub (ws' := [(x0, .inr (8, [.ref t0, .ref u0, .ref k0])), (t0, .inr (6, [.ref th, .ref ts, .ref tg, .ref td, .int 0, .ref tr, .int (-1), .int 0, .int 0, .int 0, .long 0, .int 0, .int 0]))]) [0, 1] (by decide) rfl
  have hFc := va_free (wc := [(x0, .inr (8, [.ref t0, .ref u0, .ref k0])), (t0, .inr (6, [.ref th, .ref ts, .ref tg, .ref td, .int 0, .ref tr, .int (-1), .int 0, .int 0, .int 0, .long 0, .int 0, .int 0]))]) hD hS hA [0, 1] rfl
  refine q_xi (wr := [(o0, .inl (g.2.1 6, 1, .inr (.inl fo)))]) (vx_runV (As := [.int n1]) (rest := [.int 0, .ref o0]) ⟨hx, hb, hml, hown, htg⟩ (c_X7_attack l hfl g x0 t0 th ts tg td tr u0 k0 n1  H.size) ⟨(qB htg k1199 k50 k1196 ok_X7_attack rfl rfl ⟨Nat.le_of_ble_eq_true rfl, Nat.le_of_ble_eq_true rfl⟩), htg _ k1197, htg _ k1198⟩ ⟨(q_pre [.ref x0, .int n1] hPc hDc hK hS hT hFc).1, va_recv hK hP (ci := 8) (q0 := 0) rfl rfl, (q_pre [.ref x0, .int n1] hPc hDc hK hS hT hFc).2⟩ rfl rfl hl.1 rfl (lv_room (Nat.le_of_ble_eq_true rfl)) dL_attack_4 ⟨Nat.le_of_ble_eq_true rfl, Nat.le_of_ble_eq_true rfl⟩) hP hD hS hFc [0, 1] [2] rfl rfl (by decide) (by decide) (fun E9 ce9 q9 H locs hpx hP hD hS hq1 hq2 hq3 => ?_) (fun r9 u9 H locs hw hP hD hS => ?_)
  · rcases hpx with rfl
    refine vx_catch hown [] ⟨0, 9, 12, 27⟩ [⟨0, 9, 15, 15⟩, ⟨0, 9, 18, 17⟩] ((vx_table (x := yL_attack) B (hts _ List.mem_cons_self)).trans rfl) (fun z hz => nomatch hz) (by decide) (by decide) (htg _ k984) (va_Nw.use rfl hT.1.2.2.2.2.1.1) hq1 hq2 hq3 ?_
    refine W.widen (k := 1) (n := 6) (Nat.le_of_ble_eq_true rfl) (Nat.le_of_ble_eq_true rfl) ?_
    refine lv_astore_n (lv' := [(3, .ref q9), (0, .ref x0), (1, .int n1), (2, .ref o0)]) hx hb dL_attack_12 rfl hl (by decide) rfl (fun ls hl => ?_)
    refine lv_iconst (v := 1) hx hb dL_attack_13 (by decide) ?_
    have hP9 := hP.sub (ws' := []) [] rfl
    have hD9 := hD.sub (ws' := []) [] (by decide) rfl
    refine W.widen (k := 1) (n := 6) (Nat.le_of_ble_eq_true rfl) (Nat.le_of_ble_eq_true rfl) ?_
    refine vx_ret ?_
    exact W.iret (v := 1) hx hb hr (fun t ht hW => ⟨⟨1, [], rfl, ⟨rfl, rfl⟩, by rw [ht]; exact hP9, va_K.moved hW.alike hK, hD9⟩, hS.F ht⟩) hS.2.2 dL_attack_14
  · exact hw.elim

set_option maxHeartbeats 4000000 in
set_option maxRecDepth 100000 in
theorem c_w_step (l : Launch) (hfl : l.stackTraces = false) (g : GP) (x0 : Nat) (t0 : Nat) (th : Nat) (ts : Nat) (tg : Nat) (td : Nat) (tr : Nat) (u0 : Nat) (k0 : Nat) (n1 : Int32) (n2 : Int32) (o0 : Nat) (fo : Nat → Int64)  : XI l yL_step (wH yL_step cL_step 5 (Option.some Jvm.ClassFile.FieldType.int) [((0 : Nat), (17 : Nat), (20 : Nat), (13 : Nat)), ((0 : Nat), (17 : Nat), (24 : Nat), (15 : Nat)), ((0 : Nat), (17 : Nat), (28 : Nat), (17 : Nat))]) (LV 8 1 6) g [.ref x0, .int n1, .int n2, .ref o0] ([(x0, .inr (8, [.ref t0, .ref u0, .ref k0])), (t0, .inr (6, [.ref th, .ref ts, .ref tg, .ref td, .int 0, .ref tr, .int (-1), .int 0, .int 0, .int 0, .long 0, .int 0, .int 0])), (o0, .inl (g.2.1 6, 1, .inr (.inl fo)))]) (fun (r : Int32) (u : va_W) => ((¬ okStep n1 n2) ∧ r = 1 ∧ u = []) ∨ ((okStep n1 n2) ∧ r = 2 ∧ u = [])) (fun E : String => False) := by
  intro sz
  refine vx_ofWH (cc := cL_step) (maxL := 5) (ret := (Option.some Jvm.ClassFile.FieldType.int)) (hh := [((0 : Nat), (17 : Nat), (20 : Nat), (13 : Nat)), ((0 : Nat), (17 : Nat), (24 : Nat), (15 : Nat)), ((0 : Nat), (17 : Nat), (28 : Nat), (17 : Nat))]) (by decide) rfl ?_
  intro p e s m args below meth c s₁ B hml hv
  obtain ⟨rfl, hsz, hP, hK, hD0, hT0⟩ := hv
  have hx := B.exec
  have hb := B.bytes
  have hr := B.returns
  have hts := atoms_spec (ws := (wH yL_step cL_step 5 (Option.some Jvm.ClassFile.FieldType.int) [((0 : Nat), (17 : Nat), (20 : Nat), (13 : Nat)), ((0 : Nat), (17 : Nat), (24 : Nat), (15 : Nat)), ((0 : Nat), (17 : Nat), (28 : Nat), (17 : Nat))])) B.pre
  have htg : ∀ w ∈ G9, w.before _ s = true := fun w h => hts w (List.mem_cons_of_mem _ h)
  have hown : s.vm.findClass "HeroTableLaw" = some m.cls := findClass_of_methodNamed B.named
  have hlocks := B.notSynchronized
  subst hsz
  have hD := hD0.self (sz := s.heap.size)
  have hT := hT0
  clear hT0
  generalize hAe : va_A [(x0, .inr (8, [.ref t0, .ref u0, .ref k0])), (t0, .inr (6, [.ref th, .ref ts, .ref tg, .ref td, .int 0, .ref tr, .int (-1), .int 0, .int 0, .int 0, .long 0, .int 0, .int 0])), (o0, .inl (g.2.1 6, 1, .inr (.inl fo)))] s.heap.size = A at hD hT ⊢
  have hA : ∀ q : Nat, s.heap.size ≤ q → A q := fun q h => by rw [← hAe]; exact Or.inr h
  obtain ⟨H, hH0⟩ : ∃ H, H = s.heap := ⟨_, rfl⟩
  have hS : va_S A s.heap H [] := by rw [hH0]; exact va_S.rf
  have hP : va_P g.1 CLS [(x0, .inr (8, [.ref t0, .ref u0, .ref k0])), (t0, .inr (6, [.ref th, .ref ts, .ref tg, .ref td, .int 0, .ref tr, .int (-1), .int 0, .int 0, .int 0, .long 0, .int 0, .int 0])), (o0, .inl (g.2.1 6, 1, .inr (.inl fo)))] H := by rw [hH0]; exact hP
  rw [← hH0]
  have hl := lv_entry ([.ref x0, .int n1, .int n2, .ref o0]) (n := 5) (Nat.le_of_ble_eq_true rfl)
  rw [lg_entry_eq]
  generalize (lg_sl ([.ref x0, .int n1, .int n2, .ref o0]) ++ List.replicate (5 - (lg_sl ([.ref x0, .int n1, .int n2, .ref o0])).length) Slot.unset).toArray = ls at hl ⊢
  have hl : lv_has ls 5 [(0, .ref x0), (1, .int n1), (2, .int n2), (3, .ref o0)] := hl
  refine lv_aload_n hx hb dL_step_0 rfl (lv_at hl 3 rfl) ?_
  refine lv_iconst (v := 0) hx hb dL_step_1 (by decide) ?_
  refine lv_aload_n hx hb dL_step_2 rfl (lv_at hl 0 rfl) ?_
  refine lv_iload_n hx hb dL_step_3 rfl (lv_at hl 1 rfl) ?_
  refine lv_iload_n hx hb dL_step_4 rfl (lv_at hl 2 rfl) ?_
  have hPc := hP.sub (ws' := [(x0, .inr (8, [.ref t0, .ref u0, .ref k0])), (t0, .inr (6, [.ref th, .ref ts, .ref tg, .ref td, .int 0, .ref tr, .int (-1), .int 0, .int 0, .int 0, .long 0, .int 0, .int 0]))]) [0, 1] rfl
  have hDc := hD.sub (ws' := [(x0, .inr (8, [.ref t0, .ref u0, .ref k0])), (t0, .inr (6, [.ref th, .ref ts, .ref tg, .ref td, .int 0, .ref tr, .int (-1), .int 0, .int 0, .int 0, .long 0, .int 0, .int 0]))]) [0, 1] (by decide) rfl
  have hFc := va_free (wc := [(x0, .inr (8, [.ref t0, .ref u0, .ref k0])), (t0, .inr (6, [.ref th, .ref ts, .ref tg, .ref td, .int 0, .ref tr, .int (-1), .int 0, .int 0, .int 0, .long 0, .int 0, .int 0]))]) hD hS hA [0, 1] rfl
  refine q_xi (wr := [(o0, .inl (g.2.1 6, 1, .inr (.inl fo)))]) (vx_runV (As := [.int n1, .int n2]) (rest := [.int 0, .ref o0]) ⟨hx, hb, hml, hown, htg⟩ (c_X7_step l hfl g x0 t0 th ts tg td tr u0 k0 n1 n2  H.size) ⟨(qB htg k1207 k50 k1204 ok_X7_step rfl rfl ⟨Nat.le_of_ble_eq_true rfl, Nat.le_of_ble_eq_true rfl⟩), htg _ k1205, htg _ k1206⟩ ⟨(q_pre [.ref x0, .int n1, .int n2] hPc hDc hK hS hT hFc).1, va_recv hK hP (ci := 8) (q0 := 0) rfl rfl, (q_pre [.ref x0, .int n1, .int n2] hPc hDc hK hS hT hFc).2⟩ rfl rfl hl.1 rfl (lv_room (Nat.le_of_ble_eq_true rfl)) dL_step_5 ⟨Nat.le_of_ble_eq_true rfl, Nat.le_of_ble_eq_true rfl⟩) hP hD hS hFc [0, 1] [2] rfl rfl (by decide) (by decide) (fun E9 ce9 q9 H locs hpx hP hD hS hq1 hq2 hq3 => ?_) (fun r9 u9 H locs hw hP hD hS => ?_)
  · rcases hpx with ⟨rfl, c_1⟩ | ⟨rfl, c_2⟩
    · refine vx_catch hown [] ⟨0, 17, 20, 13⟩ [⟨0, 17, 24, 15⟩, ⟨0, 17, 28, 17⟩] ((vx_table (x := yL_step) B (hts _ List.mem_cons_self)).trans rfl) (fun z hz => nomatch hz) (by decide) (by decide) (htg _ k817) (va_Nw.use rfl hT.1.2.2.2.2.1.2.1) hq1 hq2 hq3 ?_
      refine W.widen (k := 1) (n := 6) (Nat.le_of_ble_eq_true rfl) (Nat.le_of_ble_eq_true rfl) ?_
      refine lv_astore (lv' := [(4, .ref q9), (0, .ref x0), (1, .int n1), (2, .int n2), (3, .ref o0)]) hx hb dL_step_20 hl (by decide) rfl (fun ls hl => ?_)
      refine lv_iconst (v := 1) hx hb dL_step_22 (by decide) ?_
      have hP9 := hP.sub (ws' := []) [] rfl
      have hD9 := hD.sub (ws' := []) [] (by decide) rfl
      refine W.widen (k := 1) (n := 6) (Nat.le_of_ble_eq_true rfl) (Nat.le_of_ble_eq_true rfl) ?_
      refine vx_ret ?_
      exact W.iret (v := 1) hx hb hr (fun t ht hW => ⟨⟨1, [], rfl, Or.inl ⟨c_1, rfl, rfl⟩, by rw [ht]; exact hP9, va_K.moved hW.alike hK, hD9⟩, hS.F ht⟩) hS.2.2 dL_step_23
    · refine vx_catch hown [⟨0, 17, 20, 13⟩] ⟨0, 17, 24, 15⟩ [⟨0, 17, 28, 17⟩] ((vx_table (x := yL_step) B (hts _ List.mem_cons_self)).trans rfl) (fun z hz => by rw [List.mem_singleton.mp hz]; exact Or.inr ⟨by decide, "java/lang/IllegalArgumentException", htg _ k817, hT.1.2.2.2.2.2.1⟩) (by decide) (by decide) (htg _ k818) (va_Nw.use rfl hT.1.2.2.2.2.1.2.2.1) hq1 hq2 hq3 ?_
      refine W.widen (k := 1) (n := 6) (Nat.le_of_ble_eq_true rfl) (Nat.le_of_ble_eq_true rfl) ?_
      refine lv_astore (lv' := [(4, .ref q9), (0, .ref x0), (1, .int n1), (2, .int n2), (3, .ref o0)]) hx hb dL_step_24 hl (by decide) rfl (fun ls hl => ?_)
      refine lv_iconst (v := 2) hx hb dL_step_26 (by decide) ?_
      have hP9 := hP.sub (ws' := []) [] rfl
      have hD9 := hD.sub (ws' := []) [] (by decide) rfl
      refine W.widen (k := 1) (n := 6) (Nat.le_of_ble_eq_true rfl) (Nat.le_of_ble_eq_true rfl) ?_
      refine vx_ret ?_
      exact W.iret (v := 2) hx hb hr (fun t ht hW => ⟨⟨2, [], rfl, Or.inr (⟨c_2, rfl, rfl⟩), by rw [ht]; exact hP9, va_K.moved hW.alike hK, hD9⟩, hS.F ht⟩) hS.2.2 dL_step_27
  · exact hw.elim

set_option maxHeartbeats 4000000 in
set_option maxRecDepth 100000 in
theorem c_w_stand (l : Launch) (hfl : l.stackTraces = false) (g : GP) (x0 : Nat) (t0 : Nat) (th : Nat) (ts : Nat) (tg : Nat) (td : Nat) (tr : Nat) (u0 : Nat) (k0 : Nat) (o0 : Nat) (fo : Nat → Int64)  : XI l yL_stand (wH yL_stand cL_stand 3 (Option.some Jvm.ClassFile.FieldType.int) [((0 : Nat), (15 : Nat), (18 : Nat), (15 : Nat)), ((0 : Nat), (15 : Nat), (21 : Nat), (17 : Nat))]) (LV 8 1 6) g [.ref x0, .ref o0] ([(x0, .inr (8, [.ref t0, .ref u0, .ref k0])), (t0, .inr (6, [.ref th, .ref ts, .ref tg, .ref td, .int 0, .ref tr, .int (-1), .int 0, .int 0, .int 0, .long 0, .int 0, .int 0])), (o0, .inl (g.2.1 6, 1, .inr (.inl fo)))]) (fun (r : Int32) (u : va_W) => r = 1 ∧ u = []) (fun E : String => False) := by
  intro sz
  refine vx_ofWH (cc := cL_stand) (maxL := 3) (ret := (Option.some Jvm.ClassFile.FieldType.int)) (hh := [((0 : Nat), (15 : Nat), (18 : Nat), (15 : Nat)), ((0 : Nat), (15 : Nat), (21 : Nat), (17 : Nat))]) (by decide) rfl ?_
  intro p e s m args below meth c s₁ B hml hv
  obtain ⟨rfl, hsz, hP, hK, hD0, hT0⟩ := hv
  have hx := B.exec
  have hb := B.bytes
  have hr := B.returns
  have hts := atoms_spec (ws := (wH yL_stand cL_stand 3 (Option.some Jvm.ClassFile.FieldType.int) [((0 : Nat), (15 : Nat), (18 : Nat), (15 : Nat)), ((0 : Nat), (15 : Nat), (21 : Nat), (17 : Nat))])) B.pre
  have htg : ∀ w ∈ G9, w.before _ s = true := fun w h => hts w (List.mem_cons_of_mem _ h)
  have hown : s.vm.findClass "HeroTableLaw" = some m.cls := findClass_of_methodNamed B.named
  have hlocks := B.notSynchronized
  subst hsz
  have hD := hD0.self (sz := s.heap.size)
  have hT := hT0
  clear hT0
  generalize hAe : va_A [(x0, .inr (8, [.ref t0, .ref u0, .ref k0])), (t0, .inr (6, [.ref th, .ref ts, .ref tg, .ref td, .int 0, .ref tr, .int (-1), .int 0, .int 0, .int 0, .long 0, .int 0, .int 0])), (o0, .inl (g.2.1 6, 1, .inr (.inl fo)))] s.heap.size = A at hD hT ⊢
  have hA : ∀ q : Nat, s.heap.size ≤ q → A q := fun q h => by rw [← hAe]; exact Or.inr h
  obtain ⟨H, hH0⟩ : ∃ H, H = s.heap := ⟨_, rfl⟩
  have hS : va_S A s.heap H [] := by rw [hH0]; exact va_S.rf
  have hP : va_P g.1 CLS [(x0, .inr (8, [.ref t0, .ref u0, .ref k0])), (t0, .inr (6, [.ref th, .ref ts, .ref tg, .ref td, .int 0, .ref tr, .int (-1), .int 0, .int 0, .int 0, .long 0, .int 0, .int 0])), (o0, .inl (g.2.1 6, 1, .inr (.inl fo)))] H := by rw [hH0]; exact hP
  rw [← hH0]
  have hl := lv_entry ([.ref x0, .ref o0]) (n := 3) (Nat.le_of_ble_eq_true rfl)
  rw [lg_entry_eq]
  generalize (lg_sl ([.ref x0, .ref o0]) ++ List.replicate (3 - (lg_sl ([.ref x0, .ref o0])).length) Slot.unset).toArray = ls at hl ⊢
  have hl : lv_has ls 3 [(0, .ref x0), (1, .ref o0)] := hl
  refine lv_aload_n hx hb dL_stand_0 rfl (lv_at hl 1 rfl) ?_
  refine lv_iconst (v := 0) hx hb dL_stand_1 (by decide) ?_
  refine lv_aload_n hx hb dL_stand_2 rfl (lv_at hl 0 rfl) ?_
  have hPc := hP.sub (ws' := [(x0, .inr (8, [.ref t0, .ref u0, .ref k0])), (t0, .inr (6, [.ref th, .ref ts, .ref tg, .ref td, .int 0, .ref tr, .int (-1), .int 0, .int 0, .int 0, .long 0, .int 0, .int 0]))]) [0, 1] rfl
  have hDc := hD.sub (ws' := [(x0, .inr (8, [.ref t0, .ref u0, .ref k0])), (t0, .inr (6, [.ref th, .ref ts, .ref tg, .ref td, .int 0, .ref tr, .int (-1), .int 0, .int 0, .int 0, .long 0, .int 0, .int 0]))]) [0, 1] (by decide) rfl
  have hFc := va_free (wc := [(x0, .inr (8, [.ref t0, .ref u0, .ref k0])), (t0, .inr (6, [.ref th, .ref ts, .ref tg, .ref td, .int 0, .ref tr, .int (-1), .int 0, .int 0, .int 0, .long 0, .int 0, .int 0]))]) hD hS hA [0, 1] rfl
  refine q_xi (wr := [(o0, .inl (g.2.1 6, 1, .inr (.inl fo)))]) (vx_runV (As := []) (rest := [.int 0, .ref o0]) ⟨hx, hb, hml, hown, htg⟩ (c_X7_stand l hfl g x0 t0 th ts tg td tr u0 k0  H.size) ⟨(qB htg k1215 k50 k1212 ok_X7_stand rfl rfl ⟨Nat.le_of_ble_eq_true rfl, Nat.le_of_ble_eq_true rfl⟩), htg _ k1213, htg _ k1214⟩ ⟨(q_pre [.ref x0] hPc hDc hK hS hT hFc).1, va_recv hK hP (ci := 8) (q0 := 0) rfl rfl, (q_pre [.ref x0] hPc hDc hK hS hT hFc).2⟩ rfl rfl hl.1 rfl (lv_room (Nat.le_of_ble_eq_true rfl)) dL_stand_3 ⟨Nat.le_of_ble_eq_true rfl, Nat.le_of_ble_eq_true rfl⟩) hP hD hS hFc [0, 1] [2] rfl rfl (by decide) (by decide) (fun E9 ce9 q9 H locs hpx hP hD hS hq1 hq2 hq3 => ?_) (fun r9 u9 H locs hw hP hD hS => ?_)
  · rcases hpx with rfl
    refine vx_catch hown [] ⟨0, 15, 18, 15⟩ [⟨0, 15, 21, 17⟩] ((vx_table (x := yL_stand) B (hts _ List.mem_cons_self)).trans rfl) (fun z hz => nomatch hz) (by decide) (by decide) (htg _ k818) (va_Nw.use rfl hT.1.2.2.2.2.1.2.2.1) hq1 hq2 hq3 ?_
    refine W.widen (k := 1) (n := 6) (Nat.le_of_ble_eq_true rfl) (Nat.le_of_ble_eq_true rfl) ?_
    refine lv_astore_n (lv' := [(2, .ref q9), (0, .ref x0), (1, .ref o0)]) hx hb dL_stand_18 rfl hl (by decide) rfl (fun ls hl => ?_)
    refine lv_iconst (v := 1) hx hb dL_stand_19 (by decide) ?_
    have hP9 := hP.sub (ws' := []) [] rfl
    have hD9 := hD.sub (ws' := []) [] (by decide) rfl
    refine W.widen (k := 1) (n := 6) (Nat.le_of_ble_eq_true rfl) (Nat.le_of_ble_eq_true rfl) ?_
    refine vx_ret ?_
    exact W.iret (v := 1) hx hb hr (fun t ht hW => ⟨⟨1, [], rfl, ⟨rfl, rfl⟩, by rw [ht]; exact hP9, va_K.moved hW.alike hK, hD9⟩, hS.F ht⟩) hS.2.2 dL_stand_20
  · exact hw.elim

set_option maxHeartbeats 4000000 in
set_option maxRecDepth 100000 in
theorem c_w_ready (l : Launch) (hfl : l.stackTraces = false) (g : GP) (x0 : Nat) (t0 : Nat) (th : Nat) (ts : Nat) (tg : Nat) (td : Nat) (tr : Nat) (u0 : Nat) (k0 : Nat) (n1 : Int32) (n2 : Int32) (o0 : Nat) (fo : Nat → Int64)  : XI l yL_ready (wH yL_ready cL_ready 5 (Option.some Jvm.ClassFile.FieldType.int) [((0 : Nat), (17 : Nat), (20 : Nat), (13 : Nat)), ((0 : Nat), (17 : Nat), (24 : Nat), (15 : Nat)), ((0 : Nat), (17 : Nat), (28 : Nat), (17 : Nat))]) (LV 8 1 6) g [.ref x0, .int n1, .int n2, .ref o0] ([(x0, .inr (8, [.ref t0, .ref u0, .ref k0])), (t0, .inr (6, [.ref th, .ref ts, .ref tg, .ref td, .int 0, .ref tr, .int (-1), .int 0, .int 0, .int 0, .long 0, .int 0, .int 0])), (o0, .inl (g.2.1 6, 1, .inr (.inl fo)))]) (fun (r : Int32) (u : va_W) => ((¬ okRdy n1 n2) ∧ r = 1 ∧ u = []) ∨ ((okRdy n1 n2) ∧ r = 2 ∧ u = [])) (fun E : String => False) := by
  intro sz
  refine vx_ofWH (cc := cL_ready) (maxL := 5) (ret := (Option.some Jvm.ClassFile.FieldType.int)) (hh := [((0 : Nat), (17 : Nat), (20 : Nat), (13 : Nat)), ((0 : Nat), (17 : Nat), (24 : Nat), (15 : Nat)), ((0 : Nat), (17 : Nat), (28 : Nat), (17 : Nat))]) (by decide) rfl ?_
  intro p e s m args below meth c s₁ B hml hv
  obtain ⟨rfl, hsz, hP, hK, hD0, hT0⟩ := hv
  have hx := B.exec
  have hb := B.bytes
  have hr := B.returns
  have hts := atoms_spec (ws := (wH yL_ready cL_ready 5 (Option.some Jvm.ClassFile.FieldType.int) [((0 : Nat), (17 : Nat), (20 : Nat), (13 : Nat)), ((0 : Nat), (17 : Nat), (24 : Nat), (15 : Nat)), ((0 : Nat), (17 : Nat), (28 : Nat), (17 : Nat))])) B.pre
  have htg : ∀ w ∈ G9, w.before _ s = true := fun w h => hts w (List.mem_cons_of_mem _ h)
  have hown : s.vm.findClass "HeroTableLaw" = some m.cls := findClass_of_methodNamed B.named
  have hlocks := B.notSynchronized
  subst hsz
  have hD := hD0.self (sz := s.heap.size)
  have hT := hT0
  clear hT0
  generalize hAe : va_A [(x0, .inr (8, [.ref t0, .ref u0, .ref k0])), (t0, .inr (6, [.ref th, .ref ts, .ref tg, .ref td, .int 0, .ref tr, .int (-1), .int 0, .int 0, .int 0, .long 0, .int 0, .int 0])), (o0, .inl (g.2.1 6, 1, .inr (.inl fo)))] s.heap.size = A at hD hT ⊢
  have hA : ∀ q : Nat, s.heap.size ≤ q → A q := fun q h => by rw [← hAe]; exact Or.inr h
  obtain ⟨H, hH0⟩ : ∃ H, H = s.heap := ⟨_, rfl⟩
  have hS : va_S A s.heap H [] := by rw [hH0]; exact va_S.rf
  have hP : va_P g.1 CLS [(x0, .inr (8, [.ref t0, .ref u0, .ref k0])), (t0, .inr (6, [.ref th, .ref ts, .ref tg, .ref td, .int 0, .ref tr, .int (-1), .int 0, .int 0, .int 0, .long 0, .int 0, .int 0])), (o0, .inl (g.2.1 6, 1, .inr (.inl fo)))] H := by rw [hH0]; exact hP
  rw [← hH0]
  have hl := lv_entry ([.ref x0, .int n1, .int n2, .ref o0]) (n := 5) (Nat.le_of_ble_eq_true rfl)
  rw [lg_entry_eq]
  generalize (lg_sl ([.ref x0, .int n1, .int n2, .ref o0]) ++ List.replicate (5 - (lg_sl ([.ref x0, .int n1, .int n2, .ref o0])).length) Slot.unset).toArray = ls at hl ⊢
  have hl : lv_has ls 5 [(0, .ref x0), (1, .int n1), (2, .int n2), (3, .ref o0)] := hl
  refine lv_aload_n hx hb dL_ready_0 rfl (lv_at hl 3 rfl) ?_
  refine lv_iconst (v := 0) hx hb dL_ready_1 (by decide) ?_
  refine lv_aload_n hx hb dL_ready_2 rfl (lv_at hl 0 rfl) ?_
  refine lv_iload_n hx hb dL_ready_3 rfl (lv_at hl 1 rfl) ?_
  refine lv_iload_n hx hb dL_ready_4 rfl (lv_at hl 2 rfl) ?_
  have hPc := hP.sub (ws' := [(x0, .inr (8, [.ref t0, .ref u0, .ref k0])), (t0, .inr (6, [.ref th, .ref ts, .ref tg, .ref td, .int 0, .ref tr, .int (-1), .int 0, .int 0, .int 0, .long 0, .int 0, .int 0]))]) [0, 1] rfl
  have hDc := hD.sub (ws' := [(x0, .inr (8, [.ref t0, .ref u0, .ref k0])), (t0, .inr (6, [.ref th, .ref ts, .ref tg, .ref td, .int 0, .ref tr, .int (-1), .int 0, .int 0, .int 0, .long 0, .int 0, .int 0]))]) [0, 1] (by decide) rfl
  have hFc := va_free (wc := [(x0, .inr (8, [.ref t0, .ref u0, .ref k0])), (t0, .inr (6, [.ref th, .ref ts, .ref tg, .ref td, .int 0, .ref tr, .int (-1), .int 0, .int 0, .int 0, .long 0, .int 0, .int 0]))]) hD hS hA [0, 1] rfl
  refine q_xi (wr := [(o0, .inl (g.2.1 6, 1, .inr (.inl fo)))]) (vx_runV (As := [.int n1, .int n2]) (rest := [.int 0, .ref o0]) ⟨hx, hb, hml, hown, htg⟩ (c_X7_ready l hfl g x0 t0 th ts tg td tr u0 k0 n1 n2  H.size) ⟨(qB htg k1223 k50 k1220 ok_X7_ready rfl rfl ⟨Nat.le_of_ble_eq_true rfl, Nat.le_of_ble_eq_true rfl⟩), htg _ k1221, htg _ k1222⟩ ⟨(q_pre [.ref x0, .int n1, .int n2] hPc hDc hK hS hT hFc).1, va_recv hK hP (ci := 8) (q0 := 0) rfl rfl, (q_pre [.ref x0, .int n1, .int n2] hPc hDc hK hS hT hFc).2⟩ rfl rfl hl.1 rfl (lv_room (Nat.le_of_ble_eq_true rfl)) dL_ready_5 ⟨Nat.le_of_ble_eq_true rfl, Nat.le_of_ble_eq_true rfl⟩) hP hD hS hFc [0, 1] [2] rfl rfl (by decide) (by decide) (fun E9 ce9 q9 H locs hpx hP hD hS hq1 hq2 hq3 => ?_) (fun r9 u9 H locs hw hP hD hS => ?_)
  · rcases hpx with ⟨rfl, c_1⟩ | ⟨rfl, c_2⟩
    · refine vx_catch hown [] ⟨0, 17, 20, 13⟩ [⟨0, 17, 24, 15⟩, ⟨0, 17, 28, 17⟩] ((vx_table (x := yL_ready) B (hts _ List.mem_cons_self)).trans rfl) (fun z hz => nomatch hz) (by decide) (by decide) (htg _ k817) (va_Nw.use rfl hT.1.2.2.2.2.1.2.1) hq1 hq2 hq3 ?_
      refine W.widen (k := 1) (n := 6) (Nat.le_of_ble_eq_true rfl) (Nat.le_of_ble_eq_true rfl) ?_
      refine lv_astore (lv' := [(4, .ref q9), (0, .ref x0), (1, .int n1), (2, .int n2), (3, .ref o0)]) hx hb dL_ready_20 hl (by decide) rfl (fun ls hl => ?_)
      refine lv_iconst (v := 1) hx hb dL_ready_22 (by decide) ?_
      have hP9 := hP.sub (ws' := []) [] rfl
      have hD9 := hD.sub (ws' := []) [] (by decide) rfl
      refine W.widen (k := 1) (n := 6) (Nat.le_of_ble_eq_true rfl) (Nat.le_of_ble_eq_true rfl) ?_
      refine vx_ret ?_
      exact W.iret (v := 1) hx hb hr (fun t ht hW => ⟨⟨1, [], rfl, Or.inl ⟨c_1, rfl, rfl⟩, by rw [ht]; exact hP9, va_K.moved hW.alike hK, hD9⟩, hS.F ht⟩) hS.2.2 dL_ready_23
    · refine vx_catch hown [⟨0, 17, 20, 13⟩] ⟨0, 17, 24, 15⟩ [⟨0, 17, 28, 17⟩] ((vx_table (x := yL_ready) B (hts _ List.mem_cons_self)).trans rfl) (fun z hz => by rw [List.mem_singleton.mp hz]; exact Or.inr ⟨by decide, "java/lang/IllegalArgumentException", htg _ k817, hT.1.2.2.2.2.2.1⟩) (by decide) (by decide) (htg _ k818) (va_Nw.use rfl hT.1.2.2.2.2.1.2.2.1) hq1 hq2 hq3 ?_
      refine W.widen (k := 1) (n := 6) (Nat.le_of_ble_eq_true rfl) (Nat.le_of_ble_eq_true rfl) ?_
      refine lv_astore (lv' := [(4, .ref q9), (0, .ref x0), (1, .int n1), (2, .int n2), (3, .ref o0)]) hx hb dL_ready_24 hl (by decide) rfl (fun ls hl => ?_)
      refine lv_iconst (v := 2) hx hb dL_ready_26 (by decide) ?_
      have hP9 := hP.sub (ws' := []) [] rfl
      have hD9 := hD.sub (ws' := []) [] (by decide) rfl
      refine W.widen (k := 1) (n := 6) (Nat.le_of_ble_eq_true rfl) (Nat.le_of_ble_eq_true rfl) ?_
      refine vx_ret ?_
      exact W.iret (v := 2) hx hb hr (fun t ht hW => ⟨⟨2, [], rfl, Or.inr (⟨c_2, rfl, rfl⟩), by rw [ht]; exact hP9, va_K.moved hW.alike hK, hD9⟩, hS.F ht⟩) hS.2.2 dL_ready_27
  · exact hw.elim

set_option maxHeartbeats 4000000 in
set_option maxRecDepth 100000 in
theorem c_w_cast (l : Launch) (hfl : l.stackTraces = false) (g : GP) (x0 : Nat) (t0 : Nat) (th : Nat) (ts : Nat) (tg : Nat) (td : Nat) (tr : Nat) (u0 : Nat) (k0 : Nat) (n1 : Int32) (n2 : Int32) (n3 : Int32) (o0 : Nat) (fo : Nat → Int64)  : XI l yL_cast (wH yL_cast cL_cast 6 (Option.some Jvm.ClassFile.FieldType.int) [((0 : Nat), (12 : Nat), (15 : Nat), (13 : Nat)), ((0 : Nat), (12 : Nat), (19 : Nat), (15 : Nat)), ((0 : Nat), (12 : Nat), (23 : Nat), (17 : Nat))]) (LV 8 1 6) g [.ref x0, .int n1, .int n2, .int n3, .ref o0] ([(x0, .inr (8, [.ref t0, .ref u0, .ref k0])), (t0, .inr (6, [.ref th, .ref ts, .ref tg, .ref td, .int 0, .ref tr, .int (-1), .int 0, .int 0, .int 0, .long 0, .int 0, .int 0])), (o0, .inl (g.2.1 6, 1, .inr (.inl fo)))]) (fun (r : Int32) (u : va_W) => ((¬ okCast n1 n2 n3) ∧ r = 1 ∧ u = []) ∨ ((okCast n1 n2 n3) ∧ r = 2 ∧ u = [])) (fun E : String => False) := by
  intro sz
  refine vx_ofWH (cc := cL_cast) (maxL := 6) (ret := (Option.some Jvm.ClassFile.FieldType.int)) (hh := [((0 : Nat), (12 : Nat), (15 : Nat), (13 : Nat)), ((0 : Nat), (12 : Nat), (19 : Nat), (15 : Nat)), ((0 : Nat), (12 : Nat), (23 : Nat), (17 : Nat))]) (by decide) rfl ?_
  intro p e s m args below meth c s₁ B hml hv
  obtain ⟨rfl, hsz, hP, hK, hD0, hT0⟩ := hv
  have hx := B.exec
  have hb := B.bytes
  have hr := B.returns
  have hts := atoms_spec (ws := (wH yL_cast cL_cast 6 (Option.some Jvm.ClassFile.FieldType.int) [((0 : Nat), (12 : Nat), (15 : Nat), (13 : Nat)), ((0 : Nat), (12 : Nat), (19 : Nat), (15 : Nat)), ((0 : Nat), (12 : Nat), (23 : Nat), (17 : Nat))])) B.pre
  have htg : ∀ w ∈ G9, w.before _ s = true := fun w h => hts w (List.mem_cons_of_mem _ h)
  have hown : s.vm.findClass "HeroTableLaw" = some m.cls := findClass_of_methodNamed B.named
  have hlocks := B.notSynchronized
  subst hsz
  have hD := hD0.self (sz := s.heap.size)
  have hT := hT0
  clear hT0
  generalize hAe : va_A [(x0, .inr (8, [.ref t0, .ref u0, .ref k0])), (t0, .inr (6, [.ref th, .ref ts, .ref tg, .ref td, .int 0, .ref tr, .int (-1), .int 0, .int 0, .int 0, .long 0, .int 0, .int 0])), (o0, .inl (g.2.1 6, 1, .inr (.inl fo)))] s.heap.size = A at hD hT ⊢
  have hA : ∀ q : Nat, s.heap.size ≤ q → A q := fun q h => by rw [← hAe]; exact Or.inr h
  obtain ⟨H, hH0⟩ : ∃ H, H = s.heap := ⟨_, rfl⟩
  have hS : va_S A s.heap H [] := by rw [hH0]; exact va_S.rf
  have hP : va_P g.1 CLS [(x0, .inr (8, [.ref t0, .ref u0, .ref k0])), (t0, .inr (6, [.ref th, .ref ts, .ref tg, .ref td, .int 0, .ref tr, .int (-1), .int 0, .int 0, .int 0, .long 0, .int 0, .int 0])), (o0, .inl (g.2.1 6, 1, .inr (.inl fo)))] H := by rw [hH0]; exact hP
  rw [← hH0]
  have hl := lv_entry ([.ref x0, .int n1, .int n2, .int n3, .ref o0]) (n := 6) (Nat.le_of_ble_eq_true rfl)
  rw [lg_entry_eq]
  generalize (lg_sl ([.ref x0, .int n1, .int n2, .int n3, .ref o0]) ++ List.replicate (6 - (lg_sl ([.ref x0, .int n1, .int n2, .int n3, .ref o0])).length) Slot.unset).toArray = ls at hl ⊢
  have hl : lv_has ls 6 [(0, .ref x0), (1, .int n1), (2, .int n2), (3, .int n3), (4, .ref o0)] := hl
  refine lv_aload hx hb dL_cast_0 (lv_at hl 4 rfl) ?_
  refine lv_iconst (v := 0) hx hb dL_cast_2 (by decide) ?_
  refine lv_aload_n hx hb dL_cast_3 rfl (lv_at hl 0 rfl) ?_
  refine lv_iload_n hx hb dL_cast_4 rfl (lv_at hl 1 rfl) ?_
  refine lv_iload_n hx hb dL_cast_5 rfl (lv_at hl 2 rfl) ?_
  refine lv_iload_n hx hb dL_cast_6 rfl (lv_at hl 3 rfl) ?_
  have hPc := hP.sub (ws' := [(x0, .inr (8, [.ref t0, .ref u0, .ref k0])), (t0, .inr (6, [.ref th, .ref ts, .ref tg, .ref td, .int 0, .ref tr, .int (-1), .int 0, .int 0, .int 0, .long 0, .int 0, .int 0]))]) [0, 1] rfl
  have hDc := hD.sub (ws' := [(x0, .inr (8, [.ref t0, .ref u0, .ref k0])), (t0, .inr (6, [.ref th, .ref ts, .ref tg, .ref td, .int 0, .ref tr, .int (-1), .int 0, .int 0, .int 0, .long 0, .int 0, .int 0]))]) [0, 1] (by decide) rfl
  have hFc := va_free (wc := [(x0, .inr (8, [.ref t0, .ref u0, .ref k0])), (t0, .inr (6, [.ref th, .ref ts, .ref tg, .ref td, .int 0, .ref tr, .int (-1), .int 0, .int 0, .int 0, .long 0, .int 0, .int 0]))]) hD hS hA [0, 1] rfl
  refine q_xi (wr := [(o0, .inl (g.2.1 6, 1, .inr (.inl fo)))]) (vx_runV (As := [.int n1, .int n2, .int n3]) (rest := [.int 0, .ref o0]) ⟨hx, hb, hml, hown, htg⟩ (c_X7_cast l hfl g x0 t0 th ts tg td tr u0 k0 n1 n2 n3  H.size) ⟨(qB htg k1231 k50 k1228 ok_X7_cast rfl rfl ⟨Nat.le_of_ble_eq_true rfl, Nat.le_of_ble_eq_true rfl⟩), htg _ k1229, htg _ k1230⟩ ⟨(q_pre [.ref x0, .int n1, .int n2, .int n3] hPc hDc hK hS hT hFc).1, va_recv hK hP (ci := 8) (q0 := 0) rfl rfl, (q_pre [.ref x0, .int n1, .int n2, .int n3] hPc hDc hK hS hT hFc).2⟩ rfl rfl hl.1 rfl (lv_room (Nat.le_of_ble_eq_true rfl)) dL_cast_7 ⟨Nat.le_of_ble_eq_true rfl, Nat.le_of_ble_eq_true rfl⟩) hP hD hS hFc [0, 1] [2] rfl rfl (by decide) (by decide) (fun E9 ce9 q9 H locs hpx hP hD hS hq1 hq2 hq3 => ?_) (fun r9 u9 H locs hw hP hD hS => ?_)
  · rcases hpx with ⟨rfl, c_1⟩ | ⟨rfl, c_2⟩
    · refine vx_catch hown [] ⟨0, 12, 15, 13⟩ [⟨0, 12, 19, 15⟩, ⟨0, 12, 23, 17⟩] ((vx_table (x := yL_cast) B (hts _ List.mem_cons_self)).trans rfl) (fun z hz => nomatch hz) (by decide) (by decide) (htg _ k817) (va_Nw.use rfl hT.1.2.2.2.2.1.2.1) hq1 hq2 hq3 ?_
      refine W.widen (k := 1) (n := 6) (Nat.le_of_ble_eq_true rfl) (Nat.le_of_ble_eq_true rfl) ?_
      refine lv_astore (lv' := [(5, .ref q9), (0, .ref x0), (1, .int n1), (2, .int n2), (3, .int n3), (4, .ref o0)]) hx hb dL_cast_15 hl (by decide) rfl (fun ls hl => ?_)
      refine lv_iconst (v := 1) hx hb dL_cast_17 (by decide) ?_
      have hP9 := hP.sub (ws' := []) [] rfl
      have hD9 := hD.sub (ws' := []) [] (by decide) rfl
      refine W.widen (k := 1) (n := 6) (Nat.le_of_ble_eq_true rfl) (Nat.le_of_ble_eq_true rfl) ?_
      refine vx_ret ?_
      exact W.iret (v := 1) hx hb hr (fun t ht hW => ⟨⟨1, [], rfl, Or.inl ⟨c_1, rfl, rfl⟩, by rw [ht]; exact hP9, va_K.moved hW.alike hK, hD9⟩, hS.F ht⟩) hS.2.2 dL_cast_18
    · refine vx_catch hown [⟨0, 12, 15, 13⟩] ⟨0, 12, 19, 15⟩ [⟨0, 12, 23, 17⟩] ((vx_table (x := yL_cast) B (hts _ List.mem_cons_self)).trans rfl) (fun z hz => by rw [List.mem_singleton.mp hz]; exact Or.inr ⟨by decide, "java/lang/IllegalArgumentException", htg _ k817, hT.1.2.2.2.2.2.1⟩) (by decide) (by decide) (htg _ k818) (va_Nw.use rfl hT.1.2.2.2.2.1.2.2.1) hq1 hq2 hq3 ?_
      refine W.widen (k := 1) (n := 6) (Nat.le_of_ble_eq_true rfl) (Nat.le_of_ble_eq_true rfl) ?_
      refine lv_astore (lv' := [(5, .ref q9), (0, .ref x0), (1, .int n1), (2, .int n2), (3, .int n3), (4, .ref o0)]) hx hb dL_cast_19 hl (by decide) rfl (fun ls hl => ?_)
      refine lv_iconst (v := 2) hx hb dL_cast_21 (by decide) ?_
      have hP9 := hP.sub (ws' := []) [] rfl
      have hD9 := hD.sub (ws' := []) [] (by decide) rfl
      refine W.widen (k := 1) (n := 6) (Nat.le_of_ble_eq_true rfl) (Nat.le_of_ble_eq_true rfl) ?_
      refine vx_ret ?_
      exact W.iret (v := 2) hx hb hr (fun t ht hW => ⟨⟨2, [], rfl, Or.inr (⟨c_2, rfl, rfl⟩), by rw [ht]; exact hP9, va_K.moved hW.alike hK, hD9⟩, hS.F ht⟩) hS.2.2 dL_cast_22
  · exact hw.elim

set_option maxHeartbeats 4000000 in
set_option maxRecDepth 100000 in
theorem c_w_slots (l : Launch) (hfl : l.stackTraces = false) (g : GP) (x0 : Nat) (t0 : Nat) (th : Nat) (ts : Nat) (tg : Nat) (td : Nat) (tr : Nat) (u0 : Nat) (k0 : Nat) (n1 : Int32) (o0 : Nat) (fo : Nat → Int64)  : XI l yL_slots (wH yL_slots cL_slots 4 (Option.some Jvm.ClassFile.FieldType.int) [((0 : Nat), (9 : Nat), (12 : Nat), (27 : Nat))]) (LV 8 1 6) g [.ref x0, .int n1, .ref o0] ([(x0, .inr (8, [.ref t0, .ref u0, .ref k0])), (t0, .inr (6, [.ref th, .ref ts, .ref tg, .ref td, .int 0, .ref tr, .int (-1), .int 0, .int 0, .int 0, .long 0, .int 0, .int 0])), (o0, .inl (g.2.1 6, 1, .inr (.inl fo)))]) (fun (r : Int32) (u : va_W) => r = 1 ∧ u = []) (fun E : String => False) := by
  intro sz
  refine vx_ofWH (cc := cL_slots) (maxL := 4) (ret := (Option.some Jvm.ClassFile.FieldType.int)) (hh := [((0 : Nat), (9 : Nat), (12 : Nat), (27 : Nat))]) (by decide) rfl ?_
  intro p e s m args below meth c s₁ B hml hv
  obtain ⟨rfl, hsz, hP, hK, hD0, hT0⟩ := hv
  have hx := B.exec
  have hb := B.bytes
  have hr := B.returns
  have hts := atoms_spec (ws := (wH yL_slots cL_slots 4 (Option.some Jvm.ClassFile.FieldType.int) [((0 : Nat), (9 : Nat), (12 : Nat), (27 : Nat))])) B.pre
  have htg : ∀ w ∈ G9, w.before _ s = true := fun w h => hts w (List.mem_cons_of_mem _ h)
  have hown : s.vm.findClass "HeroTableLaw" = some m.cls := findClass_of_methodNamed B.named
  have hlocks := B.notSynchronized
  subst hsz
  have hD := hD0.self (sz := s.heap.size)
  have hT := hT0
  clear hT0
  generalize hAe : va_A [(x0, .inr (8, [.ref t0, .ref u0, .ref k0])), (t0, .inr (6, [.ref th, .ref ts, .ref tg, .ref td, .int 0, .ref tr, .int (-1), .int 0, .int 0, .int 0, .long 0, .int 0, .int 0])), (o0, .inl (g.2.1 6, 1, .inr (.inl fo)))] s.heap.size = A at hD hT ⊢
  have hA : ∀ q : Nat, s.heap.size ≤ q → A q := fun q h => by rw [← hAe]; exact Or.inr h
  obtain ⟨H, hH0⟩ : ∃ H, H = s.heap := ⟨_, rfl⟩
  have hS : va_S A s.heap H [] := by rw [hH0]; exact va_S.rf
  have hP : va_P g.1 CLS [(x0, .inr (8, [.ref t0, .ref u0, .ref k0])), (t0, .inr (6, [.ref th, .ref ts, .ref tg, .ref td, .int 0, .ref tr, .int (-1), .int 0, .int 0, .int 0, .long 0, .int 0, .int 0])), (o0, .inl (g.2.1 6, 1, .inr (.inl fo)))] H := by rw [hH0]; exact hP
  rw [← hH0]
  have hl := lv_entry ([.ref x0, .int n1, .ref o0]) (n := 4) (Nat.le_of_ble_eq_true rfl)
  rw [lg_entry_eq]
  generalize (lg_sl ([.ref x0, .int n1, .ref o0]) ++ List.replicate (4 - (lg_sl ([.ref x0, .int n1, .ref o0])).length) Slot.unset).toArray = ls at hl ⊢
  have hl : lv_has ls 4 [(0, .ref x0), (1, .int n1), (2, .ref o0)] := hl
  refine lv_aload_n hx hb dL_slots_0 rfl (lv_at hl 2 rfl) ?_
  refine lv_iconst (v := 0) hx hb dL_slots_1 (by decide) ?_
  refine lv_aload_n hx hb dL_slots_2 rfl (lv_at hl 0 rfl) ?_
  refine lv_iload_n hx hb dL_slots_3 rfl (lv_at hl 1 rfl) ?_
  have hPc := hP.sub (ws' := [(x0, .inr (8, [.ref t0, .ref u0, .ref k0])), (t0, .inr (6, [.ref th, .ref ts, .ref tg, .ref td, .int 0, .ref tr, .int (-1), .int 0, .int 0, .int 0, .long 0, .int 0, .int 0]))]) [0, 1] rfl
  have hDc := hD.sub (ws' := [(x0, .inr (8, [.ref t0, .ref u0, .ref k0])), (t0, .inr (6, [.ref th, .ref ts, .ref tg, .ref td, .int 0, .ref tr, .int (-1), .int 0, .int 0, .int 0, .long 0, .int 0, .int 0]))]) [0, 1] (by decide) rfl
  have hFc := va_free (wc := [(x0, .inr (8, [.ref t0, .ref u0, .ref k0])), (t0, .inr (6, [.ref th, .ref ts, .ref tg, .ref td, .int 0, .ref tr, .int (-1), .int 0, .int 0, .int 0, .long 0, .int 0, .int 0]))]) hD hS hA [0, 1] rfl
  refine q_xi (wr := [(o0, .inl (g.2.1 6, 1, .inr (.inl fo)))]) (vx_runV (As := [.int n1]) (rest := [.int 0, .ref o0]) ⟨hx, hb, hml, hown, htg⟩ (c_X7_slots l hfl g x0 t0 th ts tg td tr u0 k0 n1  H.size) ⟨(qB htg k1239 k50 k1236 ok_X7_slots rfl rfl ⟨Nat.le_of_ble_eq_true rfl, Nat.le_of_ble_eq_true rfl⟩), htg _ k1237, htg _ k1238⟩ ⟨(q_pre [.ref x0, .int n1] hPc hDc hK hS hT hFc).1, va_recv hK hP (ci := 8) (q0 := 0) rfl rfl, (q_pre [.ref x0, .int n1] hPc hDc hK hS hT hFc).2⟩ rfl rfl hl.1 rfl (lv_room (Nat.le_of_ble_eq_true rfl)) dL_slots_4 ⟨Nat.le_of_ble_eq_true rfl, Nat.le_of_ble_eq_true rfl⟩) hP hD hS hFc [0, 1] [2] rfl rfl (by decide) (by decide) (fun E9 ce9 q9 H locs hpx hP hD hS hq1 hq2 hq3 => ?_) (fun r9 u9 H locs hw hP hD hS => ?_)
  · rcases hpx with rfl
    refine vx_catch hown [] ⟨0, 9, 12, 27⟩ [] ((vx_table (x := yL_slots) B (hts _ List.mem_cons_self)).trans rfl) (fun z hz => nomatch hz) (by decide) (by decide) (htg _ k984) (va_Nw.use rfl hT.1.2.2.2.2.1.1) hq1 hq2 hq3 ?_
    refine W.widen (k := 1) (n := 6) (Nat.le_of_ble_eq_true rfl) (Nat.le_of_ble_eq_true rfl) ?_
    refine lv_astore_n (lv' := [(3, .ref q9), (0, .ref x0), (1, .int n1), (2, .ref o0)]) hx hb dL_slots_12 rfl hl (by decide) rfl (fun ls hl => ?_)
    refine lv_iconst (v := 1) hx hb dL_slots_13 (by decide) ?_
    have hP9 := hP.sub (ws' := []) [] rfl
    have hD9 := hD.sub (ws' := []) [] (by decide) rfl
    refine W.widen (k := 1) (n := 6) (Nat.le_of_ble_eq_true rfl) (Nat.le_of_ble_eq_true rfl) ?_
    refine vx_ret ?_
    exact W.iret (v := 1) hx hb hr (fun t ht hW => ⟨⟨1, [], rfl, ⟨rfl, rfl⟩, by rw [ht]; exact hP9, va_K.moved hW.alike hK, hD9⟩, hS.F ht⟩) hS.2.2 dL_slots_14
  · exact hw.elim

set_option maxHeartbeats 4000000 in
set_option maxRecDepth 100000 in
theorem c_w_minds (l : Launch) (hfl : l.stackTraces = false) (g : GP) (x0 : Nat) (t0 : Nat) (th : Nat) (ts : Nat) (tg : Nat) (td : Nat) (tr : Nat) (u0 : Nat) (k0 : Nat) (n1 : Int32) (o0 : Nat) (fo : Nat → Int64)  : XI l yL_minds (wH yL_minds cL_minds 4 (Option.some Jvm.ClassFile.FieldType.int) [((0 : Nat), (16 : Nat), (19 : Nat), (27 : Nat))]) (LV 8 1 6) g [.ref x0, .int n1, .ref o0] ([(x0, .inr (8, [.ref t0, .ref u0, .ref k0])), (t0, .inr (6, [.ref th, .ref ts, .ref tg, .ref td, .int 0, .ref tr, .int (-1), .int 0, .int 0, .int 0, .long 0, .int 0, .int 0])), (o0, .inl (g.2.1 6, 1, .inr (.inl fo)))]) (fun (r : Int32) (u : va_W) => r = 1 ∧ u = []) (fun E : String => False) := by
  intro sz
  refine vx_ofWH (cc := cL_minds) (maxL := 4) (ret := (Option.some Jvm.ClassFile.FieldType.int)) (hh := [((0 : Nat), (16 : Nat), (19 : Nat), (27 : Nat))]) (by decide) rfl ?_
  intro p e s m args below meth c s₁ B hml hv
  obtain ⟨rfl, hsz, hP, hK, hD0, hT0⟩ := hv
  have hx := B.exec
  have hb := B.bytes
  have hr := B.returns
  have hts := atoms_spec (ws := (wH yL_minds cL_minds 4 (Option.some Jvm.ClassFile.FieldType.int) [((0 : Nat), (16 : Nat), (19 : Nat), (27 : Nat))])) B.pre
  have htg : ∀ w ∈ G9, w.before _ s = true := fun w h => hts w (List.mem_cons_of_mem _ h)
  have hown : s.vm.findClass "HeroTableLaw" = some m.cls := findClass_of_methodNamed B.named
  have hlocks := B.notSynchronized
  subst hsz
  have hD := hD0.self (sz := s.heap.size)
  have hT := hT0
  clear hT0
  generalize hAe : va_A [(x0, .inr (8, [.ref t0, .ref u0, .ref k0])), (t0, .inr (6, [.ref th, .ref ts, .ref tg, .ref td, .int 0, .ref tr, .int (-1), .int 0, .int 0, .int 0, .long 0, .int 0, .int 0])), (o0, .inl (g.2.1 6, 1, .inr (.inl fo)))] s.heap.size = A at hD hT ⊢
  have hA : ∀ q : Nat, s.heap.size ≤ q → A q := fun q h => by rw [← hAe]; exact Or.inr h
  obtain ⟨H, hH0⟩ : ∃ H, H = s.heap := ⟨_, rfl⟩
  have hS : va_S A s.heap H [] := by rw [hH0]; exact va_S.rf
  have hP : va_P g.1 CLS [(x0, .inr (8, [.ref t0, .ref u0, .ref k0])), (t0, .inr (6, [.ref th, .ref ts, .ref tg, .ref td, .int 0, .ref tr, .int (-1), .int 0, .int 0, .int 0, .long 0, .int 0, .int 0])), (o0, .inl (g.2.1 6, 1, .inr (.inl fo)))] H := by rw [hH0]; exact hP
  rw [← hH0]
  have hl := lv_entry ([.ref x0, .int n1, .ref o0]) (n := 4) (Nat.le_of_ble_eq_true rfl)
  rw [lg_entry_eq]
  generalize (lg_sl ([.ref x0, .int n1, .ref o0]) ++ List.replicate (4 - (lg_sl ([.ref x0, .int n1, .ref o0])).length) Slot.unset).toArray = ls at hl ⊢
  have hl : lv_has ls 4 [(0, .ref x0), (1, .int n1), (2, .ref o0)] := hl
  refine lv_aload_n hx hb dL_minds_0 rfl (lv_at hl 2 rfl) ?_
  refine lv_iconst (v := 0) hx hb dL_minds_1 (by decide) ?_
  refine lv_aload_n hx hb dL_minds_2 rfl (lv_at hl 0 rfl) ?_
  refine lv_iload_n hx hb dL_minds_3 rfl (lv_at hl 1 rfl) ?_
  have hPc := hP.sub (ws' := [(x0, .inr (8, [.ref t0, .ref u0, .ref k0])), (t0, .inr (6, [.ref th, .ref ts, .ref tg, .ref td, .int 0, .ref tr, .int (-1), .int 0, .int 0, .int 0, .long 0, .int 0, .int 0]))]) [0, 1] rfl
  have hDc := hD.sub (ws' := [(x0, .inr (8, [.ref t0, .ref u0, .ref k0])), (t0, .inr (6, [.ref th, .ref ts, .ref tg, .ref td, .int 0, .ref tr, .int (-1), .int 0, .int 0, .int 0, .long 0, .int 0, .int 0]))]) [0, 1] (by decide) rfl
  have hFc := va_free (wc := [(x0, .inr (8, [.ref t0, .ref u0, .ref k0])), (t0, .inr (6, [.ref th, .ref ts, .ref tg, .ref td, .int 0, .ref tr, .int (-1), .int 0, .int 0, .int 0, .long 0, .int 0, .int 0]))]) hD hS hA [0, 1] rfl
  refine q_xi (wr := [(o0, .inl (g.2.1 6, 1, .inr (.inl fo)))]) (vx_runV (As := [.int n1]) (rest := [.int 0, .ref o0]) ⟨hx, hb, hml, hown, htg⟩ (c_X7_minds l hfl g x0 t0 th ts tg td tr u0 k0 n1  H.size) ⟨(qB htg k1246 k50 k1243 ok_X7_minds rfl rfl ⟨Nat.le_of_ble_eq_true rfl, Nat.le_of_ble_eq_true rfl⟩), htg _ k1244, htg _ k1245⟩ ⟨(q_pre [.ref x0, .int n1] hPc hDc hK hS hT hFc).1, va_recv hK hP (ci := 8) (q0 := 0) rfl rfl, (q_pre [.ref x0, .int n1] hPc hDc hK hS hT hFc).2⟩ rfl rfl hl.1 rfl (lv_room (Nat.le_of_ble_eq_true rfl)) dL_minds_4 ⟨Nat.le_of_ble_eq_true rfl, Nat.le_of_ble_eq_true rfl⟩) hP hD hS hFc [0, 1] [2] rfl rfl (by decide) (by decide) (fun E9 ce9 q9 H locs hpx hP hD hS hq1 hq2 hq3 => ?_) (fun r9 u9 H locs hw hP hD hS => ?_)
  · rcases hpx with rfl
    refine vx_catch hown [] ⟨0, 16, 19, 27⟩ [] ((vx_table (x := yL_minds) B (hts _ List.mem_cons_self)).trans rfl) (fun z hz => nomatch hz) (by decide) (by decide) (htg _ k984) (va_Nw.use rfl hT.1.2.2.2.2.1.1) hq1 hq2 hq3 ?_
    refine W.widen (k := 1) (n := 6) (Nat.le_of_ble_eq_true rfl) (Nat.le_of_ble_eq_true rfl) ?_
    refine lv_astore_n (lv' := [(3, .ref q9), (0, .ref x0), (1, .int n1), (2, .ref o0)]) hx hb dL_minds_19 rfl hl (by decide) rfl (fun ls hl => ?_)
    refine lv_iconst (v := 1) hx hb dL_minds_20 (by decide) ?_
    have hP9 := hP.sub (ws' := []) [] rfl
    have hD9 := hD.sub (ws' := []) [] (by decide) rfl
    refine W.widen (k := 1) (n := 6) (Nat.le_of_ble_eq_true rfl) (Nat.le_of_ble_eq_true rfl) ?_
    refine vx_ret ?_
    exact W.iret (v := 1) hx hb hr (fun t ht hW => ⟨⟨1, [], rfl, ⟨rfl, rfl⟩, by rw [ht]; exact hP9, va_K.moved hW.alike hK, hD9⟩, hS.F ht⟩) hS.2.2 dL_minds_21
  · exact hw.elim

set_option maxHeartbeats 4000000 in
set_option maxRecDepth 100000 in
theorem c_w_again (l : Launch) (hfl : l.stackTraces = false) (g : GP) (x0 : Nat) (t0 : Nat) (th : Nat) (ts : Nat) (tg : Nat) (td : Nat) (tr : Nat) (u0 : Nat) (k0 : Nat) (tv : Nat) (n1 : Int32) (n2 : Int32) (n3 : Int32) (o0 : Nat) (fo : Nat → Int64)  : XI l yL_again (wH yL_again cL_again 6 (Option.some Jvm.ClassFile.FieldType.int) [((0 : Nat), (12 : Nat), (15 : Nat), (27 : Nat)), ((0 : Nat), (12 : Nat), (19 : Nat), (13 : Nat))]) (LV 8 1 6) g [.ref x0, .int n1, .int n2, .int n3, .ref o0] ([(x0, .inr (8, [.ref t0, .ref u0, .ref k0])), (t0, .inr (6, [.ref th, .ref ts, .ref tg, .ref td, .int 0, .ref tr, .int (-1), .int 0, .int 0, .int 0, .long 0, .int 0, .int 0])), (td, .inr (2, [.ref tv, .int 0, .int 0])), (o0, .inl (g.2.1 6, 1, .inr (.inl fo)))]) (fun (r : Int32) (u : va_W) => r = 1 ∧ u = []) (fun E : String => False) := by
  intro sz
  refine vx_ofWH (cc := cL_again) (maxL := 6) (ret := (Option.some Jvm.ClassFile.FieldType.int)) (hh := [((0 : Nat), (12 : Nat), (15 : Nat), (27 : Nat)), ((0 : Nat), (12 : Nat), (19 : Nat), (13 : Nat))]) (by decide) rfl ?_
  intro p e s m args below meth c s₁ B hml hv
  obtain ⟨rfl, hsz, hP, hK, hD0, hT0⟩ := hv
  have hx := B.exec
  have hb := B.bytes
  have hr := B.returns
  have hts := atoms_spec (ws := (wH yL_again cL_again 6 (Option.some Jvm.ClassFile.FieldType.int) [((0 : Nat), (12 : Nat), (15 : Nat), (27 : Nat)), ((0 : Nat), (12 : Nat), (19 : Nat), (13 : Nat))])) B.pre
  have htg : ∀ w ∈ G9, w.before _ s = true := fun w h => hts w (List.mem_cons_of_mem _ h)
  have hown : s.vm.findClass "HeroTableLaw" = some m.cls := findClass_of_methodNamed B.named
  have hlocks := B.notSynchronized
  subst hsz
  have hD := hD0.self (sz := s.heap.size)
  have hT := hT0
  clear hT0
  generalize hAe : va_A [(x0, .inr (8, [.ref t0, .ref u0, .ref k0])), (t0, .inr (6, [.ref th, .ref ts, .ref tg, .ref td, .int 0, .ref tr, .int (-1), .int 0, .int 0, .int 0, .long 0, .int 0, .int 0])), (td, .inr (2, [.ref tv, .int 0, .int 0])), (o0, .inl (g.2.1 6, 1, .inr (.inl fo)))] s.heap.size = A at hD hT ⊢
  have hA : ∀ q : Nat, s.heap.size ≤ q → A q := fun q h => by rw [← hAe]; exact Or.inr h
  obtain ⟨H, hH0⟩ : ∃ H, H = s.heap := ⟨_, rfl⟩
  have hS : va_S A s.heap H [] := by rw [hH0]; exact va_S.rf
  have hP : va_P g.1 CLS [(x0, .inr (8, [.ref t0, .ref u0, .ref k0])), (t0, .inr (6, [.ref th, .ref ts, .ref tg, .ref td, .int 0, .ref tr, .int (-1), .int 0, .int 0, .int 0, .long 0, .int 0, .int 0])), (td, .inr (2, [.ref tv, .int 0, .int 0])), (o0, .inl (g.2.1 6, 1, .inr (.inl fo)))] H := by rw [hH0]; exact hP
  rw [← hH0]
  have hl := lv_entry ([.ref x0, .int n1, .int n2, .int n3, .ref o0]) (n := 6) (Nat.le_of_ble_eq_true rfl)
  rw [lg_entry_eq]
  generalize (lg_sl ([.ref x0, .int n1, .int n2, .int n3, .ref o0]) ++ List.replicate (6 - (lg_sl ([.ref x0, .int n1, .int n2, .int n3, .ref o0])).length) Slot.unset).toArray = ls at hl ⊢
  have hl : lv_has ls 6 [(0, .ref x0), (1, .int n1), (2, .int n2), (3, .int n3), (4, .ref o0)] := hl
  refine lv_aload hx hb dL_again_0 (lv_at hl 4 rfl) ?_
  refine lv_iconst (v := 0) hx hb dL_again_2 (by decide) ?_
  refine lv_aload_n hx hb dL_again_3 rfl (lv_at hl 0 rfl) ?_
  refine lv_iload_n hx hb dL_again_4 rfl (lv_at hl 1 rfl) ?_
  refine lv_iload_n hx hb dL_again_5 rfl (lv_at hl 2 rfl) ?_
  refine lv_iload_n hx hb dL_again_6 rfl (lv_at hl 3 rfl) ?_
  have hPc := hP.sub (ws' := [(x0, .inr (8, [.ref t0, .ref u0, .ref k0])), (t0, .inr (6, [.ref th, .ref ts, .ref tg, .ref td, .int 0, .ref tr, .int (-1), .int 0, .int 0, .int 0, .long 0, .int 0, .int 0])), (td, .inr (2, [.ref tv, .int 0, .int 0]))]) [0, 1, 2] rfl
  have hDc := hD.sub (ws' := [(x0, .inr (8, [.ref t0, .ref u0, .ref k0])), (t0, .inr (6, [.ref th, .ref ts, .ref tg, .ref td, .int 0, .ref tr, .int (-1), .int 0, .int 0, .int 0, .long 0, .int 0, .int 0])), (td, .inr (2, [.ref tv, .int 0, .int 0]))]) [0, 1, 2] (by decide) rfl
  have hFc := va_free (wc := [(x0, .inr (8, [.ref t0, .ref u0, .ref k0])), (t0, .inr (6, [.ref th, .ref ts, .ref tg, .ref td, .int 0, .ref tr, .int (-1), .int 0, .int 0, .int 0, .long 0, .int 0, .int 0])), (td, .inr (2, [.ref tv, .int 0, .int 0]))]) hD hS hA [0, 1, 2] rfl
  refine q_xi (wr := [(o0, .inl (g.2.1 6, 1, .inr (.inl fo)))]) (vx_runV (As := [.int n1, .int n2, .int n3]) (rest := [.int 0, .ref o0]) ⟨hx, hb, hml, hown, htg⟩ (c_X7_again l hfl g x0 t0 th ts tg td tr u0 k0 tv n1 n2 n3  H.size) ⟨(qB htg k1253 k50 k1250 ok_X7_again rfl rfl ⟨Nat.le_of_ble_eq_true rfl, Nat.le_of_ble_eq_true rfl⟩), htg _ k1251, htg _ k1252⟩ ⟨(q_pre [.ref x0, .int n1, .int n2, .int n3] hPc hDc hK hS hT hFc).1, va_recv hK hP (ci := 8) (q0 := 0) rfl rfl, (q_pre [.ref x0, .int n1, .int n2, .int n3] hPc hDc hK hS hT hFc).2⟩ rfl rfl hl.1 rfl (lv_room (Nat.le_of_ble_eq_true rfl)) dL_again_7 ⟨Nat.le_of_ble_eq_true rfl, Nat.le_of_ble_eq_true rfl⟩) hP hD hS hFc [0, 1, 2] [3] rfl rfl (by decide) (by decide) (fun E9 ce9 q9 H locs hpx hP hD hS hq1 hq2 hq3 => ?_) (fun r9 u9 H locs hw hP hD hS => ?_)
  · rcases hpx with rfl
    refine vx_catch hown [] ⟨0, 12, 15, 27⟩ [⟨0, 12, 19, 13⟩] ((vx_table (x := yL_again) B (hts _ List.mem_cons_self)).trans rfl) (fun z hz => nomatch hz) (by decide) (by decide) (htg _ k984) (va_Nw.use rfl hT.1.2.2.2.2.1.1) hq1 hq2 hq3 ?_
    refine W.widen (k := 1) (n := 6) (Nat.le_of_ble_eq_true rfl) (Nat.le_of_ble_eq_true rfl) ?_
    refine lv_astore (lv' := [(5, .ref q9), (0, .ref x0), (1, .int n1), (2, .int n2), (3, .int n3), (4, .ref o0)]) hx hb dL_again_15 hl (by decide) rfl (fun ls hl => ?_)
    refine lv_iconst (v := 1) hx hb dL_again_17 (by decide) ?_
    have hP9 := hP.sub (ws' := []) [] rfl
    have hD9 := hD.sub (ws' := []) [] (by decide) rfl
    refine W.widen (k := 1) (n := 6) (Nat.le_of_ble_eq_true rfl) (Nat.le_of_ble_eq_true rfl) ?_
    refine vx_ret ?_
    exact W.iret (v := 1) hx hb hr (fun t ht hW => ⟨⟨1, [], rfl, ⟨rfl, rfl⟩, by rw [ht]; exact hP9, va_K.moved hW.alike hK, hD9⟩, hS.F ht⟩) hS.2.2 dL_again_18
  · exact hw.elim

set_option maxHeartbeats 4000000 in
set_option maxRecDepth 100000 in
theorem c_w_hitShare (l : Launch) (hfl : l.stackTraces = false) (g : GP) (x0 : Nat) (t0 : Nat) (th : Nat) (ts : Nat) (tg : Nat) (td : Nat) (tr : Nat) (u0 : Nat) (k0 : Nat) (o0 : Nat) (fo : Nat → UInt64)  : XI l yL_hitShare (wH yL_hitShare cL_hitShare 3 (Option.some Jvm.ClassFile.FieldType.int) [((0 : Nat), (8 : Nat), (11 : Nat), (137 : Nat))]) (LV 8 1 6) g [.ref x0, .ref o0] ([(x0, .inr (8, [.ref t0, .ref u0, .ref k0])), (t0, .inr (6, [.ref th, .ref ts, .ref tg, .ref td, .int 0, .ref tr, .int (-1), .int 0, .int 0, .int 0, .long 0, .int 0, .int 0])), (o0, .inl (g.2.1 7, 1, .inr (.inr (.inr (.inl fo)))))]) (fun (r : Int32) (u : va_W) => r = 1 ∧ u = []) (fun E : String => False) := by
  intro sz
  refine vx_ofWH (cc := cL_hitShare) (maxL := 3) (ret := (Option.some Jvm.ClassFile.FieldType.int)) (hh := [((0 : Nat), (8 : Nat), (11 : Nat), (137 : Nat))]) (by decide) rfl ?_
  intro p e s m args below meth c s₁ B hml hv
  obtain ⟨rfl, hsz, hP, hK, hD0, hT0⟩ := hv
  have hx := B.exec
  have hb := B.bytes
  have hr := B.returns
  have hts := atoms_spec (ws := (wH yL_hitShare cL_hitShare 3 (Option.some Jvm.ClassFile.FieldType.int) [((0 : Nat), (8 : Nat), (11 : Nat), (137 : Nat))])) B.pre
  have htg : ∀ w ∈ G9, w.before _ s = true := fun w h => hts w (List.mem_cons_of_mem _ h)
  have hown : s.vm.findClass "HeroTableLaw" = some m.cls := findClass_of_methodNamed B.named
  have hlocks := B.notSynchronized
  subst hsz
  have hD := hD0.self (sz := s.heap.size)
  have hT := hT0
  clear hT0
  generalize hAe : va_A [(x0, .inr (8, [.ref t0, .ref u0, .ref k0])), (t0, .inr (6, [.ref th, .ref ts, .ref tg, .ref td, .int 0, .ref tr, .int (-1), .int 0, .int 0, .int 0, .long 0, .int 0, .int 0])), (o0, .inl (g.2.1 7, 1, .inr (.inr (.inr (.inl fo)))))] s.heap.size = A at hD hT ⊢
  have hA : ∀ q : Nat, s.heap.size ≤ q → A q := fun q h => by rw [← hAe]; exact Or.inr h
  obtain ⟨H, hH0⟩ : ∃ H, H = s.heap := ⟨_, rfl⟩
  have hS : va_S A s.heap H [] := by rw [hH0]; exact va_S.rf
  have hP : va_P g.1 CLS [(x0, .inr (8, [.ref t0, .ref u0, .ref k0])), (t0, .inr (6, [.ref th, .ref ts, .ref tg, .ref td, .int 0, .ref tr, .int (-1), .int 0, .int 0, .int 0, .long 0, .int 0, .int 0])), (o0, .inl (g.2.1 7, 1, .inr (.inr (.inr (.inl fo)))))] H := by rw [hH0]; exact hP
  rw [← hH0]
  have hl := lv_entry ([.ref x0, .ref o0]) (n := 3) (Nat.le_of_ble_eq_true rfl)
  rw [lg_entry_eq]
  generalize (lg_sl ([.ref x0, .ref o0]) ++ List.replicate (3 - (lg_sl ([.ref x0, .ref o0])).length) Slot.unset).toArray = ls at hl ⊢
  have hl : lv_has ls 3 [(0, .ref x0), (1, .ref o0)] := hl
  refine lv_aload_n hx hb dL_hitShare_0 rfl (lv_at hl 1 rfl) ?_
  refine lv_iconst (v := 0) hx hb dL_hitShare_1 (by decide) ?_
  refine lv_aload_n hx hb dL_hitShare_2 rfl (lv_at hl 0 rfl) ?_
  have hPc := hP.sub (ws' := [(x0, .inr (8, [.ref t0, .ref u0, .ref k0])), (t0, .inr (6, [.ref th, .ref ts, .ref tg, .ref td, .int 0, .ref tr, .int (-1), .int 0, .int 0, .int 0, .long 0, .int 0, .int 0]))]) [0, 1] rfl
  have hDc := hD.sub (ws' := [(x0, .inr (8, [.ref t0, .ref u0, .ref k0])), (t0, .inr (6, [.ref th, .ref ts, .ref tg, .ref td, .int 0, .ref tr, .int (-1), .int 0, .int 0, .int 0, .long 0, .int 0, .int 0]))]) [0, 1] (by decide) rfl
  have hFc := va_free (wc := [(x0, .inr (8, [.ref t0, .ref u0, .ref k0])), (t0, .inr (6, [.ref th, .ref ts, .ref tg, .ref td, .int 0, .ref tr, .int (-1), .int 0, .int 0, .int 0, .long 0, .int 0, .int 0]))]) hD hS hA [0, 1] rfl
  refine q_xf (wr := [(o0, .inl (g.2.1 7, 1, .inr (.inr (.inr (.inl fo)))))]) (vx_runV (As := []) (rest := [.int 0, .ref o0]) ⟨hx, hb, hml, hown, htg⟩ (c_X7_hitShare l hfl g x0 t0 th ts tg td tr u0 k0  H.size) ⟨(qB htg k1276 k50 k1273 ok_X7_hitShare rfl rfl ⟨Nat.le_of_ble_eq_true rfl, Nat.le_of_ble_eq_true rfl⟩), htg _ k1274, htg _ k1275⟩ ⟨(q_pre [.ref x0] hPc hDc hK hS hT hFc).1, va_recv hK hP (ci := 8) (q0 := 0) rfl rfl, (q_pre [.ref x0] hPc hDc hK hS hT hFc).2⟩ rfl rfl hl.1 rfl (lv_room (Nat.le_of_ble_eq_true rfl)) dL_hitShare_3 ⟨Nat.le_of_ble_eq_true rfl, Nat.le_of_ble_eq_true rfl⟩) hP hD hS hFc [0, 1] [2] rfl rfl (by decide) (by decide) (fun E9 ce9 q9 H locs hpx hP hD hS hq1 hq2 hq3 => ?_) (fun r9 u9 H locs hw hP hD hS => ?_)
  · rcases hpx with rfl
    refine vx_catch hown [] ⟨0, 8, 11, 137⟩ [] ((vx_table (x := yL_hitShare) B (hts _ List.mem_cons_self)).trans rfl) (fun z hz => nomatch hz) (by decide) (by decide) (htg _ k1259) (va_Nw.use rfl hT.1.2.2.2.2.1.2.2.2.2) hq1 hq2 hq3 ?_
    refine W.widen (k := 1) (n := 6) (Nat.le_of_ble_eq_true rfl) (Nat.le_of_ble_eq_true rfl) ?_
    refine lv_astore_n (lv' := [(2, .ref q9), (0, .ref x0), (1, .ref o0)]) hx hb dL_hitShare_11 rfl hl (by decide) rfl (fun ls hl => ?_)
    refine lv_iconst (v := 1) hx hb dL_hitShare_12 (by decide) ?_
    have hP9 := hP.sub (ws' := []) [] rfl
    have hD9 := hD.sub (ws' := []) [] (by decide) rfl
    refine W.widen (k := 1) (n := 6) (Nat.le_of_ble_eq_true rfl) (Nat.le_of_ble_eq_true rfl) ?_
    refine vx_ret ?_
    exact W.iret (v := 1) hx hb hr (fun t ht hW => ⟨⟨1, [], rfl, ⟨rfl, rfl⟩, by rw [ht]; exact hP9, va_K.moved hW.alike hK, hD9⟩, hS.F ht⟩) hS.2.2 dL_hitShare_13
  · exact hw.elim

set_option maxHeartbeats 4000000 in
set_option maxRecDepth 100000 in
theorem c_w_meanLife (l : Launch) (hfl : l.stackTraces = false) (g : GP) (x0 : Nat) (t0 : Nat) (th : Nat) (ts : Nat) (tg : Nat) (td : Nat) (tr : Nat) (u0 : Nat) (k0 : Nat) (o0 : Nat) (fo : Nat → UInt64)  : XI l yL_meanLife (wH yL_meanLife cL_meanLife 3 (Option.some Jvm.ClassFile.FieldType.int) [((0 : Nat), (7 : Nat), (10 : Nat), (137 : Nat))]) (LV 8 1 6) g [.ref x0, .ref o0] ([(x0, .inr (8, [.ref t0, .ref u0, .ref k0])), (t0, .inr (6, [.ref th, .ref ts, .ref tg, .ref td, .int 0, .ref tr, .int (-1), .int 0, .int 0, .int 0, .long 0, .int 0, .int 0])), (o0, .inl (g.2.1 7, 1, .inr (.inr (.inr (.inl fo)))))]) (fun (r : Int32) (u : va_W) => r = 1 ∧ u = []) (fun E : String => False) := by
  intro sz
  refine vx_ofWH (cc := cL_meanLife) (maxL := 3) (ret := (Option.some Jvm.ClassFile.FieldType.int)) (hh := [((0 : Nat), (7 : Nat), (10 : Nat), (137 : Nat))]) (by decide) rfl ?_
  intro p e s m args below meth c s₁ B hml hv
  obtain ⟨rfl, hsz, hP, hK, hD0, hT0⟩ := hv
  have hx := B.exec
  have hb := B.bytes
  have hr := B.returns
  have hts := atoms_spec (ws := (wH yL_meanLife cL_meanLife 3 (Option.some Jvm.ClassFile.FieldType.int) [((0 : Nat), (7 : Nat), (10 : Nat), (137 : Nat))])) B.pre
  have htg : ∀ w ∈ G9, w.before _ s = true := fun w h => hts w (List.mem_cons_of_mem _ h)
  have hown : s.vm.findClass "HeroTableLaw" = some m.cls := findClass_of_methodNamed B.named
  have hlocks := B.notSynchronized
  subst hsz
  have hD := hD0.self (sz := s.heap.size)
  have hT := hT0
  clear hT0
  generalize hAe : va_A [(x0, .inr (8, [.ref t0, .ref u0, .ref k0])), (t0, .inr (6, [.ref th, .ref ts, .ref tg, .ref td, .int 0, .ref tr, .int (-1), .int 0, .int 0, .int 0, .long 0, .int 0, .int 0])), (o0, .inl (g.2.1 7, 1, .inr (.inr (.inr (.inl fo)))))] s.heap.size = A at hD hT ⊢
  have hA : ∀ q : Nat, s.heap.size ≤ q → A q := fun q h => by rw [← hAe]; exact Or.inr h
  obtain ⟨H, hH0⟩ : ∃ H, H = s.heap := ⟨_, rfl⟩
  have hS : va_S A s.heap H [] := by rw [hH0]; exact va_S.rf
  have hP : va_P g.1 CLS [(x0, .inr (8, [.ref t0, .ref u0, .ref k0])), (t0, .inr (6, [.ref th, .ref ts, .ref tg, .ref td, .int 0, .ref tr, .int (-1), .int 0, .int 0, .int 0, .long 0, .int 0, .int 0])), (o0, .inl (g.2.1 7, 1, .inr (.inr (.inr (.inl fo)))))] H := by rw [hH0]; exact hP
  rw [← hH0]
  have hl := lv_entry ([.ref x0, .ref o0]) (n := 3) (Nat.le_of_ble_eq_true rfl)
  rw [lg_entry_eq]
  generalize (lg_sl ([.ref x0, .ref o0]) ++ List.replicate (3 - (lg_sl ([.ref x0, .ref o0])).length) Slot.unset).toArray = ls at hl ⊢
  have hl : lv_has ls 3 [(0, .ref x0), (1, .ref o0)] := hl
  refine lv_aload_n hx hb dL_meanLife_0 rfl (lv_at hl 1 rfl) ?_
  refine lv_iconst (v := 0) hx hb dL_meanLife_1 (by decide) ?_
  refine lv_aload_n hx hb dL_meanLife_2 rfl (lv_at hl 0 rfl) ?_
  have hPc := hP.sub (ws' := [(x0, .inr (8, [.ref t0, .ref u0, .ref k0])), (t0, .inr (6, [.ref th, .ref ts, .ref tg, .ref td, .int 0, .ref tr, .int (-1), .int 0, .int 0, .int 0, .long 0, .int 0, .int 0]))]) [0, 1] rfl
  have hDc := hD.sub (ws' := [(x0, .inr (8, [.ref t0, .ref u0, .ref k0])), (t0, .inr (6, [.ref th, .ref ts, .ref tg, .ref td, .int 0, .ref tr, .int (-1), .int 0, .int 0, .int 0, .long 0, .int 0, .int 0]))]) [0, 1] (by decide) rfl
  have hFc := va_free (wc := [(x0, .inr (8, [.ref t0, .ref u0, .ref k0])), (t0, .inr (6, [.ref th, .ref ts, .ref tg, .ref td, .int 0, .ref tr, .int (-1), .int 0, .int 0, .int 0, .long 0, .int 0, .int 0]))]) hD hS hA [0, 1] rfl
  refine q_xd (wr := [(o0, .inl (g.2.1 7, 1, .inr (.inr (.inr (.inl fo)))))]) (vx_runV (As := []) (rest := [.int 0, .ref o0]) ⟨hx, hb, hml, hown, htg⟩ (c_X7_meanLife l hfl g x0 t0 th ts tg td tr u0 k0  H.size) ⟨(qB htg k1286 k50 k1283 ok_X7_meanLife rfl rfl ⟨Nat.le_of_ble_eq_true rfl, Nat.le_of_ble_eq_true rfl⟩), htg _ k1284, htg _ k1285⟩ ⟨(q_pre [.ref x0] hPc hDc hK hS hT hFc).1, va_recv hK hP (ci := 8) (q0 := 0) rfl rfl, (q_pre [.ref x0] hPc hDc hK hS hT hFc).2⟩ rfl rfl hl.1 rfl (lv_room (Nat.le_of_ble_eq_true rfl)) dL_meanLife_3 ⟨Nat.le_of_ble_eq_true rfl, Nat.le_of_ble_eq_true rfl⟩) hP hD hS hFc [0, 1] [2] rfl rfl (by decide) (by decide) (fun E9 ce9 q9 H locs hpx hP hD hS hq1 hq2 hq3 => ?_) (fun r9 u9 H locs hw hP hD hS => ?_)
  · rcases hpx with rfl
    refine vx_catch hown [] ⟨0, 7, 10, 137⟩ [] ((vx_table (x := yL_meanLife) B (hts _ List.mem_cons_self)).trans rfl) (fun z hz => nomatch hz) (by decide) (by decide) (htg _ k1259) (va_Nw.use rfl hT.1.2.2.2.2.1.2.2.2.2) hq1 hq2 hq3 ?_
    refine W.widen (k := 1) (n := 6) (Nat.le_of_ble_eq_true rfl) (Nat.le_of_ble_eq_true rfl) ?_
    refine lv_astore_n (lv' := [(2, .ref q9), (0, .ref x0), (1, .ref o0)]) hx hb dL_meanLife_10 rfl hl (by decide) rfl (fun ls hl => ?_)
    refine lv_iconst (v := 1) hx hb dL_meanLife_11 (by decide) ?_
    have hP9 := hP.sub (ws' := []) [] rfl
    have hD9 := hD.sub (ws' := []) [] (by decide) rfl
    refine W.widen (k := 1) (n := 6) (Nat.le_of_ble_eq_true rfl) (Nat.le_of_ble_eq_true rfl) ?_
    refine vx_ret ?_
    exact W.iret (v := 1) hx hb hr (fun t ht hW => ⟨⟨1, [], rfl, ⟨rfl, rfl⟩, by rw [ht]; exact hP9, va_K.moved hW.alike hK, hD9⟩, hS.F ht⟩) hS.2.2 dL_meanLife_12
  · exact hw.elim
