theorem k816 : (Jvm.Cond.codeWith ({ cls := "HeroTableLaw", name := "addHero", desc := "(LHeroTable;IIIII[J)I" } : Jvm.MethodName) method_3_code (8 : Nat) (Option.some Jvm.ClassFile.FieldType.int) [((0 : Nat), (16 : Nat), (19 : Nat), (13 : Nat)), ((0 : Nat), (16 : Nat), (23 : Nat), (15 : Nat)), ((0 : Nat), (16 : Nat), (27 : Nat), (17 : Nat))]) ∈ G9 := g9 816 (by decide +kernel) rfl
theorem k49 : (Jvm.Cond.initialized "HeroTableLaw") ∈ G9 := g9 49 (by decide +kernel) rfl
theorem k814 : (Jvm.Cond.methodLink "HeroTableLaw" (147 : Nat) ({ cls := "HeroTableLaw", name := "addHero", desc := "(LHeroTable;IIIII[J)I" } : Jvm.MethodName)) ∈ G9 := g9 814 (by decide +kernel) rfl
theorem k815 : (Jvm.Cond.static ({ cls := "HeroTableLaw", name := "addHero", desc := "(LHeroTable;IIIII[J)I" } : Jvm.MethodName)) ∈ G9 := g9 815 (by decide +kernel) rfl
theorem ok_L_addHero : okN yL_addHero 7 := by decide +kernel
theorem k1390 : (Jvm.Cond.code ({ cls := "HeroTableModel", name := "addHero", desc := "(IIIII)I" } : Jvm.MethodName) prog_10_method_10_code (7 : Nat) (Option.some Jvm.ClassFile.FieldType.int)) ∈ G9 := g9 1390 (by decide +kernel) rfl
theorem k1387 : (Jvm.Cond.methodLink "HeroTableLaw" (152 : Nat) ({ cls := "HeroTableModel", name := "addHero", desc := "(IIIII)I" } : Jvm.MethodName)) ∈ G9 := g9 1387 (by decide +kernel) rfl
theorem ok_X11_addHero : okN yX11_addHero 5 := by decide +kernel
theorem k1388 : (Jvm.Cond.instanceMethod ({ cls := "HeroTableModel", name := "addHero", desc := "(IIIII)I" } : Jvm.MethodName)) ∈ G9 := g9 1388 (by decide +kernel) rfl
theorem k1389 : (Jvm.Cond.selects "HeroTableModel" ({ cls := "HeroTableModel", name := "addHero", desc := "(IIIII)I" } : Jvm.MethodName) ({ cls := "HeroTableModel", name := "addHero", desc := "(IIIII)I" } : Jvm.MethodName)) ∈ G9 := g9 1389 (by decide +kernel) rfl
theorem k1386 : (Jvm.Cond.code ({ cls := "HeroTableModel", name := "thrown", desc := "()I" } : Jvm.MethodName) prog_10_method_2_code (1 : Nat) (Option.some Jvm.ClassFile.FieldType.int)) ∈ G9 := g9 1386 (by decide +kernel) rfl
theorem k1383 : (Jvm.Cond.methodLink "HeroTableLaw" (153 : Nat) ({ cls := "HeroTableModel", name := "thrown", desc := "()I" } : Jvm.MethodName)) ∈ G9 := g9 1383 (by decide +kernel) rfl
theorem ok_X11_thrown : okN yX11_thrown 0 := by decide +kernel
theorem k1384 : (Jvm.Cond.instanceMethod ({ cls := "HeroTableModel", name := "thrown", desc := "()I" } : Jvm.MethodName)) ∈ G9 := g9 1384 (by decide +kernel) rfl
theorem k1385 : (Jvm.Cond.selects "HeroTableModel" ({ cls := "HeroTableModel", name := "thrown", desc := "()I" } : Jvm.MethodName) ({ cls := "HeroTableModel", name := "thrown", desc := "()I" } : Jvm.MethodName)) ∈ G9 := g9 1385 (by decide +kernel) rfl
theorem k975 : (Jvm.Cond.codeWith ({ cls := "HeroTableLaw", name := "setGround", desc := "(LHeroTable;IIC[J)I" } : Jvm.MethodName) method_4_code (6 : Nat) (Option.some Jvm.ClassFile.FieldType.int) [((0 : Nat), (12 : Nat), (15 : Nat), (13 : Nat)), ((0 : Nat), (12 : Nat), (19 : Nat), (17 : Nat))]) ∈ G9 := g9 975 (by decide +kernel) rfl
theorem k973 : (Jvm.Cond.methodLink "HeroTableLaw" (156 : Nat) ({ cls := "HeroTableLaw", name := "setGround", desc := "(LHeroTable;IIC[J)I" } : Jvm.MethodName)) ∈ G9 := g9 973 (by decide +kernel) rfl
theorem k974 : (Jvm.Cond.static ({ cls := "HeroTableLaw", name := "setGround", desc := "(LHeroTable;IIC[J)I" } : Jvm.MethodName)) ∈ G9 := g9 974 (by decide +kernel) rfl
theorem ok_L_setGround : okN yL_setGround 5 := by decide +kernel
theorem k1630 : (Jvm.Cond.code ({ cls := "HeroTableModel", name := "setGround", desc := "(IIC)C" } : Jvm.MethodName) prog_10_method_11_code (5 : Nat) (Option.some Jvm.ClassFile.FieldType.char)) ∈ G9 := g9 1630 (by decide +kernel) rfl
theorem k1627 : (Jvm.Cond.methodLink "HeroTableLaw" (159 : Nat) ({ cls := "HeroTableModel", name := "setGround", desc := "(IIC)C" } : Jvm.MethodName)) ∈ G9 := g9 1627 (by decide +kernel) rfl
theorem ok_X11_setGround : okN yX11_setGround 3 := by decide +kernel
theorem k1628 : (Jvm.Cond.instanceMethod ({ cls := "HeroTableModel", name := "setGround", desc := "(IIC)C" } : Jvm.MethodName)) ∈ G9 := g9 1628 (by decide +kernel) rfl
theorem k1629 : (Jvm.Cond.selects "HeroTableModel" ({ cls := "HeroTableModel", name := "setGround", desc := "(IIC)C" } : Jvm.MethodName) ({ cls := "HeroTableModel", name := "setGround", desc := "(IIC)C" } : Jvm.MethodName)) ∈ G9 := g9 1629 (by decide +kernel) rfl
theorem k983 : (Jvm.Cond.codeWith ({ cls := "HeroTableLaw", name := "setBase", desc := "(LHeroTable;ICI[J)I" } : Jvm.MethodName) method_5_code (6 : Nat) (Option.some Jvm.ClassFile.FieldType.int) [((0 : Nat), (12 : Nat), (15 : Nat), (27 : Nat)), ((0 : Nat), (12 : Nat), (19 : Nat), (13 : Nat))]) ∈ G9 := g9 983 (by decide +kernel) rfl
theorem k981 : (Jvm.Cond.methodLink "HeroTableLaw" (160 : Nat) ({ cls := "HeroTableLaw", name := "setBase", desc := "(LHeroTable;ICI[J)I" } : Jvm.MethodName)) ∈ G9 := g9 981 (by decide +kernel) rfl
theorem k982 : (Jvm.Cond.static ({ cls := "HeroTableLaw", name := "setBase", desc := "(LHeroTable;ICI[J)I" } : Jvm.MethodName)) ∈ G9 := g9 982 (by decide +kernel) rfl
theorem ok_L_setBase : okN yL_setBase 5 := by decide +kernel
theorem k1636 : (Jvm.Cond.code ({ cls := "HeroTableModel", name := "setBase", desc := "(ICI)I" } : Jvm.MethodName) prog_10_method_12_code (5 : Nat) (Option.some Jvm.ClassFile.FieldType.int)) ∈ G9 := g9 1636 (by decide +kernel) rfl
theorem k1633 : (Jvm.Cond.methodLink "HeroTableLaw" (163 : Nat) ({ cls := "HeroTableModel", name := "setBase", desc := "(ICI)I" } : Jvm.MethodName)) ∈ G9 := g9 1633 (by decide +kernel) rfl
theorem ok_X11_setBase : okN yX11_setBase 3 := by decide +kernel
theorem k1634 : (Jvm.Cond.instanceMethod ({ cls := "HeroTableModel", name := "setBase", desc := "(ICI)I" } : Jvm.MethodName)) ∈ G9 := g9 1634 (by decide +kernel) rfl
theorem k1635 : (Jvm.Cond.selects "HeroTableModel" ({ cls := "HeroTableModel", name := "setBase", desc := "(ICI)I" } : Jvm.MethodName) ({ cls := "HeroTableModel", name := "setBase", desc := "(ICI)I" } : Jvm.MethodName)) ∈ G9 := g9 1635 (by decide +kernel) rfl
theorem k1012 : (Jvm.Cond.codeWith ({ cls := "HeroTableLaw", name := "setSpare", desc := "(LHeroTable;II[J)I" } : Jvm.MethodName) method_6_code (5 : Nat) (Option.some Jvm.ClassFile.FieldType.int) [((0 : Nat), (10 : Nat), (13 : Nat), (27 : Nat)), ((0 : Nat), (10 : Nat), (17 : Nat), (13 : Nat))]) ∈ G9 := g9 1012 (by decide +kernel) rfl
theorem k1010 : (Jvm.Cond.methodLink "HeroTableLaw" (164 : Nat) ({ cls := "HeroTableLaw", name := "setSpare", desc := "(LHeroTable;II[J)I" } : Jvm.MethodName)) ∈ G9 := g9 1010 (by decide +kernel) rfl
theorem k1011 : (Jvm.Cond.static ({ cls := "HeroTableLaw", name := "setSpare", desc := "(LHeroTable;II[J)I" } : Jvm.MethodName)) ∈ G9 := g9 1011 (by decide +kernel) rfl
theorem ok_L_setSpare : okN yL_setSpare 4 := by decide +kernel
theorem k1666 : (Jvm.Cond.code ({ cls := "HeroTableModel", name := "setSpare", desc := "(II)I" } : Jvm.MethodName) prog_10_method_13_code (4 : Nat) (Option.some Jvm.ClassFile.FieldType.int)) ∈ G9 := g9 1666 (by decide +kernel) rfl
theorem k1663 : (Jvm.Cond.methodLink "HeroTableLaw" (167 : Nat) ({ cls := "HeroTableModel", name := "setSpare", desc := "(II)I" } : Jvm.MethodName)) ∈ G9 := g9 1663 (by decide +kernel) rfl
theorem ok_X11_setSpare : okN yX11_setSpare 2 := by decide +kernel
theorem k1664 : (Jvm.Cond.instanceMethod ({ cls := "HeroTableModel", name := "setSpare", desc := "(II)I" } : Jvm.MethodName)) ∈ G9 := g9 1664 (by decide +kernel) rfl
theorem k1665 : (Jvm.Cond.selects "HeroTableModel" ({ cls := "HeroTableModel", name := "setSpare", desc := "(II)I" } : Jvm.MethodName) ({ cls := "HeroTableModel", name := "setSpare", desc := "(II)I" } : Jvm.MethodName)) ∈ G9 := g9 1665 (by decide +kernel) rfl
theorem k1020 : (Jvm.Cond.codeWith ({ cls := "HeroTableLaw", name := "heal", desc := "(LHeroTable;II[J)I" } : Jvm.MethodName) method_7_code (5 : Nat) (Option.some Jvm.ClassFile.FieldType.int) [((0 : Nat), (10 : Nat), (13 : Nat), (27 : Nat)), ((0 : Nat), (10 : Nat), (17 : Nat), (13 : Nat))]) ∈ G9 := g9 1020 (by decide +kernel) rfl
theorem k1018 : (Jvm.Cond.methodLink "HeroTableLaw" (168 : Nat) ({ cls := "HeroTableLaw", name := "heal", desc := "(LHeroTable;II[J)I" } : Jvm.MethodName)) ∈ G9 := g9 1018 (by decide +kernel) rfl
theorem k1019 : (Jvm.Cond.static ({ cls := "HeroTableLaw", name := "heal", desc := "(LHeroTable;II[J)I" } : Jvm.MethodName)) ∈ G9 := g9 1019 (by decide +kernel) rfl
theorem ok_L_heal : okN yL_heal 4 := by decide +kernel
theorem k1671 : (Jvm.Cond.code ({ cls := "HeroTableModel", name := "heal", desc := "(II)I" } : Jvm.MethodName) prog_10_method_14_code (6 : Nat) (Option.some Jvm.ClassFile.FieldType.int)) ∈ G9 := g9 1671 (by decide +kernel) rfl
theorem k1668 : (Jvm.Cond.methodLink "HeroTableLaw" (170 : Nat) ({ cls := "HeroTableModel", name := "heal", desc := "(II)I" } : Jvm.MethodName)) ∈ G9 := g9 1668 (by decide +kernel) rfl
theorem ok_X11_heal : okN yX11_heal 2 := by decide +kernel
theorem k1669 : (Jvm.Cond.instanceMethod ({ cls := "HeroTableModel", name := "heal", desc := "(II)I" } : Jvm.MethodName)) ∈ G9 := g9 1669 (by decide +kernel) rfl
theorem k1670 : (Jvm.Cond.selects "HeroTableModel" ({ cls := "HeroTableModel", name := "heal", desc := "(II)I" } : Jvm.MethodName) ({ cls := "HeroTableModel", name := "heal", desc := "(II)I" } : Jvm.MethodName)) ∈ G9 := g9 1670 (by decide +kernel) rfl
theorem k1028 : (Jvm.Cond.codeWith ({ cls := "HeroTableLaw", name := "lifeOf", desc := "(LHeroTable;I[J)I" } : Jvm.MethodName) method_8_code (4 : Nat) (Option.some Jvm.ClassFile.FieldType.int) [((0 : Nat), (9 : Nat), (12 : Nat), (27 : Nat))]) ∈ G9 := g9 1028 (by decide +kernel) rfl
theorem k1026 : (Jvm.Cond.methodLink "HeroTableLaw" (171 : Nat) ({ cls := "HeroTableLaw", name := "lifeOf", desc := "(LHeroTable;I[J)I" } : Jvm.MethodName)) ∈ G9 := g9 1026 (by decide +kernel) rfl
theorem k1027 : (Jvm.Cond.static ({ cls := "HeroTableLaw", name := "lifeOf", desc := "(LHeroTable;I[J)I" } : Jvm.MethodName)) ∈ G9 := g9 1027 (by decide +kernel) rfl
theorem ok_L_lifeOf : okN yL_lifeOf 3 := by decide +kernel
theorem k1677 : (Jvm.Cond.code ({ cls := "HeroTableModel", name := "lifeOf", desc := "(I)I" } : Jvm.MethodName) prog_10_method_15_code (2 : Nat) (Option.some Jvm.ClassFile.FieldType.int)) ∈ G9 := g9 1677 (by decide +kernel) rfl
theorem k1674 : (Jvm.Cond.methodLink "HeroTableLaw" (174 : Nat) ({ cls := "HeroTableModel", name := "lifeOf", desc := "(I)I" } : Jvm.MethodName)) ∈ G9 := g9 1674 (by decide +kernel) rfl
theorem ok_X11_lifeOf : okN yX11_lifeOf 1 := by decide +kernel
theorem k1675 : (Jvm.Cond.instanceMethod ({ cls := "HeroTableModel", name := "lifeOf", desc := "(I)I" } : Jvm.MethodName)) ∈ G9 := g9 1675 (by decide +kernel) rfl
theorem k1676 : (Jvm.Cond.selects "HeroTableModel" ({ cls := "HeroTableModel", name := "lifeOf", desc := "(I)I" } : Jvm.MethodName) ({ cls := "HeroTableModel", name := "lifeOf", desc := "(I)I" } : Jvm.MethodName)) ∈ G9 := g9 1676 (by decide +kernel) rfl
theorem k1041 : (Jvm.Cond.codeWith ({ cls := "HeroTableLaw", name := "spareOf", desc := "(LHeroTable;I[J)I" } : Jvm.MethodName) method_9_code (4 : Nat) (Option.some Jvm.ClassFile.FieldType.int) [((0 : Nat), (9 : Nat), (12 : Nat), (27 : Nat))]) ∈ G9 := g9 1041 (by decide +kernel) rfl
theorem k1039 : (Jvm.Cond.methodLink "HeroTableLaw" (175 : Nat) ({ cls := "HeroTableLaw", name := "spareOf", desc := "(LHeroTable;I[J)I" } : Jvm.MethodName)) ∈ G9 := g9 1039 (by decide +kernel) rfl
theorem k1040 : (Jvm.Cond.static ({ cls := "HeroTableLaw", name := "spareOf", desc := "(LHeroTable;I[J)I" } : Jvm.MethodName)) ∈ G9 := g9 1040 (by decide +kernel) rfl
theorem ok_L_spareOf : okN yL_spareOf 3 := by decide +kernel
theorem k1681 : (Jvm.Cond.code ({ cls := "HeroTableModel", name := "spareOf", desc := "(I)I" } : Jvm.MethodName) prog_10_method_16_code (2 : Nat) (Option.some Jvm.ClassFile.FieldType.int)) ∈ G9 := g9 1681 (by decide +kernel) rfl
theorem k1678 : (Jvm.Cond.methodLink "HeroTableLaw" (177 : Nat) ({ cls := "HeroTableModel", name := "spareOf", desc := "(I)I" } : Jvm.MethodName)) ∈ G9 := g9 1678 (by decide +kernel) rfl
theorem ok_X11_spareOf : okN yX11_spareOf 1 := by decide +kernel
theorem k1679 : (Jvm.Cond.instanceMethod ({ cls := "HeroTableModel", name := "spareOf", desc := "(I)I" } : Jvm.MethodName)) ∈ G9 := g9 1679 (by decide +kernel) rfl
theorem k1680 : (Jvm.Cond.selects "HeroTableModel" ({ cls := "HeroTableModel", name := "spareOf", desc := "(I)I" } : Jvm.MethodName) ({ cls := "HeroTableModel", name := "spareOf", desc := "(I)I" } : Jvm.MethodName)) ∈ G9 := g9 1680 (by decide +kernel) rfl
theorem k1048 : (Jvm.Cond.codeWith ({ cls := "HeroTableLaw", name := "cellOf", desc := "(LHeroTable;I[J)I" } : Jvm.MethodName) method_10_code (4 : Nat) (Option.some Jvm.ClassFile.FieldType.int) [((0 : Nat), (9 : Nat), (12 : Nat), (27 : Nat))]) ∈ G9 := g9 1048 (by decide +kernel) rfl
theorem k1046 : (Jvm.Cond.methodLink "HeroTableLaw" (178 : Nat) ({ cls := "HeroTableLaw", name := "cellOf", desc := "(LHeroTable;I[J)I" } : Jvm.MethodName)) ∈ G9 := g9 1046 (by decide +kernel) rfl
theorem k1047 : (Jvm.Cond.static ({ cls := "HeroTableLaw", name := "cellOf", desc := "(LHeroTable;I[J)I" } : Jvm.MethodName)) ∈ G9 := g9 1047 (by decide +kernel) rfl
theorem ok_L_cellOf : okN yL_cellOf 3 := by decide +kernel
theorem k1685 : (Jvm.Cond.code ({ cls := "HeroTableModel", name := "cellOf", desc := "(I)I" } : Jvm.MethodName) prog_10_method_17_code (2 : Nat) (Option.some Jvm.ClassFile.FieldType.int)) ∈ G9 := g9 1685 (by decide +kernel) rfl
theorem k1682 : (Jvm.Cond.methodLink "HeroTableLaw" (180 : Nat) ({ cls := "HeroTableModel", name := "cellOf", desc := "(I)I" } : Jvm.MethodName)) ∈ G9 := g9 1682 (by decide +kernel) rfl
theorem ok_X11_cellOf : okN yX11_cellOf 1 := by decide +kernel
theorem k1683 : (Jvm.Cond.instanceMethod ({ cls := "HeroTableModel", name := "cellOf", desc := "(I)I" } : Jvm.MethodName)) ∈ G9 := g9 1683 (by decide +kernel) rfl
theorem k1684 : (Jvm.Cond.selects "HeroTableModel" ({ cls := "HeroTableModel", name := "cellOf", desc := "(I)I" } : Jvm.MethodName) ({ cls := "HeroTableModel", name := "cellOf", desc := "(I)I" } : Jvm.MethodName)) ∈ G9 := g9 1684 (by decide +kernel) rfl
theorem k1055 : (Jvm.Cond.codeWith ({ cls := "HeroTableLaw", name := "sees", desc := "(LHeroTable;III[J)I" } : Jvm.MethodName) method_11_code (6 : Nat) (Option.some Jvm.ClassFile.FieldType.int) [((0 : Nat), (19 : Nat), (22 : Nat), (27 : Nat)), ((0 : Nat), (19 : Nat), (26 : Nat), (13 : Nat))]) ∈ G9 := g9 1055 (by decide +kernel) rfl
theorem k1053 : (Jvm.Cond.methodLink "HeroTableLaw" (181 : Nat) ({ cls := "HeroTableLaw", name := "sees", desc := "(LHeroTable;III[J)I" } : Jvm.MethodName)) ∈ G9 := g9 1053 (by decide +kernel) rfl
theorem k1054 : (Jvm.Cond.static ({ cls := "HeroTableLaw", name := "sees", desc := "(LHeroTable;III[J)I" } : Jvm.MethodName)) ∈ G9 := g9 1054 (by decide +kernel) rfl
theorem ok_L_sees : okN yL_sees 5 := by decide +kernel
theorem k1689 : (Jvm.Cond.code ({ cls := "HeroTableModel", name := "sees", desc := "(III)Z" } : Jvm.MethodName) prog_10_method_22_code (4 : Nat) (Option.some Jvm.ClassFile.FieldType.boolean)) ∈ G9 := g9 1689 (by decide +kernel) rfl
theorem k1686 : (Jvm.Cond.methodLink "HeroTableLaw" (184 : Nat) ({ cls := "HeroTableModel", name := "sees", desc := "(III)Z" } : Jvm.MethodName)) ∈ G9 := g9 1686 (by decide +kernel) rfl
theorem ok_X11_sees : okN yX11_sees 3 := by decide +kernel
theorem k1687 : (Jvm.Cond.instanceMethod ({ cls := "HeroTableModel", name := "sees", desc := "(III)Z" } : Jvm.MethodName)) ∈ G9 := g9 1687 (by decide +kernel) rfl
theorem k1688 : (Jvm.Cond.selects "HeroTableModel" ({ cls := "HeroTableModel", name := "sees", desc := "(III)Z" } : Jvm.MethodName) ({ cls := "HeroTableModel", name := "sees", desc := "(III)Z" } : Jvm.MethodName)) ∈ G9 := g9 1688 (by decide +kernel) rfl
theorem k1065 : (Jvm.Cond.codeWith ({ cls := "HeroTableLaw", name := "addSource", desc := "(LHeroTable;ICCIII[J)I" } : Jvm.MethodName) method_12_code (9 : Nat) (Option.some Jvm.ClassFile.FieldType.int) [((0 : Nat), (18 : Nat), (21 : Nat), (27 : Nat)), ((0 : Nat), (18 : Nat), (25 : Nat), (13 : Nat)), ((0 : Nat), (18 : Nat), (29 : Nat), (15 : Nat))]) ∈ G9 := g9 1065 (by decide +kernel) rfl
theorem k1063 : (Jvm.Cond.methodLink "HeroTableLaw" (185 : Nat) ({ cls := "HeroTableLaw", name := "addSource", desc := "(LHeroTable;ICCIII[J)I" } : Jvm.MethodName)) ∈ G9 := g9 1063 (by decide +kernel) rfl
theorem k1064 : (Jvm.Cond.static ({ cls := "HeroTableLaw", name := "addSource", desc := "(LHeroTable;ICCIII[J)I" } : Jvm.MethodName)) ∈ G9 := g9 1064 (by decide +kernel) rfl
theorem ok_L_addSource : okN yL_addSource 8 := by decide +kernel
theorem k1716 : (Jvm.Cond.code ({ cls := "HeroTableModel", name := "addSource", desc := "(ICCIII)I" } : Jvm.MethodName) prog_10_method_24_code (8 : Nat) (Option.some Jvm.ClassFile.FieldType.int)) ∈ G9 := g9 1716 (by decide +kernel) rfl
theorem k1713 : (Jvm.Cond.methodLink "HeroTableLaw" (188 : Nat) ({ cls := "HeroTableModel", name := "addSource", desc := "(ICCIII)I" } : Jvm.MethodName)) ∈ G9 := g9 1713 (by decide +kernel) rfl
theorem ok_X11_addSource : okN yX11_addSource 6 := by decide +kernel
theorem k1714 : (Jvm.Cond.instanceMethod ({ cls := "HeroTableModel", name := "addSource", desc := "(ICCIII)I" } : Jvm.MethodName)) ∈ G9 := g9 1714 (by decide +kernel) rfl
theorem k1715 : (Jvm.Cond.selects "HeroTableModel" ({ cls := "HeroTableModel", name := "addSource", desc := "(ICCIII)I" } : Jvm.MethodName) ({ cls := "HeroTableModel", name := "addSource", desc := "(ICCIII)I" } : Jvm.MethodName)) ∈ G9 := g9 1715 (by decide +kernel) rfl
theorem k1073 : (Jvm.Cond.codeWith ({ cls := "HeroTableLaw", name := "afflict", desc := "(LHeroTable;ICIII[J)I" } : Jvm.MethodName) method_13_code (8 : Nat) (Option.some Jvm.ClassFile.FieldType.int) [((0 : Nat), (16 : Nat), (19 : Nat), (27 : Nat)), ((0 : Nat), (16 : Nat), (23 : Nat), (13 : Nat)), ((0 : Nat), (16 : Nat), (27 : Nat), (15 : Nat))]) ∈ G9 := g9 1073 (by decide +kernel) rfl
theorem k1071 : (Jvm.Cond.methodLink "HeroTableLaw" (189 : Nat) ({ cls := "HeroTableLaw", name := "afflict", desc := "(LHeroTable;ICIII[J)I" } : Jvm.MethodName)) ∈ G9 := g9 1071 (by decide +kernel) rfl
theorem k1072 : (Jvm.Cond.static ({ cls := "HeroTableLaw", name := "afflict", desc := "(LHeroTable;ICIII[J)I" } : Jvm.MethodName)) ∈ G9 := g9 1072 (by decide +kernel) rfl
theorem ok_L_afflict : okN yL_afflict 7 := by decide +kernel
theorem k1771 : (Jvm.Cond.code ({ cls := "HeroTableModel", name := "afflict", desc := "(ICIII)I" } : Jvm.MethodName) prog_10_method_25_code (7 : Nat) (Option.some Jvm.ClassFile.FieldType.int)) ∈ G9 := g9 1771 (by decide +kernel) rfl
theorem k1768 : (Jvm.Cond.methodLink "HeroTableLaw" (192 : Nat) ({ cls := "HeroTableModel", name := "afflict", desc := "(ICIII)I" } : Jvm.MethodName)) ∈ G9 := g9 1768 (by decide +kernel) rfl
theorem ok_X11_afflict : okN yX11_afflict 5 := by decide +kernel
theorem k1769 : (Jvm.Cond.instanceMethod ({ cls := "HeroTableModel", name := "afflict", desc := "(ICIII)I" } : Jvm.MethodName)) ∈ G9 := g9 1769 (by decide +kernel) rfl
theorem k1770 : (Jvm.Cond.selects "HeroTableModel" ({ cls := "HeroTableModel", name := "afflict", desc := "(ICIII)I" } : Jvm.MethodName) ({ cls := "HeroTableModel", name := "afflict", desc := "(ICIII)I" } : Jvm.MethodName)) ∈ G9 := g9 1770 (by decide +kernel) rfl
theorem k1081 : (Jvm.Cond.codeWith ({ cls := "HeroTableLaw", name := "endSource", desc := "(LHeroTable;I[J)I" } : Jvm.MethodName) method_14_code (4 : Nat) (Option.some Jvm.ClassFile.FieldType.int) [((0 : Nat), (16 : Nat), (19 : Nat), (27 : Nat))]) ∈ G9 := g9 1081 (by decide +kernel) rfl
theorem k1079 : (Jvm.Cond.methodLink "HeroTableLaw" (193 : Nat) ({ cls := "HeroTableLaw", name := "endSource", desc := "(LHeroTable;I[J)I" } : Jvm.MethodName)) ∈ G9 := g9 1079 (by decide +kernel) rfl
theorem k1080 : (Jvm.Cond.static ({ cls := "HeroTableLaw", name := "endSource", desc := "(LHeroTable;I[J)I" } : Jvm.MethodName)) ∈ G9 := g9 1080 (by decide +kernel) rfl
theorem ok_L_endSource : okN yL_endSource 3 := by decide +kernel
theorem k1775 : (Jvm.Cond.code ({ cls := "HeroTableModel", name := "endSource", desc := "(I)Z" } : Jvm.MethodName) prog_10_method_26_code (3 : Nat) (Option.some Jvm.ClassFile.FieldType.boolean)) ∈ G9 := g9 1775 (by decide +kernel) rfl
theorem k1772 : (Jvm.Cond.methodLink "HeroTableLaw" (195 : Nat) ({ cls := "HeroTableModel", name := "endSource", desc := "(I)Z" } : Jvm.MethodName)) ∈ G9 := g9 1772 (by decide +kernel) rfl
theorem ok_X11_endSource : okN yX11_endSource 1 := by decide +kernel
theorem k1773 : (Jvm.Cond.instanceMethod ({ cls := "HeroTableModel", name := "endSource", desc := "(I)Z" } : Jvm.MethodName)) ∈ G9 := g9 1773 (by decide +kernel) rfl
theorem k1774 : (Jvm.Cond.selects "HeroTableModel" ({ cls := "HeroTableModel", name := "endSource", desc := "(I)Z" } : Jvm.MethodName) ({ cls := "HeroTableModel", name := "endSource", desc := "(I)Z" } : Jvm.MethodName)) ∈ G9 := g9 1774 (by decide +kernel) rfl
theorem k1089 : (Jvm.Cond.codeWith ({ cls := "HeroTableLaw", name := "setImmune", desc := "(LHeroTable;ICZ[J)I" } : Jvm.MethodName) method_15_code (6 : Nat) (Option.some Jvm.ClassFile.FieldType.int) [((0 : Nat), (19 : Nat), (22 : Nat), (27 : Nat)), ((0 : Nat), (19 : Nat), (26 : Nat), (13 : Nat))]) ∈ G9 := g9 1089 (by decide +kernel) rfl
theorem k1087 : (Jvm.Cond.methodLink "HeroTableLaw" (196 : Nat) ({ cls := "HeroTableLaw", name := "setImmune", desc := "(LHeroTable;ICZ[J)I" } : Jvm.MethodName)) ∈ G9 := g9 1087 (by decide +kernel) rfl
theorem k1088 : (Jvm.Cond.static ({ cls := "HeroTableLaw", name := "setImmune", desc := "(LHeroTable;ICZ[J)I" } : Jvm.MethodName)) ∈ G9 := g9 1088 (by decide +kernel) rfl
theorem ok_L_setImmune : okN yL_setImmune 5 := by decide +kernel
theorem k1779 : (Jvm.Cond.code ({ cls := "HeroTableModel", name := "setImmune", desc := "(ICZ)Z" } : Jvm.MethodName) prog_10_method_27_code (7 : Nat) (Option.some Jvm.ClassFile.FieldType.boolean)) ∈ G9 := g9 1779 (by decide +kernel) rfl
theorem k1776 : (Jvm.Cond.methodLink "HeroTableLaw" (199 : Nat) ({ cls := "HeroTableModel", name := "setImmune", desc := "(ICZ)Z" } : Jvm.MethodName)) ∈ G9 := g9 1776 (by decide +kernel) rfl
theorem ok_X11_setImmune : okN yX11_setImmune 3 := by decide +kernel
theorem k1777 : (Jvm.Cond.instanceMethod ({ cls := "HeroTableModel", name := "setImmune", desc := "(ICZ)Z" } : Jvm.MethodName)) ∈ G9 := g9 1777 (by decide +kernel) rfl
theorem k1778 : (Jvm.Cond.selects "HeroTableModel" ({ cls := "HeroTableModel", name := "setImmune", desc := "(ICZ)Z" } : Jvm.MethodName) ({ cls := "HeroTableModel", name := "setImmune", desc := "(ICZ)Z" } : Jvm.MethodName)) ∈ G9 := g9 1778 (by decide +kernel) rfl
theorem k1097 : (Jvm.Cond.codeWith ({ cls := "HeroTableLaw", name := "isLive", desc := "(LHeroTable;I[J)I" } : Jvm.MethodName) method_16_code (4 : Nat) (Option.some Jvm.ClassFile.FieldType.int) [((0 : Nat), (16 : Nat), (19 : Nat), (27 : Nat))]) ∈ G9 := g9 1097 (by decide +kernel) rfl
theorem k1095 : (Jvm.Cond.methodLink "HeroTableLaw" (200 : Nat) ({ cls := "HeroTableLaw", name := "isLive", desc := "(LHeroTable;I[J)I" } : Jvm.MethodName)) ∈ G9 := g9 1095 (by decide +kernel) rfl
theorem k1096 : (Jvm.Cond.static ({ cls := "HeroTableLaw", name := "isLive", desc := "(LHeroTable;I[J)I" } : Jvm.MethodName)) ∈ G9 := g9 1096 (by decide +kernel) rfl
theorem ok_L_isLive : okN yL_isLive 3 := by decide +kernel
theorem k1783 : (Jvm.Cond.code ({ cls := "HeroTableModel", name := "isLive", desc := "(I)Z" } : Jvm.MethodName) prog_10_method_28_code (2 : Nat) (Option.some Jvm.ClassFile.FieldType.boolean)) ∈ G9 := g9 1783 (by decide +kernel) rfl
theorem k1780 : (Jvm.Cond.methodLink "HeroTableLaw" (202 : Nat) ({ cls := "HeroTableModel", name := "isLive", desc := "(I)Z" } : Jvm.MethodName)) ∈ G9 := g9 1780 (by decide +kernel) rfl
theorem ok_X11_isLive : okN yX11_isLive 1 := by decide +kernel
theorem k1781 : (Jvm.Cond.instanceMethod ({ cls := "HeroTableModel", name := "isLive", desc := "(I)Z" } : Jvm.MethodName)) ∈ G9 := g9 1781 (by decide +kernel) rfl
theorem k1782 : (Jvm.Cond.selects "HeroTableModel" ({ cls := "HeroTableModel", name := "isLive", desc := "(I)Z" } : Jvm.MethodName) ({ cls := "HeroTableModel", name := "isLive", desc := "(I)Z" } : Jvm.MethodName)) ∈ G9 := g9 1782 (by decide +kernel) rfl
theorem k1107 : (Jvm.Cond.codeWith ({ cls := "HeroTableLaw", name := "numberOf", desc := "(LHeroTable;IC[J)I" } : Jvm.MethodName) method_17_code (5 : Nat) (Option.some Jvm.ClassFile.FieldType.int) [((0 : Nat), (10 : Nat), (13 : Nat), (27 : Nat)), ((0 : Nat), (10 : Nat), (17 : Nat), (13 : Nat))]) ∈ G9 := g9 1107 (by decide +kernel) rfl
theorem k1105 : (Jvm.Cond.methodLink "HeroTableLaw" (203 : Nat) ({ cls := "HeroTableLaw", name := "numberOf", desc := "(LHeroTable;IC[J)I" } : Jvm.MethodName)) ∈ G9 := g9 1105 (by decide +kernel) rfl
theorem k1106 : (Jvm.Cond.static ({ cls := "HeroTableLaw", name := "numberOf", desc := "(LHeroTable;IC[J)I" } : Jvm.MethodName)) ∈ G9 := g9 1106 (by decide +kernel) rfl
theorem ok_L_numberOf : okN yL_numberOf 4 := by decide +kernel
theorem k1784 : (Jvm.Cond.methodLink "HeroTableLaw" (206 : Nat) ({ cls := "HeroTableModel", name := "numberOf", desc := "(IC)I" } : Jvm.MethodName)) ∈ G9 := g9 1784 (by decide +kernel) rfl
theorem k1121 : (Jvm.Cond.codeWith ({ cls := "HeroTableLaw", name := "numberAnew", desc := "(LHeroTable;IC[J)I" } : Jvm.MethodName) method_18_code (5 : Nat) (Option.some Jvm.ClassFile.FieldType.int) [((0 : Nat), (10 : Nat), (13 : Nat), (27 : Nat)), ((0 : Nat), (10 : Nat), (17 : Nat), (13 : Nat))]) ∈ G9 := g9 1121 (by decide +kernel) rfl
theorem k1119 : (Jvm.Cond.methodLink "HeroTableLaw" (207 : Nat) ({ cls := "HeroTableLaw", name := "numberAnew", desc := "(LHeroTable;IC[J)I" } : Jvm.MethodName)) ∈ G9 := g9 1119 (by decide +kernel) rfl
theorem k1120 : (Jvm.Cond.static ({ cls := "HeroTableLaw", name := "numberAnew", desc := "(LHeroTable;IC[J)I" } : Jvm.MethodName)) ∈ G9 := g9 1120 (by decide +kernel) rfl
theorem ok_L_numberAnew : okN yL_numberAnew 4 := by decide +kernel
theorem k1796 : (Jvm.Cond.code ({ cls := "HeroTableModel", name := "numberAnew", desc := "(IC)I" } : Jvm.MethodName) prog_10_method_31_code (3 : Nat) (Option.some Jvm.ClassFile.FieldType.int)) ∈ G9 := g9 1796 (by decide +kernel) rfl
theorem k1793 : (Jvm.Cond.methodLink "HeroTableLaw" (209 : Nat) ({ cls := "HeroTableModel", name := "numberAnew", desc := "(IC)I" } : Jvm.MethodName)) ∈ G9 := g9 1793 (by decide +kernel) rfl
theorem ok_X11_numberAnew : okN yX11_numberAnew 2 := by decide +kernel
theorem k1794 : (Jvm.Cond.instanceMethod ({ cls := "HeroTableModel", name := "numberAnew", desc := "(IC)I" } : Jvm.MethodName)) ∈ G9 := g9 1794 (by decide +kernel) rfl
theorem k1795 : (Jvm.Cond.selects "HeroTableModel" ({ cls := "HeroTableModel", name := "numberAnew", desc := "(IC)I" } : Jvm.MethodName) ({ cls := "HeroTableModel", name := "numberAnew", desc := "(IC)I" } : Jvm.MethodName)) ∈ G9 := g9 1795 (by decide +kernel) rfl
theorem k1129 : (Jvm.Cond.codeWith ({ cls := "HeroTableLaw", name := "has", desc := "(LHeroTable;IC[J)I" } : Jvm.MethodName) method_19_code (5 : Nat) (Option.some Jvm.ClassFile.FieldType.int) [((0 : Nat), (17 : Nat), (20 : Nat), (27 : Nat)), ((0 : Nat), (17 : Nat), (24 : Nat), (13 : Nat))]) ∈ G9 := g9 1129 (by decide +kernel) rfl
theorem k1127 : (Jvm.Cond.methodLink "HeroTableLaw" (210 : Nat) ({ cls := "HeroTableLaw", name := "has", desc := "(LHeroTable;IC[J)I" } : Jvm.MethodName)) ∈ G9 := g9 1127 (by decide +kernel) rfl
theorem k1128 : (Jvm.Cond.static ({ cls := "HeroTableLaw", name := "has", desc := "(LHeroTable;IC[J)I" } : Jvm.MethodName)) ∈ G9 := g9 1128 (by decide +kernel) rfl
theorem ok_L_has : okN yL_has 4 := by decide +kernel
theorem k1801 : (Jvm.Cond.code ({ cls := "HeroTableModel", name := "has", desc := "(IC)Z" } : Jvm.MethodName) prog_10_method_33_code (3 : Nat) (Option.some Jvm.ClassFile.FieldType.boolean)) ∈ G9 := g9 1801 (by decide +kernel) rfl
theorem k1798 : (Jvm.Cond.methodLink "HeroTableLaw" (212 : Nat) ({ cls := "HeroTableModel", name := "has", desc := "(IC)Z" } : Jvm.MethodName)) ∈ G9 := g9 1798 (by decide +kernel) rfl
theorem ok_X11_has_ : okN yX11_has_ 2 := by decide +kernel
theorem k1799 : (Jvm.Cond.instanceMethod ({ cls := "HeroTableModel", name := "has", desc := "(IC)Z" } : Jvm.MethodName)) ∈ G9 := g9 1799 (by decide +kernel) rfl
theorem k1800 : (Jvm.Cond.selects "HeroTableModel" ({ cls := "HeroTableModel", name := "has", desc := "(IC)Z" } : Jvm.MethodName) ({ cls := "HeroTableModel", name := "has", desc := "(IC)Z" } : Jvm.MethodName)) ∈ G9 := g9 1800 (by decide +kernel) rfl
theorem k323 : (Jvm.Cond.code ({ cls := "HeroTable", name := "sources", desc := "()I" } : Jvm.MethodName) prog_1_method_19_code (1 : Nat) (Option.some Jvm.ClassFile.FieldType.int)) ∈ G9 := g9 323 (by decide +kernel) rfl
theorem k320 : (Jvm.Cond.methodLink "HeroTableLaw" (213 : Nat) ({ cls := "HeroTable", name := "sources", desc := "()I" } : Jvm.MethodName)) ∈ G9 := g9 320 (by decide +kernel) rfl
theorem ok_X7_sources : okN yX7_sources 0 := by decide +kernel
theorem k321 : (Jvm.Cond.instanceMethod ({ cls := "HeroTable", name := "sources", desc := "()I" } : Jvm.MethodName)) ∈ G9 := g9 321 (by decide +kernel) rfl
theorem k322 : (Jvm.Cond.selects "HeroTable" ({ cls := "HeroTable", name := "sources", desc := "()I" } : Jvm.MethodName) ({ cls := "HeroTable", name := "sources", desc := "()I" } : Jvm.MethodName)) ∈ G9 := g9 322 (by decide +kernel) rfl
theorem k1805 : (Jvm.Cond.code ({ cls := "HeroTableModel", name := "sources", desc := "()I" } : Jvm.MethodName) prog_10_method_34_code (1 : Nat) (Option.some Jvm.ClassFile.FieldType.int)) ∈ G9 := g9 1805 (by decide +kernel) rfl
theorem k1802 : (Jvm.Cond.methodLink "HeroTableLaw" (216 : Nat) ({ cls := "HeroTableModel", name := "sources", desc := "()I" } : Jvm.MethodName)) ∈ G9 := g9 1802 (by decide +kernel) rfl
theorem ok_X11_sources : okN yX11_sources 0 := by decide +kernel
theorem k1803 : (Jvm.Cond.instanceMethod ({ cls := "HeroTableModel", name := "sources", desc := "()I" } : Jvm.MethodName)) ∈ G9 := g9 1803 (by decide +kernel) rfl
theorem k1804 : (Jvm.Cond.selects "HeroTableModel" ({ cls := "HeroTableModel", name := "sources", desc := "()I" } : Jvm.MethodName) ({ cls := "HeroTableModel", name := "sources", desc := "()I" } : Jvm.MethodName)) ∈ G9 := g9 1804 (by decide +kernel) rfl
theorem k1138 : (Jvm.Cond.codeWith ({ cls := "HeroTableLaw", name := "tellDie", desc := "(LHeroTable;I[J)I" } : Jvm.MethodName) method_20_code (4 : Nat) (Option.some Jvm.ClassFile.FieldType.int) [((0 : Nat), (9 : Nat), (12 : Nat), (13 : Nat))]) ∈ G9 := g9 1138 (by decide +kernel) rfl
theorem k1136 : (Jvm.Cond.methodLink "HeroTableLaw" (217 : Nat) ({ cls := "HeroTableLaw", name := "tellDie", desc := "(LHeroTable;I[J)I" } : Jvm.MethodName)) ∈ G9 := g9 1136 (by decide +kernel) rfl
theorem k1137 : (Jvm.Cond.static ({ cls := "HeroTableLaw", name := "tellDie", desc := "(LHeroTable;I[J)I" } : Jvm.MethodName)) ∈ G9 := g9 1137 (by decide +kernel) rfl
theorem ok_L_tellDie : okN yL_tellDie 3 := by decide +kernel
theorem k1809 : (Jvm.Cond.code ({ cls := "HeroTableModel", name := "tellDie", desc := "(I)I" } : Jvm.MethodName) prog_10_method_37_code (2 : Nat) (Option.some Jvm.ClassFile.FieldType.int)) ∈ G9 := g9 1809 (by decide +kernel) rfl
theorem k1806 : (Jvm.Cond.methodLink "HeroTableLaw" (219 : Nat) ({ cls := "HeroTableModel", name := "tellDie", desc := "(I)I" } : Jvm.MethodName)) ∈ G9 := g9 1806 (by decide +kernel) rfl
theorem ok_X11_tellDie : okN yX11_tellDie 1 := by decide +kernel
theorem k1807 : (Jvm.Cond.instanceMethod ({ cls := "HeroTableModel", name := "tellDie", desc := "(I)I" } : Jvm.MethodName)) ∈ G9 := g9 1807 (by decide +kernel) rfl
theorem k1808 : (Jvm.Cond.selects "HeroTableModel" ({ cls := "HeroTableModel", name := "tellDie", desc := "(I)I" } : Jvm.MethodName) ({ cls := "HeroTableModel", name := "tellDie", desc := "(I)I" } : Jvm.MethodName)) ∈ G9 := g9 1808 (by decide +kernel) rfl
theorem k327 : (Jvm.Cond.code ({ cls := "HeroTable", name := "dice", desc := "()I" } : Jvm.MethodName) prog_1_method_21_code (1 : Nat) (Option.some Jvm.ClassFile.FieldType.int)) ∈ G9 := g9 327 (by decide +kernel) rfl
theorem k324 : (Jvm.Cond.methodLink "HeroTableLaw" (220 : Nat) ({ cls := "HeroTable", name := "dice", desc := "()I" } : Jvm.MethodName)) ∈ G9 := g9 324 (by decide +kernel) rfl
theorem ok_X7_dice : okN yX7_dice 0 := by decide +kernel
theorem k325 : (Jvm.Cond.instanceMethod ({ cls := "HeroTable", name := "dice", desc := "()I" } : Jvm.MethodName)) ∈ G9 := g9 325 (by decide +kernel) rfl
theorem k326 : (Jvm.Cond.selects "HeroTable" ({ cls := "HeroTable", name := "dice", desc := "()I" } : Jvm.MethodName) ({ cls := "HeroTable", name := "dice", desc := "()I" } : Jvm.MethodName)) ∈ G9 := g9 326 (by decide +kernel) rfl
theorem k1863 : (Jvm.Cond.code ({ cls := "HeroTableModel", name := "dice", desc := "()I" } : Jvm.MethodName) prog_10_method_38_code (1 : Nat) (Option.some Jvm.ClassFile.FieldType.int)) ∈ G9 := g9 1863 (by decide +kernel) rfl
theorem k1860 : (Jvm.Cond.methodLink "HeroTableLaw" (223 : Nat) ({ cls := "HeroTableModel", name := "dice", desc := "()I" } : Jvm.MethodName)) ∈ G9 := g9 1860 (by decide +kernel) rfl
theorem ok_X11_dice : okN yX11_dice 0 := by decide +kernel
theorem k1861 : (Jvm.Cond.instanceMethod ({ cls := "HeroTableModel", name := "dice", desc := "()I" } : Jvm.MethodName)) ∈ G9 := g9 1861 (by decide +kernel) rfl
theorem k1862 : (Jvm.Cond.selects "HeroTableModel" ({ cls := "HeroTableModel", name := "dice", desc := "()I" } : Jvm.MethodName) ({ cls := "HeroTableModel", name := "dice", desc := "()I" } : Jvm.MethodName)) ∈ G9 := g9 1862 (by decide +kernel) rfl
theorem k1146 : (Jvm.Cond.codeWith ({ cls := "HeroTableLaw", name := "begin", desc := "(LHeroTable;[J)I" } : Jvm.MethodName) method_21_code (3 : Nat) (Option.some Jvm.ClassFile.FieldType.int) [((0 : Nat), (8 : Nat), (11 : Nat), (87 : Nat)), ((0 : Nat), (8 : Nat), (14 : Nat), (15 : Nat))]) ∈ G9 := g9 1146 (by decide +kernel) rfl
theorem k1144 : (Jvm.Cond.methodLink "HeroTableLaw" (224 : Nat) ({ cls := "HeroTableLaw", name := "begin", desc := "(LHeroTable;[J)I" } : Jvm.MethodName)) ∈ G9 := g9 1144 (by decide +kernel) rfl
theorem k1145 : (Jvm.Cond.static ({ cls := "HeroTableLaw", name := "begin", desc := "(LHeroTable;[J)I" } : Jvm.MethodName)) ∈ G9 := g9 1145 (by decide +kernel) rfl
theorem ok_L_begin : okN yL_begin 2 := by decide +kernel
theorem k1867 : (Jvm.Cond.code ({ cls := "HeroTableModel", name := "begin", desc := "()I" } : Jvm.MethodName) prog_10_method_40_code (4 : Nat) (Option.some Jvm.ClassFile.FieldType.int)) ∈ G9 := g9 1867 (by decide +kernel) rfl
theorem k1864 : (Jvm.Cond.methodLink "HeroTableLaw" (227 : Nat) ({ cls := "HeroTableModel", name := "begin", desc := "()I" } : Jvm.MethodName)) ∈ G9 := g9 1864 (by decide +kernel) rfl
theorem ok_X11_begin : okN yX11_begin 0 := by decide +kernel
theorem k1865 : (Jvm.Cond.instanceMethod ({ cls := "HeroTableModel", name := "begin", desc := "()I" } : Jvm.MethodName)) ∈ G9 := g9 1865 (by decide +kernel) rfl
theorem k1866 : (Jvm.Cond.selects "HeroTableModel" ({ cls := "HeroTableModel", name := "begin", desc := "()I" } : Jvm.MethodName) ({ cls := "HeroTableModel", name := "begin", desc := "()I" } : Jvm.MethodName)) ∈ G9 := g9 1866 (by decide +kernel) rfl
theorem k1155 : (Jvm.Cond.codeWith ({ cls := "HeroTableLaw", name := "endTurn", desc := "(LHeroTable;[J)I" } : Jvm.MethodName) method_22_code (3 : Nat) (Option.some Jvm.ClassFile.FieldType.int) [((0 : Nat), (8 : Nat), (11 : Nat), (15 : Nat))]) ∈ G9 := g9 1155 (by decide +kernel) rfl
theorem k1153 : (Jvm.Cond.methodLink "HeroTableLaw" (228 : Nat) ({ cls := "HeroTableLaw", name := "endTurn", desc := "(LHeroTable;[J)I" } : Jvm.MethodName)) ∈ G9 := g9 1153 (by decide +kernel) rfl
theorem k1154 : (Jvm.Cond.static ({ cls := "HeroTableLaw", name := "endTurn", desc := "(LHeroTable;[J)I" } : Jvm.MethodName)) ∈ G9 := g9 1154 (by decide +kernel) rfl
theorem ok_L_endTurn : okN yL_endTurn 2 := by decide +kernel
theorem k2109 : (Jvm.Cond.code ({ cls := "HeroTableModel", name := "endTurn", desc := "()I" } : Jvm.MethodName) prog_10_method_41_code (5 : Nat) (Option.some Jvm.ClassFile.FieldType.int)) ∈ G9 := g9 2109 (by decide +kernel) rfl
theorem k2106 : (Jvm.Cond.methodLink "HeroTableLaw" (230 : Nat) ({ cls := "HeroTableModel", name := "endTurn", desc := "()I" } : Jvm.MethodName)) ∈ G9 := g9 2106 (by decide +kernel) rfl
theorem ok_X11_endTurn : okN yX11_endTurn 0 := by decide +kernel
theorem k2107 : (Jvm.Cond.instanceMethod ({ cls := "HeroTableModel", name := "endTurn", desc := "()I" } : Jvm.MethodName)) ∈ G9 := g9 2107 (by decide +kernel) rfl
theorem k2108 : (Jvm.Cond.selects "HeroTableModel" ({ cls := "HeroTableModel", name := "endTurn", desc := "()I" } : Jvm.MethodName) ({ cls := "HeroTableModel", name := "endTurn", desc := "()I" } : Jvm.MethodName)) ∈ G9 := g9 2108 (by decide +kernel) rfl
theorem k1163 : (Jvm.Cond.codeWith ({ cls := "HeroTableLaw", name := "rest", desc := "(LHeroTable;[J)I" } : Jvm.MethodName) method_23_code (3 : Nat) (Option.some Jvm.ClassFile.FieldType.int) [((0 : Nat), (8 : Nat), (11 : Nat), (15 : Nat))]) ∈ G9 := g9 1163 (by decide +kernel) rfl
theorem k1161 : (Jvm.Cond.methodLink "HeroTableLaw" (231 : Nat) ({ cls := "HeroTableLaw", name := "rest", desc := "(LHeroTable;[J)I" } : Jvm.MethodName)) ∈ G9 := g9 1161 (by decide +kernel) rfl
theorem k1162 : (Jvm.Cond.static ({ cls := "HeroTableLaw", name := "rest", desc := "(LHeroTable;[J)I" } : Jvm.MethodName)) ∈ G9 := g9 1162 (by decide +kernel) rfl
theorem ok_L_rest : okN yL_rest 2 := by decide +kernel
theorem k2143 : (Jvm.Cond.code ({ cls := "HeroTableModel", name := "rest", desc := "()I" } : Jvm.MethodName) prog_10_method_42_code (4 : Nat) (Option.some Jvm.ClassFile.FieldType.int)) ∈ G9 := g9 2143 (by decide +kernel) rfl
theorem k2140 : (Jvm.Cond.methodLink "HeroTableLaw" (233 : Nat) ({ cls := "HeroTableModel", name := "rest", desc := "()I" } : Jvm.MethodName)) ∈ G9 := g9 2140 (by decide +kernel) rfl
theorem ok_X11_rest : okN yX11_rest 0 := by decide +kernel
theorem k2141 : (Jvm.Cond.instanceMethod ({ cls := "HeroTableModel", name := "rest", desc := "()I" } : Jvm.MethodName)) ∈ G9 := g9 2141 (by decide +kernel) rfl
theorem k2142 : (Jvm.Cond.selects "HeroTableModel" ({ cls := "HeroTableModel", name := "rest", desc := "()I" } : Jvm.MethodName) ({ cls := "HeroTableModel", name := "rest", desc := "()I" } : Jvm.MethodName)) ∈ G9 := g9 2142 (by decide +kernel) rfl
theorem k1171 : (Jvm.Cond.codeWith ({ cls := "HeroTableLaw", name := "turn", desc := "(LHeroTable;[J)I" } : Jvm.MethodName) method_24_code (3 : Nat) (Option.some Jvm.ClassFile.FieldType.int) [((0 : Nat), (8 : Nat), (11 : Nat), (87 : Nat))]) ∈ G9 := g9 1171 (by decide +kernel) rfl
theorem k1169 : (Jvm.Cond.methodLink "HeroTableLaw" (234 : Nat) ({ cls := "HeroTableLaw", name := "turn", desc := "(LHeroTable;[J)I" } : Jvm.MethodName)) ∈ G9 := g9 1169 (by decide +kernel) rfl
theorem k1170 : (Jvm.Cond.static ({ cls := "HeroTableLaw", name := "turn", desc := "(LHeroTable;[J)I" } : Jvm.MethodName)) ∈ G9 := g9 1170 (by decide +kernel) rfl
theorem ok_L_turn : okN yL_turn 2 := by decide +kernel
theorem k2147 : (Jvm.Cond.code ({ cls := "HeroTableModel", name := "turn", desc := "()I" } : Jvm.MethodName) prog_10_method_43_code (1 : Nat) (Option.some Jvm.ClassFile.FieldType.int)) ∈ G9 := g9 2147 (by decide +kernel) rfl
theorem k2144 : (Jvm.Cond.methodLink "HeroTableLaw" (236 : Nat) ({ cls := "HeroTableModel", name := "turn", desc := "()I" } : Jvm.MethodName)) ∈ G9 := g9 2144 (by decide +kernel) rfl
theorem ok_X11_turn : okN yX11_turn 0 := by decide +kernel
theorem k2145 : (Jvm.Cond.instanceMethod ({ cls := "HeroTableModel", name := "turn", desc := "()I" } : Jvm.MethodName)) ∈ G9 := g9 2145 (by decide +kernel) rfl
theorem k2146 : (Jvm.Cond.selects "HeroTableModel" ({ cls := "HeroTableModel", name := "turn", desc := "()I" } : Jvm.MethodName) ({ cls := "HeroTableModel", name := "turn", desc := "()I" } : Jvm.MethodName)) ∈ G9 := g9 2146 (by decide +kernel) rfl
theorem k335 : (Jvm.Cond.code ({ cls := "HeroTable", name := "round", desc := "()I" } : Jvm.MethodName) prog_1_method_26_code (1 : Nat) (Option.some Jvm.ClassFile.FieldType.int)) ∈ G9 := g9 335 (by decide +kernel) rfl
theorem k332 : (Jvm.Cond.methodLink "HeroTableLaw" (237 : Nat) ({ cls := "HeroTable", name := "round", desc := "()I" } : Jvm.MethodName)) ∈ G9 := g9 332 (by decide +kernel) rfl
theorem ok_X7_round : okN yX7_round 0 := by decide +kernel
theorem k333 : (Jvm.Cond.instanceMethod ({ cls := "HeroTable", name := "round", desc := "()I" } : Jvm.MethodName)) ∈ G9 := g9 333 (by decide +kernel) rfl
theorem k334 : (Jvm.Cond.selects "HeroTable" ({ cls := "HeroTable", name := "round", desc := "()I" } : Jvm.MethodName) ({ cls := "HeroTable", name := "round", desc := "()I" } : Jvm.MethodName)) ∈ G9 := g9 334 (by decide +kernel) rfl
theorem k2151 : (Jvm.Cond.code ({ cls := "HeroTableModel", name := "round", desc := "()I" } : Jvm.MethodName) prog_10_method_44_code (1 : Nat) (Option.some Jvm.ClassFile.FieldType.int)) ∈ G9 := g9 2151 (by decide +kernel) rfl
theorem k2148 : (Jvm.Cond.methodLink "HeroTableLaw" (240 : Nat) ({ cls := "HeroTableModel", name := "round", desc := "()I" } : Jvm.MethodName)) ∈ G9 := g9 2148 (by decide +kernel) rfl
theorem ok_X11_round : okN yX11_round 0 := by decide +kernel
theorem k2149 : (Jvm.Cond.instanceMethod ({ cls := "HeroTableModel", name := "round", desc := "()I" } : Jvm.MethodName)) ∈ G9 := g9 2149 (by decide +kernel) rfl
theorem k2150 : (Jvm.Cond.selects "HeroTableModel" ({ cls := "HeroTableModel", name := "round", desc := "()I" } : Jvm.MethodName) ({ cls := "HeroTableModel", name := "round", desc := "()I" } : Jvm.MethodName)) ∈ G9 := g9 2150 (by decide +kernel) rfl
theorem k1181 : (Jvm.Cond.codeWith ({ cls := "HeroTableLaw", name := "steps", desc := "(LHeroTable;[J)I" } : Jvm.MethodName) method_25_code (3 : Nat) (Option.some Jvm.ClassFile.FieldType.int) [((0 : Nat), (8 : Nat), (11 : Nat), (87 : Nat))]) ∈ G9 := g9 1181 (by decide +kernel) rfl
theorem k1179 : (Jvm.Cond.methodLink "HeroTableLaw" (241 : Nat) ({ cls := "HeroTableLaw", name := "steps", desc := "(LHeroTable;[J)I" } : Jvm.MethodName)) ∈ G9 := g9 1179 (by decide +kernel) rfl
theorem k1180 : (Jvm.Cond.static ({ cls := "HeroTableLaw", name := "steps", desc := "(LHeroTable;[J)I" } : Jvm.MethodName)) ∈ G9 := g9 1180 (by decide +kernel) rfl
theorem ok_L_steps : okN yL_steps 2 := by decide +kernel
theorem k2155 : (Jvm.Cond.code ({ cls := "HeroTableModel", name := "steps", desc := "()I" } : Jvm.MethodName) prog_10_method_45_code (1 : Nat) (Option.some Jvm.ClassFile.FieldType.int)) ∈ G9 := g9 2155 (by decide +kernel) rfl
theorem k2152 : (Jvm.Cond.methodLink "HeroTableLaw" (243 : Nat) ({ cls := "HeroTableModel", name := "steps", desc := "()I" } : Jvm.MethodName)) ∈ G9 := g9 2152 (by decide +kernel) rfl
theorem ok_X11_steps : okN yX11_steps 0 := by decide +kernel
theorem k2153 : (Jvm.Cond.instanceMethod ({ cls := "HeroTableModel", name := "steps", desc := "()I" } : Jvm.MethodName)) ∈ G9 := g9 2153 (by decide +kernel) rfl
theorem k2154 : (Jvm.Cond.selects "HeroTableModel" ({ cls := "HeroTableModel", name := "steps", desc := "()I" } : Jvm.MethodName) ({ cls := "HeroTableModel", name := "steps", desc := "()I" } : Jvm.MethodName)) ∈ G9 := g9 2154 (by decide +kernel) rfl
theorem k1188 : (Jvm.Cond.codeWith ({ cls := "HeroTableLaw", name := "canReact", desc := "(LHeroTable;I[J)I" } : Jvm.MethodName) method_26_code (4 : Nat) (Option.some Jvm.ClassFile.FieldType.int) [((0 : Nat), (16 : Nat), (19 : Nat), (27 : Nat))]) ∈ G9 := g9 1188 (by decide +kernel) rfl
theorem k1186 : (Jvm.Cond.methodLink "HeroTableLaw" (244 : Nat) ({ cls := "HeroTableLaw", name := "canReact", desc := "(LHeroTable;I[J)I" } : Jvm.MethodName)) ∈ G9 := g9 1186 (by decide +kernel) rfl
theorem k1187 : (Jvm.Cond.static ({ cls := "HeroTableLaw", name := "canReact", desc := "(LHeroTable;I[J)I" } : Jvm.MethodName)) ∈ G9 := g9 1187 (by decide +kernel) rfl
theorem ok_L_canReact : okN yL_canReact 3 := by decide +kernel
theorem k2159 : (Jvm.Cond.code ({ cls := "HeroTableModel", name := "canReact", desc := "(I)Z" } : Jvm.MethodName) prog_10_method_47_code (2 : Nat) (Option.some Jvm.ClassFile.FieldType.boolean)) ∈ G9 := g9 2159 (by decide +kernel) rfl
theorem k2156 : (Jvm.Cond.methodLink "HeroTableLaw" (246 : Nat) ({ cls := "HeroTableModel", name := "canReact", desc := "(I)Z" } : Jvm.MethodName)) ∈ G9 := g9 2156 (by decide +kernel) rfl
theorem ok_X11_canReact : okN yX11_canReact 1 := by decide +kernel
theorem k2157 : (Jvm.Cond.instanceMethod ({ cls := "HeroTableModel", name := "canReact", desc := "(I)Z" } : Jvm.MethodName)) ∈ G9 := g9 2157 (by decide +kernel) rfl
theorem k2158 : (Jvm.Cond.selects "HeroTableModel" ({ cls := "HeroTableModel", name := "canReact", desc := "(I)Z" } : Jvm.MethodName) ({ cls := "HeroTableModel", name := "canReact", desc := "(I)Z" } : Jvm.MethodName)) ∈ G9 := g9 2158 (by decide +kernel) rfl
theorem k1195 : (Jvm.Cond.codeWith ({ cls := "HeroTableLaw", name := "attack", desc := "(LHeroTable;I[J)I" } : Jvm.MethodName) method_27_code (4 : Nat) (Option.some Jvm.ClassFile.FieldType.int) [((0 : Nat), (9 : Nat), (12 : Nat), (27 : Nat)), ((0 : Nat), (9 : Nat), (15 : Nat), (15 : Nat)), ((0 : Nat), (9 : Nat), (18 : Nat), (17 : Nat))]) ∈ G9 := g9 1195 (by decide +kernel) rfl
theorem k1193 : (Jvm.Cond.methodLink "HeroTableLaw" (247 : Nat) ({ cls := "HeroTableLaw", name := "attack", desc := "(LHeroTable;I[J)I" } : Jvm.MethodName)) ∈ G9 := g9 1193 (by decide +kernel) rfl
theorem k1194 : (Jvm.Cond.static ({ cls := "HeroTableLaw", name := "attack", desc := "(LHeroTable;I[J)I" } : Jvm.MethodName)) ∈ G9 := g9 1194 (by decide +kernel) rfl
theorem ok_L_attack : okN yL_attack 3 := by decide +kernel
theorem k2166 : (Jvm.Cond.code ({ cls := "HeroTableModel", name := "attack", desc := "(I)I" } : Jvm.MethodName) prog_10_method_54_code (2 : Nat) (Option.some Jvm.ClassFile.FieldType.int)) ∈ G9 := g9 2166 (by decide +kernel) rfl
theorem k2163 : (Jvm.Cond.methodLink "HeroTableLaw" (249 : Nat) ({ cls := "HeroTableModel", name := "attack", desc := "(I)I" } : Jvm.MethodName)) ∈ G9 := g9 2163 (by decide +kernel) rfl
theorem ok_X11_attack : okN yX11_attack 1 := by decide +kernel
theorem k2164 : (Jvm.Cond.instanceMethod ({ cls := "HeroTableModel", name := "attack", desc := "(I)I" } : Jvm.MethodName)) ∈ G9 := g9 2164 (by decide +kernel) rfl
theorem k2165 : (Jvm.Cond.selects "HeroTableModel" ({ cls := "HeroTableModel", name := "attack", desc := "(I)I" } : Jvm.MethodName) ({ cls := "HeroTableModel", name := "attack", desc := "(I)I" } : Jvm.MethodName)) ∈ G9 := g9 2165 (by decide +kernel) rfl
theorem k1203 : (Jvm.Cond.codeWith ({ cls := "HeroTableLaw", name := "step", desc := "(LHeroTable;II[J)I" } : Jvm.MethodName) method_28_code (5 : Nat) (Option.some Jvm.ClassFile.FieldType.int) [((0 : Nat), (17 : Nat), (20 : Nat), (13 : Nat)), ((0 : Nat), (17 : Nat), (24 : Nat), (15 : Nat)), ((0 : Nat), (17 : Nat), (28 : Nat), (17 : Nat))]) ∈ G9 := g9 1203 (by decide +kernel) rfl
theorem k1201 : (Jvm.Cond.methodLink "HeroTableLaw" (250 : Nat) ({ cls := "HeroTableLaw", name := "step", desc := "(LHeroTable;II[J)I" } : Jvm.MethodName)) ∈ G9 := g9 1201 (by decide +kernel) rfl
theorem k1202 : (Jvm.Cond.static ({ cls := "HeroTableLaw", name := "step", desc := "(LHeroTable;II[J)I" } : Jvm.MethodName)) ∈ G9 := g9 1202 (by decide +kernel) rfl
theorem ok_L_step : okN yL_step 4 := by decide +kernel
theorem k2197 : (Jvm.Cond.code ({ cls := "HeroTableModel", name := "step", desc := "(II)Z" } : Jvm.MethodName) prog_10_method_57_code (10 : Nat) (Option.some Jvm.ClassFile.FieldType.boolean)) ∈ G9 := g9 2197 (by decide +kernel) rfl
theorem k2194 : (Jvm.Cond.methodLink "HeroTableLaw" (252 : Nat) ({ cls := "HeroTableModel", name := "step", desc := "(II)Z" } : Jvm.MethodName)) ∈ G9 := g9 2194 (by decide +kernel) rfl
theorem ok_X11_step : okN yX11_step 2 := by decide +kernel
theorem k2195 : (Jvm.Cond.instanceMethod ({ cls := "HeroTableModel", name := "step", desc := "(II)Z" } : Jvm.MethodName)) ∈ G9 := g9 2195 (by decide +kernel) rfl
theorem k2196 : (Jvm.Cond.selects "HeroTableModel" ({ cls := "HeroTableModel", name := "step", desc := "(II)Z" } : Jvm.MethodName) ({ cls := "HeroTableModel", name := "step", desc := "(II)Z" } : Jvm.MethodName)) ∈ G9 := g9 2196 (by decide +kernel) rfl
theorem k1211 : (Jvm.Cond.codeWith ({ cls := "HeroTableLaw", name := "stand", desc := "(LHeroTable;[J)I" } : Jvm.MethodName) method_29_code (3 : Nat) (Option.some Jvm.ClassFile.FieldType.int) [((0 : Nat), (15 : Nat), (18 : Nat), (15 : Nat)), ((0 : Nat), (15 : Nat), (21 : Nat), (17 : Nat))]) ∈ G9 := g9 1211 (by decide +kernel) rfl
theorem k1209 : (Jvm.Cond.methodLink "HeroTableLaw" (253 : Nat) ({ cls := "HeroTableLaw", name := "stand", desc := "(LHeroTable;[J)I" } : Jvm.MethodName)) ∈ G9 := g9 1209 (by decide +kernel) rfl
theorem k1210 : (Jvm.Cond.static ({ cls := "HeroTableLaw", name := "stand", desc := "(LHeroTable;[J)I" } : Jvm.MethodName)) ∈ G9 := g9 1210 (by decide +kernel) rfl
theorem ok_L_stand : okN yL_stand 2 := by decide +kernel
theorem k2210 : (Jvm.Cond.code ({ cls := "HeroTableModel", name := "stand", desc := "()Z" } : Jvm.MethodName) prog_10_method_58_code (4 : Nat) (Option.some Jvm.ClassFile.FieldType.boolean)) ∈ G9 := g9 2210 (by decide +kernel) rfl
theorem k2207 : (Jvm.Cond.methodLink "HeroTableLaw" (255 : Nat) ({ cls := "HeroTableModel", name := "stand", desc := "()Z" } : Jvm.MethodName)) ∈ G9 := g9 2207 (by decide +kernel) rfl
theorem ok_X11_stand : okN yX11_stand 0 := by decide +kernel
theorem k2208 : (Jvm.Cond.instanceMethod ({ cls := "HeroTableModel", name := "stand", desc := "()Z" } : Jvm.MethodName)) ∈ G9 := g9 2208 (by decide +kernel) rfl
theorem k2209 : (Jvm.Cond.selects "HeroTableModel" ({ cls := "HeroTableModel", name := "stand", desc := "()Z" } : Jvm.MethodName) ({ cls := "HeroTableModel", name := "stand", desc := "()Z" } : Jvm.MethodName)) ∈ G9 := g9 2209 (by decide +kernel) rfl
theorem k1219 : (Jvm.Cond.codeWith ({ cls := "HeroTableLaw", name := "ready", desc := "(LHeroTable;CC[J)I" } : Jvm.MethodName) method_30_code (5 : Nat) (Option.some Jvm.ClassFile.FieldType.int) [((0 : Nat), (17 : Nat), (20 : Nat), (13 : Nat)), ((0 : Nat), (17 : Nat), (24 : Nat), (15 : Nat)), ((0 : Nat), (17 : Nat), (28 : Nat), (17 : Nat))]) ∈ G9 := g9 1219 (by decide +kernel) rfl
theorem k1217 : (Jvm.Cond.methodLink "HeroTableLaw" (256 : Nat) ({ cls := "HeroTableLaw", name := "ready", desc := "(LHeroTable;CC[J)I" } : Jvm.MethodName)) ∈ G9 := g9 1217 (by decide +kernel) rfl
theorem k1218 : (Jvm.Cond.static ({ cls := "HeroTableLaw", name := "ready", desc := "(LHeroTable;CC[J)I" } : Jvm.MethodName)) ∈ G9 := g9 1218 (by decide +kernel) rfl
theorem ok_L_ready : okN yL_ready 4 := by decide +kernel
theorem k2214 : (Jvm.Cond.code ({ cls := "HeroTableModel", name := "ready", desc := "(CC)Z" } : Jvm.MethodName) prog_10_method_59_code (7 : Nat) (Option.some Jvm.ClassFile.FieldType.boolean)) ∈ G9 := g9 2214 (by decide +kernel) rfl
theorem k2211 : (Jvm.Cond.methodLink "HeroTableLaw" (259 : Nat) ({ cls := "HeroTableModel", name := "ready", desc := "(CC)Z" } : Jvm.MethodName)) ∈ G9 := g9 2211 (by decide +kernel) rfl
theorem ok_X11_ready : okN yX11_ready 2 := by decide +kernel
theorem k2212 : (Jvm.Cond.instanceMethod ({ cls := "HeroTableModel", name := "ready", desc := "(CC)Z" } : Jvm.MethodName)) ∈ G9 := g9 2212 (by decide +kernel) rfl
theorem k2213 : (Jvm.Cond.selects "HeroTableModel" ({ cls := "HeroTableModel", name := "ready", desc := "(CC)Z" } : Jvm.MethodName) ({ cls := "HeroTableModel", name := "ready", desc := "(CC)Z" } : Jvm.MethodName)) ∈ G9 := g9 2213 (by decide +kernel) rfl
theorem k1227 : (Jvm.Cond.codeWith ({ cls := "HeroTableLaw", name := "cast", desc := "(LHeroTable;CII[J)I" } : Jvm.MethodName) method_31_code (6 : Nat) (Option.some Jvm.ClassFile.FieldType.int) [((0 : Nat), (12 : Nat), (15 : Nat), (13 : Nat)), ((0 : Nat), (12 : Nat), (19 : Nat), (15 : Nat)), ((0 : Nat), (12 : Nat), (23 : Nat), (17 : Nat))]) ∈ G9 := g9 1227 (by decide +kernel) rfl
theorem k1225 : (Jvm.Cond.methodLink "HeroTableLaw" (260 : Nat) ({ cls := "HeroTableLaw", name := "cast", desc := "(LHeroTable;CII[J)I" } : Jvm.MethodName)) ∈ G9 := g9 1225 (by decide +kernel) rfl
theorem k1226 : (Jvm.Cond.static ({ cls := "HeroTableLaw", name := "cast", desc := "(LHeroTable;CII[J)I" } : Jvm.MethodName)) ∈ G9 := g9 1226 (by decide +kernel) rfl
theorem ok_L_cast : okN yL_cast 5 := by decide +kernel
theorem k2218 : (Jvm.Cond.code ({ cls := "HeroTableModel", name := "cast", desc := "(CII)C" } : Jvm.MethodName) prog_10_method_60_code (10 : Nat) (Option.some Jvm.ClassFile.FieldType.char)) ∈ G9 := g9 2218 (by decide +kernel) rfl
theorem k2215 : (Jvm.Cond.methodLink "HeroTableLaw" (263 : Nat) ({ cls := "HeroTableModel", name := "cast", desc := "(CII)C" } : Jvm.MethodName)) ∈ G9 := g9 2215 (by decide +kernel) rfl
theorem ok_X11_cast : okN yX11_cast 3 := by decide +kernel
theorem k2216 : (Jvm.Cond.instanceMethod ({ cls := "HeroTableModel", name := "cast", desc := "(CII)C" } : Jvm.MethodName)) ∈ G9 := g9 2216 (by decide +kernel) rfl
theorem k2217 : (Jvm.Cond.selects "HeroTableModel" ({ cls := "HeroTableModel", name := "cast", desc := "(CII)C" } : Jvm.MethodName) ({ cls := "HeroTableModel", name := "cast", desc := "(CII)C" } : Jvm.MethodName)) ∈ G9 := g9 2217 (by decide +kernel) rfl
theorem k1235 : (Jvm.Cond.codeWith ({ cls := "HeroTableLaw", name := "slots", desc := "(LHeroTable;I[J)I" } : Jvm.MethodName) method_32_code (4 : Nat) (Option.some Jvm.ClassFile.FieldType.int) [((0 : Nat), (9 : Nat), (12 : Nat), (27 : Nat))]) ∈ G9 := g9 1235 (by decide +kernel) rfl
theorem k1233 : (Jvm.Cond.methodLink "HeroTableLaw" (264 : Nat) ({ cls := "HeroTableLaw", name := "slots", desc := "(LHeroTable;I[J)I" } : Jvm.MethodName)) ∈ G9 := g9 1233 (by decide +kernel) rfl
theorem k1234 : (Jvm.Cond.static ({ cls := "HeroTableLaw", name := "slots", desc := "(LHeroTable;I[J)I" } : Jvm.MethodName)) ∈ G9 := g9 1234 (by decide +kernel) rfl
theorem ok_L_slots : okN yL_slots 3 := by decide +kernel
theorem k2231 : (Jvm.Cond.code ({ cls := "HeroTableModel", name := "slots", desc := "(I)I" } : Jvm.MethodName) prog_10_method_63_code (2 : Nat) (Option.some Jvm.ClassFile.FieldType.int)) ∈ G9 := g9 2231 (by decide +kernel) rfl
theorem k2228 : (Jvm.Cond.methodLink "HeroTableLaw" (266 : Nat) ({ cls := "HeroTableModel", name := "slots", desc := "(I)I" } : Jvm.MethodName)) ∈ G9 := g9 2228 (by decide +kernel) rfl
theorem ok_X11_slots : okN yX11_slots 1 := by decide +kernel
theorem k2229 : (Jvm.Cond.instanceMethod ({ cls := "HeroTableModel", name := "slots", desc := "(I)I" } : Jvm.MethodName)) ∈ G9 := g9 2229 (by decide +kernel) rfl
theorem k2230 : (Jvm.Cond.selects "HeroTableModel" ({ cls := "HeroTableModel", name := "slots", desc := "(I)I" } : Jvm.MethodName) ({ cls := "HeroTableModel", name := "slots", desc := "(I)I" } : Jvm.MethodName)) ∈ G9 := g9 2230 (by decide +kernel) rfl
theorem k1242 : (Jvm.Cond.codeWith ({ cls := "HeroTableLaw", name := "minds", desc := "(LHeroTable;I[J)I" } : Jvm.MethodName) method_33_code (4 : Nat) (Option.some Jvm.ClassFile.FieldType.int) [((0 : Nat), (16 : Nat), (19 : Nat), (27 : Nat))]) ∈ G9 := g9 1242 (by decide +kernel) rfl
theorem k1240 : (Jvm.Cond.methodLink "HeroTableLaw" (267 : Nat) ({ cls := "HeroTableLaw", name := "minds", desc := "(LHeroTable;I[J)I" } : Jvm.MethodName)) ∈ G9 := g9 1240 (by decide +kernel) rfl
theorem k1241 : (Jvm.Cond.static ({ cls := "HeroTableLaw", name := "minds", desc := "(LHeroTable;I[J)I" } : Jvm.MethodName)) ∈ G9 := g9 1241 (by decide +kernel) rfl
theorem ok_L_minds : okN yL_minds 3 := by decide +kernel
theorem k2235 : (Jvm.Cond.code ({ cls := "HeroTableModel", name := "minds", desc := "(I)Z" } : Jvm.MethodName) prog_10_method_64_code (2 : Nat) (Option.some Jvm.ClassFile.FieldType.boolean)) ∈ G9 := g9 2235 (by decide +kernel) rfl
theorem k2232 : (Jvm.Cond.methodLink "HeroTableLaw" (269 : Nat) ({ cls := "HeroTableModel", name := "minds", desc := "(I)Z" } : Jvm.MethodName)) ∈ G9 := g9 2232 (by decide +kernel) rfl
theorem ok_X11_minds_ : okN yX11_minds_ 1 := by decide +kernel
theorem k2233 : (Jvm.Cond.instanceMethod ({ cls := "HeroTableModel", name := "minds", desc := "(I)Z" } : Jvm.MethodName)) ∈ G9 := g9 2233 (by decide +kernel) rfl
theorem k2234 : (Jvm.Cond.selects "HeroTableModel" ({ cls := "HeroTableModel", name := "minds", desc := "(I)Z" } : Jvm.MethodName) ({ cls := "HeroTableModel", name := "minds", desc := "(I)Z" } : Jvm.MethodName)) ∈ G9 := g9 2234 (by decide +kernel) rfl
theorem k339 : (Jvm.Cond.code ({ cls := "HeroTable", name := "kept", desc := "()I" } : Jvm.MethodName) prog_1_method_36_code (1 : Nat) (Option.some Jvm.ClassFile.FieldType.int)) ∈ G9 := g9 339 (by decide +kernel) rfl
theorem k336 : (Jvm.Cond.methodLink "HeroTableLaw" (270 : Nat) ({ cls := "HeroTable", name := "kept", desc := "()I" } : Jvm.MethodName)) ∈ G9 := g9 336 (by decide +kernel) rfl
theorem ok_X7_kept : okN yX7_kept 0 := by decide +kernel
theorem k337 : (Jvm.Cond.instanceMethod ({ cls := "HeroTable", name := "kept", desc := "()I" } : Jvm.MethodName)) ∈ G9 := g9 337 (by decide +kernel) rfl
theorem k338 : (Jvm.Cond.selects "HeroTable" ({ cls := "HeroTable", name := "kept", desc := "()I" } : Jvm.MethodName) ({ cls := "HeroTable", name := "kept", desc := "()I" } : Jvm.MethodName)) ∈ G9 := g9 338 (by decide +kernel) rfl
theorem k2239 : (Jvm.Cond.code ({ cls := "HeroTableModel", name := "kept", desc := "()I" } : Jvm.MethodName) prog_10_method_65_code (1 : Nat) (Option.some Jvm.ClassFile.FieldType.int)) ∈ G9 := g9 2239 (by decide +kernel) rfl
theorem k2236 : (Jvm.Cond.methodLink "HeroTableLaw" (273 : Nat) ({ cls := "HeroTableModel", name := "kept", desc := "()I" } : Jvm.MethodName)) ∈ G9 := g9 2236 (by decide +kernel) rfl
theorem ok_X11_kept : okN yX11_kept 0 := by decide +kernel
theorem k2237 : (Jvm.Cond.instanceMethod ({ cls := "HeroTableModel", name := "kept", desc := "()I" } : Jvm.MethodName)) ∈ G9 := g9 2237 (by decide +kernel) rfl
theorem k2238 : (Jvm.Cond.selects "HeroTableModel" ({ cls := "HeroTableModel", name := "kept", desc := "()I" } : Jvm.MethodName) ({ cls := "HeroTableModel", name := "kept", desc := "()I" } : Jvm.MethodName)) ∈ G9 := g9 2238 (by decide +kernel) rfl
theorem k1249 : (Jvm.Cond.codeWith ({ cls := "HeroTableLaw", name := "again", desc := "(LHeroTable;III[J)I" } : Jvm.MethodName) method_34_code (6 : Nat) (Option.some Jvm.ClassFile.FieldType.int) [((0 : Nat), (12 : Nat), (15 : Nat), (27 : Nat)), ((0 : Nat), (12 : Nat), (19 : Nat), (13 : Nat))]) ∈ G9 := g9 1249 (by decide +kernel) rfl
theorem k1247 : (Jvm.Cond.methodLink "HeroTableLaw" (274 : Nat) ({ cls := "HeroTableLaw", name := "again", desc := "(LHeroTable;III[J)I" } : Jvm.MethodName)) ∈ G9 := g9 1247 (by decide +kernel) rfl
theorem k1248 : (Jvm.Cond.static ({ cls := "HeroTableLaw", name := "again", desc := "(LHeroTable;III[J)I" } : Jvm.MethodName)) ∈ G9 := g9 1248 (by decide +kernel) rfl
theorem ok_L_again : okN yL_again 5 := by decide +kernel
theorem k2243 : (Jvm.Cond.code ({ cls := "HeroTableModel", name := "again", desc := "(III)I" } : Jvm.MethodName) prog_10_method_68_code (10 : Nat) (Option.some Jvm.ClassFile.FieldType.int)) ∈ G9 := g9 2243 (by decide +kernel) rfl
theorem k2240 : (Jvm.Cond.methodLink "HeroTableLaw" (276 : Nat) ({ cls := "HeroTableModel", name := "again", desc := "(III)I" } : Jvm.MethodName)) ∈ G9 := g9 2240 (by decide +kernel) rfl
theorem ok_X11_again : okN yX11_again 3 := by decide +kernel
theorem k2241 : (Jvm.Cond.instanceMethod ({ cls := "HeroTableModel", name := "again", desc := "(III)I" } : Jvm.MethodName)) ∈ G9 := g9 2241 (by decide +kernel) rfl
theorem k2242 : (Jvm.Cond.selects "HeroTableModel" ({ cls := "HeroTableModel", name := "again", desc := "(III)I" } : Jvm.MethodName) ({ cls := "HeroTableModel", name := "again", desc := "(III)I" } : Jvm.MethodName)) ∈ G9 := g9 2242 (by decide +kernel) rfl
theorem k343 : (Jvm.Cond.code ({ cls := "HeroTable", name := "harmDone", desc := "()J" } : Jvm.MethodName) prog_1_method_38_code (1 : Nat) (Option.some Jvm.ClassFile.FieldType.long)) ∈ G9 := g9 343 (by decide +kernel) rfl
theorem k340 : (Jvm.Cond.methodLink "HeroTableLaw" (277 : Nat) ({ cls := "HeroTable", name := "harmDone", desc := "()J" } : Jvm.MethodName)) ∈ G9 := g9 340 (by decide +kernel) rfl
theorem ok_X7_harmDone : okN yX7_harmDone 0 := by decide +kernel
theorem k341 : (Jvm.Cond.instanceMethod ({ cls := "HeroTable", name := "harmDone", desc := "()J" } : Jvm.MethodName)) ∈ G9 := g9 341 (by decide +kernel) rfl
theorem k342 : (Jvm.Cond.selects "HeroTable" ({ cls := "HeroTable", name := "harmDone", desc := "()J" } : Jvm.MethodName) ({ cls := "HeroTable", name := "harmDone", desc := "()J" } : Jvm.MethodName)) ∈ G9 := g9 342 (by decide +kernel) rfl
theorem k2275 : (Jvm.Cond.code ({ cls := "HeroTableModel", name := "harmDone", desc := "()J" } : Jvm.MethodName) prog_10_method_69_code (1 : Nat) (Option.some Jvm.ClassFile.FieldType.long)) ∈ G9 := g9 2275 (by decide +kernel) rfl
theorem k2272 : (Jvm.Cond.methodLink "HeroTableLaw" (281 : Nat) ({ cls := "HeroTableModel", name := "harmDone", desc := "()J" } : Jvm.MethodName)) ∈ G9 := g9 2272 (by decide +kernel) rfl
theorem ok_X11_harmDone : okN yX11_harmDone 0 := by decide +kernel
theorem k2273 : (Jvm.Cond.instanceMethod ({ cls := "HeroTableModel", name := "harmDone", desc := "()J" } : Jvm.MethodName)) ∈ G9 := g9 2273 (by decide +kernel) rfl
theorem k2274 : (Jvm.Cond.selects "HeroTableModel" ({ cls := "HeroTableModel", name := "harmDone", desc := "()J" } : Jvm.MethodName) ({ cls := "HeroTableModel", name := "harmDone", desc := "()J" } : Jvm.MethodName)) ∈ G9 := g9 2274 (by decide +kernel) rfl
theorem k1258 : (Jvm.Cond.codeWith ({ cls := "HeroTableLaw", name := "hitShare", desc := "(LHeroTable;[D)I" } : Jvm.MethodName) method_35_code (3 : Nat) (Option.some Jvm.ClassFile.FieldType.int) [((0 : Nat), (8 : Nat), (11 : Nat), (137 : Nat))]) ∈ G9 := g9 1258 (by decide +kernel) rfl
theorem k1256 : (Jvm.Cond.methodLink "HeroTableLaw" (282 : Nat) ({ cls := "HeroTableLaw", name := "hitShare", desc := "(LHeroTable;[D)I" } : Jvm.MethodName)) ∈ G9 := g9 1256 (by decide +kernel) rfl
theorem k1257 : (Jvm.Cond.static ({ cls := "HeroTableLaw", name := "hitShare", desc := "(LHeroTable;[D)I" } : Jvm.MethodName)) ∈ G9 := g9 1257 (by decide +kernel) rfl
theorem ok_L_hitShare : okN yL_hitShare 2 := by decide +kernel
theorem k2279 : (Jvm.Cond.code ({ cls := "HeroTableModel", name := "hitShare", desc := "()F" } : Jvm.MethodName) prog_10_method_70_code (1 : Nat) (Option.some Jvm.ClassFile.FieldType.float)) ∈ G9 := g9 2279 (by decide +kernel) rfl
theorem k2276 : (Jvm.Cond.methodLink "HeroTableLaw" (285 : Nat) ({ cls := "HeroTableModel", name := "hitShare", desc := "()F" } : Jvm.MethodName)) ∈ G9 := g9 2276 (by decide +kernel) rfl
theorem ok_X11_hitShare : okN yX11_hitShare 0 := by decide +kernel
theorem k2277 : (Jvm.Cond.instanceMethod ({ cls := "HeroTableModel", name := "hitShare", desc := "()F" } : Jvm.MethodName)) ∈ G9 := g9 2277 (by decide +kernel) rfl
theorem k2278 : (Jvm.Cond.selects "HeroTableModel" ({ cls := "HeroTableModel", name := "hitShare", desc := "()F" } : Jvm.MethodName) ({ cls := "HeroTableModel", name := "hitShare", desc := "()F" } : Jvm.MethodName)) ∈ G9 := g9 2278 (by decide +kernel) rfl
theorem k1282 : (Jvm.Cond.codeWith ({ cls := "HeroTableLaw", name := "meanLife", desc := "(LHeroTable;[D)I" } : Jvm.MethodName) method_36_code (3 : Nat) (Option.some Jvm.ClassFile.FieldType.int) [((0 : Nat), (7 : Nat), (10 : Nat), (137 : Nat))]) ∈ G9 := g9 1282 (by decide +kernel) rfl
theorem k1280 : (Jvm.Cond.methodLink "HeroTableLaw" (286 : Nat) ({ cls := "HeroTableLaw", name := "meanLife", desc := "(LHeroTable;[D)I" } : Jvm.MethodName)) ∈ G9 := g9 1280 (by decide +kernel) rfl
theorem k1281 : (Jvm.Cond.static ({ cls := "HeroTableLaw", name := "meanLife", desc := "(LHeroTable;[D)I" } : Jvm.MethodName)) ∈ G9 := g9 1281 (by decide +kernel) rfl
theorem ok_L_meanLife : okN yL_meanLife 2 := by decide +kernel
theorem k2283 : (Jvm.Cond.code ({ cls := "HeroTableModel", name := "meanLife", desc := "()D" } : Jvm.MethodName) prog_10_method_71_code (4 : Nat) (Option.some Jvm.ClassFile.FieldType.double)) ∈ G9 := g9 2283 (by decide +kernel) rfl
theorem k2280 : (Jvm.Cond.methodLink "HeroTableLaw" (288 : Nat) ({ cls := "HeroTableModel", name := "meanLife", desc := "()D" } : Jvm.MethodName)) ∈ G9 := g9 2280 (by decide +kernel) rfl
theorem ok_X11_meanLife : okN yX11_meanLife 0 := by decide +kernel
theorem k2281 : (Jvm.Cond.instanceMethod ({ cls := "HeroTableModel", name := "meanLife", desc := "()D" } : Jvm.MethodName)) ∈ G9 := g9 2281 (by decide +kernel) rfl
theorem k2282 : (Jvm.Cond.selects "HeroTableModel" ({ cls := "HeroTableModel", name := "meanLife", desc := "()D" } : Jvm.MethodName) ({ cls := "HeroTableModel", name := "meanLife", desc := "()D" } : Jvm.MethodName)) ∈ G9 := g9 2282 (by decide +kernel) rfl
theorem k347 : (Jvm.Cond.code ({ cls := "HeroTable", name := "isSound", desc := "()Z" } : Jvm.MethodName) prog_1_method_41_code (1 : Nat) (Option.some Jvm.ClassFile.FieldType.boolean)) ∈ G9 := g9 347 (by decide +kernel) rfl
theorem k344 : (Jvm.Cond.methodLink "HeroTableLaw" (289 : Nat) ({ cls := "HeroTable", name := "isSound", desc := "()Z" } : Jvm.MethodName)) ∈ G9 := g9 344 (by decide +kernel) rfl
theorem ok_X7_isSound : okN yX7_isSound 0 := by decide +kernel
theorem k345 : (Jvm.Cond.instanceMethod ({ cls := "HeroTable", name := "isSound", desc := "()Z" } : Jvm.MethodName)) ∈ G9 := g9 345 (by decide +kernel) rfl
theorem k346 : (Jvm.Cond.selects "HeroTable" ({ cls := "HeroTable", name := "isSound", desc := "()Z" } : Jvm.MethodName) ({ cls := "HeroTable", name := "isSound", desc := "()Z" } : Jvm.MethodName)) ∈ G9 := g9 346 (by decide +kernel) rfl
theorem k2287 : (Jvm.Cond.code ({ cls := "HeroTableModel", name := "isSound", desc := "()Z" } : Jvm.MethodName) prog_10_method_72_code (1 : Nat) (Option.some Jvm.ClassFile.FieldType.boolean)) ∈ G9 := g9 2287 (by decide +kernel) rfl
theorem k2284 : (Jvm.Cond.methodLink "HeroTableLaw" (292 : Nat) ({ cls := "HeroTableModel", name := "isSound", desc := "()Z" } : Jvm.MethodName)) ∈ G9 := g9 2284 (by decide +kernel) rfl
theorem ok_X11_isSound : okN yX11_isSound 0 := by decide +kernel
theorem k2285 : (Jvm.Cond.instanceMethod ({ cls := "HeroTableModel", name := "isSound", desc := "()Z" } : Jvm.MethodName)) ∈ G9 := g9 2285 (by decide +kernel) rfl
theorem k2286 : (Jvm.Cond.selects "HeroTableModel" ({ cls := "HeroTableModel", name := "isSound", desc := "()Z" } : Jvm.MethodName) ({ cls := "HeroTableModel", name := "isSound", desc := "()Z" } : Jvm.MethodName)) ∈ G9 := g9 2286 (by decide +kernel) rfl
theorem dL_law_0 : decode cL_law 0 = .ok (.new 8, 3) := by decide +kernel
theorem dL_law_3 : decode cL_law 3 = .ok (.dup, 1) := by decide +kernel
theorem dL_law_4 : decode cL_law 4 = .ok (.invokespecial 143, 3) := by decide +kernel
theorem dL_law_7 : decode cL_law 7 = .ok (.astore_n 1, 1) := by decide +kernel
theorem dL_law_8 : decode cL_law 8 = .ok (.new 144, 3) := by decide +kernel
theorem dL_law_11 : decode cL_law 11 = .ok (.dup, 1) := by decide +kernel
theorem dL_law_12 : decode cL_law 12 = .ok (.invokespecial 146, 3) := by decide +kernel
theorem dL_law_15 : decode cL_law 15 = .ok (.astore_n 2, 1) := by decide +kernel
theorem dL_law_16 : decode cL_law 16 = .ok (.iconst 1, 1) := by decide +kernel
theorem dL_law_17 : decode cL_law 17 = .ok (.newarray .long, 2) := by decide +kernel
theorem dL_law_19 : decode cL_law 19 = .ok (.astore_n 3, 1) := by decide +kernel
theorem dL_law_20 : decode cL_law 20 = .ok (.iconst 1, 1) := by decide +kernel
theorem dL_law_21 : decode cL_law 21 = .ok (.newarray .double, 2) := by decide +kernel
theorem dL_law_23 : decode cL_law 23 = .ok (.astore 4, 2) := by decide +kernel
theorem dL_law_25 : decode cL_law 25 = .ok (.iconst 0, 1) := by decide +kernel
theorem dL_law_26 : decode cL_law 26 = .ok (.istore 5, 2) := by decide +kernel
theorem dL_law_28 : decode cL_law 28 = .ok (.iload 5, 2) := by decide +kernel
theorem dL_law_30 : decode cL_law 30 = .ok (.aload_n 0, 1) := by decide +kernel
theorem dL_law_31 : decode cL_law 31 = .ok (.arraylength, 1) := by decide +kernel
theorem dL_law_32 : decode cL_law 32 = .ok (.bipush 7, 2) := by decide +kernel
theorem dL_law_34 : decode cL_law 34 = .ok (.isub, 1) := by decide +kernel
theorem dL_law_35 : decode cL_law 35 = .ok (.if_icmp .gt 2617, 3) := by decide +kernel
theorem dL_law_38 : decode cL_law 38 = .ok (.aload_n 0, 1) := by decide +kernel
theorem dL_law_39 : decode cL_law 39 = .ok (.iload 5, 2) := by decide +kernel
theorem dL_law_41 : decode cL_law 41 = .ok (.iaload, 1) := by decide +kernel
theorem dL_law_42 : decode cL_law 42 = .ok (.bipush 63, 2) := by decide +kernel
theorem dL_law_44 : decode cL_law 44 = .ok (.iand, 1) := by decide +kernel
theorem dL_law_45 : decode cL_law 45 = .ok (.tableswitch 2601 0 39 #[175, 279, 361, 443, 511, 579, 635, 691, 747, 834, 956, 1062, 1125, 1230, 1293, 1363, 1433, 1510, 1523, 1579, 1592, 1636, 1680, 1724, 1768, 1781, 1825, 1888, 1944, 2019, 2070, 2149, 2231, 2287, 2350, 2363, 2443, 2457, 2523, 2588], 175) := by decide +kernel
theorem dL_law_220 : decode cL_law 220 = .ok (.aload_n 1, 1) := by decide +kernel
theorem dL_law_221 : decode cL_law 221 = .ok (.aload_n 0, 1) := by decide +kernel
theorem dL_law_222 : decode cL_law 222 = .ok (.iload 5, 2) := by decide +kernel
theorem dL_law_224 : decode cL_law 224 = .ok (.iconst 1, 1) := by decide +kernel
theorem dL_law_225 : decode cL_law 225 = .ok (.iadd, 1) := by decide +kernel
theorem dL_law_226 : decode cL_law 226 = .ok (.iaload, 1) := by decide +kernel
theorem dL_law_227 : decode cL_law 227 = .ok (.aload_n 0, 1) := by decide +kernel
theorem dL_law_228 : decode cL_law 228 = .ok (.iload 5, 2) := by decide +kernel
theorem dL_law_230 : decode cL_law 230 = .ok (.iconst 2, 1) := by decide +kernel
theorem dL_law_231 : decode cL_law 231 = .ok (.iadd, 1) := by decide +kernel
theorem dL_law_232 : decode cL_law 232 = .ok (.iaload, 1) := by decide +kernel
theorem dL_law_233 : decode cL_law 233 = .ok (.aload_n 0, 1) := by decide +kernel
theorem dL_law_234 : decode cL_law 234 = .ok (.iload 5, 2) := by decide +kernel
theorem dL_law_236 : decode cL_law 236 = .ok (.iconst 3, 1) := by decide +kernel
theorem dL_law_237 : decode cL_law 237 = .ok (.iadd, 1) := by decide +kernel
theorem dL_law_238 : decode cL_law 238 = .ok (.iaload, 1) := by decide +kernel
theorem dL_law_239 : decode cL_law 239 = .ok (.aload_n 0, 1) := by decide +kernel
theorem dL_law_240 : decode cL_law 240 = .ok (.iload 5, 2) := by decide +kernel
theorem dL_law_242 : decode cL_law 242 = .ok (.iconst 4, 1) := by decide +kernel
theorem dL_law_243 : decode cL_law 243 = .ok (.iadd, 1) := by decide +kernel
theorem dL_law_244 : decode cL_law 244 = .ok (.iaload, 1) := by decide +kernel
theorem dL_law_245 : decode cL_law 245 = .ok (.aload_n 0, 1) := by decide +kernel
theorem dL_law_246 : decode cL_law 246 = .ok (.iload 5, 2) := by decide +kernel
theorem dL_law_248 : decode cL_law 248 = .ok (.iconst 5, 1) := by decide +kernel
theorem dL_law_249 : decode cL_law 249 = .ok (.iadd, 1) := by decide +kernel
theorem dL_law_250 : decode cL_law 250 = .ok (.iaload, 1) := by decide +kernel
theorem dL_law_251 : decode cL_law 251 = .ok (.aload_n 3, 1) := by decide +kernel
theorem dL_law_252 : decode cL_law 252 = .ok (.invokestatic 147, 3) := by decide +kernel
theorem dL_law_255 : decode cL_law 255 = .ok (.istore 6, 2) := by decide +kernel
theorem dL_law_257 : decode cL_law 257 = .ok (.aload_n 2, 1) := by decide +kernel
theorem dL_law_258 : decode cL_law 258 = .ok (.aload_n 0, 1) := by decide +kernel
theorem dL_law_259 : decode cL_law 259 = .ok (.iload 5, 2) := by decide +kernel
theorem dL_law_261 : decode cL_law 261 = .ok (.iconst 1, 1) := by decide +kernel
theorem dL_law_262 : decode cL_law 262 = .ok (.iadd, 1) := by decide +kernel
theorem dL_law_263 : decode cL_law 263 = .ok (.iaload, 1) := by decide +kernel
theorem dL_law_264 : decode cL_law 264 = .ok (.aload_n 0, 1) := by decide +kernel
theorem dL_law_265 : decode cL_law 265 = .ok (.iload 5, 2) := by decide +kernel
theorem dL_law_267 : decode cL_law 267 = .ok (.iconst 2, 1) := by decide +kernel
theorem dL_law_268 : decode cL_law 268 = .ok (.iadd, 1) := by decide +kernel
theorem dL_law_269 : decode cL_law 269 = .ok (.iaload, 1) := by decide +kernel
theorem dL_law_270 : decode cL_law 270 = .ok (.aload_n 0, 1) := by decide +kernel
theorem dL_law_271 : decode cL_law 271 = .ok (.iload 5, 2) := by decide +kernel
theorem dL_law_273 : decode cL_law 273 = .ok (.iconst 3, 1) := by decide +kernel
theorem dL_law_274 : decode cL_law 274 = .ok (.iadd, 1) := by decide +kernel
theorem dL_law_275 : decode cL_law 275 = .ok (.iaload, 1) := by decide +kernel
theorem dL_law_276 : decode cL_law 276 = .ok (.aload_n 0, 1) := by decide +kernel
theorem dL_law_277 : decode cL_law 277 = .ok (.iload 5, 2) := by decide +kernel
theorem dL_law_279 : decode cL_law 279 = .ok (.iconst 4, 1) := by decide +kernel
theorem dL_law_280 : decode cL_law 280 = .ok (.iadd, 1) := by decide +kernel
theorem dL_law_281 : decode cL_law 281 = .ok (.iaload, 1) := by decide +kernel
theorem dL_law_282 : decode cL_law 282 = .ok (.aload_n 0, 1) := by decide +kernel
theorem dL_law_283 : decode cL_law 283 = .ok (.iload 5, 2) := by decide +kernel
theorem dL_law_285 : decode cL_law 285 = .ok (.iconst 5, 1) := by decide +kernel
theorem dL_law_286 : decode cL_law 286 = .ok (.iadd, 1) := by decide +kernel
theorem dL_law_287 : decode cL_law 287 = .ok (.iaload, 1) := by decide +kernel
theorem dL_law_288 : decode cL_law 288 = .ok (.invokevirtual 152, 3) := by decide +kernel
theorem dL_law_291 : decode cL_law 291 = .ok (.istore 7, 2) := by decide +kernel
theorem dL_law_293 : decode cL_law 293 = .ok (.aload_n 2, 1) := by decide +kernel
theorem dL_law_294 : decode cL_law 294 = .ok (.invokevirtual 153, 3) := by decide +kernel
theorem dL_law_297 : decode cL_law 297 = .ok (.iload 6, 2) := by decide +kernel
theorem dL_law_299 : decode cL_law 299 = .ok (.if_icmp .eq 5, 3) := by decide +kernel
theorem dL_law_304 : decode cL_law 304 = .ok (.iload 6, 2) := by decide +kernel
theorem dL_law_306 : decode cL_law 306 = .ok (.ifCond .ne 15, 3) := by decide +kernel
theorem dL_law_309 : decode cL_law 309 = .ok (.aload_n 3, 1) := by decide +kernel
theorem dL_law_310 : decode cL_law 310 = .ok (.iconst 0, 1) := by decide +kernel
theorem dL_law_311 : decode cL_law 311 = .ok (.laload, 1) := by decide +kernel
theorem dL_law_312 : decode cL_law 312 = .ok (.iload 7, 2) := by decide +kernel
theorem dL_law_314 : decode cL_law 314 = .ok (.i2l, 1) := by decide +kernel
theorem dL_law_315 : decode cL_law 315 = .ok (.lcmp, 1) := by decide +kernel
theorem dL_law_316 : decode cL_law 316 = .ok (.ifCond .eq 5, 3) := by decide +kernel
theorem dL_law_321 : decode cL_law 321 = .ok (.goto 2325, 3) := by decide +kernel
theorem dL_law_324 : decode cL_law 324 = .ok (.aload_n 1, 1) := by decide +kernel
theorem dL_law_325 : decode cL_law 325 = .ok (.aload_n 0, 1) := by decide +kernel
theorem dL_law_326 : decode cL_law 326 = .ok (.iload 5, 2) := by decide +kernel
theorem dL_law_328 : decode cL_law 328 = .ok (.iconst 1, 1) := by decide +kernel
theorem dL_law_329 : decode cL_law 329 = .ok (.iadd, 1) := by decide +kernel
theorem dL_law_330 : decode cL_law 330 = .ok (.iaload, 1) := by decide +kernel
theorem dL_law_331 : decode cL_law 331 = .ok (.aload_n 0, 1) := by decide +kernel
theorem dL_law_332 : decode cL_law 332 = .ok (.iload 5, 2) := by decide +kernel
theorem dL_law_334 : decode cL_law 334 = .ok (.iconst 2, 1) := by decide +kernel
theorem dL_law_335 : decode cL_law 335 = .ok (.iadd, 1) := by decide +kernel
theorem dL_law_336 : decode cL_law 336 = .ok (.iaload, 1) := by decide +kernel
theorem dL_law_337 : decode cL_law 337 = .ok (.aload_n 0, 1) := by decide +kernel
theorem dL_law_338 : decode cL_law 338 = .ok (.iload 5, 2) := by decide +kernel
theorem dL_law_340 : decode cL_law 340 = .ok (.iconst 3, 1) := by decide +kernel
theorem dL_law_341 : decode cL_law 341 = .ok (.iadd, 1) := by decide +kernel
theorem dL_law_342 : decode cL_law 342 = .ok (.iaload, 1) := by decide +kernel
theorem dL_law_343 : decode cL_law 343 = .ok (.i2c, 1) := by decide +kernel
theorem dL_law_344 : decode cL_law 344 = .ok (.aload_n 3, 1) := by decide +kernel
theorem dL_law_345 : decode cL_law 345 = .ok (.invokestatic 156, 3) := by decide +kernel
theorem dL_law_348 : decode cL_law 348 = .ok (.istore 6, 2) := by decide +kernel
theorem dL_law_350 : decode cL_law 350 = .ok (.aload_n 2, 1) := by decide +kernel
theorem dL_law_351 : decode cL_law 351 = .ok (.aload_n 0, 1) := by decide +kernel
theorem dL_law_352 : decode cL_law 352 = .ok (.iload 5, 2) := by decide +kernel
theorem dL_law_354 : decode cL_law 354 = .ok (.iconst 1, 1) := by decide +kernel
theorem dL_law_355 : decode cL_law 355 = .ok (.iadd, 1) := by decide +kernel
theorem dL_law_356 : decode cL_law 356 = .ok (.iaload, 1) := by decide +kernel
theorem dL_law_357 : decode cL_law 357 = .ok (.aload_n 0, 1) := by decide +kernel
theorem dL_law_358 : decode cL_law 358 = .ok (.iload 5, 2) := by decide +kernel
theorem dL_law_360 : decode cL_law 360 = .ok (.iconst 2, 1) := by decide +kernel
theorem dL_law_361 : decode cL_law 361 = .ok (.iadd, 1) := by decide +kernel
theorem dL_law_362 : decode cL_law 362 = .ok (.iaload, 1) := by decide +kernel
theorem dL_law_363 : decode cL_law 363 = .ok (.aload_n 0, 1) := by decide +kernel
theorem dL_law_364 : decode cL_law 364 = .ok (.iload 5, 2) := by decide +kernel
theorem dL_law_366 : decode cL_law 366 = .ok (.iconst 3, 1) := by decide +kernel
theorem dL_law_367 : decode cL_law 367 = .ok (.iadd, 1) := by decide +kernel
theorem dL_law_368 : decode cL_law 368 = .ok (.iaload, 1) := by decide +kernel
theorem dL_law_369 : decode cL_law 369 = .ok (.i2c, 1) := by decide +kernel
theorem dL_law_370 : decode cL_law 370 = .ok (.invokevirtual 159, 3) := by decide +kernel
theorem dL_law_373 : decode cL_law 373 = .ok (.istore 7, 2) := by decide +kernel
theorem dL_law_375 : decode cL_law 375 = .ok (.aload_n 2, 1) := by decide +kernel
theorem dL_law_376 : decode cL_law 376 = .ok (.invokevirtual 153, 3) := by decide +kernel
theorem dL_law_379 : decode cL_law 379 = .ok (.iload 6, 2) := by decide +kernel
theorem dL_law_381 : decode cL_law 381 = .ok (.if_icmp .eq 5, 3) := by decide +kernel
theorem dL_law_386 : decode cL_law 386 = .ok (.iload 6, 2) := by decide +kernel
theorem dL_law_388 : decode cL_law 388 = .ok (.ifCond .ne 15, 3) := by decide +kernel
theorem dL_law_391 : decode cL_law 391 = .ok (.aload_n 3, 1) := by decide +kernel
theorem dL_law_392 : decode cL_law 392 = .ok (.iconst 0, 1) := by decide +kernel
theorem dL_law_393 : decode cL_law 393 = .ok (.laload, 1) := by decide +kernel
theorem dL_law_394 : decode cL_law 394 = .ok (.iload 7, 2) := by decide +kernel
theorem dL_law_396 : decode cL_law 396 = .ok (.i2l, 1) := by decide +kernel
theorem dL_law_397 : decode cL_law 397 = .ok (.lcmp, 1) := by decide +kernel
theorem dL_law_398 : decode cL_law 398 = .ok (.ifCond .eq 5, 3) := by decide +kernel
theorem dL_law_403 : decode cL_law 403 = .ok (.goto 2243, 3) := by decide +kernel
theorem dL_law_406 : decode cL_law 406 = .ok (.aload_n 1, 1) := by decide +kernel
theorem dL_law_407 : decode cL_law 407 = .ok (.aload_n 0, 1) := by decide +kernel
theorem dL_law_408 : decode cL_law 408 = .ok (.iload 5, 2) := by decide +kernel
theorem dL_law_410 : decode cL_law 410 = .ok (.iconst 1, 1) := by decide +kernel
theorem dL_law_411 : decode cL_law 411 = .ok (.iadd, 1) := by decide +kernel
theorem dL_law_412 : decode cL_law 412 = .ok (.iaload, 1) := by decide +kernel
theorem dL_law_413 : decode cL_law 413 = .ok (.aload_n 0, 1) := by decide +kernel
theorem dL_law_414 : decode cL_law 414 = .ok (.iload 5, 2) := by decide +kernel
theorem dL_law_416 : decode cL_law 416 = .ok (.iconst 2, 1) := by decide +kernel
theorem dL_law_417 : decode cL_law 417 = .ok (.iadd, 1) := by decide +kernel
theorem dL_law_418 : decode cL_law 418 = .ok (.iaload, 1) := by decide +kernel
theorem dL_law_419 : decode cL_law 419 = .ok (.i2c, 1) := by decide +kernel
theorem dL_law_420 : decode cL_law 420 = .ok (.aload_n 0, 1) := by decide +kernel
theorem dL_law_421 : decode cL_law 421 = .ok (.iload 5, 2) := by decide +kernel
theorem dL_law_423 : decode cL_law 423 = .ok (.iconst 3, 1) := by decide +kernel
theorem dL_law_424 : decode cL_law 424 = .ok (.iadd, 1) := by decide +kernel
theorem dL_law_425 : decode cL_law 425 = .ok (.iaload, 1) := by decide +kernel
theorem dL_law_426 : decode cL_law 426 = .ok (.aload_n 3, 1) := by decide +kernel
theorem dL_law_427 : decode cL_law 427 = .ok (.invokestatic 160, 3) := by decide +kernel
theorem dL_law_430 : decode cL_law 430 = .ok (.istore 6, 2) := by decide +kernel
theorem dL_law_432 : decode cL_law 432 = .ok (.aload_n 2, 1) := by decide +kernel
theorem dL_law_433 : decode cL_law 433 = .ok (.aload_n 0, 1) := by decide +kernel
theorem dL_law_434 : decode cL_law 434 = .ok (.iload 5, 2) := by decide +kernel
theorem dL_law_436 : decode cL_law 436 = .ok (.iconst 1, 1) := by decide +kernel
theorem dL_law_437 : decode cL_law 437 = .ok (.iadd, 1) := by decide +kernel
theorem dL_law_438 : decode cL_law 438 = .ok (.iaload, 1) := by decide +kernel
theorem dL_law_439 : decode cL_law 439 = .ok (.aload_n 0, 1) := by decide +kernel
theorem dL_law_440 : decode cL_law 440 = .ok (.iload 5, 2) := by decide +kernel
theorem dL_law_442 : decode cL_law 442 = .ok (.iconst 2, 1) := by decide +kernel
theorem dL_law_443 : decode cL_law 443 = .ok (.iadd, 1) := by decide +kernel
theorem dL_law_444 : decode cL_law 444 = .ok (.iaload, 1) := by decide +kernel
theorem dL_law_445 : decode cL_law 445 = .ok (.i2c, 1) := by decide +kernel
theorem dL_law_446 : decode cL_law 446 = .ok (.aload_n 0, 1) := by decide +kernel
theorem dL_law_447 : decode cL_law 447 = .ok (.iload 5, 2) := by decide +kernel
theorem dL_law_449 : decode cL_law 449 = .ok (.iconst 3, 1) := by decide +kernel
theorem dL_law_450 : decode cL_law 450 = .ok (.iadd, 1) := by decide +kernel
theorem dL_law_451 : decode cL_law 451 = .ok (.iaload, 1) := by decide +kernel
theorem dL_law_452 : decode cL_law 452 = .ok (.invokevirtual 163, 3) := by decide +kernel
theorem dL_law_455 : decode cL_law 455 = .ok (.istore 7, 2) := by decide +kernel
theorem dL_law_457 : decode cL_law 457 = .ok (.aload_n 2, 1) := by decide +kernel
theorem dL_law_458 : decode cL_law 458 = .ok (.invokevirtual 153, 3) := by decide +kernel
theorem dL_law_461 : decode cL_law 461 = .ok (.iload 6, 2) := by decide +kernel
theorem dL_law_463 : decode cL_law 463 = .ok (.if_icmp .eq 5, 3) := by decide +kernel
theorem dL_law_468 : decode cL_law 468 = .ok (.iload 6, 2) := by decide +kernel
theorem dL_law_470 : decode cL_law 470 = .ok (.ifCond .ne 15, 3) := by decide +kernel
theorem dL_law_485 : decode cL_law 485 = .ok (.goto 2161, 3) := by decide +kernel
theorem dL_law_488 : decode cL_law 488 = .ok (.aload_n 1, 1) := by decide +kernel
theorem dL_law_489 : decode cL_law 489 = .ok (.aload_n 0, 1) := by decide +kernel
theorem dL_law_490 : decode cL_law 490 = .ok (.iload 5, 2) := by decide +kernel
theorem dL_law_492 : decode cL_law 492 = .ok (.iconst 1, 1) := by decide +kernel
theorem dL_law_493 : decode cL_law 493 = .ok (.iadd, 1) := by decide +kernel
theorem dL_law_494 : decode cL_law 494 = .ok (.iaload, 1) := by decide +kernel
theorem dL_law_495 : decode cL_law 495 = .ok (.aload_n 0, 1) := by decide +kernel
theorem dL_law_496 : decode cL_law 496 = .ok (.iload 5, 2) := by decide +kernel
theorem dL_law_498 : decode cL_law 498 = .ok (.iconst 2, 1) := by decide +kernel
theorem dL_law_499 : decode cL_law 499 = .ok (.iadd, 1) := by decide +kernel
theorem dL_law_500 : decode cL_law 500 = .ok (.iaload, 1) := by decide +kernel
theorem dL_law_501 : decode cL_law 501 = .ok (.aload_n 3, 1) := by decide +kernel
theorem dL_law_502 : decode cL_law 502 = .ok (.invokestatic 164, 3) := by decide +kernel
theorem dL_law_505 : decode cL_law 505 = .ok (.istore 6, 2) := by decide +kernel
theorem dL_law_507 : decode cL_law 507 = .ok (.aload_n 2, 1) := by decide +kernel
theorem dL_law_508 : decode cL_law 508 = .ok (.aload_n 0, 1) := by decide +kernel
theorem dL_law_509 : decode cL_law 509 = .ok (.iload 5, 2) := by decide +kernel
theorem dL_law_511 : decode cL_law 511 = .ok (.iconst 1, 1) := by decide +kernel
theorem dL_law_512 : decode cL_law 512 = .ok (.iadd, 1) := by decide +kernel
theorem dL_law_513 : decode cL_law 513 = .ok (.iaload, 1) := by decide +kernel
theorem dL_law_514 : decode cL_law 514 = .ok (.aload_n 0, 1) := by decide +kernel
theorem dL_law_515 : decode cL_law 515 = .ok (.iload 5, 2) := by decide +kernel
theorem dL_law_517 : decode cL_law 517 = .ok (.iconst 2, 1) := by decide +kernel
theorem dL_law_518 : decode cL_law 518 = .ok (.iadd, 1) := by decide +kernel
theorem dL_law_519 : decode cL_law 519 = .ok (.iaload, 1) := by decide +kernel
theorem dL_law_520 : decode cL_law 520 = .ok (.invokevirtual 167, 3) := by decide +kernel
theorem dL_law_523 : decode cL_law 523 = .ok (.istore 7, 2) := by decide +kernel
theorem dL_law_525 : decode cL_law 525 = .ok (.aload_n 2, 1) := by decide +kernel
theorem dL_law_526 : decode cL_law 526 = .ok (.invokevirtual 153, 3) := by decide +kernel
theorem dL_law_529 : decode cL_law 529 = .ok (.iload 6, 2) := by decide +kernel
theorem dL_law_531 : decode cL_law 531 = .ok (.if_icmp .eq 5, 3) := by decide +kernel
theorem dL_law_536 : decode cL_law 536 = .ok (.iload 6, 2) := by decide +kernel
theorem dL_law_538 : decode cL_law 538 = .ok (.ifCond .ne 15, 3) := by decide +kernel
theorem dL_law_553 : decode cL_law 553 = .ok (.goto 2093, 3) := by decide +kernel
theorem dL_law_556 : decode cL_law 556 = .ok (.aload_n 1, 1) := by decide +kernel
theorem dL_law_557 : decode cL_law 557 = .ok (.aload_n 0, 1) := by decide +kernel
theorem dL_law_558 : decode cL_law 558 = .ok (.iload 5, 2) := by decide +kernel
theorem dL_law_560 : decode cL_law 560 = .ok (.iconst 1, 1) := by decide +kernel
theorem dL_law_561 : decode cL_law 561 = .ok (.iadd, 1) := by decide +kernel
theorem dL_law_562 : decode cL_law 562 = .ok (.iaload, 1) := by decide +kernel
theorem dL_law_563 : decode cL_law 563 = .ok (.aload_n 0, 1) := by decide +kernel
theorem dL_law_564 : decode cL_law 564 = .ok (.iload 5, 2) := by decide +kernel
theorem dL_law_566 : decode cL_law 566 = .ok (.iconst 2, 1) := by decide +kernel
theorem dL_law_567 : decode cL_law 567 = .ok (.iadd, 1) := by decide +kernel
theorem dL_law_568 : decode cL_law 568 = .ok (.iaload, 1) := by decide +kernel
theorem dL_law_569 : decode cL_law 569 = .ok (.aload_n 3, 1) := by decide +kernel
theorem dL_law_570 : decode cL_law 570 = .ok (.invokestatic 168, 3) := by decide +kernel
theorem dL_law_573 : decode cL_law 573 = .ok (.istore 6, 2) := by decide +kernel
theorem dL_law_575 : decode cL_law 575 = .ok (.aload_n 2, 1) := by decide +kernel
theorem dL_law_576 : decode cL_law 576 = .ok (.aload_n 0, 1) := by decide +kernel
theorem dL_law_577 : decode cL_law 577 = .ok (.iload 5, 2) := by decide +kernel
theorem dL_law_579 : decode cL_law 579 = .ok (.iconst 1, 1) := by decide +kernel
theorem dL_law_580 : decode cL_law 580 = .ok (.iadd, 1) := by decide +kernel
theorem dL_law_581 : decode cL_law 581 = .ok (.iaload, 1) := by decide +kernel
theorem dL_law_582 : decode cL_law 582 = .ok (.aload_n 0, 1) := by decide +kernel
theorem dL_law_583 : decode cL_law 583 = .ok (.iload 5, 2) := by decide +kernel
theorem dL_law_585 : decode cL_law 585 = .ok (.iconst 2, 1) := by decide +kernel
theorem dL_law_586 : decode cL_law 586 = .ok (.iadd, 1) := by decide +kernel
theorem dL_law_587 : decode cL_law 587 = .ok (.iaload, 1) := by decide +kernel
theorem dL_law_588 : decode cL_law 588 = .ok (.invokevirtual 170, 3) := by decide +kernel
theorem dL_law_591 : decode cL_law 591 = .ok (.istore 7, 2) := by decide +kernel
theorem dL_law_593 : decode cL_law 593 = .ok (.aload_n 2, 1) := by decide +kernel
theorem dL_law_594 : decode cL_law 594 = .ok (.invokevirtual 153, 3) := by decide +kernel
theorem dL_law_597 : decode cL_law 597 = .ok (.iload 6, 2) := by decide +kernel
theorem dL_law_599 : decode cL_law 599 = .ok (.if_icmp .eq 5, 3) := by decide +kernel
theorem dL_law_604 : decode cL_law 604 = .ok (.iload 6, 2) := by decide +kernel
theorem dL_law_606 : decode cL_law 606 = .ok (.ifCond .ne 15, 3) := by decide +kernel
theorem dL_law_621 : decode cL_law 621 = .ok (.goto 2025, 3) := by decide +kernel
theorem dL_law_624 : decode cL_law 624 = .ok (.aload_n 1, 1) := by decide +kernel
theorem dL_law_625 : decode cL_law 625 = .ok (.aload_n 0, 1) := by decide +kernel
theorem dL_law_626 : decode cL_law 626 = .ok (.iload 5, 2) := by decide +kernel
theorem dL_law_628 : decode cL_law 628 = .ok (.iconst 1, 1) := by decide +kernel
theorem dL_law_629 : decode cL_law 629 = .ok (.iadd, 1) := by decide +kernel
theorem dL_law_630 : decode cL_law 630 = .ok (.iaload, 1) := by decide +kernel
theorem dL_law_631 : decode cL_law 631 = .ok (.aload_n 3, 1) := by decide +kernel
theorem dL_law_632 : decode cL_law 632 = .ok (.invokestatic 171, 3) := by decide +kernel
theorem dL_law_635 : decode cL_law 635 = .ok (.istore 6, 2) := by decide +kernel
theorem dL_law_637 : decode cL_law 637 = .ok (.aload_n 2, 1) := by decide +kernel
theorem dL_law_638 : decode cL_law 638 = .ok (.aload_n 0, 1) := by decide +kernel
theorem dL_law_639 : decode cL_law 639 = .ok (.iload 5, 2) := by decide +kernel
theorem dL_law_641 : decode cL_law 641 = .ok (.iconst 1, 1) := by decide +kernel
theorem dL_law_642 : decode cL_law 642 = .ok (.iadd, 1) := by decide +kernel
theorem dL_law_643 : decode cL_law 643 = .ok (.iaload, 1) := by decide +kernel
theorem dL_law_644 : decode cL_law 644 = .ok (.invokevirtual 174, 3) := by decide +kernel
theorem dL_law_647 : decode cL_law 647 = .ok (.istore 7, 2) := by decide +kernel
theorem dL_law_649 : decode cL_law 649 = .ok (.aload_n 2, 1) := by decide +kernel
theorem dL_law_650 : decode cL_law 650 = .ok (.invokevirtual 153, 3) := by decide +kernel
theorem dL_law_653 : decode cL_law 653 = .ok (.iload 6, 2) := by decide +kernel
theorem dL_law_655 : decode cL_law 655 = .ok (.if_icmp .eq 5, 3) := by decide +kernel
theorem dL_law_660 : decode cL_law 660 = .ok (.iload 6, 2) := by decide +kernel
theorem dL_law_662 : decode cL_law 662 = .ok (.ifCond .ne 15, 3) := by decide +kernel
theorem dL_law_677 : decode cL_law 677 = .ok (.goto 1969, 3) := by decide +kernel
theorem dL_law_680 : decode cL_law 680 = .ok (.aload_n 1, 1) := by decide +kernel
theorem dL_law_681 : decode cL_law 681 = .ok (.aload_n 0, 1) := by decide +kernel
theorem dL_law_682 : decode cL_law 682 = .ok (.iload 5, 2) := by decide +kernel
theorem dL_law_684 : decode cL_law 684 = .ok (.iconst 1, 1) := by decide +kernel
theorem dL_law_685 : decode cL_law 685 = .ok (.iadd, 1) := by decide +kernel
theorem dL_law_686 : decode cL_law 686 = .ok (.iaload, 1) := by decide +kernel
theorem dL_law_687 : decode cL_law 687 = .ok (.aload_n 3, 1) := by decide +kernel
theorem dL_law_688 : decode cL_law 688 = .ok (.invokestatic 175, 3) := by decide +kernel
theorem dL_law_691 : decode cL_law 691 = .ok (.istore 6, 2) := by decide +kernel
theorem dL_law_693 : decode cL_law 693 = .ok (.aload_n 2, 1) := by decide +kernel
theorem dL_law_694 : decode cL_law 694 = .ok (.aload_n 0, 1) := by decide +kernel
theorem dL_law_695 : decode cL_law 695 = .ok (.iload 5, 2) := by decide +kernel
theorem dL_law_697 : decode cL_law 697 = .ok (.iconst 1, 1) := by decide +kernel
theorem dL_law_698 : decode cL_law 698 = .ok (.iadd, 1) := by decide +kernel
theorem dL_law_699 : decode cL_law 699 = .ok (.iaload, 1) := by decide +kernel
theorem dL_law_700 : decode cL_law 700 = .ok (.invokevirtual 177, 3) := by decide +kernel
theorem dL_law_703 : decode cL_law 703 = .ok (.istore 7, 2) := by decide +kernel
theorem dL_law_705 : decode cL_law 705 = .ok (.aload_n 2, 1) := by decide +kernel
theorem dL_law_706 : decode cL_law 706 = .ok (.invokevirtual 153, 3) := by decide +kernel
theorem dL_law_709 : decode cL_law 709 = .ok (.iload 6, 2) := by decide +kernel
theorem dL_law_711 : decode cL_law 711 = .ok (.if_icmp .eq 5, 3) := by decide +kernel
theorem dL_law_716 : decode cL_law 716 = .ok (.iload 6, 2) := by decide +kernel
theorem dL_law_718 : decode cL_law 718 = .ok (.ifCond .ne 15, 3) := by decide +kernel
theorem dL_law_733 : decode cL_law 733 = .ok (.goto 1913, 3) := by decide +kernel
theorem dL_law_736 : decode cL_law 736 = .ok (.aload_n 1, 1) := by decide +kernel
theorem dL_law_737 : decode cL_law 737 = .ok (.aload_n 0, 1) := by decide +kernel
theorem dL_law_738 : decode cL_law 738 = .ok (.iload 5, 2) := by decide +kernel
theorem dL_law_740 : decode cL_law 740 = .ok (.iconst 1, 1) := by decide +kernel
theorem dL_law_741 : decode cL_law 741 = .ok (.iadd, 1) := by decide +kernel
theorem dL_law_742 : decode cL_law 742 = .ok (.iaload, 1) := by decide +kernel
theorem dL_law_743 : decode cL_law 743 = .ok (.aload_n 3, 1) := by decide +kernel
theorem dL_law_744 : decode cL_law 744 = .ok (.invokestatic 178, 3) := by decide +kernel
theorem dL_law_747 : decode cL_law 747 = .ok (.istore 6, 2) := by decide +kernel
theorem dL_law_749 : decode cL_law 749 = .ok (.aload_n 2, 1) := by decide +kernel
theorem dL_law_750 : decode cL_law 750 = .ok (.aload_n 0, 1) := by decide +kernel
theorem dL_law_751 : decode cL_law 751 = .ok (.iload 5, 2) := by decide +kernel
theorem dL_law_753 : decode cL_law 753 = .ok (.iconst 1, 1) := by decide +kernel
theorem dL_law_754 : decode cL_law 754 = .ok (.iadd, 1) := by decide +kernel
theorem dL_law_755 : decode cL_law 755 = .ok (.iaload, 1) := by decide +kernel
theorem dL_law_756 : decode cL_law 756 = .ok (.invokevirtual 180, 3) := by decide +kernel
theorem dL_law_759 : decode cL_law 759 = .ok (.istore 7, 2) := by decide +kernel
theorem dL_law_761 : decode cL_law 761 = .ok (.aload_n 2, 1) := by decide +kernel
theorem dL_law_762 : decode cL_law 762 = .ok (.invokevirtual 153, 3) := by decide +kernel
theorem dL_law_765 : decode cL_law 765 = .ok (.iload 6, 2) := by decide +kernel
theorem dL_law_767 : decode cL_law 767 = .ok (.if_icmp .eq 5, 3) := by decide +kernel
theorem dL_law_772 : decode cL_law 772 = .ok (.iload 6, 2) := by decide +kernel
theorem dL_law_774 : decode cL_law 774 = .ok (.ifCond .ne 15, 3) := by decide +kernel
theorem dL_law_789 : decode cL_law 789 = .ok (.goto 1857, 3) := by decide +kernel
theorem dL_law_792 : decode cL_law 792 = .ok (.aload_n 1, 1) := by decide +kernel
theorem dL_law_793 : decode cL_law 793 = .ok (.aload_n 0, 1) := by decide +kernel
theorem dL_law_794 : decode cL_law 794 = .ok (.iload 5, 2) := by decide +kernel
theorem dL_law_796 : decode cL_law 796 = .ok (.iconst 1, 1) := by decide +kernel
theorem dL_law_797 : decode cL_law 797 = .ok (.iadd, 1) := by decide +kernel
theorem dL_law_798 : decode cL_law 798 = .ok (.iaload, 1) := by decide +kernel
theorem dL_law_799 : decode cL_law 799 = .ok (.aload_n 0, 1) := by decide +kernel
theorem dL_law_800 : decode cL_law 800 = .ok (.iload 5, 2) := by decide +kernel
theorem dL_law_802 : decode cL_law 802 = .ok (.iconst 2, 1) := by decide +kernel
theorem dL_law_803 : decode cL_law 803 = .ok (.iadd, 1) := by decide +kernel
theorem dL_law_804 : decode cL_law 804 = .ok (.iaload, 1) := by decide +kernel
theorem dL_law_805 : decode cL_law 805 = .ok (.aload_n 0, 1) := by decide +kernel
theorem dL_law_806 : decode cL_law 806 = .ok (.iload 5, 2) := by decide +kernel
theorem dL_law_808 : decode cL_law 808 = .ok (.iconst 3, 1) := by decide +kernel
theorem dL_law_809 : decode cL_law 809 = .ok (.iadd, 1) := by decide +kernel
theorem dL_law_810 : decode cL_law 810 = .ok (.iaload, 1) := by decide +kernel
theorem dL_law_811 : decode cL_law 811 = .ok (.aload_n 3, 1) := by decide +kernel
theorem dL_law_812 : decode cL_law 812 = .ok (.invokestatic 181, 3) := by decide +kernel
theorem dL_law_815 : decode cL_law 815 = .ok (.istore 6, 2) := by decide +kernel
theorem dL_law_817 : decode cL_law 817 = .ok (.aload_n 2, 1) := by decide +kernel
theorem dL_law_818 : decode cL_law 818 = .ok (.aload_n 0, 1) := by decide +kernel
theorem dL_law_819 : decode cL_law 819 = .ok (.iload 5, 2) := by decide +kernel
theorem dL_law_821 : decode cL_law 821 = .ok (.iconst 1, 1) := by decide +kernel
theorem dL_law_822 : decode cL_law 822 = .ok (.iadd, 1) := by decide +kernel
theorem dL_law_823 : decode cL_law 823 = .ok (.iaload, 1) := by decide +kernel
theorem dL_law_824 : decode cL_law 824 = .ok (.aload_n 0, 1) := by decide +kernel
theorem dL_law_825 : decode cL_law 825 = .ok (.iload 5, 2) := by decide +kernel
theorem dL_law_827 : decode cL_law 827 = .ok (.iconst 2, 1) := by decide +kernel
theorem dL_law_828 : decode cL_law 828 = .ok (.iadd, 1) := by decide +kernel
theorem dL_law_829 : decode cL_law 829 = .ok (.iaload, 1) := by decide +kernel
theorem dL_law_830 : decode cL_law 830 = .ok (.aload_n 0, 1) := by decide +kernel
theorem dL_law_831 : decode cL_law 831 = .ok (.iload 5, 2) := by decide +kernel
theorem dL_law_833 : decode cL_law 833 = .ok (.iconst 3, 1) := by decide +kernel
theorem dL_law_834 : decode cL_law 834 = .ok (.iadd, 1) := by decide +kernel
theorem dL_law_835 : decode cL_law 835 = .ok (.iaload, 1) := by decide +kernel
theorem dL_law_836 : decode cL_law 836 = .ok (.invokevirtual 184, 3) := by decide +kernel
theorem dL_law_839 : decode cL_law 839 = .ok (.istore 7, 2) := by decide +kernel
theorem dL_law_841 : decode cL_law 841 = .ok (.aload_n 2, 1) := by decide +kernel
theorem dL_law_842 : decode cL_law 842 = .ok (.invokevirtual 153, 3) := by decide +kernel
theorem dL_law_845 : decode cL_law 845 = .ok (.iload 6, 2) := by decide +kernel
theorem dL_law_847 : decode cL_law 847 = .ok (.if_icmp .eq 5, 3) := by decide +kernel
theorem dL_law_852 : decode cL_law 852 = .ok (.iload 6, 2) := by decide +kernel
theorem dL_law_854 : decode cL_law 854 = .ok (.ifCond .ne 22, 3) := by decide +kernel
theorem dL_law_876 : decode cL_law 876 = .ok (.goto 1770, 3) := by decide +kernel
theorem dL_law_879 : decode cL_law 879 = .ok (.aload_n 1, 1) := by decide +kernel
theorem dL_law_880 : decode cL_law 880 = .ok (.aload_n 0, 1) := by decide +kernel
theorem dL_law_881 : decode cL_law 881 = .ok (.iload 5, 2) := by decide +kernel
theorem dL_law_883 : decode cL_law 883 = .ok (.iconst 1, 1) := by decide +kernel
theorem dL_law_884 : decode cL_law 884 = .ok (.iadd, 1) := by decide +kernel
theorem dL_law_885 : decode cL_law 885 = .ok (.iaload, 1) := by decide +kernel
theorem dL_law_886 : decode cL_law 886 = .ok (.aload_n 0, 1) := by decide +kernel
theorem dL_law_887 : decode cL_law 887 = .ok (.iload 5, 2) := by decide +kernel
theorem dL_law_889 : decode cL_law 889 = .ok (.iconst 2, 1) := by decide +kernel
theorem dL_law_890 : decode cL_law 890 = .ok (.iadd, 1) := by decide +kernel
theorem dL_law_891 : decode cL_law 891 = .ok (.iaload, 1) := by decide +kernel
theorem dL_law_892 : decode cL_law 892 = .ok (.i2c, 1) := by decide +kernel
theorem dL_law_893 : decode cL_law 893 = .ok (.aload_n 0, 1) := by decide +kernel
theorem dL_law_894 : decode cL_law 894 = .ok (.iload 5, 2) := by decide +kernel
theorem dL_law_896 : decode cL_law 896 = .ok (.iconst 3, 1) := by decide +kernel
theorem dL_law_897 : decode cL_law 897 = .ok (.iadd, 1) := by decide +kernel
theorem dL_law_898 : decode cL_law 898 = .ok (.iaload, 1) := by decide +kernel
theorem dL_law_899 : decode cL_law 899 = .ok (.i2c, 1) := by decide +kernel
theorem dL_law_900 : decode cL_law 900 = .ok (.aload_n 0, 1) := by decide +kernel
theorem dL_law_901 : decode cL_law 901 = .ok (.iload 5, 2) := by decide +kernel
theorem dL_law_903 : decode cL_law 903 = .ok (.iconst 4, 1) := by decide +kernel
theorem dL_law_904 : decode cL_law 904 = .ok (.iadd, 1) := by decide +kernel
theorem dL_law_905 : decode cL_law 905 = .ok (.iaload, 1) := by decide +kernel
theorem dL_law_906 : decode cL_law 906 = .ok (.aload_n 0, 1) := by decide +kernel
theorem dL_law_907 : decode cL_law 907 = .ok (.iload 5, 2) := by decide +kernel
theorem dL_law_909 : decode cL_law 909 = .ok (.iconst 5, 1) := by decide +kernel
theorem dL_law_910 : decode cL_law 910 = .ok (.iadd, 1) := by decide +kernel
theorem dL_law_911 : decode cL_law 911 = .ok (.iaload, 1) := by decide +kernel
theorem dL_law_912 : decode cL_law 912 = .ok (.aload_n 0, 1) := by decide +kernel
theorem dL_law_913 : decode cL_law 913 = .ok (.iload 5, 2) := by decide +kernel
theorem dL_law_915 : decode cL_law 915 = .ok (.bipush 6, 2) := by decide +kernel
theorem dL_law_917 : decode cL_law 917 = .ok (.iadd, 1) := by decide +kernel
theorem dL_law_918 : decode cL_law 918 = .ok (.iaload, 1) := by decide +kernel
theorem dL_law_919 : decode cL_law 919 = .ok (.aload_n 3, 1) := by decide +kernel
theorem dL_law_920 : decode cL_law 920 = .ok (.invokestatic 185, 3) := by decide +kernel
theorem dL_law_923 : decode cL_law 923 = .ok (.istore 6, 2) := by decide +kernel
theorem dL_law_925 : decode cL_law 925 = .ok (.aload_n 2, 1) := by decide +kernel
theorem dL_law_926 : decode cL_law 926 = .ok (.aload_n 0, 1) := by decide +kernel
theorem dL_law_927 : decode cL_law 927 = .ok (.iload 5, 2) := by decide +kernel
theorem dL_law_929 : decode cL_law 929 = .ok (.iconst 1, 1) := by decide +kernel
theorem dL_law_930 : decode cL_law 930 = .ok (.iadd, 1) := by decide +kernel
theorem dL_law_931 : decode cL_law 931 = .ok (.iaload, 1) := by decide +kernel
theorem dL_law_932 : decode cL_law 932 = .ok (.aload_n 0, 1) := by decide +kernel
theorem dL_law_933 : decode cL_law 933 = .ok (.iload 5, 2) := by decide +kernel
theorem dL_law_935 : decode cL_law 935 = .ok (.iconst 2, 1) := by decide +kernel
theorem dL_law_936 : decode cL_law 936 = .ok (.iadd, 1) := by decide +kernel
theorem dL_law_937 : decode cL_law 937 = .ok (.iaload, 1) := by decide +kernel
theorem dL_law_938 : decode cL_law 938 = .ok (.i2c, 1) := by decide +kernel
theorem dL_law_939 : decode cL_law 939 = .ok (.aload_n 0, 1) := by decide +kernel
theorem dL_law_940 : decode cL_law 940 = .ok (.iload 5, 2) := by decide +kernel
theorem dL_law_942 : decode cL_law 942 = .ok (.iconst 3, 1) := by decide +kernel
theorem dL_law_943 : decode cL_law 943 = .ok (.iadd, 1) := by decide +kernel
theorem dL_law_944 : decode cL_law 944 = .ok (.iaload, 1) := by decide +kernel
theorem dL_law_945 : decode cL_law 945 = .ok (.i2c, 1) := by decide +kernel
theorem dL_law_946 : decode cL_law 946 = .ok (.aload_n 0, 1) := by decide +kernel
theorem dL_law_947 : decode cL_law 947 = .ok (.iload 5, 2) := by decide +kernel
theorem dL_law_949 : decode cL_law 949 = .ok (.iconst 4, 1) := by decide +kernel
theorem dL_law_950 : decode cL_law 950 = .ok (.iadd, 1) := by decide +kernel
theorem dL_law_951 : decode cL_law 951 = .ok (.iaload, 1) := by decide +kernel
theorem dL_law_952 : decode cL_law 952 = .ok (.aload_n 0, 1) := by decide +kernel
theorem dL_law_953 : decode cL_law 953 = .ok (.iload 5, 2) := by decide +kernel
theorem dL_law_955 : decode cL_law 955 = .ok (.iconst 5, 1) := by decide +kernel
theorem dL_law_956 : decode cL_law 956 = .ok (.iadd, 1) := by decide +kernel
theorem dL_law_957 : decode cL_law 957 = .ok (.iaload, 1) := by decide +kernel
theorem dL_law_958 : decode cL_law 958 = .ok (.aload_n 0, 1) := by decide +kernel
theorem dL_law_959 : decode cL_law 959 = .ok (.iload 5, 2) := by decide +kernel
theorem dL_law_961 : decode cL_law 961 = .ok (.bipush 6, 2) := by decide +kernel
theorem dL_law_963 : decode cL_law 963 = .ok (.iadd, 1) := by decide +kernel
theorem dL_law_964 : decode cL_law 964 = .ok (.iaload, 1) := by decide +kernel
theorem dL_law_965 : decode cL_law 965 = .ok (.invokevirtual 188, 3) := by decide +kernel
theorem dL_law_968 : decode cL_law 968 = .ok (.istore 7, 2) := by decide +kernel
theorem dL_law_970 : decode cL_law 970 = .ok (.aload_n 2, 1) := by decide +kernel
theorem dL_law_971 : decode cL_law 971 = .ok (.invokevirtual 153, 3) := by decide +kernel
theorem dL_law_974 : decode cL_law 974 = .ok (.iload 6, 2) := by decide +kernel
theorem dL_law_976 : decode cL_law 976 = .ok (.if_icmp .eq 5, 3) := by decide +kernel
theorem dL_law_981 : decode cL_law 981 = .ok (.iload 6, 2) := by decide +kernel
theorem dL_law_983 : decode cL_law 983 = .ok (.ifCond .ne 15, 3) := by decide +kernel
theorem dL_law_998 : decode cL_law 998 = .ok (.goto 1648, 3) := by decide +kernel
theorem dL_law_1001 : decode cL_law 1001 = .ok (.aload_n 1, 1) := by decide +kernel
theorem dL_law_1002 : decode cL_law 1002 = .ok (.aload_n 0, 1) := by decide +kernel
theorem dL_law_1003 : decode cL_law 1003 = .ok (.iload 5, 2) := by decide +kernel
theorem dL_law_1005 : decode cL_law 1005 = .ok (.iconst 1, 1) := by decide +kernel
theorem dL_law_1006 : decode cL_law 1006 = .ok (.iadd, 1) := by decide +kernel
theorem dL_law_1007 : decode cL_law 1007 = .ok (.iaload, 1) := by decide +kernel
theorem dL_law_1008 : decode cL_law 1008 = .ok (.aload_n 0, 1) := by decide +kernel
theorem dL_law_1009 : decode cL_law 1009 = .ok (.iload 5, 2) := by decide +kernel
theorem dL_law_1011 : decode cL_law 1011 = .ok (.iconst 2, 1) := by decide +kernel
theorem dL_law_1012 : decode cL_law 1012 = .ok (.iadd, 1) := by decide +kernel
theorem dL_law_1013 : decode cL_law 1013 = .ok (.iaload, 1) := by decide +kernel
theorem dL_law_1014 : decode cL_law 1014 = .ok (.i2c, 1) := by decide +kernel
theorem dL_law_1015 : decode cL_law 1015 = .ok (.aload_n 0, 1) := by decide +kernel
theorem dL_law_1016 : decode cL_law 1016 = .ok (.iload 5, 2) := by decide +kernel
theorem dL_law_1018 : decode cL_law 1018 = .ok (.iconst 3, 1) := by decide +kernel
theorem dL_law_1019 : decode cL_law 1019 = .ok (.iadd, 1) := by decide +kernel
theorem dL_law_1020 : decode cL_law 1020 = .ok (.iaload, 1) := by decide +kernel
theorem dL_law_1021 : decode cL_law 1021 = .ok (.aload_n 0, 1) := by decide +kernel
theorem dL_law_1022 : decode cL_law 1022 = .ok (.iload 5, 2) := by decide +kernel
theorem dL_law_1024 : decode cL_law 1024 = .ok (.iconst 4, 1) := by decide +kernel
theorem dL_law_1025 : decode cL_law 1025 = .ok (.iadd, 1) := by decide +kernel
theorem dL_law_1026 : decode cL_law 1026 = .ok (.iaload, 1) := by decide +kernel
theorem dL_law_1027 : decode cL_law 1027 = .ok (.aload_n 0, 1) := by decide +kernel
theorem dL_law_1028 : decode cL_law 1028 = .ok (.iload 5, 2) := by decide +kernel
theorem dL_law_1030 : decode cL_law 1030 = .ok (.iconst 5, 1) := by decide +kernel
theorem dL_law_1031 : decode cL_law 1031 = .ok (.iadd, 1) := by decide +kernel
theorem dL_law_1032 : decode cL_law 1032 = .ok (.iaload, 1) := by decide +kernel
theorem dL_law_1033 : decode cL_law 1033 = .ok (.aload_n 3, 1) := by decide +kernel
theorem dL_law_1034 : decode cL_law 1034 = .ok (.invokestatic 189, 3) := by decide +kernel
theorem dL_law_1037 : decode cL_law 1037 = .ok (.istore 6, 2) := by decide +kernel
theorem dL_law_1039 : decode cL_law 1039 = .ok (.aload_n 2, 1) := by decide +kernel
theorem dL_law_1040 : decode cL_law 1040 = .ok (.aload_n 0, 1) := by decide +kernel
theorem dL_law_1041 : decode cL_law 1041 = .ok (.iload 5, 2) := by decide +kernel
theorem dL_law_1043 : decode cL_law 1043 = .ok (.iconst 1, 1) := by decide +kernel
theorem dL_law_1044 : decode cL_law 1044 = .ok (.iadd, 1) := by decide +kernel
theorem dL_law_1045 : decode cL_law 1045 = .ok (.iaload, 1) := by decide +kernel
theorem dL_law_1046 : decode cL_law 1046 = .ok (.aload_n 0, 1) := by decide +kernel
theorem dL_law_1047 : decode cL_law 1047 = .ok (.iload 5, 2) := by decide +kernel
theorem dL_law_1049 : decode cL_law 1049 = .ok (.iconst 2, 1) := by decide +kernel
theorem dL_law_1050 : decode cL_law 1050 = .ok (.iadd, 1) := by decide +kernel
theorem dL_law_1051 : decode cL_law 1051 = .ok (.iaload, 1) := by decide +kernel
theorem dL_law_1052 : decode cL_law 1052 = .ok (.i2c, 1) := by decide +kernel
theorem dL_law_1053 : decode cL_law 1053 = .ok (.aload_n 0, 1) := by decide +kernel
theorem dL_law_1054 : decode cL_law 1054 = .ok (.iload 5, 2) := by decide +kernel
theorem dL_law_1056 : decode cL_law 1056 = .ok (.iconst 3, 1) := by decide +kernel
theorem dL_law_1057 : decode cL_law 1057 = .ok (.iadd, 1) := by decide +kernel
theorem dL_law_1058 : decode cL_law 1058 = .ok (.iaload, 1) := by decide +kernel
theorem dL_law_1059 : decode cL_law 1059 = .ok (.aload_n 0, 1) := by decide +kernel
theorem dL_law_1060 : decode cL_law 1060 = .ok (.iload 5, 2) := by decide +kernel
theorem dL_law_1062 : decode cL_law 1062 = .ok (.iconst 4, 1) := by decide +kernel
theorem dL_law_1063 : decode cL_law 1063 = .ok (.iadd, 1) := by decide +kernel
theorem dL_law_1064 : decode cL_law 1064 = .ok (.iaload, 1) := by decide +kernel
theorem dL_law_1065 : decode cL_law 1065 = .ok (.aload_n 0, 1) := by decide +kernel
theorem dL_law_1066 : decode cL_law 1066 = .ok (.iload 5, 2) := by decide +kernel
theorem dL_law_1068 : decode cL_law 1068 = .ok (.iconst 5, 1) := by decide +kernel
theorem dL_law_1069 : decode cL_law 1069 = .ok (.iadd, 1) := by decide +kernel
theorem dL_law_1070 : decode cL_law 1070 = .ok (.iaload, 1) := by decide +kernel
theorem dL_law_1071 : decode cL_law 1071 = .ok (.invokevirtual 192, 3) := by decide +kernel
theorem dL_law_1074 : decode cL_law 1074 = .ok (.istore 7, 2) := by decide +kernel
theorem dL_law_1076 : decode cL_law 1076 = .ok (.aload_n 2, 1) := by decide +kernel
theorem dL_law_1077 : decode cL_law 1077 = .ok (.invokevirtual 153, 3) := by decide +kernel
theorem dL_law_1080 : decode cL_law 1080 = .ok (.iload 6, 2) := by decide +kernel
theorem dL_law_1082 : decode cL_law 1082 = .ok (.if_icmp .eq 5, 3) := by decide +kernel
theorem dL_law_1087 : decode cL_law 1087 = .ok (.iload 6, 2) := by decide +kernel
theorem dL_law_1089 : decode cL_law 1089 = .ok (.ifCond .ne 15, 3) := by decide +kernel
theorem dL_law_1104 : decode cL_law 1104 = .ok (.goto 1542, 3) := by decide +kernel
theorem dL_law_1107 : decode cL_law 1107 = .ok (.aload_n 1, 1) := by decide +kernel
theorem dL_law_1108 : decode cL_law 1108 = .ok (.aload_n 0, 1) := by decide +kernel
theorem dL_law_1109 : decode cL_law 1109 = .ok (.iload 5, 2) := by decide +kernel
theorem dL_law_1111 : decode cL_law 1111 = .ok (.iconst 1, 1) := by decide +kernel
theorem dL_law_1112 : decode cL_law 1112 = .ok (.iadd, 1) := by decide +kernel
theorem dL_law_1113 : decode cL_law 1113 = .ok (.iaload, 1) := by decide +kernel
theorem dL_law_1114 : decode cL_law 1114 = .ok (.aload_n 3, 1) := by decide +kernel
theorem dL_law_1115 : decode cL_law 1115 = .ok (.invokestatic 193, 3) := by decide +kernel
theorem dL_law_1118 : decode cL_law 1118 = .ok (.istore 6, 2) := by decide +kernel
theorem dL_law_1120 : decode cL_law 1120 = .ok (.aload_n 2, 1) := by decide +kernel
theorem dL_law_1121 : decode cL_law 1121 = .ok (.aload_n 0, 1) := by decide +kernel
theorem dL_law_1122 : decode cL_law 1122 = .ok (.iload 5, 2) := by decide +kernel
theorem dL_law_1124 : decode cL_law 1124 = .ok (.iconst 1, 1) := by decide +kernel
theorem dL_law_1125 : decode cL_law 1125 = .ok (.iadd, 1) := by decide +kernel
theorem dL_law_1126 : decode cL_law 1126 = .ok (.iaload, 1) := by decide +kernel
theorem dL_law_1127 : decode cL_law 1127 = .ok (.invokevirtual 195, 3) := by decide +kernel
theorem dL_law_1130 : decode cL_law 1130 = .ok (.istore 7, 2) := by decide +kernel
theorem dL_law_1132 : decode cL_law 1132 = .ok (.aload_n 2, 1) := by decide +kernel
theorem dL_law_1133 : decode cL_law 1133 = .ok (.invokevirtual 153, 3) := by decide +kernel
theorem dL_law_1136 : decode cL_law 1136 = .ok (.iload 6, 2) := by decide +kernel
theorem dL_law_1138 : decode cL_law 1138 = .ok (.if_icmp .eq 5, 3) := by decide +kernel
theorem dL_law_1143 : decode cL_law 1143 = .ok (.iload 6, 2) := by decide +kernel
theorem dL_law_1145 : decode cL_law 1145 = .ok (.ifCond .ne 22, 3) := by decide +kernel
theorem dL_law_1167 : decode cL_law 1167 = .ok (.goto 1479, 3) := by decide +kernel
theorem dL_law_1170 : decode cL_law 1170 = .ok (.aload_n 1, 1) := by decide +kernel
theorem dL_law_1171 : decode cL_law 1171 = .ok (.aload_n 0, 1) := by decide +kernel
theorem dL_law_1172 : decode cL_law 1172 = .ok (.iload 5, 2) := by decide +kernel
theorem dL_law_1174 : decode cL_law 1174 = .ok (.iconst 1, 1) := by decide +kernel
theorem dL_law_1175 : decode cL_law 1175 = .ok (.iadd, 1) := by decide +kernel
theorem dL_law_1176 : decode cL_law 1176 = .ok (.iaload, 1) := by decide +kernel
theorem dL_law_1177 : decode cL_law 1177 = .ok (.aload_n 0, 1) := by decide +kernel
theorem dL_law_1178 : decode cL_law 1178 = .ok (.iload 5, 2) := by decide +kernel
theorem dL_law_1180 : decode cL_law 1180 = .ok (.iconst 2, 1) := by decide +kernel
theorem dL_law_1181 : decode cL_law 1181 = .ok (.iadd, 1) := by decide +kernel
theorem dL_law_1182 : decode cL_law 1182 = .ok (.iaload, 1) := by decide +kernel
theorem dL_law_1183 : decode cL_law 1183 = .ok (.i2c, 1) := by decide +kernel
theorem dL_law_1184 : decode cL_law 1184 = .ok (.aload_n 0, 1) := by decide +kernel
theorem dL_law_1185 : decode cL_law 1185 = .ok (.iload 5, 2) := by decide +kernel
theorem dL_law_1187 : decode cL_law 1187 = .ok (.iconst 3, 1) := by decide +kernel
theorem dL_law_1188 : decode cL_law 1188 = .ok (.iadd, 1) := by decide +kernel
theorem dL_law_1189 : decode cL_law 1189 = .ok (.iaload, 1) := by decide +kernel
theorem dL_law_1190 : decode cL_law 1190 = .ok (.ifCond .eq 7, 3) := by decide +kernel
theorem dL_law_1193 : decode cL_law 1193 = .ok (.iconst 1, 1) := by decide +kernel
theorem dL_law_1194 : decode cL_law 1194 = .ok (.goto 4, 3) := by decide +kernel
theorem dL_law_1197 : decode cL_law 1197 = .ok (.iconst 0, 1) := by decide +kernel
theorem dL_law_1198 : decode cL_law 1198 = .ok (.aload_n 3, 1) := by decide +kernel
theorem dL_law_1199 : decode cL_law 1199 = .ok (.invokestatic 196, 3) := by decide +kernel
theorem dL_law_1202 : decode cL_law 1202 = .ok (.istore 6, 2) := by decide +kernel
theorem dL_law_1204 : decode cL_law 1204 = .ok (.aload_n 2, 1) := by decide +kernel
theorem dL_law_1205 : decode cL_law 1205 = .ok (.aload_n 0, 1) := by decide +kernel
theorem dL_law_1206 : decode cL_law 1206 = .ok (.iload 5, 2) := by decide +kernel
theorem dL_law_1208 : decode cL_law 1208 = .ok (.iconst 1, 1) := by decide +kernel
theorem dL_law_1209 : decode cL_law 1209 = .ok (.iadd, 1) := by decide +kernel
theorem dL_law_1210 : decode cL_law 1210 = .ok (.iaload, 1) := by decide +kernel
theorem dL_law_1211 : decode cL_law 1211 = .ok (.aload_n 0, 1) := by decide +kernel
theorem dL_law_1212 : decode cL_law 1212 = .ok (.iload 5, 2) := by decide +kernel
theorem dL_law_1214 : decode cL_law 1214 = .ok (.iconst 2, 1) := by decide +kernel
theorem dL_law_1215 : decode cL_law 1215 = .ok (.iadd, 1) := by decide +kernel
theorem dL_law_1216 : decode cL_law 1216 = .ok (.iaload, 1) := by decide +kernel
theorem dL_law_1217 : decode cL_law 1217 = .ok (.i2c, 1) := by decide +kernel
theorem dL_law_1218 : decode cL_law 1218 = .ok (.aload_n 0, 1) := by decide +kernel
theorem dL_law_1219 : decode cL_law 1219 = .ok (.iload 5, 2) := by decide +kernel
theorem dL_law_1221 : decode cL_law 1221 = .ok (.iconst 3, 1) := by decide +kernel
theorem dL_law_1222 : decode cL_law 1222 = .ok (.iadd, 1) := by decide +kernel
theorem dL_law_1223 : decode cL_law 1223 = .ok (.iaload, 1) := by decide +kernel
theorem dL_law_1224 : decode cL_law 1224 = .ok (.ifCond .eq 7, 3) := by decide +kernel
theorem dL_law_1227 : decode cL_law 1227 = .ok (.iconst 1, 1) := by decide +kernel
theorem dL_law_1228 : decode cL_law 1228 = .ok (.goto 4, 3) := by decide +kernel
theorem dL_law_1231 : decode cL_law 1231 = .ok (.iconst 0, 1) := by decide +kernel
theorem dL_law_1232 : decode cL_law 1232 = .ok (.invokevirtual 199, 3) := by decide +kernel
theorem dL_law_1235 : decode cL_law 1235 = .ok (.istore 7, 2) := by decide +kernel
theorem dL_law_1237 : decode cL_law 1237 = .ok (.aload_n 2, 1) := by decide +kernel
theorem dL_law_1238 : decode cL_law 1238 = .ok (.invokevirtual 153, 3) := by decide +kernel
theorem dL_law_1241 : decode cL_law 1241 = .ok (.iload 6, 2) := by decide +kernel
theorem dL_law_1243 : decode cL_law 1243 = .ok (.if_icmp .eq 5, 3) := by decide +kernel
theorem dL_law_1248 : decode cL_law 1248 = .ok (.iload 6, 2) := by decide +kernel
theorem dL_law_1250 : decode cL_law 1250 = .ok (.ifCond .ne 22, 3) := by decide +kernel
theorem dL_law_1272 : decode cL_law 1272 = .ok (.goto 1374, 3) := by decide +kernel
theorem dL_law_1275 : decode cL_law 1275 = .ok (.aload_n 1, 1) := by decide +kernel
theorem dL_law_1276 : decode cL_law 1276 = .ok (.aload_n 0, 1) := by decide +kernel
theorem dL_law_1277 : decode cL_law 1277 = .ok (.iload 5, 2) := by decide +kernel
theorem dL_law_1279 : decode cL_law 1279 = .ok (.iconst 1, 1) := by decide +kernel
theorem dL_law_1280 : decode cL_law 1280 = .ok (.iadd, 1) := by decide +kernel
theorem dL_law_1281 : decode cL_law 1281 = .ok (.iaload, 1) := by decide +kernel
theorem dL_law_1282 : decode cL_law 1282 = .ok (.aload_n 3, 1) := by decide +kernel
theorem dL_law_1283 : decode cL_law 1283 = .ok (.invokestatic 200, 3) := by decide +kernel
theorem dL_law_1286 : decode cL_law 1286 = .ok (.istore 6, 2) := by decide +kernel
theorem dL_law_1288 : decode cL_law 1288 = .ok (.aload_n 2, 1) := by decide +kernel
theorem dL_law_1289 : decode cL_law 1289 = .ok (.aload_n 0, 1) := by decide +kernel
theorem dL_law_1290 : decode cL_law 1290 = .ok (.iload 5, 2) := by decide +kernel
theorem dL_law_1292 : decode cL_law 1292 = .ok (.iconst 1, 1) := by decide +kernel
theorem dL_law_1293 : decode cL_law 1293 = .ok (.iadd, 1) := by decide +kernel
theorem dL_law_1294 : decode cL_law 1294 = .ok (.iaload, 1) := by decide +kernel
theorem dL_law_1295 : decode cL_law 1295 = .ok (.invokevirtual 202, 3) := by decide +kernel
theorem dL_law_1298 : decode cL_law 1298 = .ok (.istore 7, 2) := by decide +kernel
theorem dL_law_1300 : decode cL_law 1300 = .ok (.aload_n 2, 1) := by decide +kernel
theorem dL_law_1301 : decode cL_law 1301 = .ok (.invokevirtual 153, 3) := by decide +kernel
theorem dL_law_1304 : decode cL_law 1304 = .ok (.iload 6, 2) := by decide +kernel
theorem dL_law_1306 : decode cL_law 1306 = .ok (.if_icmp .eq 5, 3) := by decide +kernel
theorem dL_law_1311 : decode cL_law 1311 = .ok (.iload 6, 2) := by decide +kernel
theorem dL_law_1313 : decode cL_law 1313 = .ok (.ifCond .ne 22, 3) := by decide +kernel
theorem dL_law_1335 : decode cL_law 1335 = .ok (.goto 1311, 3) := by decide +kernel
theorem dL_law_1338 : decode cL_law 1338 = .ok (.aload_n 1, 1) := by decide +kernel
theorem dL_law_1339 : decode cL_law 1339 = .ok (.aload_n 0, 1) := by decide +kernel
theorem dL_law_1340 : decode cL_law 1340 = .ok (.iload 5, 2) := by decide +kernel
theorem dL_law_1342 : decode cL_law 1342 = .ok (.iconst 1, 1) := by decide +kernel
theorem dL_law_1343 : decode cL_law 1343 = .ok (.iadd, 1) := by decide +kernel
theorem dL_law_1344 : decode cL_law 1344 = .ok (.iaload, 1) := by decide +kernel
theorem dL_law_1345 : decode cL_law 1345 = .ok (.aload_n 0, 1) := by decide +kernel
theorem dL_law_1346 : decode cL_law 1346 = .ok (.iload 5, 2) := by decide +kernel
theorem dL_law_1348 : decode cL_law 1348 = .ok (.iconst 2, 1) := by decide +kernel
theorem dL_law_1349 : decode cL_law 1349 = .ok (.iadd, 1) := by decide +kernel
theorem dL_law_1350 : decode cL_law 1350 = .ok (.iaload, 1) := by decide +kernel
theorem dL_law_1351 : decode cL_law 1351 = .ok (.i2c, 1) := by decide +kernel
theorem dL_law_1352 : decode cL_law 1352 = .ok (.aload_n 3, 1) := by decide +kernel
theorem dL_law_1353 : decode cL_law 1353 = .ok (.invokestatic 203, 3) := by decide +kernel
theorem dL_law_1356 : decode cL_law 1356 = .ok (.istore 6, 2) := by decide +kernel
theorem dL_law_1358 : decode cL_law 1358 = .ok (.aload_n 2, 1) := by decide +kernel
theorem dL_law_1359 : decode cL_law 1359 = .ok (.aload_n 0, 1) := by decide +kernel
theorem dL_law_1360 : decode cL_law 1360 = .ok (.iload 5, 2) := by decide +kernel
theorem dL_law_1362 : decode cL_law 1362 = .ok (.iconst 1, 1) := by decide +kernel
theorem dL_law_1363 : decode cL_law 1363 = .ok (.iadd, 1) := by decide +kernel
theorem dL_law_1364 : decode cL_law 1364 = .ok (.iaload, 1) := by decide +kernel
theorem dL_law_1365 : decode cL_law 1365 = .ok (.aload_n 0, 1) := by decide +kernel
theorem dL_law_1366 : decode cL_law 1366 = .ok (.iload 5, 2) := by decide +kernel
theorem dL_law_1368 : decode cL_law 1368 = .ok (.iconst 2, 1) := by decide +kernel
theorem dL_law_1369 : decode cL_law 1369 = .ok (.iadd, 1) := by decide +kernel
theorem dL_law_1370 : decode cL_law 1370 = .ok (.iaload, 1) := by decide +kernel
theorem dL_law_1371 : decode cL_law 1371 = .ok (.i2c, 1) := by decide +kernel
theorem dL_law_1372 : decode cL_law 1372 = .ok (.invokevirtual 206, 3) := by decide +kernel
theorem dL_law_1375 : decode cL_law 1375 = .ok (.istore 7, 2) := by decide +kernel
theorem dL_law_1377 : decode cL_law 1377 = .ok (.aload_n 2, 1) := by decide +kernel
theorem dL_law_1378 : decode cL_law 1378 = .ok (.invokevirtual 153, 3) := by decide +kernel
theorem dL_law_1381 : decode cL_law 1381 = .ok (.iload 6, 2) := by decide +kernel
theorem dL_law_1383 : decode cL_law 1383 = .ok (.if_icmp .eq 5, 3) := by decide +kernel
theorem dL_law_1388 : decode cL_law 1388 = .ok (.iload 6, 2) := by decide +kernel
theorem dL_law_1390 : decode cL_law 1390 = .ok (.ifCond .ne 15, 3) := by decide +kernel
theorem dL_law_1405 : decode cL_law 1405 = .ok (.goto 1241, 3) := by decide +kernel
theorem dL_law_1408 : decode cL_law 1408 = .ok (.aload_n 1, 1) := by decide +kernel
theorem dL_law_1409 : decode cL_law 1409 = .ok (.aload_n 0, 1) := by decide +kernel
theorem dL_law_1410 : decode cL_law 1410 = .ok (.iload 5, 2) := by decide +kernel
theorem dL_law_1412 : decode cL_law 1412 = .ok (.iconst 1, 1) := by decide +kernel
theorem dL_law_1413 : decode cL_law 1413 = .ok (.iadd, 1) := by decide +kernel
theorem dL_law_1414 : decode cL_law 1414 = .ok (.iaload, 1) := by decide +kernel
theorem dL_law_1415 : decode cL_law 1415 = .ok (.aload_n 0, 1) := by decide +kernel
theorem dL_law_1416 : decode cL_law 1416 = .ok (.iload 5, 2) := by decide +kernel
theorem dL_law_1418 : decode cL_law 1418 = .ok (.iconst 2, 1) := by decide +kernel
theorem dL_law_1419 : decode cL_law 1419 = .ok (.iadd, 1) := by decide +kernel
theorem dL_law_1420 : decode cL_law 1420 = .ok (.iaload, 1) := by decide +kernel
theorem dL_law_1421 : decode cL_law 1421 = .ok (.i2c, 1) := by decide +kernel
theorem dL_law_1422 : decode cL_law 1422 = .ok (.aload_n 3, 1) := by decide +kernel
theorem dL_law_1423 : decode cL_law 1423 = .ok (.invokestatic 207, 3) := by decide +kernel
theorem dL_law_1426 : decode cL_law 1426 = .ok (.istore 6, 2) := by decide +kernel
theorem dL_law_1428 : decode cL_law 1428 = .ok (.aload_n 2, 1) := by decide +kernel
theorem dL_law_1429 : decode cL_law 1429 = .ok (.aload_n 0, 1) := by decide +kernel
theorem dL_law_1430 : decode cL_law 1430 = .ok (.iload 5, 2) := by decide +kernel
theorem dL_law_1432 : decode cL_law 1432 = .ok (.iconst 1, 1) := by decide +kernel
theorem dL_law_1433 : decode cL_law 1433 = .ok (.iadd, 1) := by decide +kernel
theorem dL_law_1434 : decode cL_law 1434 = .ok (.iaload, 1) := by decide +kernel
theorem dL_law_1435 : decode cL_law 1435 = .ok (.aload_n 0, 1) := by decide +kernel
theorem dL_law_1436 : decode cL_law 1436 = .ok (.iload 5, 2) := by decide +kernel
theorem dL_law_1438 : decode cL_law 1438 = .ok (.iconst 2, 1) := by decide +kernel
theorem dL_law_1439 : decode cL_law 1439 = .ok (.iadd, 1) := by decide +kernel
theorem dL_law_1440 : decode cL_law 1440 = .ok (.iaload, 1) := by decide +kernel
theorem dL_law_1441 : decode cL_law 1441 = .ok (.i2c, 1) := by decide +kernel
theorem dL_law_1442 : decode cL_law 1442 = .ok (.invokevirtual 209, 3) := by decide +kernel
theorem dL_law_1445 : decode cL_law 1445 = .ok (.istore 7, 2) := by decide +kernel
theorem dL_law_1447 : decode cL_law 1447 = .ok (.aload_n 2, 1) := by decide +kernel
theorem dL_law_1448 : decode cL_law 1448 = .ok (.invokevirtual 153, 3) := by decide +kernel
theorem dL_law_1451 : decode cL_law 1451 = .ok (.iload 6, 2) := by decide +kernel
theorem dL_law_1453 : decode cL_law 1453 = .ok (.if_icmp .eq 5, 3) := by decide +kernel
theorem dL_law_1458 : decode cL_law 1458 = .ok (.iload 6, 2) := by decide +kernel
theorem dL_law_1460 : decode cL_law 1460 = .ok (.ifCond .ne 15, 3) := by decide +kernel
theorem dL_law_1475 : decode cL_law 1475 = .ok (.goto 1171, 3) := by decide +kernel
theorem dL_law_1478 : decode cL_law 1478 = .ok (.aload_n 1, 1) := by decide +kernel
theorem dL_law_1479 : decode cL_law 1479 = .ok (.aload_n 0, 1) := by decide +kernel
theorem dL_law_1480 : decode cL_law 1480 = .ok (.iload 5, 2) := by decide +kernel
theorem dL_law_1482 : decode cL_law 1482 = .ok (.iconst 1, 1) := by decide +kernel
theorem dL_law_1483 : decode cL_law 1483 = .ok (.iadd, 1) := by decide +kernel
theorem dL_law_1484 : decode cL_law 1484 = .ok (.iaload, 1) := by decide +kernel
theorem dL_law_1485 : decode cL_law 1485 = .ok (.aload_n 0, 1) := by decide +kernel
theorem dL_law_1486 : decode cL_law 1486 = .ok (.iload 5, 2) := by decide +kernel
theorem dL_law_1488 : decode cL_law 1488 = .ok (.iconst 2, 1) := by decide +kernel
theorem dL_law_1489 : decode cL_law 1489 = .ok (.iadd, 1) := by decide +kernel
theorem dL_law_1490 : decode cL_law 1490 = .ok (.iaload, 1) := by decide +kernel
theorem dL_law_1491 : decode cL_law 1491 = .ok (.i2c, 1) := by decide +kernel
theorem dL_law_1492 : decode cL_law 1492 = .ok (.aload_n 3, 1) := by decide +kernel
theorem dL_law_1493 : decode cL_law 1493 = .ok (.invokestatic 210, 3) := by decide +kernel
theorem dL_law_1496 : decode cL_law 1496 = .ok (.istore 6, 2) := by decide +kernel
theorem dL_law_1498 : decode cL_law 1498 = .ok (.aload_n 2, 1) := by decide +kernel
theorem dL_law_1499 : decode cL_law 1499 = .ok (.aload_n 0, 1) := by decide +kernel
theorem dL_law_1500 : decode cL_law 1500 = .ok (.iload 5, 2) := by decide +kernel
theorem dL_law_1502 : decode cL_law 1502 = .ok (.iconst 1, 1) := by decide +kernel
theorem dL_law_1503 : decode cL_law 1503 = .ok (.iadd, 1) := by decide +kernel
theorem dL_law_1504 : decode cL_law 1504 = .ok (.iaload, 1) := by decide +kernel
theorem dL_law_1505 : decode cL_law 1505 = .ok (.aload_n 0, 1) := by decide +kernel
theorem dL_law_1506 : decode cL_law 1506 = .ok (.iload 5, 2) := by decide +kernel
theorem dL_law_1508 : decode cL_law 1508 = .ok (.iconst 2, 1) := by decide +kernel
theorem dL_law_1509 : decode cL_law 1509 = .ok (.iadd, 1) := by decide +kernel
theorem dL_law_1510 : decode cL_law 1510 = .ok (.iaload, 1) := by decide +kernel
theorem dL_law_1511 : decode cL_law 1511 = .ok (.i2c, 1) := by decide +kernel
theorem dL_law_1512 : decode cL_law 1512 = .ok (.invokevirtual 212, 3) := by decide +kernel
theorem dL_law_1515 : decode cL_law 1515 = .ok (.istore 7, 2) := by decide +kernel
theorem dL_law_1517 : decode cL_law 1517 = .ok (.aload_n 2, 1) := by decide +kernel
theorem dL_law_1518 : decode cL_law 1518 = .ok (.invokevirtual 153, 3) := by decide +kernel
theorem dL_law_1521 : decode cL_law 1521 = .ok (.iload 6, 2) := by decide +kernel
theorem dL_law_1523 : decode cL_law 1523 = .ok (.if_icmp .eq 5, 3) := by decide +kernel
theorem dL_law_1528 : decode cL_law 1528 = .ok (.iload 6, 2) := by decide +kernel
theorem dL_law_1530 : decode cL_law 1530 = .ok (.ifCond .ne 22, 3) := by decide +kernel
theorem dL_law_1552 : decode cL_law 1552 = .ok (.goto 1094, 3) := by decide +kernel
theorem dL_law_1555 : decode cL_law 1555 = .ok (.aload_n 1, 1) := by decide +kernel
theorem dL_law_1556 : decode cL_law 1556 = .ok (.invokevirtual 213, 3) := by decide +kernel
theorem dL_law_1559 : decode cL_law 1559 = .ok (.aload_n 2, 1) := by decide +kernel
theorem dL_law_1560 : decode cL_law 1560 = .ok (.invokevirtual 216, 3) := by decide +kernel
theorem dL_law_1563 : decode cL_law 1563 = .ok (.if_icmp .eq 1083, 3) := by decide +kernel
theorem dL_law_1568 : decode cL_law 1568 = .ok (.aload_n 1, 1) := by decide +kernel
theorem dL_law_1569 : decode cL_law 1569 = .ok (.aload_n 0, 1) := by decide +kernel
theorem dL_law_1570 : decode cL_law 1570 = .ok (.iload 5, 2) := by decide +kernel
theorem dL_law_1572 : decode cL_law 1572 = .ok (.iconst 1, 1) := by decide +kernel
theorem dL_law_1573 : decode cL_law 1573 = .ok (.iadd, 1) := by decide +kernel
theorem dL_law_1574 : decode cL_law 1574 = .ok (.iaload, 1) := by decide +kernel
theorem dL_law_1575 : decode cL_law 1575 = .ok (.aload_n 3, 1) := by decide +kernel
theorem dL_law_1576 : decode cL_law 1576 = .ok (.invokestatic 217, 3) := by decide +kernel
theorem dL_law_1579 : decode cL_law 1579 = .ok (.istore 6, 2) := by decide +kernel
theorem dL_law_1581 : decode cL_law 1581 = .ok (.aload_n 2, 1) := by decide +kernel
theorem dL_law_1582 : decode cL_law 1582 = .ok (.aload_n 0, 1) := by decide +kernel
theorem dL_law_1583 : decode cL_law 1583 = .ok (.iload 5, 2) := by decide +kernel
theorem dL_law_1585 : decode cL_law 1585 = .ok (.iconst 1, 1) := by decide +kernel
theorem dL_law_1586 : decode cL_law 1586 = .ok (.iadd, 1) := by decide +kernel
theorem dL_law_1587 : decode cL_law 1587 = .ok (.iaload, 1) := by decide +kernel
theorem dL_law_1588 : decode cL_law 1588 = .ok (.invokevirtual 219, 3) := by decide +kernel
theorem dL_law_1591 : decode cL_law 1591 = .ok (.istore 7, 2) := by decide +kernel
theorem dL_law_1593 : decode cL_law 1593 = .ok (.aload_n 2, 1) := by decide +kernel
theorem dL_law_1594 : decode cL_law 1594 = .ok (.invokevirtual 153, 3) := by decide +kernel
theorem dL_law_1597 : decode cL_law 1597 = .ok (.iload 6, 2) := by decide +kernel
theorem dL_law_1599 : decode cL_law 1599 = .ok (.if_icmp .eq 5, 3) := by decide +kernel
theorem dL_law_1604 : decode cL_law 1604 = .ok (.iload 6, 2) := by decide +kernel
theorem dL_law_1606 : decode cL_law 1606 = .ok (.ifCond .ne 15, 3) := by decide +kernel
theorem dL_law_1609 : decode cL_law 1609 = .ok (.aload_n 3, 1) := by decide +kernel
theorem dL_law_1610 : decode cL_law 1610 = .ok (.iconst 0, 1) := by decide +kernel
theorem dL_law_1611 : decode cL_law 1611 = .ok (.laload, 1) := by decide +kernel
theorem dL_law_1612 : decode cL_law 1612 = .ok (.iload 7, 2) := by decide +kernel
theorem dL_law_1614 : decode cL_law 1614 = .ok (.i2l, 1) := by decide +kernel
theorem dL_law_1615 : decode cL_law 1615 = .ok (.lcmp, 1) := by decide +kernel
theorem dL_law_1616 : decode cL_law 1616 = .ok (.ifCond .eq 5, 3) := by decide +kernel
theorem dL_law_1621 : decode cL_law 1621 = .ok (.goto 1025, 3) := by decide +kernel
theorem dL_law_1624 : decode cL_law 1624 = .ok (.aload_n 1, 1) := by decide +kernel
theorem dL_law_1625 : decode cL_law 1625 = .ok (.invokevirtual 220, 3) := by decide +kernel
theorem dL_law_1628 : decode cL_law 1628 = .ok (.aload_n 2, 1) := by decide +kernel
theorem dL_law_1629 : decode cL_law 1629 = .ok (.invokevirtual 223, 3) := by decide +kernel
theorem dL_law_1632 : decode cL_law 1632 = .ok (.if_icmp .eq 1014, 3) := by decide +kernel
theorem dL_law_1637 : decode cL_law 1637 = .ok (.aload_n 1, 1) := by decide +kernel
theorem dL_law_1638 : decode cL_law 1638 = .ok (.aload_n 3, 1) := by decide +kernel
theorem dL_law_1639 : decode cL_law 1639 = .ok (.invokestatic 224, 3) := by decide +kernel
theorem dL_law_1642 : decode cL_law 1642 = .ok (.istore 6, 2) := by decide +kernel
theorem dL_law_1644 : decode cL_law 1644 = .ok (.aload_n 2, 1) := by decide +kernel
theorem dL_law_1645 : decode cL_law 1645 = .ok (.invokevirtual 227, 3) := by decide +kernel
theorem dL_law_1648 : decode cL_law 1648 = .ok (.istore 7, 2) := by decide +kernel
theorem dL_law_1650 : decode cL_law 1650 = .ok (.aload_n 2, 1) := by decide +kernel
theorem dL_law_1651 : decode cL_law 1651 = .ok (.invokevirtual 153, 3) := by decide +kernel
theorem dL_law_1654 : decode cL_law 1654 = .ok (.iload 6, 2) := by decide +kernel
theorem dL_law_1656 : decode cL_law 1656 = .ok (.if_icmp .eq 5, 3) := by decide +kernel
theorem dL_law_1661 : decode cL_law 1661 = .ok (.iload 6, 2) := by decide +kernel
theorem dL_law_1663 : decode cL_law 1663 = .ok (.ifCond .ne 15, 3) := by decide +kernel
theorem dL_law_1678 : decode cL_law 1678 = .ok (.goto 968, 3) := by decide +kernel
theorem dL_law_1681 : decode cL_law 1681 = .ok (.aload_n 1, 1) := by decide +kernel
theorem dL_law_1682 : decode cL_law 1682 = .ok (.aload_n 3, 1) := by decide +kernel
theorem dL_law_1683 : decode cL_law 1683 = .ok (.invokestatic 228, 3) := by decide +kernel
theorem dL_law_1686 : decode cL_law 1686 = .ok (.istore 6, 2) := by decide +kernel
theorem dL_law_1688 : decode cL_law 1688 = .ok (.aload_n 2, 1) := by decide +kernel
theorem dL_law_1689 : decode cL_law 1689 = .ok (.invokevirtual 230, 3) := by decide +kernel
theorem dL_law_1692 : decode cL_law 1692 = .ok (.istore 7, 2) := by decide +kernel
theorem dL_law_1694 : decode cL_law 1694 = .ok (.aload_n 2, 1) := by decide +kernel
theorem dL_law_1695 : decode cL_law 1695 = .ok (.invokevirtual 153, 3) := by decide +kernel
theorem dL_law_1698 : decode cL_law 1698 = .ok (.iload 6, 2) := by decide +kernel
theorem dL_law_1700 : decode cL_law 1700 = .ok (.if_icmp .eq 5, 3) := by decide +kernel
theorem dL_law_1705 : decode cL_law 1705 = .ok (.iload 6, 2) := by decide +kernel
theorem dL_law_1707 : decode cL_law 1707 = .ok (.ifCond .ne 15, 3) := by decide +kernel
theorem dL_law_1722 : decode cL_law 1722 = .ok (.goto 924, 3) := by decide +kernel
theorem dL_law_1725 : decode cL_law 1725 = .ok (.aload_n 1, 1) := by decide +kernel
theorem dL_law_1726 : decode cL_law 1726 = .ok (.aload_n 3, 1) := by decide +kernel
theorem dL_law_1727 : decode cL_law 1727 = .ok (.invokestatic 231, 3) := by decide +kernel
theorem dL_law_1730 : decode cL_law 1730 = .ok (.istore 6, 2) := by decide +kernel
theorem dL_law_1732 : decode cL_law 1732 = .ok (.aload_n 2, 1) := by decide +kernel
theorem dL_law_1733 : decode cL_law 1733 = .ok (.invokevirtual 233, 3) := by decide +kernel
theorem dL_law_1736 : decode cL_law 1736 = .ok (.istore 7, 2) := by decide +kernel
theorem dL_law_1738 : decode cL_law 1738 = .ok (.aload_n 2, 1) := by decide +kernel
theorem dL_law_1739 : decode cL_law 1739 = .ok (.invokevirtual 153, 3) := by decide +kernel
theorem dL_law_1742 : decode cL_law 1742 = .ok (.iload 6, 2) := by decide +kernel
theorem dL_law_1744 : decode cL_law 1744 = .ok (.if_icmp .eq 5, 3) := by decide +kernel
theorem dL_law_1749 : decode cL_law 1749 = .ok (.iload 6, 2) := by decide +kernel
theorem dL_law_1751 : decode cL_law 1751 = .ok (.ifCond .ne 15, 3) := by decide +kernel
theorem dL_law_1766 : decode cL_law 1766 = .ok (.goto 880, 3) := by decide +kernel
theorem dL_law_1769 : decode cL_law 1769 = .ok (.aload_n 1, 1) := by decide +kernel
theorem dL_law_1770 : decode cL_law 1770 = .ok (.aload_n 3, 1) := by decide +kernel
theorem dL_law_1771 : decode cL_law 1771 = .ok (.invokestatic 234, 3) := by decide +kernel
theorem dL_law_1774 : decode cL_law 1774 = .ok (.istore 6, 2) := by decide +kernel
theorem dL_law_1776 : decode cL_law 1776 = .ok (.aload_n 2, 1) := by decide +kernel
theorem dL_law_1777 : decode cL_law 1777 = .ok (.invokevirtual 236, 3) := by decide +kernel
theorem dL_law_1780 : decode cL_law 1780 = .ok (.istore 7, 2) := by decide +kernel
theorem dL_law_1782 : decode cL_law 1782 = .ok (.aload_n 2, 1) := by decide +kernel
theorem dL_law_1783 : decode cL_law 1783 = .ok (.invokevirtual 153, 3) := by decide +kernel
theorem dL_law_1786 : decode cL_law 1786 = .ok (.iload 6, 2) := by decide +kernel
theorem dL_law_1788 : decode cL_law 1788 = .ok (.if_icmp .eq 5, 3) := by decide +kernel
theorem dL_law_1793 : decode cL_law 1793 = .ok (.iload 6, 2) := by decide +kernel
theorem dL_law_1795 : decode cL_law 1795 = .ok (.ifCond .ne 15, 3) := by decide +kernel
theorem dL_law_1810 : decode cL_law 1810 = .ok (.goto 836, 3) := by decide +kernel
theorem dL_law_1813 : decode cL_law 1813 = .ok (.aload_n 1, 1) := by decide +kernel
theorem dL_law_1814 : decode cL_law 1814 = .ok (.invokevirtual 237, 3) := by decide +kernel
theorem dL_law_1817 : decode cL_law 1817 = .ok (.aload_n 2, 1) := by decide +kernel
theorem dL_law_1818 : decode cL_law 1818 = .ok (.invokevirtual 240, 3) := by decide +kernel
theorem dL_law_1821 : decode cL_law 1821 = .ok (.if_icmp .eq 825, 3) := by decide +kernel
theorem dL_law_1826 : decode cL_law 1826 = .ok (.aload_n 1, 1) := by decide +kernel
theorem dL_law_1827 : decode cL_law 1827 = .ok (.aload_n 3, 1) := by decide +kernel
theorem dL_law_1828 : decode cL_law 1828 = .ok (.invokestatic 241, 3) := by decide +kernel
theorem dL_law_1831 : decode cL_law 1831 = .ok (.istore 6, 2) := by decide +kernel
theorem dL_law_1833 : decode cL_law 1833 = .ok (.aload_n 2, 1) := by decide +kernel
theorem dL_law_1834 : decode cL_law 1834 = .ok (.invokevirtual 243, 3) := by decide +kernel
theorem dL_law_1837 : decode cL_law 1837 = .ok (.istore 7, 2) := by decide +kernel
theorem dL_law_1839 : decode cL_law 1839 = .ok (.aload_n 2, 1) := by decide +kernel
theorem dL_law_1840 : decode cL_law 1840 = .ok (.invokevirtual 153, 3) := by decide +kernel
theorem dL_law_1843 : decode cL_law 1843 = .ok (.iload 6, 2) := by decide +kernel
theorem dL_law_1845 : decode cL_law 1845 = .ok (.if_icmp .eq 5, 3) := by decide +kernel
theorem dL_law_1850 : decode cL_law 1850 = .ok (.iload 6, 2) := by decide +kernel
theorem dL_law_1852 : decode cL_law 1852 = .ok (.ifCond .ne 15, 3) := by decide +kernel
theorem dL_law_1867 : decode cL_law 1867 = .ok (.goto 779, 3) := by decide +kernel
theorem dL_law_1870 : decode cL_law 1870 = .ok (.aload_n 1, 1) := by decide +kernel
theorem dL_law_1871 : decode cL_law 1871 = .ok (.aload_n 0, 1) := by decide +kernel
theorem dL_law_1872 : decode cL_law 1872 = .ok (.iload 5, 2) := by decide +kernel
theorem dL_law_1874 : decode cL_law 1874 = .ok (.iconst 1, 1) := by decide +kernel
theorem dL_law_1875 : decode cL_law 1875 = .ok (.iadd, 1) := by decide +kernel
theorem dL_law_1876 : decode cL_law 1876 = .ok (.iaload, 1) := by decide +kernel
theorem dL_law_1877 : decode cL_law 1877 = .ok (.aload_n 3, 1) := by decide +kernel
theorem dL_law_1878 : decode cL_law 1878 = .ok (.invokestatic 244, 3) := by decide +kernel
theorem dL_law_1881 : decode cL_law 1881 = .ok (.istore 6, 2) := by decide +kernel
theorem dL_law_1883 : decode cL_law 1883 = .ok (.aload_n 2, 1) := by decide +kernel
theorem dL_law_1884 : decode cL_law 1884 = .ok (.aload_n 0, 1) := by decide +kernel
theorem dL_law_1885 : decode cL_law 1885 = .ok (.iload 5, 2) := by decide +kernel
theorem dL_law_1887 : decode cL_law 1887 = .ok (.iconst 1, 1) := by decide +kernel
theorem dL_law_1888 : decode cL_law 1888 = .ok (.iadd, 1) := by decide +kernel
theorem dL_law_1889 : decode cL_law 1889 = .ok (.iaload, 1) := by decide +kernel
theorem dL_law_1890 : decode cL_law 1890 = .ok (.invokevirtual 246, 3) := by decide +kernel
theorem dL_law_1893 : decode cL_law 1893 = .ok (.istore 7, 2) := by decide +kernel
theorem dL_law_1895 : decode cL_law 1895 = .ok (.aload_n 2, 1) := by decide +kernel
theorem dL_law_1896 : decode cL_law 1896 = .ok (.invokevirtual 153, 3) := by decide +kernel
theorem dL_law_1899 : decode cL_law 1899 = .ok (.iload 6, 2) := by decide +kernel
theorem dL_law_1901 : decode cL_law 1901 = .ok (.if_icmp .eq 5, 3) := by decide +kernel
theorem dL_law_1906 : decode cL_law 1906 = .ok (.iload 6, 2) := by decide +kernel
theorem dL_law_1908 : decode cL_law 1908 = .ok (.ifCond .ne 22, 3) := by decide +kernel
theorem dL_law_1930 : decode cL_law 1930 = .ok (.goto 716, 3) := by decide +kernel
theorem dL_law_1933 : decode cL_law 1933 = .ok (.aload_n 1, 1) := by decide +kernel
theorem dL_law_1934 : decode cL_law 1934 = .ok (.aload_n 0, 1) := by decide +kernel
theorem dL_law_1935 : decode cL_law 1935 = .ok (.iload 5, 2) := by decide +kernel
theorem dL_law_1937 : decode cL_law 1937 = .ok (.iconst 1, 1) := by decide +kernel
theorem dL_law_1938 : decode cL_law 1938 = .ok (.iadd, 1) := by decide +kernel
theorem dL_law_1939 : decode cL_law 1939 = .ok (.iaload, 1) := by decide +kernel
theorem dL_law_1940 : decode cL_law 1940 = .ok (.aload_n 3, 1) := by decide +kernel
theorem dL_law_1941 : decode cL_law 1941 = .ok (.invokestatic 247, 3) := by decide +kernel
theorem dL_law_1944 : decode cL_law 1944 = .ok (.istore 6, 2) := by decide +kernel
theorem dL_law_1946 : decode cL_law 1946 = .ok (.aload_n 2, 1) := by decide +kernel
theorem dL_law_1947 : decode cL_law 1947 = .ok (.aload_n 0, 1) := by decide +kernel
theorem dL_law_1948 : decode cL_law 1948 = .ok (.iload 5, 2) := by decide +kernel
theorem dL_law_1950 : decode cL_law 1950 = .ok (.iconst 1, 1) := by decide +kernel
theorem dL_law_1951 : decode cL_law 1951 = .ok (.iadd, 1) := by decide +kernel
theorem dL_law_1952 : decode cL_law 1952 = .ok (.iaload, 1) := by decide +kernel
theorem dL_law_1953 : decode cL_law 1953 = .ok (.invokevirtual 249, 3) := by decide +kernel
theorem dL_law_1956 : decode cL_law 1956 = .ok (.istore 7, 2) := by decide +kernel
theorem dL_law_1958 : decode cL_law 1958 = .ok (.aload_n 2, 1) := by decide +kernel
theorem dL_law_1959 : decode cL_law 1959 = .ok (.invokevirtual 153, 3) := by decide +kernel
theorem dL_law_1962 : decode cL_law 1962 = .ok (.iload 6, 2) := by decide +kernel
theorem dL_law_1964 : decode cL_law 1964 = .ok (.if_icmp .eq 5, 3) := by decide +kernel
theorem dL_law_1969 : decode cL_law 1969 = .ok (.iload 6, 2) := by decide +kernel
theorem dL_law_1971 : decode cL_law 1971 = .ok (.ifCond .ne 15, 3) := by decide +kernel
theorem dL_law_1986 : decode cL_law 1986 = .ok (.goto 660, 3) := by decide +kernel
theorem dL_law_1989 : decode cL_law 1989 = .ok (.aload_n 1, 1) := by decide +kernel
theorem dL_law_1990 : decode cL_law 1990 = .ok (.aload_n 0, 1) := by decide +kernel
theorem dL_law_1991 : decode cL_law 1991 = .ok (.iload 5, 2) := by decide +kernel
theorem dL_law_1993 : decode cL_law 1993 = .ok (.iconst 1, 1) := by decide +kernel
theorem dL_law_1994 : decode cL_law 1994 = .ok (.iadd, 1) := by decide +kernel
theorem dL_law_1995 : decode cL_law 1995 = .ok (.iaload, 1) := by decide +kernel
theorem dL_law_1996 : decode cL_law 1996 = .ok (.aload_n 0, 1) := by decide +kernel
theorem dL_law_1997 : decode cL_law 1997 = .ok (.iload 5, 2) := by decide +kernel
theorem dL_law_1999 : decode cL_law 1999 = .ok (.iconst 2, 1) := by decide +kernel
theorem dL_law_2000 : decode cL_law 2000 = .ok (.iadd, 1) := by decide +kernel
theorem dL_law_2001 : decode cL_law 2001 = .ok (.iaload, 1) := by decide +kernel
theorem dL_law_2002 : decode cL_law 2002 = .ok (.aload_n 3, 1) := by decide +kernel
theorem dL_law_2003 : decode cL_law 2003 = .ok (.invokestatic 250, 3) := by decide +kernel
theorem dL_law_2006 : decode cL_law 2006 = .ok (.istore 6, 2) := by decide +kernel
theorem dL_law_2008 : decode cL_law 2008 = .ok (.aload_n 2, 1) := by decide +kernel
theorem dL_law_2009 : decode cL_law 2009 = .ok (.aload_n 0, 1) := by decide +kernel
theorem dL_law_2010 : decode cL_law 2010 = .ok (.iload 5, 2) := by decide +kernel
theorem dL_law_2012 : decode cL_law 2012 = .ok (.iconst 1, 1) := by decide +kernel
theorem dL_law_2013 : decode cL_law 2013 = .ok (.iadd, 1) := by decide +kernel
theorem dL_law_2014 : decode cL_law 2014 = .ok (.iaload, 1) := by decide +kernel
theorem dL_law_2015 : decode cL_law 2015 = .ok (.aload_n 0, 1) := by decide +kernel
theorem dL_law_2016 : decode cL_law 2016 = .ok (.iload 5, 2) := by decide +kernel
theorem dL_law_2018 : decode cL_law 2018 = .ok (.iconst 2, 1) := by decide +kernel
theorem dL_law_2019 : decode cL_law 2019 = .ok (.iadd, 1) := by decide +kernel
theorem dL_law_2020 : decode cL_law 2020 = .ok (.iaload, 1) := by decide +kernel
theorem dL_law_2021 : decode cL_law 2021 = .ok (.invokevirtual 252, 3) := by decide +kernel
theorem dL_law_2024 : decode cL_law 2024 = .ok (.istore 7, 2) := by decide +kernel
theorem dL_law_2026 : decode cL_law 2026 = .ok (.aload_n 2, 1) := by decide +kernel
theorem dL_law_2027 : decode cL_law 2027 = .ok (.invokevirtual 153, 3) := by decide +kernel
theorem dL_law_2030 : decode cL_law 2030 = .ok (.iload 6, 2) := by decide +kernel
theorem dL_law_2032 : decode cL_law 2032 = .ok (.if_icmp .eq 5, 3) := by decide +kernel
theorem dL_law_2037 : decode cL_law 2037 = .ok (.iload 6, 2) := by decide +kernel
theorem dL_law_2039 : decode cL_law 2039 = .ok (.ifCond .ne 22, 3) := by decide +kernel
theorem dL_law_2061 : decode cL_law 2061 = .ok (.goto 585, 3) := by decide +kernel
theorem dL_law_2064 : decode cL_law 2064 = .ok (.aload_n 1, 1) := by decide +kernel
theorem dL_law_2065 : decode cL_law 2065 = .ok (.aload_n 3, 1) := by decide +kernel
theorem dL_law_2066 : decode cL_law 2066 = .ok (.invokestatic 253, 3) := by decide +kernel
theorem dL_law_2069 : decode cL_law 2069 = .ok (.istore 6, 2) := by decide +kernel
theorem dL_law_2071 : decode cL_law 2071 = .ok (.aload_n 2, 1) := by decide +kernel
theorem dL_law_2072 : decode cL_law 2072 = .ok (.invokevirtual 255, 3) := by decide +kernel
theorem dL_law_2075 : decode cL_law 2075 = .ok (.istore 7, 2) := by decide +kernel
theorem dL_law_2077 : decode cL_law 2077 = .ok (.aload_n 2, 1) := by decide +kernel
theorem dL_law_2078 : decode cL_law 2078 = .ok (.invokevirtual 153, 3) := by decide +kernel
theorem dL_law_2081 : decode cL_law 2081 = .ok (.iload 6, 2) := by decide +kernel
theorem dL_law_2083 : decode cL_law 2083 = .ok (.if_icmp .eq 5, 3) := by decide +kernel
theorem dL_law_2088 : decode cL_law 2088 = .ok (.iload 6, 2) := by decide +kernel
theorem dL_law_2090 : decode cL_law 2090 = .ok (.ifCond .ne 22, 3) := by decide +kernel
theorem dL_law_2112 : decode cL_law 2112 = .ok (.goto 534, 3) := by decide +kernel
theorem dL_law_2115 : decode cL_law 2115 = .ok (.aload_n 1, 1) := by decide +kernel
theorem dL_law_2116 : decode cL_law 2116 = .ok (.aload_n 0, 1) := by decide +kernel
theorem dL_law_2117 : decode cL_law 2117 = .ok (.iload 5, 2) := by decide +kernel
theorem dL_law_2119 : decode cL_law 2119 = .ok (.iconst 1, 1) := by decide +kernel
theorem dL_law_2120 : decode cL_law 2120 = .ok (.iadd, 1) := by decide +kernel
theorem dL_law_2121 : decode cL_law 2121 = .ok (.iaload, 1) := by decide +kernel
theorem dL_law_2122 : decode cL_law 2122 = .ok (.i2c, 1) := by decide +kernel
theorem dL_law_2123 : decode cL_law 2123 = .ok (.aload_n 0, 1) := by decide +kernel
theorem dL_law_2124 : decode cL_law 2124 = .ok (.iload 5, 2) := by decide +kernel
theorem dL_law_2126 : decode cL_law 2126 = .ok (.iconst 2, 1) := by decide +kernel
theorem dL_law_2127 : decode cL_law 2127 = .ok (.iadd, 1) := by decide +kernel
theorem dL_law_2128 : decode cL_law 2128 = .ok (.iaload, 1) := by decide +kernel
theorem dL_law_2129 : decode cL_law 2129 = .ok (.i2c, 1) := by decide +kernel
theorem dL_law_2130 : decode cL_law 2130 = .ok (.aload_n 3, 1) := by decide +kernel
theorem dL_law_2131 : decode cL_law 2131 = .ok (.invokestatic 256, 3) := by decide +kernel
theorem dL_law_2134 : decode cL_law 2134 = .ok (.istore 6, 2) := by decide +kernel
theorem dL_law_2136 : decode cL_law 2136 = .ok (.aload_n 2, 1) := by decide +kernel
theorem dL_law_2137 : decode cL_law 2137 = .ok (.aload_n 0, 1) := by decide +kernel
theorem dL_law_2138 : decode cL_law 2138 = .ok (.iload 5, 2) := by decide +kernel
theorem dL_law_2140 : decode cL_law 2140 = .ok (.iconst 1, 1) := by decide +kernel
theorem dL_law_2141 : decode cL_law 2141 = .ok (.iadd, 1) := by decide +kernel
theorem dL_law_2142 : decode cL_law 2142 = .ok (.iaload, 1) := by decide +kernel
theorem dL_law_2143 : decode cL_law 2143 = .ok (.i2c, 1) := by decide +kernel
theorem dL_law_2144 : decode cL_law 2144 = .ok (.aload_n 0, 1) := by decide +kernel
theorem dL_law_2145 : decode cL_law 2145 = .ok (.iload 5, 2) := by decide +kernel
theorem dL_law_2147 : decode cL_law 2147 = .ok (.iconst 2, 1) := by decide +kernel
theorem dL_law_2148 : decode cL_law 2148 = .ok (.iadd, 1) := by decide +kernel
theorem dL_law_2149 : decode cL_law 2149 = .ok (.iaload, 1) := by decide +kernel
theorem dL_law_2150 : decode cL_law 2150 = .ok (.i2c, 1) := by decide +kernel
theorem dL_law_2151 : decode cL_law 2151 = .ok (.invokevirtual 259, 3) := by decide +kernel
theorem dL_law_2154 : decode cL_law 2154 = .ok (.istore 7, 2) := by decide +kernel
theorem dL_law_2156 : decode cL_law 2156 = .ok (.aload_n 2, 1) := by decide +kernel
theorem dL_law_2157 : decode cL_law 2157 = .ok (.invokevirtual 153, 3) := by decide +kernel
theorem dL_law_2160 : decode cL_law 2160 = .ok (.iload 6, 2) := by decide +kernel
theorem dL_law_2162 : decode cL_law 2162 = .ok (.if_icmp .eq 5, 3) := by decide +kernel
theorem dL_law_2167 : decode cL_law 2167 = .ok (.iload 6, 2) := by decide +kernel
theorem dL_law_2169 : decode cL_law 2169 = .ok (.ifCond .ne 22, 3) := by decide +kernel
theorem dL_law_2191 : decode cL_law 2191 = .ok (.goto 455, 3) := by decide +kernel
theorem dL_law_2194 : decode cL_law 2194 = .ok (.aload_n 1, 1) := by decide +kernel
theorem dL_law_2195 : decode cL_law 2195 = .ok (.aload_n 0, 1) := by decide +kernel
theorem dL_law_2196 : decode cL_law 2196 = .ok (.iload 5, 2) := by decide +kernel
theorem dL_law_2198 : decode cL_law 2198 = .ok (.iconst 1, 1) := by decide +kernel
theorem dL_law_2199 : decode cL_law 2199 = .ok (.iadd, 1) := by decide +kernel
theorem dL_law_2200 : decode cL_law 2200 = .ok (.iaload, 1) := by decide +kernel
theorem dL_law_2201 : decode cL_law 2201 = .ok (.i2c, 1) := by decide +kernel
theorem dL_law_2202 : decode cL_law 2202 = .ok (.aload_n 0, 1) := by decide +kernel
theorem dL_law_2203 : decode cL_law 2203 = .ok (.iload 5, 2) := by decide +kernel
theorem dL_law_2205 : decode cL_law 2205 = .ok (.iconst 2, 1) := by decide +kernel
theorem dL_law_2206 : decode cL_law 2206 = .ok (.iadd, 1) := by decide +kernel
theorem dL_law_2207 : decode cL_law 2207 = .ok (.iaload, 1) := by decide +kernel
theorem dL_law_2208 : decode cL_law 2208 = .ok (.aload_n 0, 1) := by decide +kernel
theorem dL_law_2209 : decode cL_law 2209 = .ok (.iload 5, 2) := by decide +kernel
theorem dL_law_2211 : decode cL_law 2211 = .ok (.iconst 3, 1) := by decide +kernel
theorem dL_law_2212 : decode cL_law 2212 = .ok (.iadd, 1) := by decide +kernel
theorem dL_law_2213 : decode cL_law 2213 = .ok (.iaload, 1) := by decide +kernel
theorem dL_law_2214 : decode cL_law 2214 = .ok (.aload_n 3, 1) := by decide +kernel
theorem dL_law_2215 : decode cL_law 2215 = .ok (.invokestatic 260, 3) := by decide +kernel
theorem dL_law_2218 : decode cL_law 2218 = .ok (.istore 6, 2) := by decide +kernel
theorem dL_law_2220 : decode cL_law 2220 = .ok (.aload_n 2, 1) := by decide +kernel
theorem dL_law_2221 : decode cL_law 2221 = .ok (.aload_n 0, 1) := by decide +kernel
theorem dL_law_2222 : decode cL_law 2222 = .ok (.iload 5, 2) := by decide +kernel
theorem dL_law_2224 : decode cL_law 2224 = .ok (.iconst 1, 1) := by decide +kernel
theorem dL_law_2225 : decode cL_law 2225 = .ok (.iadd, 1) := by decide +kernel
theorem dL_law_2226 : decode cL_law 2226 = .ok (.iaload, 1) := by decide +kernel
theorem dL_law_2227 : decode cL_law 2227 = .ok (.i2c, 1) := by decide +kernel
theorem dL_law_2228 : decode cL_law 2228 = .ok (.aload_n 0, 1) := by decide +kernel
theorem dL_law_2229 : decode cL_law 2229 = .ok (.iload 5, 2) := by decide +kernel
theorem dL_law_2231 : decode cL_law 2231 = .ok (.iconst 2, 1) := by decide +kernel
theorem dL_law_2232 : decode cL_law 2232 = .ok (.iadd, 1) := by decide +kernel
theorem dL_law_2233 : decode cL_law 2233 = .ok (.iaload, 1) := by decide +kernel
theorem dL_law_2234 : decode cL_law 2234 = .ok (.aload_n 0, 1) := by decide +kernel
theorem dL_law_2235 : decode cL_law 2235 = .ok (.iload 5, 2) := by decide +kernel
theorem dL_law_2237 : decode cL_law 2237 = .ok (.iconst 3, 1) := by decide +kernel
theorem dL_law_2238 : decode cL_law 2238 = .ok (.iadd, 1) := by decide +kernel
theorem dL_law_2239 : decode cL_law 2239 = .ok (.iaload, 1) := by decide +kernel
theorem dL_law_2240 : decode cL_law 2240 = .ok (.invokevirtual 263, 3) := by decide +kernel
theorem dL_law_2243 : decode cL_law 2243 = .ok (.istore 7, 2) := by decide +kernel
theorem dL_law_2245 : decode cL_law 2245 = .ok (.aload_n 2, 1) := by decide +kernel
theorem dL_law_2246 : decode cL_law 2246 = .ok (.invokevirtual 153, 3) := by decide +kernel
theorem dL_law_2249 : decode cL_law 2249 = .ok (.iload 6, 2) := by decide +kernel
theorem dL_law_2251 : decode cL_law 2251 = .ok (.if_icmp .eq 5, 3) := by decide +kernel
theorem dL_law_2256 : decode cL_law 2256 = .ok (.iload 6, 2) := by decide +kernel
theorem dL_law_2258 : decode cL_law 2258 = .ok (.ifCond .ne 15, 3) := by decide +kernel
theorem dL_law_2273 : decode cL_law 2273 = .ok (.goto 373, 3) := by decide +kernel
theorem dL_law_2276 : decode cL_law 2276 = .ok (.aload_n 1, 1) := by decide +kernel
theorem dL_law_2277 : decode cL_law 2277 = .ok (.aload_n 0, 1) := by decide +kernel
theorem dL_law_2278 : decode cL_law 2278 = .ok (.iload 5, 2) := by decide +kernel
theorem dL_law_2280 : decode cL_law 2280 = .ok (.iconst 1, 1) := by decide +kernel
theorem dL_law_2281 : decode cL_law 2281 = .ok (.iadd, 1) := by decide +kernel
theorem dL_law_2282 : decode cL_law 2282 = .ok (.iaload, 1) := by decide +kernel
theorem dL_law_2283 : decode cL_law 2283 = .ok (.aload_n 3, 1) := by decide +kernel
theorem dL_law_2284 : decode cL_law 2284 = .ok (.invokestatic 264, 3) := by decide +kernel
theorem dL_law_2287 : decode cL_law 2287 = .ok (.istore 6, 2) := by decide +kernel
theorem dL_law_2289 : decode cL_law 2289 = .ok (.aload_n 2, 1) := by decide +kernel
theorem dL_law_2290 : decode cL_law 2290 = .ok (.aload_n 0, 1) := by decide +kernel
theorem dL_law_2291 : decode cL_law 2291 = .ok (.iload 5, 2) := by decide +kernel
theorem dL_law_2293 : decode cL_law 2293 = .ok (.iconst 1, 1) := by decide +kernel
theorem dL_law_2294 : decode cL_law 2294 = .ok (.iadd, 1) := by decide +kernel
theorem dL_law_2295 : decode cL_law 2295 = .ok (.iaload, 1) := by decide +kernel
theorem dL_law_2296 : decode cL_law 2296 = .ok (.invokevirtual 266, 3) := by decide +kernel
theorem dL_law_2299 : decode cL_law 2299 = .ok (.istore 7, 2) := by decide +kernel
theorem dL_law_2301 : decode cL_law 2301 = .ok (.aload_n 2, 1) := by decide +kernel
theorem dL_law_2302 : decode cL_law 2302 = .ok (.invokevirtual 153, 3) := by decide +kernel
theorem dL_law_2305 : decode cL_law 2305 = .ok (.iload 6, 2) := by decide +kernel
theorem dL_law_2307 : decode cL_law 2307 = .ok (.if_icmp .eq 5, 3) := by decide +kernel
theorem dL_law_2312 : decode cL_law 2312 = .ok (.iload 6, 2) := by decide +kernel
theorem dL_law_2314 : decode cL_law 2314 = .ok (.ifCond .ne 15, 3) := by decide +kernel
theorem dL_law_2329 : decode cL_law 2329 = .ok (.goto 317, 3) := by decide +kernel
theorem dL_law_2332 : decode cL_law 2332 = .ok (.aload_n 1, 1) := by decide +kernel
theorem dL_law_2333 : decode cL_law 2333 = .ok (.aload_n 0, 1) := by decide +kernel
theorem dL_law_2334 : decode cL_law 2334 = .ok (.iload 5, 2) := by decide +kernel
theorem dL_law_2336 : decode cL_law 2336 = .ok (.iconst 1, 1) := by decide +kernel
theorem dL_law_2337 : decode cL_law 2337 = .ok (.iadd, 1) := by decide +kernel
theorem dL_law_2338 : decode cL_law 2338 = .ok (.iaload, 1) := by decide +kernel
theorem dL_law_2339 : decode cL_law 2339 = .ok (.aload_n 3, 1) := by decide +kernel
theorem dL_law_2340 : decode cL_law 2340 = .ok (.invokestatic 267, 3) := by decide +kernel
theorem dL_law_2343 : decode cL_law 2343 = .ok (.istore 6, 2) := by decide +kernel
theorem dL_law_2345 : decode cL_law 2345 = .ok (.aload_n 2, 1) := by decide +kernel
theorem dL_law_2346 : decode cL_law 2346 = .ok (.aload_n 0, 1) := by decide +kernel
theorem dL_law_2347 : decode cL_law 2347 = .ok (.iload 5, 2) := by decide +kernel
theorem dL_law_2349 : decode cL_law 2349 = .ok (.iconst 1, 1) := by decide +kernel
theorem dL_law_2350 : decode cL_law 2350 = .ok (.iadd, 1) := by decide +kernel
theorem dL_law_2351 : decode cL_law 2351 = .ok (.iaload, 1) := by decide +kernel
theorem dL_law_2352 : decode cL_law 2352 = .ok (.invokevirtual 269, 3) := by decide +kernel
theorem dL_law_2355 : decode cL_law 2355 = .ok (.istore 7, 2) := by decide +kernel
theorem dL_law_2357 : decode cL_law 2357 = .ok (.aload_n 2, 1) := by decide +kernel
theorem dL_law_2358 : decode cL_law 2358 = .ok (.invokevirtual 153, 3) := by decide +kernel
theorem dL_law_2361 : decode cL_law 2361 = .ok (.iload 6, 2) := by decide +kernel
theorem dL_law_2363 : decode cL_law 2363 = .ok (.if_icmp .eq 5, 3) := by decide +kernel
theorem dL_law_2368 : decode cL_law 2368 = .ok (.iload 6, 2) := by decide +kernel
theorem dL_law_2370 : decode cL_law 2370 = .ok (.ifCond .ne 22, 3) := by decide +kernel
theorem dL_law_2392 : decode cL_law 2392 = .ok (.goto 254, 3) := by decide +kernel
theorem dL_law_2395 : decode cL_law 2395 = .ok (.aload_n 1, 1) := by decide +kernel
theorem dL_law_2396 : decode cL_law 2396 = .ok (.invokevirtual 270, 3) := by decide +kernel
theorem dL_law_2399 : decode cL_law 2399 = .ok (.aload_n 2, 1) := by decide +kernel
theorem dL_law_2400 : decode cL_law 2400 = .ok (.invokevirtual 273, 3) := by decide +kernel
theorem dL_law_2403 : decode cL_law 2403 = .ok (.if_icmp .eq 243, 3) := by decide +kernel
theorem dL_law_2408 : decode cL_law 2408 = .ok (.aload_n 1, 1) := by decide +kernel
theorem dL_law_2409 : decode cL_law 2409 = .ok (.aload_n 0, 1) := by decide +kernel
theorem dL_law_2410 : decode cL_law 2410 = .ok (.iload 5, 2) := by decide +kernel
theorem dL_law_2412 : decode cL_law 2412 = .ok (.iconst 1, 1) := by decide +kernel
theorem dL_law_2413 : decode cL_law 2413 = .ok (.iadd, 1) := by decide +kernel
theorem dL_law_2414 : decode cL_law 2414 = .ok (.iaload, 1) := by decide +kernel
theorem dL_law_2415 : decode cL_law 2415 = .ok (.aload_n 0, 1) := by decide +kernel
theorem dL_law_2416 : decode cL_law 2416 = .ok (.iload 5, 2) := by decide +kernel
theorem dL_law_2418 : decode cL_law 2418 = .ok (.iconst 2, 1) := by decide +kernel
theorem dL_law_2419 : decode cL_law 2419 = .ok (.iadd, 1) := by decide +kernel
theorem dL_law_2420 : decode cL_law 2420 = .ok (.iaload, 1) := by decide +kernel
theorem dL_law_2421 : decode cL_law 2421 = .ok (.aload_n 0, 1) := by decide +kernel
theorem dL_law_2422 : decode cL_law 2422 = .ok (.iload 5, 2) := by decide +kernel
theorem dL_law_2424 : decode cL_law 2424 = .ok (.iconst 3, 1) := by decide +kernel
theorem dL_law_2425 : decode cL_law 2425 = .ok (.iadd, 1) := by decide +kernel
theorem dL_law_2426 : decode cL_law 2426 = .ok (.iaload, 1) := by decide +kernel
theorem dL_law_2427 : decode cL_law 2427 = .ok (.aload_n 3, 1) := by decide +kernel
theorem dL_law_2428 : decode cL_law 2428 = .ok (.invokestatic 274, 3) := by decide +kernel
theorem dL_law_2431 : decode cL_law 2431 = .ok (.istore 6, 2) := by decide +kernel
theorem dL_law_2433 : decode cL_law 2433 = .ok (.aload_n 2, 1) := by decide +kernel
theorem dL_law_2434 : decode cL_law 2434 = .ok (.aload_n 0, 1) := by decide +kernel
theorem dL_law_2435 : decode cL_law 2435 = .ok (.iload 5, 2) := by decide +kernel
theorem dL_law_2437 : decode cL_law 2437 = .ok (.iconst 1, 1) := by decide +kernel
theorem dL_law_2438 : decode cL_law 2438 = .ok (.iadd, 1) := by decide +kernel
theorem dL_law_2439 : decode cL_law 2439 = .ok (.iaload, 1) := by decide +kernel
theorem dL_law_2440 : decode cL_law 2440 = .ok (.aload_n 0, 1) := by decide +kernel
theorem dL_law_2441 : decode cL_law 2441 = .ok (.iload 5, 2) := by decide +kernel
theorem dL_law_2443 : decode cL_law 2443 = .ok (.iconst 2, 1) := by decide +kernel
theorem dL_law_2444 : decode cL_law 2444 = .ok (.iadd, 1) := by decide +kernel
theorem dL_law_2445 : decode cL_law 2445 = .ok (.iaload, 1) := by decide +kernel
theorem dL_law_2446 : decode cL_law 2446 = .ok (.aload_n 0, 1) := by decide +kernel
theorem dL_law_2447 : decode cL_law 2447 = .ok (.iload 5, 2) := by decide +kernel
theorem dL_law_2449 : decode cL_law 2449 = .ok (.iconst 3, 1) := by decide +kernel
theorem dL_law_2450 : decode cL_law 2450 = .ok (.iadd, 1) := by decide +kernel
theorem dL_law_2451 : decode cL_law 2451 = .ok (.iaload, 1) := by decide +kernel
theorem dL_law_2452 : decode cL_law 2452 = .ok (.invokevirtual 276, 3) := by decide +kernel
theorem dL_law_2455 : decode cL_law 2455 = .ok (.istore 7, 2) := by decide +kernel
theorem dL_law_2457 : decode cL_law 2457 = .ok (.aload_n 2, 1) := by decide +kernel
theorem dL_law_2458 : decode cL_law 2458 = .ok (.invokevirtual 153, 3) := by decide +kernel
theorem dL_law_2461 : decode cL_law 2461 = .ok (.iload 6, 2) := by decide +kernel
theorem dL_law_2463 : decode cL_law 2463 = .ok (.if_icmp .eq 5, 3) := by decide +kernel
theorem dL_law_2468 : decode cL_law 2468 = .ok (.iload 6, 2) := by decide +kernel
theorem dL_law_2470 : decode cL_law 2470 = .ok (.ifCond .ne 15, 3) := by decide +kernel
theorem dL_law_2485 : decode cL_law 2485 = .ok (.goto 161, 3) := by decide +kernel
theorem dL_law_2488 : decode cL_law 2488 = .ok (.aload_n 1, 1) := by decide +kernel
theorem dL_law_2489 : decode cL_law 2489 = .ok (.invokevirtual 277, 3) := by decide +kernel
theorem dL_law_2492 : decode cL_law 2492 = .ok (.aload_n 2, 1) := by decide +kernel
theorem dL_law_2493 : decode cL_law 2493 = .ok (.invokevirtual 281, 3) := by decide +kernel
theorem dL_law_2496 : decode cL_law 2496 = .ok (.lcmp, 1) := by decide +kernel
theorem dL_law_2497 : decode cL_law 2497 = .ok (.ifCond .eq 149, 3) := by decide +kernel
theorem dL_law_2502 : decode cL_law 2502 = .ok (.aload_n 1, 1) := by decide +kernel
theorem dL_law_2503 : decode cL_law 2503 = .ok (.aload 4, 2) := by decide +kernel
theorem dL_law_2505 : decode cL_law 2505 = .ok (.invokestatic 282, 3) := by decide +kernel
theorem dL_law_2508 : decode cL_law 2508 = .ok (.istore 6, 2) := by decide +kernel
theorem dL_law_2510 : decode cL_law 2510 = .ok (.aload_n 2, 1) := by decide +kernel
theorem dL_law_2511 : decode cL_law 2511 = .ok (.invokevirtual 285, 3) := by decide +kernel
theorem dL_law_2514 : decode cL_law 2514 = .ok (.fstore 7, 2) := by decide +kernel
theorem dL_law_2516 : decode cL_law 2516 = .ok (.aload_n 2, 1) := by decide +kernel
theorem dL_law_2517 : decode cL_law 2517 = .ok (.invokevirtual 153, 3) := by decide +kernel
theorem dL_law_2520 : decode cL_law 2520 = .ok (.iload 6, 2) := by decide +kernel
theorem dL_law_2522 : decode cL_law 2522 = .ok (.if_icmp .eq 5, 3) := by decide +kernel
theorem dL_law_2527 : decode cL_law 2527 = .ok (.iload 6, 2) := by decide +kernel
theorem dL_law_2529 : decode cL_law 2529 = .ok (.ifCond .ne 36, 3) := by decide +kernel
theorem dL_law_2565 : decode cL_law 2565 = .ok (.goto 81, 3) := by decide +kernel
theorem dL_law_2568 : decode cL_law 2568 = .ok (.aload_n 1, 1) := by decide +kernel
theorem dL_law_2569 : decode cL_law 2569 = .ok (.aload 4, 2) := by decide +kernel
theorem dL_law_2571 : decode cL_law 2571 = .ok (.invokestatic 286, 3) := by decide +kernel
theorem dL_law_2574 : decode cL_law 2574 = .ok (.istore 6, 2) := by decide +kernel
theorem dL_law_2576 : decode cL_law 2576 = .ok (.aload_n 2, 1) := by decide +kernel
theorem dL_law_2577 : decode cL_law 2577 = .ok (.invokevirtual 288, 3) := by decide +kernel
theorem dL_law_2580 : decode cL_law 2580 = .ok (.dstore 7, 2) := by decide +kernel
theorem dL_law_2582 : decode cL_law 2582 = .ok (.aload_n 2, 1) := by decide +kernel
theorem dL_law_2583 : decode cL_law 2583 = .ok (.invokevirtual 153, 3) := by decide +kernel
theorem dL_law_2586 : decode cL_law 2586 = .ok (.iload 6, 2) := by decide +kernel
theorem dL_law_2588 : decode cL_law 2588 = .ok (.if_icmp .eq 5, 3) := by decide +kernel
theorem dL_law_2593 : decode cL_law 2593 = .ok (.iload 6, 2) := by decide +kernel
theorem dL_law_2595 : decode cL_law 2595 = .ok (.ifCond .ne 35, 3) := by decide +kernel
theorem dL_law_2630 : decode cL_law 2630 = .ok (.goto 16, 3) := by decide +kernel
theorem dL_law_2633 : decode cL_law 2633 = .ok (.aload_n 1, 1) := by decide +kernel
theorem dL_law_2634 : decode cL_law 2634 = .ok (.invokevirtual 289, 3) := by decide +kernel
theorem dL_law_2637 : decode cL_law 2637 = .ok (.aload_n 2, 1) := by decide +kernel
theorem dL_law_2638 : decode cL_law 2638 = .ok (.invokevirtual 292, 3) := by decide +kernel
theorem dL_law_2641 : decode cL_law 2641 = .ok (.if_icmp .eq 5, 3) := by decide +kernel
theorem dL_law_2646 : decode cL_law 2646 = .ok (.iinc 5 7, 3) := by decide +kernel
theorem dL_law_2649 : decode cL_law 2649 = .ok (.goto (-2621), 3) := by decide +kernel
theorem dL_law_2652 : decode cL_law 2652 = .ok (.iconst 1, 1) := by decide +kernel
theorem dL_law_2653 : decode cL_law 2653 = .ok (.ireturn, 1) := by decide +kernel
